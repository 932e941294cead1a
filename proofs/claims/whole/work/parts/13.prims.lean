/-! WHAT THE JDK's OWN DO: Object's constructor, copies of ints, min, max. What texts do is a hypothesis here (aTextAll). -/
section APR
variable {p : Program} {l : Launch} {e : Env} {R : Room} {s : State} {m : MethodId} {args : Array Value} {below : List Frame} {meth : Method} {c : Code} {Q : State → Prop} {b : Nat} {κ : Nat → Nat} {dC : Nat → ClassId} {dI : Nat → Nat → Nat} {cA : FieldType → ClassId} {ko : aKo} {k : Nat}
theorem aCat_cV (st : List Value) : ((st.map (cV b κ)).map fun v => v.category).sum = aCat st := by
  unfold aCat
  congr 1
  rw [List.map_map]
  exact List.map_congr_left fun v _ => cV_cat b κ v
theorem aNeg {n : Int32} (h : 0 ≤ n.toInt) : ¬ n < 0 := by
  rw [Int32.lt_iff_toInt_lt]
  have : (0 : Int32).toInt = 0 := by decide
  omega
/-- a copy out of an old row of ints -/
theorem aW_copyK {pc index : Nat} {cc : ByteArray} {own : String} {L : Array Slot} {rest : List Value} {σ : aH} {H : Heap} {locs : List Loc} {cells slots : Nat} (hexec : p.tables.exec = Jvm.exec) (hb : c.code = cc) (hml : c.maxLocals = L.size) (hown : s.vm.findClass own = some m.cls) (hlink : (Cond.methodLink own index arraycopyName).before args s = true) (hnat : (Cond.native arraycopyName).before args s = true) (hstat : (Cond.static arraycopyName).before args s = true) (hini : (Cond.initialized "java/lang/System").before args s = true)
    (hKn : aKn dC dI cA s) (hpt : aPn s b κ dC dI cA σ H locs) {b0 n0 q1 n1 : Nat} {f g : Nat → Int32} (hX : va_X b0 n0 f s s.heap) (hb0 : b0 < b) (hbs : b ≤ s.heap.size) (ha1 : σ[q1]? = some (.inl (.int, n1, .inl g)))
    {sp dp n : Int32} (h1 : ¬ sp < 0) (h2 : ¬ dp < 0) (h3 : ¬ n < 0) (h4 : sp.toNatClampNeg + n.toNatClampNeg ≤ n0) (h5 : dp.toNatClampNeg + n.toNatClampNeg ≤ n1)
    (hframes : 1 ≤ R.frames) (hlocals : (rest.map fun v => v.category).sum + (nativeFrameWords "java/lang/System" "arraycopy" 5 + 11) ≤ R.locals) (hdg : decode cc pc = .ok (.invokestatic index, 3))
    (kk : ∀ (H1 : Heap) (locs1 : List Loc), aPn s b κ dC dI cA (σ.set q1 (.inl (.int, n1, .inl (va_cpy f g sp.toNatClampNeg dp.toNatClampNeg n.toNatClampNeg)))) H1 locs1 → W p l e R s m args below meth c H1 locs1 cells slots Q (F0 m (pc + 3) L rest)) : W p l e R s m args below meth c H locs cells slots Q (F0 m pc L (.int n :: .int dp :: .ref (b + q1) :: .int sp :: .ref b0 :: rest)) := by
  have nn : ∀ z : Int32, ¬ z < 0 → z.toInt = (z.toNatClampNeg : Int) := by
    intro z hz
    have hz0 : (0 : Int) ≤ z.toInt := by
      have := Int32.not_lt.mp hz
      simpa using Int32.le_iff_toInt_le.mp this
    show z.toInt = ((z.toInt.toNat : Nat) : Int)
    omega
  obtain ⟨hP, hS, hT0⟩ := id hpt
  have hD : va_D (aUp b) (aWs b κ cA σ) := aWs_D
  obtain ⟨t1, ht1⟩ := aTyL_at (cA := cA) (ty := .int) (by decide)
  intro T hT X
  obtain ⟨scr, hs1, hs2, hs3, hs4, hs5⟩ := hX
  have hc0 : H[b0]? = some scr := by rw [hS.2.1 b0 (Nat.lt_of_lt_of_le hb0 hbs) (Nat.not_le.mpr hb0)]; exact hs1
  have hc1 : H[b + q1]? = some (vp_cell (cA .int) (n1, .inl g)) := hP q1 _ (aWs_get ha1)
  obtain ⟨hs6, k0, hk0, cm0, hkk0⟩ := hs2
  obtain ⟨-, k1, hk1, cm1, hkk1⟩ := (hKn.1.2 t1 _ ht1).1 n1 (fun j => .int (g j))
  obtain ⟨vm', X', step⟩ := X.arraycopy hexec hown hlink hnat hstat hini (src := b0) (dst := b + q1) (cs := scr) (cd := vp_cell (cA .int) (n1, .inl g)) (srcPos := sp) (destPos := dp) (n := n) (by rw [hT]; exact hc0) (by rw [hT]; exact hc1)
    hs6 (fun _ h => by cases h) hs3 (fun h => by cases h) hk0 hk1 hkk0 hkk1 (by simp [refKind]) h1 h2 h3
    (by rw [nn sp h1, nn n h3]; omega)
    (by rw [nn dp h2, nn n h3]; show ¬ _ > ((arrV (cA .int) n1 (fun j => .int (g j))).slots.size : Int); rw [arrV_size]; omega)
    (fun vm₁ _ i hi => by
      have e : scr.slots.getD (sp.toNatClampNeg + i) .null = .int (f (sp.toNatClampNeg + i)) := by
        rw [Array.getD_eq_getD_getElem?, hs5 _ (by omega)]
        rfl
      refine ⟨?_, ?_⟩
      · rw [e]
        rfl
      · rw [e]
        exact trivial)
    (g := F0 m pc L (.int n :: .int dp :: .ref (b + q1) :: .int sp :: .ref b0 :: rest)) rfl (by rw [hml]) (rest := rest) rfl (by rw [hb]; exact hdg) hframes (by show 2 * 0 + _ + _ ≤ _; omega)
  have e1 : copied scr (vp_cell (cA .int) (n1, .inl g)) sp dp n = vp_cell (cA .int) (n1, .inl (va_cpy f g sp.toNatClampNeg dp.toNatClampNeg n.toNatClampNeg)) := va_copiedX (fun z => .int z) scr (cA .int) f g hs5 h4
  rw [e1] at X' step
  have hl : b + q1 < H.size := (Array.getElem?_eq_some_iff.mp hc1).1
  have hheap : ((T.setVm vm').setCell (b + q1) (vp_cell (cA .int) (n1, .inl (va_cpy f g sp.toNatClampNeg dp.toNatClampNeg n.toNatClampNeg)))).heap = H.setIfInBounds (b + q1) (vp_cell (cA .int) (n1, .inl (va_cpy f g sp.toNatClampNeg dp.toNatClampNeg n.toNatClampNeg))) := by rw [← hT]; rfl
  have oq : ∀ q : Nat, q ≠ b + q1 → (H.setIfInBounds (b + q1) (vp_cell (cA .int) (n1, .inl (va_cpy f g sp.toNatClampNeg dp.toNatClampNeg n.toNatClampNeg))))[q]? = H[q]? := fun q hq => by simp [Array.getElem?_setIfInBounds, Ne.symm hq]
  obtain ⟨t, a1, b1⟩ := kk _ _ (aPn_set hpt ha1 (hP.set hD (aWs_get ha1) (show (H.setIfInBounds (b + q1) _)[b + q1]? = some _ by simp [Array.getElem?_setIfInBounds, hl]; rfl) oq) ⟨by simp; exact hS.1, fun q g1 g2 => by
      rw [oq q (fun e => g2 (by rw [e]; exact Nat.le_add_right _ _))]
      exact hS.2.1 q g1 g2, fun q hq => by
      rcases List.mem_append.mp hq with h | h
      · exact hS.2.2 q h
      · obtain ⟨z, -, hz⟩ := List.mem_map.mp h
        rw [← hz]
        exact Nat.le_add_right _ _⟩ (fun ty x q => by cases q; decide)) _ hheap X'
  exact ⟨t, step t a1, b1⟩
set_option maxRecDepth 100000 in
theorem aPw : (Cond.native arraycopyName ∈ lw_tbl ∧ Cond.static arraycopyName ∈ lw_tbl ∧ Jvm.Cond.initialized "java/lang/System" ∈ lw_tbl) ∧ (Cond.static Lib.Math.max.name ∈ lw_tbl ∧ Cond.static Lib.Math.min.name ∈ lw_tbl ∧ Jvm.Cond.initialized "java/lang/Math" ∈ lw_tbl) ∧ (Cond.code Lib.Math.max.name Lib.Math.max.code 2 (some .int) ∈ lw_tbl ∧ Cond.code Lib.Math.min.name Lib.Math.min.code 2 (some .int) ∈ lw_tbl) ∧ (Cond.instanceMethod Lib.objectInit ∈ lw_tbl ∧ Cond.code Lib.objectInit ⟨#[0xb1]⟩ 1 none ∈ lw_tbl) := by
  refine ⟨⟨?_, ?_, ?_⟩, ⟨?_, ?_, ?_⟩, ⟨?_, ?_⟩, ?_, ?_⟩ <;> decide +kernel
/-- what texts do: still to be shown -/
def aTextAll (l : Launch) (b : Nat) (κ : Nat → Nat) (dC : Nat → ClassId) (dI : Nat → Nat → Nat) (cA : FieldType → ClassId) (ko : aKo) : Prop :=
  ∀ (p : Program) (e : Env) (R : Room) (s : State) (m : MethodId) (args : Array Value) (below : List Frame) (meth : Method) (c : Code) (Q : State → Prop) (k pc x j : Nat) (L : Array Slot) (ls st st' : List Value) (σ σ' : aH) (H : Heap) (locs : List Loc) (cells slots : Nat), aCx p s m args meth c k b κ dC dI cA ko → 11 ≤ R.frames → 440 ≤ R.locals → decode (aMe k).2.2.1 pc = .ok (.invokevirtual x, 3) → (j = 2 ∨ j = 3 ∨ j = 4) → aHas aPl (aMe k).1 x j = true → aCat st ≤ 16 → aPrim ko j st σ = some (st', σ') → aPn s b κ dC dI cA σ H locs → aLc b κ ls L (aMe k).2.2.2.1 → cells ≤ R.cells → slots ≤ R.slots →
    W p l e R s m args below meth c H locs cells slots Q (F0 m (pc + 3) L (st'.map (cV b κ))) → W p l e R s m args below meth c H locs cells slots Q (F0 m pc L (st.map (cV b κ)))
set_option maxHeartbeats 4000000 in
theorem aPrim_ok (hTx : aTextAll l b κ dC dI cA ko) : aPrimAll l b κ dC dI cA ko := by
  intro p e R s m args below meth c Q k C hf hl pc x j r L ls st st' σ σ' H locs cells slots hd hr hlk hcat hp hpt hlc hcs kk
  obtain ⟨hx, hb, hml, hown, hts, hret, hlocks, hinit, hKn, hKc, hbs⟩ := id C
  have hw := hts _ (aPl_w hlk)
  obtain ⟨⟨w1, w2, w3⟩, ⟨w4, w5, w6⟩, ⟨w7, w8⟩, w9, w10⟩ := aPw
  have hmL : c.maxLocals = L.size := by rw [hml, hlc.1]
  rcases hr with ⟨rfl, hj⟩ | ⟨rfl, hj⟩ | ⟨rfl, rfl⟩
  · rcases hj with rfl | rfl | rfl
    · simp only [aPrim] at hp
      split at hp
      · rename_i n dp b0 sp v st0
        split at hp
        · rename_i N f M g h7 h8
          split at hp
          · rename_i hc
            cases hp
            obtain ⟨n1, n2, n3, n4, n5⟩ := hc
            have hcr : ((st'.map (cV b κ)).map fun v => v.category).sum + (nativeFrameWords "java/lang/System" "arraycopy" 5 + 11) ≤ R.locals := by
              rw [aCat_cV]
              have h0 : aCat (Value.int n :: Value.int dp :: Value.ref b0 :: Value.int sp :: v :: st') ≤ 16 := hcat
              have h1 : nativeFrameWords "java/lang/System" "arraycopy" 5 = 7 := by decide
              unfold aCat at h0 ⊢
              simp only [List.map_cons, List.sum_cons] at h0
              omega
            unfold aInts at h7
            split at h7
            · rename_i a
              split at h7
              · rename_i h6
                cases h7
                obtain ⟨t0, ht⟩ := aTyL_at (cA := cA) (ty := .int) (by decide)
                exact va_copyi hx hb hmL hown hw (hts _ (aTB_in w1 rfl)) (hts _ (aTB_in w2 rfl)) (hts _ (aTB_in w3 rfl)) hKn.1 hpt.1 aWs_D hpt.2.1 a b0 t0 t0 (aWs_get h6) (aWs_get h8) ht ht rfl (aNeg n3) (aNeg n2) (aNeg n1) n4 n5 (fun _ _ => rfl) (by omega) hcr hd (fun H1 locs1 q1 q2 q3 => kk H1 locs1 (aPn_set hpt h8 q1 q3 (fun ty x q => by cases q; decide)))
              · cases h7
            · rename_i i0
              have h6 := Option.some.inj h7
              by_cases h5 : i0 < 2
              · obtain ⟨g1, g2, g3, g4⟩ := hKc.1 i0 h5
                rw [h6] at g3
                exact aW_copyK hx hb hmL hown hw (hts _ (aTB_in w1 rfl)) (hts _ (aTB_in w2 rfl)) (hts _ (aTB_in w3 rfl)) hKn hpt g3 g2 hbs h8 (aNeg n3) (aNeg n2) (aNeg n1) n4 n5 (by omega) hcr hd kk
              · have h4 := hKc.2.2.2.1 i0 h5
                rw [h6] at h4
                cases h4
            · cases h7
          · cases hp
        · cases hp
      · cases hp
    · simp only [aPrim] at hp
      split at hp
      · rename_i y x0 st0
        cases hp
        refine va_mmin hx hb hmL hown hw (hts _ (aTB_in w5 rfl)) (hts _ (aTB_in w6 rfl)) (hts _ (aTB_in w8 rfl)) (by omega) ?_ hcs.1 hcs.2 hd (kk H locs hpt)
        rw [aCat_cV]
        have h0 : aCat (Value.int y :: Value.int x0 :: st0) ≤ 16 := hcat
        unfold aCat at h0 ⊢
        simp only [List.map_cons, List.sum_cons] at h0
        omega
      · cases hp
    · simp only [aPrim] at hp
      split at hp
      · rename_i y x0 st0
        cases hp
        refine va_mmax hx hb hmL hown hw (hts _ (aTB_in w4 rfl)) (hts _ (aTB_in w6 rfl)) (hts _ (aTB_in w7 rfl)) (by omega) ?_ hcs.1 hcs.2 hd (kk H locs hpt)
        rw [aCat_cV]
        have h0 : aCat (Value.int y :: Value.int x0 :: st0) ≤ 16 := hcat
        unfold aCat at h0 ⊢
        simp only [List.map_cons, List.sum_cons] at h0
        omega
      · cases hp
  · have hσ : σ' = σ := by
      rcases hj with rfl | rfl | rfl
      · simp only [aPrim] at hp; split at hp
        · split at hp <;> cases hp; rfl
        · cases hp
      · simp only [aPrim] at hp; split at hp
        · split at hp <;> cases hp; rfl
        · cases hp
      · simp only [aPrim] at hp; split at hp
        · split at hp <;> cases hp; rfl
        · cases hp
    subst hσ
    exact hTx p e R s m args below meth c Q k pc x j L ls st st' σ' σ' H locs cells slots C hf hl hd hj hlk hcat hp hpt hlc hcs.1 hcs.2 (kk H locs hpt)
  · simp only [aPrim] at hp
    split at hp
    · rename_i a st0
      cases hp
      refine W.objInit hx hb hown hw (hts _ (aTB_in w9 rfl)) (hts _ (aTB_in w10 rfl)) rfl (by rw [hml]; exact hlc.1) rfl hd (by omega) ?_ (kk H locs hpt)
      show 2 * 0 + _ + 12 ≤ R.locals
      rw [aCat_cV]
      have h0 : aCat (Value.ref a :: st') ≤ 16 := hcat
      unfold aCat at h0 ⊢
      simp only [List.map_cons, List.sum_cons] at h0
      omega
    · cases hp
end APR
