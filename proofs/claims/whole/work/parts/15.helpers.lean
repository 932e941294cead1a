/-! THE LAW'S HELPERS: they call a method that may throw, and catch it. By wip/whole/gen15.py. -/
section AHP
variable {p : Program} {l : Launch} {e : Env} {R : Room} {s : State} {m : MethodId} {args : Array Value} {below : List Frame} {meth : Method} {c : Code} {Q : State → Prop} {b : Nat} {κ : Nat → Nat} {dC : Nat → ClassId} {dI : Nat → Nat → Nat} {cA : FieldType → ClassId} {ko : aKo}
theorem aCallX_fin {As : Array Value} {st0 rest : List Value} {L0 : Array Slot} {H : Heap} {locs : List Loc} {cells slots mc ms pc : Nat} {o : Option Value ⊕ Unit} {σ1 : aH} (hr : vx_Run p l e R s m args below meth c H locs cells slots mc ms (F0 m pc L0 st0) rest (aQo b κ dC dI cA o σ1 As) (aXo b κ dC dI cA o σ1) (aUp b)) (hS : va_S (aUp b) s.heap H locs)
    (k1 : ∀ v, o = .inl v → ∀ (H1 : Heap) (locs1 : List Loc), aPn s b κ dC dI cA σ1 H1 locs1 → W p l e R s m args below meth c H1 locs1 (cells + mc) (slots + ms) Q (F0 m (pc + 3) L0 ((v.map (cV b κ)).toList ++ rest)))
    (k2 : ∀ u, o = .inr u → ∀ (H1 : Heap) (locs1 : List Loc) (q : Addr) (ce : Cell), aPn s b κ dC dI cA σ1 H1 locs1 → H1[q]? = some ce → ce.vm = .none → s.vm.findClass "java/util/NoSuchElementException" = some ce.cls → vx_W p l e R s m args below meth c H1 locs1 (cells + mc) (slots + ms) Q (F0 m pc L0 rest) q) :
    W p l e R s m args below meth c H locs cells slots Q (F0 m pc L0 st0) := by
  intro T hT X
  have mk : ∀ (st₀ t T' : State) (Ls : List Loc), st₀.heap = H → (∀ q ∈ Ls, aUp b q.base) → T'.heap = t.heap → va_P (dC, dI) aCls (aWs b κ cA σ1) t.heap → aTyd σ1 → va_F (aUp b) st₀ t → aPn s b κ dC dI cA σ1 T'.heap (locs ++ Ls) := by
    intro st₀ t T' Ls h0 hL e1 hP1 hT1 hF
    obtain ⟨hz, hk⟩ := hF
    rw [h0] at hz hk
    exact ⟨by rw [e1]; exact hP1, ⟨Nat.le_trans hS.1 (by rw [e1]; exact hz), fun q h1 h2 => by rw [e1, hk q (Nat.lt_of_lt_of_le h1 hS.1) h2]; exact hS.2.1 q h1 h2, fun q hq => by
      rcases List.mem_append.mp hq with h | h
      · exact hS.2.2 q h
      · exact hL q h⟩, hT1⟩
  match o, hr T hT X, k1, k2 with
  | .inl v, Or.inl ⟨v', st₀, t, T', Ls, h0, X', hL, e1, e2, ⟨hv, hP1, hT1, hF⟩, st⟩, k1, _ =>
    cases hv
    obtain ⟨t2, a1, b1⟩ := k1 v rfl T'.heap (locs ++ Ls) (mk st₀ t T' Ls h0 hL e1 hP1 hT1 hF) T' rfl X'
    exact ⟨t2, st t2 a1, b1⟩
  | .inl v, Or.inr ⟨q, st₀, t, T', Ls, E, ce, h0, X', hL, e1, e2, hx, _⟩, _, _ => exact hx.elim
  | .inr u, Or.inl ⟨v', st₀, t, T', Ls, h0, X', hL, e1, e2, hq, _⟩, _, _ => exact hq.elim
  | .inr u, Or.inr ⟨q, st₀, t, T', Ls, E, ce, h0, X', hL, e1, e2, ⟨hE, hP1, hT1, hF⟩, hce, hcv, hcl, st⟩, _, k2 =>
    subst hE
    obtain ⟨t2, a1, b1⟩ := k2 u rfl T'.heap (locs ++ Ls) q ce (mk st₀ t T' Ls h0 hL e1 hP1 hT1 hF) (by rw [e1]; exact hce) hcv hcl T' rfl X'
    exact ⟨t2, st.trans a1, b1⟩
set_option maxRecDepth 100000 in
theorem aCastW : Jvm.Cond.castable "java/util/NoSuchElementException" "java/util/NoSuchElementException" ∈ lw_tbl ∧ Jvm.Cond.classLink "RiverThinksAgainLaw" 13 "java/util/NoSuchElementException" ∈ lw_tbl ∧ Jvm.Cond.initialized "RiverThinksAgainLaw" ∈ lw_tbl := by
  refine ⟨?_, ?_, ?_⟩ <;> decide +kernel

theorem dh141_0 : decode method_3_code 0 = .ok (.aload_n 3, 1) := by decide +kernel
theorem dh141_1 : decode method_3_code 1 = .ok (.iconst 0, 1) := by decide +kernel
theorem dh141_2 : decode method_3_code 2 = .ok (.aload_n 0, 1) := by decide +kernel
theorem dh141_3 : decode method_3_code 3 = .ok (.iload_n 1, 1) := by decide +kernel
theorem dh141_4 : decode method_3_code 4 = .ok (.iload_n 2, 1) := by decide +kernel
theorem dh141_5 : decode method_3_code 5 = .ok (.invokevirtual 7, 3) := by decide +kernel
theorem dh141_8 : decode method_3_code 8 = .ok (.i2l, 1) := by decide +kernel
theorem dh141_9 : decode method_3_code 9 = .ok (.lastore, 1) := by decide +kernel
theorem dh141_10 : decode method_3_code 10 = .ok (.goto 7, 3) := by decide +kernel
theorem dh141_13 : decode method_3_code 13 = .ok (.astore 4, 2) := by decide +kernel
theorem dh141_15 : decode method_3_code 15 = .ok (.iconst 1, 1) := by decide +kernel
theorem dh141_16 : decode method_3_code 16 = .ok (.ireturn, 1) := by decide +kernel
theorem dh141_17 : decode method_3_code 17 = .ok (.iconst 0, 1) := by decide +kernel
theorem dh141_18 : decode method_3_code 18 = .ok (.ireturn, 1) := by decide +kernel
set_option maxRecDepth 20000 in
theorem ahw_141 : Jvm.Cond.codeWith (⟨"RiverThinksAgainLaw", "field", "(LRiverThinksAgain;II[J)I"⟩ : MethodName) method_3_code 5 (some .int) [(0, 10, 13, 13)] ∈ lw_tbl := aIn_5 _ (List.mem_of_getElem? (i := 115) rfl)
set_option maxHeartbeats 4000000 in
set_option maxRecDepth 100000 in
theorem aHelp_141 {d : Nat} {σ σ1 σ2 : aH} {o : Option Value ⊕ Unit} {z : Int32} (x0 oa : Nat) (p0 p1 : Int32) (hM : aMeet l b κ dC dI cA ko d 225 [.ref x0, .int p0, .int p1] σ o σ1) (hrc : aRecv (some 1) [.ref x0, .int p0, .int p1, .ref oa] σ = true) (ho : (∃ v, o = .inl (some v) ∧ aOut 141 [.ref x0, .int p0, .int p1, .ref oa] v σ1 = some σ2 ∧ z = 0) ∨ (o = .inr () ∧ σ2 = σ1 ∧ z = 1)) :
    Met l (⟨"RiverThinksAgainLaw", "field", "(LRiverThinksAgain;II[J)I"⟩ : MethodName) (Jvm.Cond.codeWith (⟨"RiverThinksAgainLaw", "field", "(LRiverThinksAgain;II[J)I"⟩ : MethodName) method_3_code 5 (some .int) [(0, 10, 13, 13)] :: aTB) (aRm d 141 (σ1.length - σ.length) (aSz σ1 - aSz σ)) (aPc b κ dC dI cA ko [.ref x0, .int p0, .int p1, .ref oa] σ) (aQ b κ dC dI cA (some (.int z)) σ2) (σ1.length - σ.length) (aSz σ1 - aSz σ) (aUp b) := by
  refine vx_Met.plain (vx_ofWH (by decide) rfl ?_)
  intro p e s m args below meth c s₁ B hml hP
  obtain ⟨rfl, hsz, hPP, hTy, hKn, hKc⟩ := hP
  have hts0 := atoms_spec (ws := Jvm.Cond.codeWith (⟨"RiverThinksAgainLaw", "field", "(LRiverThinksAgain;II[J)I"⟩ : MethodName) method_3_code 5 (some .int) [(0, 10, 13, 13)] :: aTB) B.pre
  have hts : ∀ w ∈ aTB, w.before _ s = true := fun w hw => hts0 w (List.mem_cons_of_mem _ hw)
  have htab : c.exceptionTable.toList = tableOf [(0, 10, 13, 13)] := vx_table (x := ⟨"", "", ""⟩) B (hts0 _ List.mem_cons_self)
  have hown : s.vm.findClass "RiverThinksAgainLaw" = some m.cls := findClass_of_methodNamed B.named
  have hlocks : meth.locks = false := B.notSynchronized
  rw [lg_entry_eq]
  have hlc := aLc_entry (b := b) (κ := κ) (As := [.ref x0, .int p0, .int p1, .ref oa]) (n := 5) (Nat.le_of_ble_eq_true rfl)
  generalize (lg_sl (List.map (cV b κ) [.ref x0, .int p0, .int p1, .ref oa]) ++ List.replicate (5 - (lg_sl (List.map (cV b κ) [.ref x0, .int p0, .int p1, .ref oa])).length) Slot.unset).toArray = L at hlc ⊢
  refine lv_aload_n B.exec B.bytes dh141_0 rfl (aLc_get hlc (i := 3) rfl rfl) ?_
  refine lv_iconst (v := 0) B.exec B.bytes dh141_1 rfl ?_
  refine lv_aload_n B.exec B.bytes dh141_2 rfl (aLc_get hlc (i := 0) rfl rfl) ?_
  refine lv_iload_n B.exec B.bytes dh141_3 rfl (aLc_get hlc (i := 1) rfl rfl) ?_
  refine lv_iload_n B.exec B.bytes dh141_4 rfl (aLc_get hlc (i := 2) rfl rfl) ?_
  obtain ⟨x1, As1, hx1, hor⟩ := aRecv_inv hrc
  have hx2 : x1 = x0 := by cases hx1; rfl
  subst hx2
  have hor : ∃ fs, σ[x1]? = some (.inr (1, fs)) := by
    rcases hor with h | h
    · cases h
    · exact h
  obtain ⟨fs, hσ⟩ := hor
  have hkin : 225 ∈ aAll := by decide +kernel
  obtain ⟨m1, m2, m3, m4, m5, m6⟩ := aMk_w hkin
  have hrecv := va_recv hKn.1 hPP (aCi_at (ci := 1) (by decide)) (aWs_get (b := b) (κ := κ) (cA := cA) hσ)
  have hpre : ∀ U : State, U.heap = s.heap → s.WarmedH U.vm → aPc b κ dC dI cA ko [.ref x1, .int p0, .int p1] σ (List.map (cV b κ) [.ref x1, .int p0, .int p1]).toArray U := fun U hU hW => ⟨rfl, by rw [hU]; exact hsz, by rw [hU]; exact hPP, hTy, aKn_moved hW hKn, by rw [hU]; exact aKc_warm hW (by omega) (fun _ _ _ => rfl) hKc⟩
  have hRR : (aRm d 225 (σ1.length - σ.length) (aSz σ1 - aSz σ)).frames + 1 ≤ (aRm d 141 (σ1.length - σ.length) (aSz σ1 - aSz σ)).frames ∧ 8 + ((aMe 225).2.2.2.1 + 11) + (aRm d 225 (σ1.length - σ.length) (aSz σ1 - aSz σ)).locals ≤ (aRm d 141 (σ1.length - σ.length) (aSz σ1 - aSz σ)).locals := by
    have r1 : aRk 225 + 1 ≤ aRk 141 := by decide
    have r2 : (aMe 225).2.2.2.1 ≤ 21 := (aRk_le hkin).2.1
    refine ⟨?_, ?_⟩
    · show d * 10 + aRk 225 + 11 + 1 ≤ d * 10 + aRk 141 + 11; omega
    · show 8 + ((aMe 225).2.2.2.1 + 11) + 40 * (d * 10 + aRk 225 + 11) ≤ 40 * (d * 10 + aRk 141 + 11); omega
  have hlk : aHas aMl 13 7 225 = true := by decide +kernel
  rcases m6 with ⟨-, w1, w2, w3, w4, w5⟩ | ⟨q, -⟩ | ⟨q, -⟩
  · have hr := vx_runV (R := (headSpec (Jvm.Cond.codeWith (⟨"RiverThinksAgainLaw", "field", "(LRiverThinksAgain;II[J)I"⟩ : MethodName) method_3_code 5 (some .int) [(0, 10, 13, 13)] :: aTB) (aRm d 141 (σ1.length - σ.length) (aSz σ1 - aSz σ))).room) (H := s.heap) (locs := []) (cells := 0) (slots := 0) (below := below) (meth := meth) (As := [.int p0, .int p1]) (rest := [.int 0, .ref (b + oa)]) (b := b + x1) (C := "RiverThinksAgain") (g := F0 m 5 L (List.reverse [.int p0, .int p1] ++ .ref (b + x1) :: [.int 0, .ref (b + oa)])) (p := p) (e := e) ⟨B.exec, B.bytes, hml, hown, hts⟩ hM ⟨callB_of 2 hts (aWk_good hkin) rfl rfl rfl (hts _ m2) (hts _ (aMl_w hlk)) ⟨m4.1, m4.2, by decide +kernel⟩ hRR, hts _ w1, hts _ w2⟩ ⟨aPc_blind, hrecv, hpre⟩ rfl rfl hlc.1 rfl (Nat.le_of_ble_eq_true rfl) dh141_5 ⟨by show 0 + (σ1.length - σ.length) ≤ σ1.length - σ.length; omega, by show 0 + (aSz σ1 - aSz σ) ≤ aSz σ1 - aSz σ; omega⟩
    refine aCallX_fin hr va_S.rf (fun v hv H1 locs1 hpt1 => ?_) (fun u hu H1 locs1 q ce hpt1 hce hcv hcl => ?_)
    · subst hv
      rcases ho with ⟨v0, h0, hout, rfl⟩ | ⟨h0, -⟩
      · cases h0
        unfold aOut at hout
        split at hout
        · rename_i oa' hoa
          have hoa2 : oa' = oa := by cases hoa; rfl
          subst hoa2
          split at hout
          · rename_i n f h7
            split at hout
            · rename_i hn
              split at hout
              · rename_i y
                split at hout
                · cases hout
                cases hout
                obtain ⟨t0, ht⟩ := aTyL_at (cA := cA) (ty := .long) (by decide)
                refine lv_i2l B.exec B.bytes dh141_8 rfl ?_
                refine va_last B.exec B.bytes hKn.1 hpt1.1 aWs_D hpt1.2.1 oa' t0 (aWs_get h7) ht (by refine aIn_iff.mp ?_; unfold aIn; simp; exact hn) dh141_9 (fun H2 locs2 g1 g2 g3 => ?_)
                refine lv_goto (tgt := 17) B.exec B.bytes dh141_10 (by decide) ?_
                refine lv_iconst (v := 0) B.exec B.bytes dh141_17 rfl ?_
                refine vx_ret ?_
                rw [Nat.zero_add, Nat.zero_add]
                have hpt2 := aPn_set (c1 := .inl (.long, n, .inr (.inl (vp_updL f 0 y.toInt64)))) hpt1 h7 g1 g3 (fun ty x q => by cases q; decide)
                exact W.iret (v := 0) B.exec B.bytes B.returns (fun t ht hW => ⟨rfl, by rw [ht]; exact hpt2.1, hpt2.2.2, hpt2.2.1.F ht⟩) g3.2.2 dh141_18 hlocks
              · rename_i y
                first | (rw [if_neg (by decide)] at hout; cases hout; done) | (rw [if_pos rfl] at hout; cases hout; done)
              · cases hout
            · cases hout
          · cases hout
        · cases hout
      · cases h0
    · subst hu
      rcases ho with ⟨v0, h0, -⟩ | ⟨-, rfl, rfl⟩
      · cases h0
      · refine vx_catch hown [] ⟨0, 10, 13, 13⟩ [] htab (fun z hz => by cases hz) (by decide) (by decide) (hts _ (aTB_in aCastW.2.1 rfl)) (va_Nw.use rfl (hKn.2.1 _ aCastW.1 rfl)) hce hcv hcl ?_
        refine lv_astore B.exec B.bytes dh141_13 (aLc_has hlc) (by decide) rfl (fun L' hl' => ?_)
        refine lv_iconst (v := 1) B.exec B.bytes dh141_15 rfl ?_
        refine vx_ret ?_
        rw [Nat.zero_add, Nat.zero_add]
        exact W.iret (v := 1) B.exec B.bytes B.returns (fun t ht hW => ⟨rfl, by rw [ht]; exact hpt1.1, hpt1.2.2, hpt1.2.1.F ht⟩) hpt1.2.1.2.2 dh141_16 hlocks
  · cases q
  · cases q

theorem dh142_0 : decode method_4_code 0 = .ok (.aload_n 3, 1) := by decide +kernel
theorem dh142_1 : decode method_4_code 1 = .ok (.iconst 0, 1) := by decide +kernel
theorem dh142_2 : decode method_4_code 2 = .ok (.aload_n 0, 1) := by decide +kernel
theorem dh142_3 : decode method_4_code 3 = .ok (.iload_n 1, 1) := by decide +kernel
theorem dh142_4 : decode method_4_code 4 = .ok (.iload_n 2, 1) := by decide +kernel
theorem dh142_5 : decode method_4_code 5 = .ok (.invokevirtual 15, 3) := by decide +kernel
theorem dh142_8 : decode method_4_code 8 = .ok (.i2l, 1) := by decide +kernel
theorem dh142_9 : decode method_4_code 9 = .ok (.lastore, 1) := by decide +kernel
theorem dh142_10 : decode method_4_code 10 = .ok (.goto 7, 3) := by decide +kernel
theorem dh142_13 : decode method_4_code 13 = .ok (.astore 4, 2) := by decide +kernel
theorem dh142_15 : decode method_4_code 15 = .ok (.iconst 1, 1) := by decide +kernel
theorem dh142_16 : decode method_4_code 16 = .ok (.ireturn, 1) := by decide +kernel
theorem dh142_17 : decode method_4_code 17 = .ok (.iconst 0, 1) := by decide +kernel
theorem dh142_18 : decode method_4_code 18 = .ok (.ireturn, 1) := by decide +kernel
set_option maxRecDepth 20000 in
theorem ahw_142 : Jvm.Cond.codeWith (⟨"RiverThinksAgainLaw", "dislikes", "(LRiverThinksAgain;II[J)I"⟩ : MethodName) method_4_code 5 (some .int) [(0, 10, 13, 13)] ∈ lw_tbl := aIn_5 _ (List.mem_of_getElem? (i := 184) rfl)
set_option maxHeartbeats 4000000 in
set_option maxRecDepth 100000 in
theorem aHelp_142 {d : Nat} {σ σ1 σ2 : aH} {o : Option Value ⊕ Unit} {z : Int32} (x0 oa : Nat) (p0 p1 : Int32) (hM : aMeet l b κ dC dI cA ko d 226 [.ref x0, .int p0, .int p1] σ o σ1) (hrc : aRecv (some 1) [.ref x0, .int p0, .int p1, .ref oa] σ = true) (ho : (∃ v, o = .inl (some v) ∧ aOut 142 [.ref x0, .int p0, .int p1, .ref oa] v σ1 = some σ2 ∧ z = 0) ∨ (o = .inr () ∧ σ2 = σ1 ∧ z = 1)) :
    Met l (⟨"RiverThinksAgainLaw", "dislikes", "(LRiverThinksAgain;II[J)I"⟩ : MethodName) (Jvm.Cond.codeWith (⟨"RiverThinksAgainLaw", "dislikes", "(LRiverThinksAgain;II[J)I"⟩ : MethodName) method_4_code 5 (some .int) [(0, 10, 13, 13)] :: aTB) (aRm d 142 (σ1.length - σ.length) (aSz σ1 - aSz σ)) (aPc b κ dC dI cA ko [.ref x0, .int p0, .int p1, .ref oa] σ) (aQ b κ dC dI cA (some (.int z)) σ2) (σ1.length - σ.length) (aSz σ1 - aSz σ) (aUp b) := by
  refine vx_Met.plain (vx_ofWH (by decide) rfl ?_)
  intro p e s m args below meth c s₁ B hml hP
  obtain ⟨rfl, hsz, hPP, hTy, hKn, hKc⟩ := hP
  have hts0 := atoms_spec (ws := Jvm.Cond.codeWith (⟨"RiverThinksAgainLaw", "dislikes", "(LRiverThinksAgain;II[J)I"⟩ : MethodName) method_4_code 5 (some .int) [(0, 10, 13, 13)] :: aTB) B.pre
  have hts : ∀ w ∈ aTB, w.before _ s = true := fun w hw => hts0 w (List.mem_cons_of_mem _ hw)
  have htab : c.exceptionTable.toList = tableOf [(0, 10, 13, 13)] := vx_table (x := ⟨"", "", ""⟩) B (hts0 _ List.mem_cons_self)
  have hown : s.vm.findClass "RiverThinksAgainLaw" = some m.cls := findClass_of_methodNamed B.named
  have hlocks : meth.locks = false := B.notSynchronized
  rw [lg_entry_eq]
  have hlc := aLc_entry (b := b) (κ := κ) (As := [.ref x0, .int p0, .int p1, .ref oa]) (n := 5) (Nat.le_of_ble_eq_true rfl)
  generalize (lg_sl (List.map (cV b κ) [.ref x0, .int p0, .int p1, .ref oa]) ++ List.replicate (5 - (lg_sl (List.map (cV b κ) [.ref x0, .int p0, .int p1, .ref oa])).length) Slot.unset).toArray = L at hlc ⊢
  refine lv_aload_n B.exec B.bytes dh142_0 rfl (aLc_get hlc (i := 3) rfl rfl) ?_
  refine lv_iconst (v := 0) B.exec B.bytes dh142_1 rfl ?_
  refine lv_aload_n B.exec B.bytes dh142_2 rfl (aLc_get hlc (i := 0) rfl rfl) ?_
  refine lv_iload_n B.exec B.bytes dh142_3 rfl (aLc_get hlc (i := 1) rfl rfl) ?_
  refine lv_iload_n B.exec B.bytes dh142_4 rfl (aLc_get hlc (i := 2) rfl rfl) ?_
  obtain ⟨x1, As1, hx1, hor⟩ := aRecv_inv hrc
  have hx2 : x1 = x0 := by cases hx1; rfl
  subst hx2
  have hor : ∃ fs, σ[x1]? = some (.inr (1, fs)) := by
    rcases hor with h | h
    · cases h
    · exact h
  obtain ⟨fs, hσ⟩ := hor
  have hkin : 226 ∈ aAll := by decide +kernel
  obtain ⟨m1, m2, m3, m4, m5, m6⟩ := aMk_w hkin
  have hrecv := va_recv hKn.1 hPP (aCi_at (ci := 1) (by decide)) (aWs_get (b := b) (κ := κ) (cA := cA) hσ)
  have hpre : ∀ U : State, U.heap = s.heap → s.WarmedH U.vm → aPc b κ dC dI cA ko [.ref x1, .int p0, .int p1] σ (List.map (cV b κ) [.ref x1, .int p0, .int p1]).toArray U := fun U hU hW => ⟨rfl, by rw [hU]; exact hsz, by rw [hU]; exact hPP, hTy, aKn_moved hW hKn, by rw [hU]; exact aKc_warm hW (by omega) (fun _ _ _ => rfl) hKc⟩
  have hRR : (aRm d 226 (σ1.length - σ.length) (aSz σ1 - aSz σ)).frames + 1 ≤ (aRm d 142 (σ1.length - σ.length) (aSz σ1 - aSz σ)).frames ∧ 8 + ((aMe 226).2.2.2.1 + 11) + (aRm d 226 (σ1.length - σ.length) (aSz σ1 - aSz σ)).locals ≤ (aRm d 142 (σ1.length - σ.length) (aSz σ1 - aSz σ)).locals := by
    have r1 : aRk 226 + 1 ≤ aRk 142 := by decide
    have r2 : (aMe 226).2.2.2.1 ≤ 21 := (aRk_le hkin).2.1
    refine ⟨?_, ?_⟩
    · show d * 10 + aRk 226 + 11 + 1 ≤ d * 10 + aRk 142 + 11; omega
    · show 8 + ((aMe 226).2.2.2.1 + 11) + 40 * (d * 10 + aRk 226 + 11) ≤ 40 * (d * 10 + aRk 142 + 11); omega
  have hlk : aHas aMl 13 15 226 = true := by decide +kernel
  rcases m6 with ⟨-, w1, w2, w3, w4, w5⟩ | ⟨q, -⟩ | ⟨q, -⟩
  · have hr := vx_runV (R := (headSpec (Jvm.Cond.codeWith (⟨"RiverThinksAgainLaw", "dislikes", "(LRiverThinksAgain;II[J)I"⟩ : MethodName) method_4_code 5 (some .int) [(0, 10, 13, 13)] :: aTB) (aRm d 142 (σ1.length - σ.length) (aSz σ1 - aSz σ))).room) (H := s.heap) (locs := []) (cells := 0) (slots := 0) (below := below) (meth := meth) (As := [.int p0, .int p1]) (rest := [.int 0, .ref (b + oa)]) (b := b + x1) (C := "RiverThinksAgain") (g := F0 m 5 L (List.reverse [.int p0, .int p1] ++ .ref (b + x1) :: [.int 0, .ref (b + oa)])) (p := p) (e := e) ⟨B.exec, B.bytes, hml, hown, hts⟩ hM ⟨callB_of 2 hts (aWk_good hkin) rfl rfl rfl (hts _ m2) (hts _ (aMl_w hlk)) ⟨m4.1, m4.2, by decide +kernel⟩ hRR, hts _ w1, hts _ w2⟩ ⟨aPc_blind, hrecv, hpre⟩ rfl rfl hlc.1 rfl (Nat.le_of_ble_eq_true rfl) dh142_5 ⟨by show 0 + (σ1.length - σ.length) ≤ σ1.length - σ.length; omega, by show 0 + (aSz σ1 - aSz σ) ≤ aSz σ1 - aSz σ; omega⟩
    refine aCallX_fin hr va_S.rf (fun v hv H1 locs1 hpt1 => ?_) (fun u hu H1 locs1 q ce hpt1 hce hcv hcl => ?_)
    · subst hv
      rcases ho with ⟨v0, h0, hout, rfl⟩ | ⟨h0, -⟩
      · cases h0
        unfold aOut at hout
        split at hout
        · rename_i oa' hoa
          have hoa2 : oa' = oa := by cases hoa; rfl
          subst hoa2
          split at hout
          · rename_i n f h7
            split at hout
            · rename_i hn
              split at hout
              · rename_i y
                split at hout
                · cases hout
                cases hout
                obtain ⟨t0, ht⟩ := aTyL_at (cA := cA) (ty := .long) (by decide)
                refine lv_i2l B.exec B.bytes dh142_8 rfl ?_
                refine va_last B.exec B.bytes hKn.1 hpt1.1 aWs_D hpt1.2.1 oa' t0 (aWs_get h7) ht (by refine aIn_iff.mp ?_; unfold aIn; simp; exact hn) dh142_9 (fun H2 locs2 g1 g2 g3 => ?_)
                refine lv_goto (tgt := 17) B.exec B.bytes dh142_10 (by decide) ?_
                refine lv_iconst (v := 0) B.exec B.bytes dh142_17 rfl ?_
                refine vx_ret ?_
                rw [Nat.zero_add, Nat.zero_add]
                have hpt2 := aPn_set (c1 := .inl (.long, n, .inr (.inl (vp_updL f 0 y.toInt64)))) hpt1 h7 g1 g3 (fun ty x q => by cases q; decide)
                exact W.iret (v := 0) B.exec B.bytes B.returns (fun t ht hW => ⟨rfl, by rw [ht]; exact hpt2.1, hpt2.2.2, hpt2.2.1.F ht⟩) g3.2.2 dh142_18 hlocks
              · rename_i y
                first | (rw [if_neg (by decide)] at hout; cases hout; done) | (rw [if_pos rfl] at hout; cases hout; done)
              · cases hout
            · cases hout
          · cases hout
        · cases hout
      · cases h0
    · subst hu
      rcases ho with ⟨v0, h0, -⟩ | ⟨-, rfl, rfl⟩
      · cases h0
      · refine vx_catch hown [] ⟨0, 10, 13, 13⟩ [] htab (fun z hz => by cases hz) (by decide) (by decide) (hts _ (aTB_in aCastW.2.1 rfl)) (va_Nw.use rfl (hKn.2.1 _ aCastW.1 rfl)) hce hcv hcl ?_
        refine lv_astore B.exec B.bytes dh142_13 (aLc_has hlc) (by decide) rfl (fun L' hl' => ?_)
        refine lv_iconst (v := 1) B.exec B.bytes dh142_15 rfl ?_
        refine vx_ret ?_
        rw [Nat.zero_add, Nat.zero_add]
        exact W.iret (v := 1) B.exec B.bytes B.returns (fun t ht hW => ⟨rfl, by rw [ht]; exact hpt1.1, hpt1.2.2, hpt1.2.1.F ht⟩) hpt1.2.1.2.2 dh142_16 hlocks
  · cases q
  · cases q

theorem dh143_0 : decode method_5_code 0 = .ok (.aload_n 2, 1) := by decide +kernel
theorem dh143_1 : decode method_5_code 1 = .ok (.iconst 0, 1) := by decide +kernel
theorem dh143_2 : decode method_5_code 2 = .ok (.aload_n 0, 1) := by decide +kernel
theorem dh143_3 : decode method_5_code 3 = .ok (.iload_n 1, 1) := by decide +kernel
theorem dh143_4 : decode method_5_code 4 = .ok (.invokevirtual 18, 3) := by decide +kernel
theorem dh143_7 : decode method_5_code 7 = .ok (.lastore, 1) := by decide +kernel
theorem dh143_8 : decode method_5_code 8 = .ok (.goto 6, 3) := by decide +kernel
theorem dh143_11 : decode method_5_code 11 = .ok (.astore_n 3, 1) := by decide +kernel
theorem dh143_12 : decode method_5_code 12 = .ok (.iconst 1, 1) := by decide +kernel
theorem dh143_13 : decode method_5_code 13 = .ok (.ireturn, 1) := by decide +kernel
theorem dh143_14 : decode method_5_code 14 = .ok (.iconst 0, 1) := by decide +kernel
theorem dh143_15 : decode method_5_code 15 = .ok (.ireturn, 1) := by decide +kernel
set_option maxRecDepth 20000 in
theorem ahw_143 : Jvm.Cond.codeWith (⟨"RiverThinksAgainLaw", "row", "(LRiverThinksAgain;I[J)I"⟩ : MethodName) method_5_code 4 (some .int) [(0, 8, 11, 13)] ∈ lw_tbl := aIn_5 _ (List.mem_of_getElem? (i := 192) rfl)
set_option maxHeartbeats 4000000 in
set_option maxRecDepth 100000 in
theorem aHelp_143 {d : Nat} {σ σ1 σ2 : aH} {o : Option Value ⊕ Unit} {z : Int32} (x0 oa : Nat) (p0 : Int32) (hM : aMeet l b κ dC dI cA ko d 227 [.ref x0, .int p0] σ o σ1) (hrc : aRecv (some 1) [.ref x0, .int p0, .ref oa] σ = true) (ho : (∃ v, o = .inl (some v) ∧ aOut 143 [.ref x0, .int p0, .ref oa] v σ1 = some σ2 ∧ z = 0) ∨ (o = .inr () ∧ σ2 = σ1 ∧ z = 1)) :
    Met l (⟨"RiverThinksAgainLaw", "row", "(LRiverThinksAgain;I[J)I"⟩ : MethodName) (Jvm.Cond.codeWith (⟨"RiverThinksAgainLaw", "row", "(LRiverThinksAgain;I[J)I"⟩ : MethodName) method_5_code 4 (some .int) [(0, 8, 11, 13)] :: aTB) (aRm d 143 (σ1.length - σ.length) (aSz σ1 - aSz σ)) (aPc b κ dC dI cA ko [.ref x0, .int p0, .ref oa] σ) (aQ b κ dC dI cA (some (.int z)) σ2) (σ1.length - σ.length) (aSz σ1 - aSz σ) (aUp b) := by
  refine vx_Met.plain (vx_ofWH (by decide) rfl ?_)
  intro p e s m args below meth c s₁ B hml hP
  obtain ⟨rfl, hsz, hPP, hTy, hKn, hKc⟩ := hP
  have hts0 := atoms_spec (ws := Jvm.Cond.codeWith (⟨"RiverThinksAgainLaw", "row", "(LRiverThinksAgain;I[J)I"⟩ : MethodName) method_5_code 4 (some .int) [(0, 8, 11, 13)] :: aTB) B.pre
  have hts : ∀ w ∈ aTB, w.before _ s = true := fun w hw => hts0 w (List.mem_cons_of_mem _ hw)
  have htab : c.exceptionTable.toList = tableOf [(0, 8, 11, 13)] := vx_table (x := ⟨"", "", ""⟩) B (hts0 _ List.mem_cons_self)
  have hown : s.vm.findClass "RiverThinksAgainLaw" = some m.cls := findClass_of_methodNamed B.named
  have hlocks : meth.locks = false := B.notSynchronized
  rw [lg_entry_eq]
  have hlc := aLc_entry (b := b) (κ := κ) (As := [.ref x0, .int p0, .ref oa]) (n := 4) (Nat.le_of_ble_eq_true rfl)
  generalize (lg_sl (List.map (cV b κ) [.ref x0, .int p0, .ref oa]) ++ List.replicate (4 - (lg_sl (List.map (cV b κ) [.ref x0, .int p0, .ref oa])).length) Slot.unset).toArray = L at hlc ⊢
  refine lv_aload_n B.exec B.bytes dh143_0 rfl (aLc_get hlc (i := 2) rfl rfl) ?_
  refine lv_iconst (v := 0) B.exec B.bytes dh143_1 rfl ?_
  refine lv_aload_n B.exec B.bytes dh143_2 rfl (aLc_get hlc (i := 0) rfl rfl) ?_
  refine lv_iload_n B.exec B.bytes dh143_3 rfl (aLc_get hlc (i := 1) rfl rfl) ?_
  obtain ⟨x1, As1, hx1, hor⟩ := aRecv_inv hrc
  have hx2 : x1 = x0 := by cases hx1; rfl
  subst hx2
  have hor : ∃ fs, σ[x1]? = some (.inr (1, fs)) := by
    rcases hor with h | h
    · cases h
    · exact h
  obtain ⟨fs, hσ⟩ := hor
  have hkin : 227 ∈ aAll := by decide +kernel
  obtain ⟨m1, m2, m3, m4, m5, m6⟩ := aMk_w hkin
  have hrecv := va_recv hKn.1 hPP (aCi_at (ci := 1) (by decide)) (aWs_get (b := b) (κ := κ) (cA := cA) hσ)
  have hpre : ∀ U : State, U.heap = s.heap → s.WarmedH U.vm → aPc b κ dC dI cA ko [.ref x1, .int p0] σ (List.map (cV b κ) [.ref x1, .int p0]).toArray U := fun U hU hW => ⟨rfl, by rw [hU]; exact hsz, by rw [hU]; exact hPP, hTy, aKn_moved hW hKn, by rw [hU]; exact aKc_warm hW (by omega) (fun _ _ _ => rfl) hKc⟩
  have hRR : (aRm d 227 (σ1.length - σ.length) (aSz σ1 - aSz σ)).frames + 1 ≤ (aRm d 143 (σ1.length - σ.length) (aSz σ1 - aSz σ)).frames ∧ 8 + ((aMe 227).2.2.2.1 + 11) + (aRm d 227 (σ1.length - σ.length) (aSz σ1 - aSz σ)).locals ≤ (aRm d 143 (σ1.length - σ.length) (aSz σ1 - aSz σ)).locals := by
    have r1 : aRk 227 + 1 ≤ aRk 143 := by decide
    have r2 : (aMe 227).2.2.2.1 ≤ 21 := (aRk_le hkin).2.1
    refine ⟨?_, ?_⟩
    · show d * 10 + aRk 227 + 11 + 1 ≤ d * 10 + aRk 143 + 11; omega
    · show 8 + ((aMe 227).2.2.2.1 + 11) + 40 * (d * 10 + aRk 227 + 11) ≤ 40 * (d * 10 + aRk 143 + 11); omega
  have hlk : aHas aMl 13 18 227 = true := by decide +kernel
  rcases m6 with ⟨-, w1, w2, w3, w4, w5⟩ | ⟨q, -⟩ | ⟨q, -⟩
  · have hr := vx_runV (R := (headSpec (Jvm.Cond.codeWith (⟨"RiverThinksAgainLaw", "row", "(LRiverThinksAgain;I[J)I"⟩ : MethodName) method_5_code 4 (some .int) [(0, 8, 11, 13)] :: aTB) (aRm d 143 (σ1.length - σ.length) (aSz σ1 - aSz σ))).room) (H := s.heap) (locs := []) (cells := 0) (slots := 0) (below := below) (meth := meth) (As := [.int p0]) (rest := [.int 0, .ref (b + oa)]) (b := b + x1) (C := "RiverThinksAgain") (g := F0 m 4 L (List.reverse [.int p0] ++ .ref (b + x1) :: [.int 0, .ref (b + oa)])) (p := p) (e := e) ⟨B.exec, B.bytes, hml, hown, hts⟩ hM ⟨callB_of 1 hts (aWk_good hkin) rfl rfl rfl (hts _ m2) (hts _ (aMl_w hlk)) ⟨m4.1, m4.2, by decide +kernel⟩ hRR, hts _ w1, hts _ w2⟩ ⟨aPc_blind, hrecv, hpre⟩ rfl rfl hlc.1 rfl (Nat.le_of_ble_eq_true rfl) dh143_4 ⟨by show 0 + (σ1.length - σ.length) ≤ σ1.length - σ.length; omega, by show 0 + (aSz σ1 - aSz σ) ≤ aSz σ1 - aSz σ; omega⟩
    refine aCallX_fin hr va_S.rf (fun v hv H1 locs1 hpt1 => ?_) (fun u hu H1 locs1 q ce hpt1 hce hcv hcl => ?_)
    · subst hv
      rcases ho with ⟨v0, h0, hout, rfl⟩ | ⟨h0, -⟩
      · cases h0
        unfold aOut at hout
        split at hout
        · rename_i oa' hoa
          have hoa2 : oa' = oa := by cases hoa; rfl
          subst hoa2
          split at hout
          · rename_i n f h7
            split at hout
            · rename_i hn
              split at hout
              · rename_i y
                first | (rw [if_neg (by decide)] at hout; cases hout; done) | (rw [if_pos rfl] at hout; cases hout; done)
              · rename_i y
                split at hout
                rotate_left
                · cases hout
                cases hout
                obtain ⟨t0, ht⟩ := aTyL_at (cA := cA) (ty := .long) (by decide)
                skip
                refine va_last B.exec B.bytes hKn.1 hpt1.1 aWs_D hpt1.2.1 oa' t0 (aWs_get h7) ht (by refine aIn_iff.mp ?_; unfold aIn; simp; exact hn) dh143_7 (fun H2 locs2 g1 g2 g3 => ?_)
                refine lv_goto (tgt := 14) B.exec B.bytes dh143_8 (by decide) ?_
                refine lv_iconst (v := 0) B.exec B.bytes dh143_14 rfl ?_
                refine vx_ret ?_
                rw [Nat.zero_add, Nat.zero_add]
                have hpt2 := aPn_set (c1 := .inl (.long, n, .inr (.inl (vp_updL f 0 y)))) hpt1 h7 g1 g3 (fun ty x q => by cases q; decide)
                exact W.iret (v := 0) B.exec B.bytes B.returns (fun t ht hW => ⟨rfl, by rw [ht]; exact hpt2.1, hpt2.2.2, hpt2.2.1.F ht⟩) g3.2.2 dh143_15 hlocks
              · cases hout
            · cases hout
          · cases hout
        · cases hout
      · cases h0
    · subst hu
      rcases ho with ⟨v0, h0, -⟩ | ⟨-, rfl, rfl⟩
      · cases h0
      · refine vx_catch hown [] ⟨0, 8, 11, 13⟩ [] htab (fun z hz => by cases hz) (by decide) (by decide) (hts _ (aTB_in aCastW.2.1 rfl)) (va_Nw.use rfl (hKn.2.1 _ aCastW.1 rfl)) hce hcv hcl ?_
        refine lv_astore_n B.exec B.bytes dh143_11 rfl (aLc_has hlc) (by decide) rfl (fun L' hl' => ?_)
        refine lv_iconst (v := 1) B.exec B.bytes dh143_12 rfl ?_
        refine vx_ret ?_
        rw [Nat.zero_add, Nat.zero_add]
        exact W.iret (v := 1) B.exec B.bytes B.returns (fun t ht hW => ⟨rfl, by rw [ht]; exact hpt1.1, hpt1.2.2, hpt1.2.1.F ht⟩) hpt1.2.1.2.2 dh143_13 hlocks
  · cases q
  · cases q

set_option maxRecDepth 100000 in
set_option maxHeartbeats 4000000 in
theorem aHelp_ok : aHelpAll l b κ dC dI cA ko := by
  intro p e R s m args below meth c Q k k' kf d x pc cells slots L ls As rest st σ σ1 σ2 o z H locs C hd hlk hh hM ho hst hlen hrc hsh hcat hf1 hf2 hpt hcz hlc hR1 hR2 kk
  obtain ⟨hx, hb, hml, hown, hts, hret, hlocks, hinit, hKn, hKc, hbs⟩ := id C
  obtain ⟨hI, hLR⟩ := hsh
  have hk3 : (k' = 141 ∧ kf = 225) ∨ (k' = 142 ∧ kf = 226) ∨ (k' = 143 ∧ kf = 227) := by
    unfold aHl at hh
    split at hh
    · cases hh; exact Or.inl ⟨by assumption, rfl⟩
    · split at hh
      · cases hh; exact Or.inr (Or.inl ⟨by assumption, rfl⟩)
      · split at hh
        · cases hh; exact Or.inr (Or.inr ⟨by assumption, rfl⟩)
        · cases hh
  obtain ⟨x0, As1, rfl, -⟩ := aRecv_inv hrc
  have hcat2 : 2 * (F0 m pc L (st.map (cV b κ))).monitorRoom + ((rest.map (cV b κ)).map fun v => v.category).sum ≤ 8 := by
    show 2 * 0 + _ ≤ 8
    rw [aCat_cV]
    omega
  have isI : ∀ v : Value, aIsI v = true → ∃ i, v = .int i := by
    intro v hv
    cases v <;> first | exact ⟨_, rfl⟩ | cases hv
  have fin : ∀ {y : MethodName} {bytes : ByteArray} {mx nn : Nat} {hhl : List (Nat × Nat × Nat × Nat)}, Met l y (Jvm.Cond.codeWith y bytes mx (some .int) hhl :: aTB) (aRm d k' (σ1.length - σ.length) (aSz σ1 - aSz σ)) (aPc b κ dC dI cA ko (.ref x0 :: As1) σ) (aQ b κ dC dI cA (some (.int z)) σ2) (σ1.length - σ.length) (aSz σ1 - aSz σ) (aUp b) → Jvm.Cond.codeWith y bytes mx (some .int) hhl ∈ lw_tbl → mx ≤ 21 → y = (aMe k').2.1 → Jvm.Cond.static y ∈ lw_tbl → Jvm.Cond.initialized y.cls ∈ lw_tbl → (y.cls ≠ "java/lang/invoke/MethodHandle" ∧ y.cls ≠ "java/lang/invoke/VarHandle") → (parseMethodDescriptor y.desc).map (fun d => d.parameters.length) = some nn → (Value.ref x0 :: As1).length = nn → W p l e R s m args below meth c H locs cells slots Q (F0 m pc L (st.map (cV b κ))) := by
    intro y bytes mx nn hhl hM2 hcw hmx hy hsw hiw hyn hpd hnn
    subst hy
    refine aW_size hbs hpt hcz (fun hsz => ?_)
    have hpre : ∀ U : State, U.heap = H → s.WarmedH U.vm → aPc b κ dC dI cA ko (.ref x0 :: As1) σ ((Value.ref x0 :: As1).map (cV b κ)).toArray U := fun U hU hW => ⟨rfl, by rw [hU]; exact hsz, by rw [hU]; exact hpt.1, hpt.2.2, aKn_moved hW hKn, by rw [hU]; exact aKc_warm hW hbs hpt.2.1.2.1 hKc⟩
    have hG : GoodIn aTB (va_wsS (aNm (aMe k).1) x (aMe k').2.1 (Jvm.Cond.codeWith (aMe k').2.1 bytes mx (some .int) hhl :: aTB)) := by
      intro w hw
      unfold va_wsS at hw
      rcases List.mem_append.mp hw with hw | hw
      · simp only [List.mem_cons, List.not_mem_nil, or_false] at hw
        rcases hw with rfl | rfl | rfl
        · exact aTB_good _ (aMl_w hlk)
        · exact aTB_good _ (aTB_in hsw rfl)
        · exact aTB_good _ (aTB_in hiw rfl)
      · rcases List.mem_cons.mp hw with rfl | hw
        · exact aTB_good _ (aTB_in hcw rfl)
        · exact aTB_good w hw
    refine aCall_fin (vx_runSW (As := (Value.ref x0 :: As1).map (cV b κ)) (rest := rest.map (cV b κ)) ⟨hx, hb, hml, hown, hts⟩ hM2 (vx_cwSW nn hts hG rfl rfl rfl ⟨hyn.1, hyn.2, hpd⟩ ⟨?_, ?_⟩) ⟨aPc_blind, hpre⟩ rfl (by rw [List.length_map]; exact hnn) hlc.1 (by show st.map (cV b κ) = _; rw [hst, List.map_append, List.map_reverse]) hcat2 hd ⟨hR1, hR2⟩) hpt.2.1 kk
    · show d * 10 + aRk k' + 11 + 1 ≤ R.frames; omega
    · show 8 + (mx + 11) + 40 * (d * 10 + aRk k' + 11) ≤ R.locals; omega
  rcases hk3 with ⟨rfl, rfl⟩ | ⟨rfl, rfl⟩ | ⟨rfl, rfl⟩
  · have hlen : As1.length = 3 := by have : (Value.ref x0 :: As1).length = 4 := hlen; simpa using this
    obtain ⟨v1, v2, v3, rfl⟩ : ∃ v1 v2 v3, As1 = [v1, v2, v3] := by
      match As1, hlen with
      | [av1, av2, av3], _ => exact ⟨av1, av2, av3, rfl⟩
    have h1 : aIsI v1 = true ∧ aIsI v2 = true := by simpa using hI
    obtain ⟨p0, rfl⟩ := isI v1 h1.1
    obtain ⟨p1, rfl⟩ := isI v2 h1.2
    have h2 : ∃ oa, v3 = .ref oa := by
      cases v3 <;> first | exact ⟨_, rfl⟩ | cases hLR
    obtain ⟨oa, rfl⟩ := h2
    exact fin (aHelp_141 x0 oa p0 p1 hM hrc ho) ahw_141 (by decide) rfl (by decide +kernel) aCastW.2.2 (by decide) (nn := 4) (by decide +kernel) rfl
  · have hlen : As1.length = 3 := by have : (Value.ref x0 :: As1).length = 4 := hlen; simpa using this
    obtain ⟨v1, v2, v3, rfl⟩ : ∃ v1 v2 v3, As1 = [v1, v2, v3] := by
      match As1, hlen with
      | [av1, av2, av3], _ => exact ⟨av1, av2, av3, rfl⟩
    have h1 : aIsI v1 = true ∧ aIsI v2 = true := by simpa using hI
    obtain ⟨p0, rfl⟩ := isI v1 h1.1
    obtain ⟨p1, rfl⟩ := isI v2 h1.2
    have h2 : ∃ oa, v3 = .ref oa := by
      cases v3 <;> first | exact ⟨_, rfl⟩ | cases hLR
    obtain ⟨oa, rfl⟩ := h2
    exact fin (aHelp_142 x0 oa p0 p1 hM hrc ho) ahw_142 (by decide) rfl (by decide +kernel) aCastW.2.2 (by decide) (nn := 4) (by decide +kernel) rfl
  · have hlen : As1.length = 2 := by have : (Value.ref x0 :: As1).length = 3 := hlen; simpa using this
    obtain ⟨v1, v2, rfl⟩ : ∃ v1 v2, As1 = [v1, v2] := by
      match As1, hlen with
      | [av1, av2], _ => exact ⟨av1, av2, rfl⟩
    have h1 : aIsI v1 = true := by simpa using hI
    obtain ⟨p0, rfl⟩ := isI v1 h1
    have h2 : ∃ oa, v2 = .ref oa := by
      cases v2 <;> first | exact ⟨_, rfl⟩ | cases hLR
    obtain ⟨oa, rfl⟩ := h2
    exact fin (aHelp_143 x0 oa p0 hM hrc ho) ahw_143 (by decide) rfl (by decide +kernel) aCastW.2.2 (by decide) (nn := 3) (by decide +kernel) rfl
end AHP
