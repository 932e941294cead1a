/-! TEXTS, second: aTextAll. From wip/whole/src. -/
section TXA
variable {l : Launch} {b : Nat} {κ : Nat → Nat} {dC : Nat → ClassId} {dI : Nat → Nat → Nat} {cA : FieldType → ClassId} {ko : aKo}
/-- a constant text, with all that is asked of it -/
def aTxs (b : Nat) (κ : Nat → Nat) (ko : aKo) (i : Nat) (U : State) (H : Heap) : Prop := ∃ (q : Nat) (f : Nat → Int32) (w : Option Nat), tX b (κ i) q (ko i).2.1 f w U H ∧ (ko i).2.1 < 2 ^ 31 ∧ ∀ j, j < (ko i).2.1 → (f j) &&& 255 = (ko i).2.2 j ∧ (f j).toInt8.toInt32 = f j
theorem tCallV {p : Program} {e : Env} {R : Room} {s : State} {m : MethodId} {args : Array Value} {below : List Frame} {meth : Method} {c : Code} {Q : State → Prop} {a q n mx r x pc cells slots : Nat} {w : Option Nat} {f : Nat → Int32} {y : MethodName} {cc bytes : ByteArray} {ret : Option FieldType} {As st rest : List Value} {v : Option Value} {own : String} {H : Heap} {locs : List Loc} {L : Array Slot}
    (hx : p.tables.exec = Jvm.exec) (hb : c.code = cc) (hown : s.vm.findClass own = some m.cls) (hts : ∀ w ∈ aTB, w.before args s = true) (hM : tM l b a q n f w y bytes mx ret r (.ref a :: As) v) (hG : GoodIn aTB (Jvm.Cond.code y bytes mx ret :: aTB)) (hlink : (Jvm.Cond.methodLink own x y).before args s = true) (hin : (Jvm.Cond.instanceMethod y).before args s = true) (hse : (Jvm.Cond.selects "java/lang/String" y y).before args s = true) (hini : (Jvm.Cond.initialized y.cls).before args s = true) (hy : y.cls ≠ "java/lang/invoke/MethodHandle" ∧ y.cls ≠ "java/lang/invoke/VarHandle") (hlen : (parseMethodDescriptor y.desc).map (fun d => d.parameters.length) = some As.length)
    (hX : tX b a q n f w s s.heap) (hS : va_S (aUp b) s.heap H locs) (hst : st = As.reverse ++ .ref a :: rest) (hcat : (rest.map fun v => v.category).sum ≤ 16) (hfr : r + 2 ≤ R.frames) (hlo : 16 + (mx + 11) + 40 * (r + 1) ≤ R.locals) (hc : cells ≤ R.cells) (hs : slots ≤ R.slots) (hsize : L.size = c.maxLocals) (hd : decode cc pc = .ok (.invokevirtual x, 3))
    (kk : W p l e R s m args below meth c H locs cells slots Q (F0 m (pc + 3) L (v.toList ++ rest))) : W p l e R s m args below meth c H locs cells slots Q (F0 m pc L st) := by
  intro T hT X
  have hXH : tX b a q n f w s H := tX_kept (Vm.Alike.refl _) hS.2.1 hX
  obtain ⟨cellB, hcB, hoB, hclB⟩ := tX_recv hXH
  obtain ⟨v', vm₁, g', mk, t, T', X', e1, e2, ⟨hv, hh⟩, st1⟩ := callMW X hx (own := own) (C := "java/lang/String") (index := x) (y := y) (bytes := bytes) (maxL := mx) (ret := ret) (W := 16) (mc := 0) (ms := 0) hM tX_blind rfl rfl hfr hlo (pay_in hts hG) List.mem_cons_self hown hlink hin hse (hts _ (hG _ List.mem_cons_self).1) hini hy (b := a) (cellB := cellB) (by rw [hT]; exact hcB) hoB hclB (g := F0 m pc L st) rfl hsize (argsL := As) (rest := rest) (fun sig h => by
      rw [h] at hlen
      simp at hlen
      exact hlen.symm) hst (by
      show 2 * 0 + _ ≤ 16
      omega) (by rw [hb]; exact hd) hc hs (fun vm₁ hW => ⟨rfl, by
      show tX b a q n f w (T.setVm vm₁) T.heap
      rw [hT]
      exact tX_kept (u := s) (U := T.setVm vm₁) hW.alike (fun _ _ _ => rfl) hXH⟩) (fun _ h => h.elim)
  cases hv
  obtain ⟨t2, a1, b1⟩ := kk T' (by rw [e1, hh]; exact hT) X'
  exact ⟨t2, st1 t2 a1, b1⟩
theorem tx_b8 {x c : Int32} (hx : x.toInt8.toInt32 = x) (h : ¬ c < 0 ∧ ¬ c > 255) : (x = c.toInt8.toInt32) = (x &&& 255 = c) := by
  have h1 : ∀ y : Int32, ¬ y < 0 → ¬ y > 255 → y.toBitVec.toNat < 256 := by
    intro y g1 g2
    rw [Int32.lt_iff_toInt_lt, Int32.toInt_zero] at g1
    have g2' : ¬ (255 : Int32) < y := g2
    rw [Int32.lt_iff_toInt_lt, show (255 : Int32).toInt = 255 from rfl] at g2'
    have e : y.toInt = y.toBitVec.toInt := rfl
    rw [e, BitVec.toInt_eq_toNat_cond] at g1 g2'
    have := y.toBitVec.isLt
    split at g1 <;> omega
  have hc := h1 c h.1 h.2
  have key : ∀ y : Int32, (y &&& 255).toInt8.toInt32 = y.toInt8.toInt32 := by
    intro y
    apply congrArg Int8.toInt32
    apply Int8.toBitVec_inj.mp
    apply BitVec.eq_of_toNat_eq
    show ((y.toBitVec &&& 255#32).signExtend 8).toNat = (y.toBitVec.signExtend 8).toNat
    rw [BitVec.signExtend_eq_setWidth_of_le _ (by decide), BitVec.signExtend_eq_setWidth_of_le _ (by decide), BitVec.toNat_setWidth, BitVec.toNat_setWidth, BitVec.toNat_and]
    show (y.toBitVec.toNat &&& (2 ^ 8 - 1)) % 2 ^ 8 = _
    rw [Nat.and_two_pow_sub_one_eq_mod, Nat.mod_mod]
  have inj : ∀ y z : Int32, y.toBitVec.toNat < 256 → z.toBitVec.toNat < 256 → y.toInt8.toInt32 = z.toInt8.toInt32 → y = z := by
    intro y z hy hz hyz
    have e1 : y.toInt8 = z.toInt8 := by
      have := congrArg Int32.toInt8 hyz
      rwa [Int8.toInt8_toInt32, Int8.toInt8_toInt32] at this
    have e2 : (y.toBitVec.signExtend 8).toNat = (z.toBitVec.signExtend 8).toNat := congrArg (fun t : Int8 => t.toBitVec.toNat) e1
    rw [BitVec.signExtend_eq_setWidth_of_le _ (by decide), BitVec.signExtend_eq_setWidth_of_le _ (by decide), BitVec.toNat_setWidth, BitVec.toNat_setWidth, Nat.mod_eq_of_lt hy, Nat.mod_eq_of_lt hz] at e2
    exact Int32.toBitVec_inj.mp (BitVec.eq_of_toNat_eq e2)
  apply propext
  constructor
  · intro q
    refine inj _ _ (tx_lt256 x) hc ?_
    rw [key, hx, q]
  · intro q
    rw [← q, key, hx]
theorem tx_ix {f g : Nat → Int32} {c : Int32} (h : ¬ c < 0 ∧ ¬ c > 255) : ∀ (n k : Nat), (∀ j, j < n + k → f j &&& 255 = g j ∧ (f j).toInt8.toInt32 = f j) → tIx f c n k = aIx g c n k := by
  intro n
  induction n with
  | zero => intro k _; rfl
  | succ n ih =>
    intro k hk
    unfold tIx aIx
    obtain ⟨e1, e2⟩ := hk k (by omega)
    rw [ih (k + 1) (fun j hj => hk j (by omega))]
    simp only [tx_b8 e2 h, e1]
theorem tx_ixN {f g : Nat → Int32} {c : Int32} (h : ¬ (¬ c < 0 ∧ ¬ c > 255)) : ∀ (n k : Nat), (∀ j, j < n + k → f j &&& 255 = g j) → aIx g c n k = -1 := by
  intro n
  induction n with
  | zero => intro k _; rfl
  | succ n ih =>
    intro k hk
    unfold aIx
    rw [if_neg, ih (k + 1) (fun j hj => hk j (by omega))]
    intro z
    have e1 := hk k (by omega)
    apply h
    rw [← z, ← e1]
    have := tx_lt256 (f k)
    have e : (f k &&& 255).toInt = (f k &&& 255).toBitVec.toInt := rfl
    have e2 : (f k &&& 255).toInt = ((f k &&& 255).toBitVec.toNat : Int) := by
      rw [e, BitVec.toInt_eq_toNat_cond, if_pos (by omega)]
    constructor
    · rw [Int32.lt_iff_toInt_lt, Int32.toInt_zero]
      omega
    · show ¬ (255 : Int32) < _
      rw [Int32.lt_iff_toInt_lt, show (255 : Int32).toInt = 255 from rfl]
      omega
set_option maxHeartbeats 1000000 in
theorem aText_ok (hK : ∀ (U : State) (H : Heap), aKc b κ ko U H → ∀ i, ¬ i < 2 → aTxs b κ ko i U H) : aTextAll l b κ dC dI cA ko := by
  intro p e R s m args below meth c Q k pc x j L ls st st' σ σ' H locs cells slots C hf hlo hd hj hlk hcat hp hpt hlc hc hs kk
  obtain ⟨hx, hb, hml, hown, hts, hret, hlocks, hinit, hKn, hKc, hbs⟩ := id C
  have hw := hts _ (aPl_w hlk)
  have hS := hpt.2.1
  have h2 : ∀ i, (ko i).1 = aStr → ¬ i < 2 := by
    intro i hi h
    have := (hKc.1 i h).1
    rw [hi] at this
    exact absurd this (by decide)
  have hm : L.size = c.maxLocals := by rw [hml, hlc.1]
  have cat : ∀ st0 : List Value, ((st0.map (cV b κ)).map fun v => v.category).sum = aCat st0 := fun st0 => aCat_cV st0
  rcases hj with rfl | rfl | rfl
  · simp only [aPrim] at hp
    split at hp
    · rename_i i st0
      split at hp
      · rename_i hq
        cases hp
        obtain ⟨q, f, w, hX, hn, hby⟩ := hK s s.heap hKc i (h2 i hq)
        refine tCallV (As := []) (rest := st0.map (cV b κ)) hx hb hown hts (tm_length (b := b) (a := κ i) (q := q) (n := (ko i).2.1) (f := f) (w := w)) (txG (i := 3) rfl) hw (hts _ (txW_in (i := 19) rfl)) (hts _ (txW_in (i := 20) rfl)) (hts _ (txW_in (i := 1) rfl)) ⟨by decide, by decide⟩ rfl hX hS rfl ?_ (by omega) (by omega) hc hs hm hd ?_
        · rw [cat]
          unfold aCat at hcat ⊢
          simp only [List.map_cons, List.sum_cons] at hcat
          omega
        · exact kk
      · cases hp
    · cases hp
  · simp only [aPrim] at hp
    split at hp
    · rename_i k0 i st0
      split at hp
      · rename_i hq
        cases hp
        obtain ⟨q, f, w, hX, hn, hby⟩ := hK s s.heap hKc i (h2 i hq.1)
        refine tCallV (As := [.int k0]) (rest := st0.map (cV b κ)) hx hb hown hts (tm_charAt (b := b) (a := κ i) (q := q) (n := (ko i).2.1) (f := f) (w := w) (aIn_iff.mp hq.2) hn) (txG (i := 9) rfl) hw (hts _ (txW_in (i := 21) rfl)) (hts _ (txW_in (i := 22) rfl)) (hts _ (txW_in (i := 1) rfl)) ⟨by decide, by decide⟩ rfl hX hS rfl ?_ (by omega) (by omega) hc hs hm hd ?_
        · rw [cat]
          unfold aCat at hcat ⊢
          simp only [List.map_cons, List.sum_cons] at hcat
          omega
        · have hk0 : k0.toNatClampNeg < (ko i).2.1 := by
            have := aIn_iff.mp hq.2
            exact Nat.lt_of_not_le (fun z => this (Or.inr z))
          rw [(hby _ hk0).1]
          exact kk
      · cases hp
    · cases hp
  · simp only [aPrim] at hp
    split at hp
    · rename_i c0 i st0
      split at hp
      · rename_i hq
        cases hp
        obtain ⟨q, f, w, hX, hn, hby⟩ := hK s s.heap hKc i (h2 i hq)
        refine tCallV (As := [.int c0]) (rest := st0.map (cV b κ)) hx hb hown hts (tm_indexOf (b := b) (a := κ i) (q := q) (n := (ko i).2.1) (f := f) (w := w) hn) (txG (i := 14) rfl) hw (hts _ (txW_in (i := 25) rfl)) (hts _ (txW_in (i := 26) rfl)) (hts _ (txW_in (i := 1) rfl)) ⟨by decide, by decide⟩ rfl hX hS rfl ?_ (by omega) (by omega) hc hs hm hd ?_
        · rw [cat]
          unfold aCat at hcat ⊢
          simp only [List.map_cons, List.sum_cons] at hcat
          omega
        · have hix : (if ¬ c0 < 0 ∧ ¬ c0 > 255 then tIx f c0 (ko i).2.1 0 else -1) = aIx (ko i).2.2 c0 (ko i).2.1 0 := by
            by_cases z : ¬ c0 < 0 ∧ ¬ c0 > 255
            · rw [if_pos z]
              exact tx_ix z _ 0 (fun j hj => hby j hj)
            · rw [if_neg z, tx_ixN (f := f) z _ 0 (fun j hj => (hby j hj).1)]
          rw [hix]
          exact kk
      · cases hp
    · cases hp
end TXA
