/-! FIRST CONTRACTS of the reference. -/
section C1
variable {ko : aKo} {d : Nat} {σ : aH}
theorem aRecv_of {ci a : Nat} {fs : List Value} {As : List Value} (h : σ[a]? = some (.inr (ci, fs))) : aRecv (some ci) (.ref a :: As) σ = true := by
  unfold aRecv
  simp [h]
/-- a call down in rank -/
theorem aEv_cal {k k' : Nat} {is : List Instr} {ls st As rest : List Value} {v : Option Value} {σ1 : aH} {r : (Option Value ⊕ Unit) × aH} (hc : aCal ko d k' As σ v σ1) (hst : st = As.reverse ++ rest) (h1 : As.length = (aP.2.1 k').2.1) (h2 : aRecv (aP.2.1 k').2.2.2.2.1 As σ = true) (h3 : aCat rest ≤ 8) (h4 : (aLay As).length ≤ (aP.2.1 k').2.2.1) (h5 : (aP.2.1 k').2.2.2.1 < (aP.2.1 k).2.2.2.1) (h6 : (aP.2.1 k').2.2.2.2.2 = none) : aEv ko d k (.invokestatic k' :: is) ls st σ r = aEv ko d k is ls (v.toList ++ rest) σ1 r := by
  refine aEv_call (d' := d) hc h6 ?_
  have e1 : st.take (aP.2.1 k').2.1 = As.reverse := by rw [hst, ← h1, ← List.length_reverse, List.take_left]
  have e2 : st.drop (aP.2.1 k').2.1 = rest := by rw [hst, ← h1, ← List.length_reverse, List.drop_left]
  have e3 : (aP.2.1 k').2.1 ≤ st.length := by rw [hst, ← h1, List.length_append, List.length_reverse]; omega
  unfold aDo
  dsimp only
  rw [e1, e2, List.reverse_reverse, if_pos ⟨e3, h2, h3, h4⟩]
  unfold aDn
  rw [if_pos h5]
theorem oi_0 : Int32.ofInt 0 = 0 := rfl
theorem oi_1 : Int32.ofInt 1 = 1 := rfl
def b2i (b : Prop) [Decidable b] : Int32 := if b then 1 else 0
theorem lg_lt {x y : Int64} : aCmp .lt (lg_cmp x y) 0 = decide (x < y) := by
  unfold aCmp lg_cmp
  dsimp only
  by_cases h1 : x > y
  · have h2 : ¬ x < y := by
      have h1 : y < x := h1
      rw [Int64.lt_iff_toInt_lt] at h1 ⊢
      omega
    rw [if_pos h1, decide_eq_false h2]
    decide
  · by_cases h2 : x = y
    · subst h2
      have h3 : ¬ x < x := h1
      rw [if_neg h1, if_pos rfl, decide_eq_false h3]
      decide
    · have h3 : x < y := by
        have h1 : ¬ y < x := h1
        rw [Int64.lt_iff_toInt_lt] at h1 ⊢
        have : x.toInt ≠ y.toInt := fun h => h2 (Int64.toInt_inj.mp h)
        omega
      rw [if_neg h1, if_neg h2, decide_eq_true h3]
      decide
theorem lg_gt {x y : Int64} : aCmp .gt (lg_cmp x y) 0 = decide (y < x) := by
  unfold aCmp lg_cmp
  dsimp only
  by_cases h1 : x > y
  · have h2 : y < x := h1
    rw [if_pos h1, decide_eq_true h2]
    decide
  · have h3 : ¬ y < x := h1
    rw [if_neg h1, decide_eq_false h3]
    by_cases h2 : x = y
    · rw [if_pos h2]; decide
    · rw [if_neg h2]; decide
theorem c_in (v lo hi : Int64) : aCal ko d 4 [.long v, .long lo, .long hi] σ (some (.int (b2i (lo ≤ v ∧ v ≤ hi)))) σ := by
  unfold aCal
  rw [ae_4]
  show aEv ko d 4 _ [.long v, aJk, .long lo, aJk, .long hi, aJk] [] σ _
  simp only [al_257, al_258, ev_lload, ev_lcmp, ev_ifCond, ev_iconst, ev_goto, ev_jsr, aJ, List.getElem?_cons_zero, List.getElem?_cons_succ, lg_lt, lg_gt, decide_eq_true_eq, oi_0, oi_1]
  unfold b2i
  by_cases h1 : v < lo
  · have h2 : ¬ (lo ≤ v ∧ v ≤ hi) := by
      rw [Int64.lt_iff_toInt_lt] at h1
      rw [Int64.le_iff_toInt_le, Int64.le_iff_toInt_le]
      omega
    rw [if_pos h1, if_neg h2, ev_freturn (Or.inl rfl)]
  · rw [if_neg h1]
    by_cases h3 : hi < v
    · have h2 : ¬ (lo ≤ v ∧ v ≤ hi) := by
        rw [Int64.lt_iff_toInt_lt] at h3
        rw [Int64.le_iff_toInt_le, Int64.le_iff_toInt_le]
        omega
      rw [if_pos h3, if_neg h2, ev_freturn (Or.inl rfl)]
    · have h2 : lo ≤ v ∧ v ≤ hi := by
        rw [Int64.lt_iff_toInt_lt] at h1 h3
        rw [Int64.le_iff_toInt_le, Int64.le_iff_toInt_le]
        omega
      rw [if_neg h3, if_pos h2, ev_freturn (Or.inr rfl)]
theorem c_fields {m : Nat} {fs : List Value} {rows cols : Int32} (h : σ[m]? = some (.inr (0, fs))) (h3 : fs[3]? = some (.int rows)) (h4 : fs[4]? = some (.int cols)) : aCal ko d 10 [.ref m] σ (some (.int (rows * cols))) σ := by
  unfold aCal
  rw [ae_10]
  show aEv ko d 10 _ [.ref m] [] σ _
  simp only [ev_aload, aR, List.getElem?_cons_zero]
  rw [ev_getfield h (v := .int rows) h3 rfl]
  simp only [ev_aload, aR, List.getElem?_cons_zero]
  rw [ev_getfield h (v := .int cols) h4 rfl]
  simp only [ev_imul, ev_ireturn]
theorem c_isField {m : Nat} {fs : List Value} {rows cols f : Int32} (h : σ[m]? = some (.inr (0, fs))) (h3 : fs[3]? = some (.int rows)) (h4 : fs[4]? = some (.int cols)) : aCal ko d 23 [.ref m, .int f] σ (some (.int (b2i ((0 : Int64) ≤ f.toInt64 ∧ f.toInt64 ≤ (rows * cols - 1).toInt64)))) σ := by
  unfold aCal
  rw [ae_23]
  show aEv ko d 23 _ [.ref m, .int f] [] σ _
  simp only [ev_iload, ev_aload, ev_i2l, ev_ldc2, aI, aR, List.getElem?_cons_zero, List.getElem?_cons_succ]
  refine (aEv_cal (As := [.ref m]) (c_fields h h3 h4) rfl rfl (aRecv_of h) (Nat.le_of_ble_eq_true rfl) (Nat.le_of_ble_eq_true rfl) (Nat.le_of_ble_eq_true rfl) rfl).mpr ?_
  simp only [Option.toList, List.cons_append, List.nil_append, ev_iconst, ev_isub, ev_i2l, oi_1]
  refine (aEv_cal (As := [.long f.toInt64, .long 0, .long (rows * cols - 1).toInt64]) (c_in _ _ _) rfl rfl rfl (Nat.le_of_ble_eq_true rfl) (Nat.le_of_ble_eq_true rfl) (Nat.le_of_ble_eq_true rfl) rfl).mpr ?_
  simp only [Option.toList, List.cons_append, List.nil_append]
  rw [ev_freturn (by unfold b2i; split <;> simp)]
end C1
