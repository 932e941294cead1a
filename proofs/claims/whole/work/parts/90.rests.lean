/-! rests. From wip/whole/src. -/
theorem i_sub3 (a b c : Int32) : a - b - c = a - (b + c) := by
  apply Int32.toBitVec_inj.mp
  rw [Int32.toBitVec_sub, Int32.toBitVec_sub, Int32.toBitVec_sub, Int32.toBitVec_add]
  apply BitVec.eq_of_toNat_eq
  rw [BitVec.toNat_sub, BitVec.toNat_sub, BitVec.toNat_sub, BitVec.toNat_add]
  omega
/-- what a man gets, of v, who puts in o where the other puts in w -/
def gnI (v o w : Nat) : Int32 := nI (v * min 9 (o + w) / 9) - nI (2 * o / 3 + b2n (w < o))
/-- whether he would not rather put in another share, of the first i -/
def ctn (v o w : Nat) : Nat → Bool
  | 0 => true
  | i + 1 => ctn v o w i && decide (gnI v i w ≤ gnI v o w)
section R1
variable {ko : aKo} {d k : Nat} {is : List Instr} {ls st : List Value} {σ : aH} {D : Nat → Nat} {N : Nat → Nat → Nat} {I : Nat → Nat → Int32} {J : Nat → Nat → Int64} {x t : Nat} {Q : Option Value → aH → Prop} {P : (Option Value ⊕ Unit) → aH → Prop}
theorem t_217 {v o w : Nat} (hv : v ≤ 20) (ho : o ≤ 9) (hw : w ≤ 9) : aMm ko d 217 [.int (nI v), .int (nI o), .int (nI w)] σ Q = Q (some (.int (gnI v o w))) σ := by
  have hb : v * min 9 (o + w) ≤ 20 * 9 := Nat.mul_le_mul hv (Nat.min_le_left _ _)
  unfold gnI
  rw [me_217]
  by_cases h : w < o
  · simp (disch := (first | omega | exact aCat_8 (by with_unfolding_all rfl) | exact rk_lt (by with_unfolding_all rfl) | exact aCat_16 (by with_unfolding_all rfl) | exact rk_eq (by with_unfolding_all rfl) | assumption | exact b2n_lt _ | exact id_b (by with_unfolding_all rfl) | (simp (disch := omega) only [u2_same, u2_ab, u2_aq]; done) | (simp (disch := omega) only [u2_same, u2_ab, u2_aq]; omega) | fail)) only [al_13888, wk_2, wp_iload_1, wp_imul, wk_3, wp_idivn, wp_iload_2, wn_le_t, wn_le_f, wk_1, wp_goto, al_13889, wk_0, wp_jsr, al_13890, wp_iadd, wp_istore_3, wp_iload_0, wk_9, wp_min, wp_iload_3, wp_isub, wp_ireturn, nl_i, nl_r, nl_k, nl_j, nl_l, nI_add, pk_mul, pk_sub, tl_s, tl_n, aL_inl, u2_same, u2_ab, u2_aq, nI_l, lN_i, Nat.add_zero, Nat.zero_add, Nat.zero_le, true_and, and_true, b2n_10, b2n_T, b2n_F, b2n_0, Decidable.not_not, not_true_eq_false, not_false_eq_true, Nat.reduceAdd, Nat.reduceMul, Nat.reduceSub, b2n_t h]
  · simp (disch := (first | omega | exact aCat_8 (by with_unfolding_all rfl) | exact rk_lt (by with_unfolding_all rfl) | exact aCat_16 (by with_unfolding_all rfl) | exact rk_eq (by with_unfolding_all rfl) | assumption | exact b2n_lt _ | exact id_b (by with_unfolding_all rfl) | (simp (disch := omega) only [u2_same, u2_ab, u2_aq]; done) | (simp (disch := omega) only [u2_same, u2_ab, u2_aq]; omega) | fail)) only [al_13888, wk_2, wp_iload_1, wp_imul, wk_3, wp_idivn, wp_iload_2, wn_le_t, wn_le_f, wk_1, wp_goto, al_13889, wk_0, wp_jsr, al_13890, wp_iadd, wp_istore_3, wp_iload_0, wk_9, wp_min, wp_iload_3, wp_isub, wp_ireturn, nl_i, nl_r, nl_k, nl_j, nl_l, nI_add, pk_mul, pk_sub, tl_s, tl_n, aL_inl, u2_same, u2_ab, u2_aq, nI_l, lN_i, Nat.add_zero, Nat.zero_add, Nat.zero_le, true_and, and_true, b2n_10, b2n_T, b2n_F, b2n_0, Decidable.not_not, not_true_eq_false, not_false_eq_true, Nat.reduceAdd, Nat.reduceMul, Nat.reduceSub, b2n_f h]
theorem t_101 {v o w : Nat} (hv : v ≤ 20) (ho : o ≤ 9) (hw : w ≤ 9) : aMm ko d 101 [.int (nI o), .int (nI w), .int (nI v)] σ Q = Q (some (.int (gnI v o w))) σ := by
  have hb : v * min 9 (o + w) ≤ 20 * 9 := Nat.mul_le_mul hv (Nat.min_le_left _ _)
  unfold gnI
  rw [me_101]
  by_cases h : w < o
  · simp (disch := (first | omega | exact aCat_8 (by with_unfolding_all rfl) | exact rk_lt (by with_unfolding_all rfl) | exact aCat_16 (by with_unfolding_all rfl) | exact rk_eq (by with_unfolding_all rfl) | assumption | exact b2n_lt _ | exact id_b (by with_unfolding_all rfl) | (simp (disch := omega) only [u2_same, u2_ab, u2_aq]; done) | (simp (disch := omega) only [u2_same, u2_ab, u2_aq]; omega) | fail)) only [al_6464, wp_iload_2, wk_9, wp_iload_0, wp_iload_1, wp_iadd, wp_min, wp_imul, wp_idivn, wk_2, wk_3, wp_isub, wn_le_t, wn_le_f, wk_1, wp_goto, al_6465, wk_0, wp_jsr, al_6466, wc_17, t_17, wp_ireturn, nl_i, nl_r, nl_k, nl_j, nl_l, nI_add, pk_mul, pk_sub, tl_s, tl_n, aL_inl, u2_same, u2_ab, u2_aq, nI_l, lN_i, Nat.add_zero, Nat.zero_add, Nat.zero_le, true_and, and_true, b2n_10, b2n_T, b2n_F, b2n_0, Decidable.not_not, not_true_eq_false, not_false_eq_true, Nat.reduceAdd, Nat.reduceMul, Nat.reduceSub, b2n_t h, i_sub3]
  · simp (disch := (first | omega | exact aCat_8 (by with_unfolding_all rfl) | exact rk_lt (by with_unfolding_all rfl) | exact aCat_16 (by with_unfolding_all rfl) | exact rk_eq (by with_unfolding_all rfl) | assumption | exact b2n_lt _ | exact id_b (by with_unfolding_all rfl) | (simp (disch := omega) only [u2_same, u2_ab, u2_aq]; done) | (simp (disch := omega) only [u2_same, u2_ab, u2_aq]; omega) | fail)) only [al_6464, wp_iload_2, wk_9, wp_iload_0, wp_iload_1, wp_iadd, wp_min, wp_imul, wp_idivn, wk_2, wk_3, wp_isub, wn_le_t, wn_le_f, wk_1, wp_goto, al_6465, wk_0, wp_jsr, al_6466, wc_17, t_17, wp_ireturn, nl_i, nl_r, nl_k, nl_j, nl_l, nI_add, pk_mul, pk_sub, tl_s, tl_n, aL_inl, u2_same, u2_ab, u2_aq, nI_l, lN_i, Nat.add_zero, Nat.zero_add, Nat.zero_le, true_and, and_true, b2n_10, b2n_T, b2n_F, b2n_0, Decidable.not_not, not_true_eq_false, not_false_eq_true, Nat.reduceAdd, Nat.reduceMul, Nat.reduceSub, b2n_f h, i_sub3]
end R1
