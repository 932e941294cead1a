/-! rests. From wip/whole/src. -/
theorem i_sub3 (a b c : Int32) : a - b - c = a - (b + c) := by
  apply Int32.toBitVec_inj.mp
  rw [Int32.toBitVec_sub, Int32.toBitVec_sub, Int32.toBitVec_sub, Int32.toBitVec_add]
  apply BitVec.eq_of_toNat_eq
  rw [BitVec.toNat_sub, BitVec.toNat_sub, BitVec.toNat_sub, BitVec.toNat_add]
  omega
/-- what a man gets, of v, who puts in o where the other puts in w -/
def gnI (v o w : Nat) : Int32 := nI (v * min 9 (o + w) / 9) - nI (2 * o / 3 + b2n (w < o))
/-- whether he would not rather put in another share, of the first i -/
def ctn (v o w : Nat) : Nat → Bool
  | 0 => true
  | i + 1 => ctn v o w i && decide (gnI v i w ≤ gnI v o w)
section R1
variable {ko : aKo} {d k : Nat} {is : List Instr} {ls st : List Value} {σ : aH} {D : Nat → Nat} {N : Nat → Nat → Nat} {I : Nat → Nat → Int32} {J : Nat → Nat → Int64} {x t : Nat} {Q : Option Value → aH → Prop} {P : (Option Value ⊕ Unit) → aH → Prop}
theorem t_217 {v o w : Nat} (hv : v ≤ 20) (ho : o ≤ 9) (hw : w ≤ 9) : aMm ko d 217 [.int (nI v), .int (nI o), .int (nI w)] σ Q = Q (some (.int (gnI v o w))) σ := by
  have hb : v * min 9 (o + w) ≤ 20 * 9 := Nat.mul_le_mul hv (Nat.min_le_left _ _)
  unfold gnI
  rw [me_217]
  by_cases h : w < o
  · simp (disch := (first | omega | exact aCat_8 (by with_unfolding_all rfl) | exact rk_lt (by with_unfolding_all rfl) | exact aCat_16 (by with_unfolding_all rfl) | exact rk_eq (by with_unfolding_all rfl) | assumption | exact b2n_lt _ | exact id_b (by with_unfolding_all rfl) | (simp (disch := omega) only [u2_same, u2_ab, u2_aq]; done) | (simp (disch := omega) only [u2_same, u2_ab, u2_aq]; omega) | fail)) only [al_13888, wk_2, wp_iload_1, wp_imul, wk_3, wp_idivn, wp_iload_2, wn_le_t, wn_le_f, wk_1, wp_goto, al_13889, wk_0, wp_jsr, al_13890, wp_iadd, wp_istore_3, wp_iload_0, wk_9, wp_min, wp_iload_3, wp_isub, wp_ireturn, nl_i, nl_r, nl_k, nl_j, nl_l, nI_add, pk_mul, pk_sub, tl_s, tl_n, aL_inl, u2_same, u2_ab, u2_aq, nI_l, lN_i, Nat.add_zero, Nat.zero_add, Nat.zero_le, true_and, and_true, b2n_10, b2n_T, b2n_F, b2n_0, Decidable.not_not, not_true_eq_false, not_false_eq_true, Nat.reduceAdd, Nat.reduceMul, Nat.reduceSub, b2n_t h]
  · simp (disch := (first | omega | exact aCat_8 (by with_unfolding_all rfl) | exact rk_lt (by with_unfolding_all rfl) | exact aCat_16 (by with_unfolding_all rfl) | exact rk_eq (by with_unfolding_all rfl) | assumption | exact b2n_lt _ | exact id_b (by with_unfolding_all rfl) | (simp (disch := omega) only [u2_same, u2_ab, u2_aq]; done) | (simp (disch := omega) only [u2_same, u2_ab, u2_aq]; omega) | fail)) only [al_13888, wk_2, wp_iload_1, wp_imul, wk_3, wp_idivn, wp_iload_2, wn_le_t, wn_le_f, wk_1, wp_goto, al_13889, wk_0, wp_jsr, al_13890, wp_iadd, wp_istore_3, wp_iload_0, wk_9, wp_min, wp_iload_3, wp_isub, wp_ireturn, nl_i, nl_r, nl_k, nl_j, nl_l, nI_add, pk_mul, pk_sub, tl_s, tl_n, aL_inl, u2_same, u2_ab, u2_aq, nI_l, lN_i, Nat.add_zero, Nat.zero_add, Nat.zero_le, true_and, and_true, b2n_10, b2n_T, b2n_F, b2n_0, Decidable.not_not, not_true_eq_false, not_false_eq_true, Nat.reduceAdd, Nat.reduceMul, Nat.reduceSub, b2n_f h]
theorem t_101 {v o w : Nat} (hv : v ≤ 20) (ho : o ≤ 9) (hw : w ≤ 9) : aMm ko d 101 [.int (nI o), .int (nI w), .int (nI v)] σ Q = Q (some (.int (gnI v o w))) σ := by
  have hb : v * min 9 (o + w) ≤ 20 * 9 := Nat.mul_le_mul hv (Nat.min_le_left _ _)
  unfold gnI
  rw [me_101]
  by_cases h : w < o
  · simp (disch := (first | omega | exact aCat_8 (by with_unfolding_all rfl) | exact rk_lt (by with_unfolding_all rfl) | exact aCat_16 (by with_unfolding_all rfl) | exact rk_eq (by with_unfolding_all rfl) | assumption | exact b2n_lt _ | exact id_b (by with_unfolding_all rfl) | (simp (disch := omega) only [u2_same, u2_ab, u2_aq]; done) | (simp (disch := omega) only [u2_same, u2_ab, u2_aq]; omega) | fail)) only [al_6464, wp_iload_2, wk_9, wp_iload_0, wp_iload_1, wp_iadd, wp_min, wp_imul, wp_idivn, wk_2, wk_3, wp_isub, wn_le_t, wn_le_f, wk_1, wp_goto, al_6465, wk_0, wp_jsr, al_6466, wc_17, t_17, wp_ireturn, nl_i, nl_r, nl_k, nl_j, nl_l, nI_add, pk_mul, pk_sub, tl_s, tl_n, aL_inl, u2_same, u2_ab, u2_aq, nI_l, lN_i, Nat.add_zero, Nat.zero_add, Nat.zero_le, true_and, and_true, b2n_10, b2n_T, b2n_F, b2n_0, Decidable.not_not, not_true_eq_false, not_false_eq_true, Nat.reduceAdd, Nat.reduceMul, Nat.reduceSub, b2n_t h, i_sub3]
  · simp (disch := (first | omega | exact aCat_8 (by with_unfolding_all rfl) | exact rk_lt (by with_unfolding_all rfl) | exact aCat_16 (by with_unfolding_all rfl) | exact rk_eq (by with_unfolding_all rfl) | assumption | exact b2n_lt _ | exact id_b (by with_unfolding_all rfl) | (simp (disch := omega) only [u2_same, u2_ab, u2_aq]; done) | (simp (disch := omega) only [u2_same, u2_ab, u2_aq]; omega) | fail)) only [al_6464, wp_iload_2, wk_9, wp_iload_0, wp_iload_1, wp_iadd, wp_min, wp_imul, wp_idivn, wk_2, wk_3, wp_isub, wn_le_t, wn_le_f, wk_1, wp_goto, al_6465, wk_0, wp_jsr, al_6466, wc_17, t_17, wp_ireturn, nl_i, nl_r, nl_k, nl_j, nl_l, nI_add, pk_mul, pk_sub, tl_s, tl_n, aL_inl, u2_same, u2_ab, u2_aq, nI_l, lN_i, Nat.add_zero, Nat.zero_add, Nat.zero_le, true_and, and_true, b2n_10, b2n_T, b2n_F, b2n_0, Decidable.not_not, not_true_eq_false, not_false_eq_true, Nat.reduceAdd, Nat.reduceMul, Nat.reduceSub, b2n_f h, i_sub3]
theorem ctn_f {v o w i : Nat} (h : ctn v o w i = false) : ∀ k, ctn v o w (i + k) = false
  | 0 => h
  | k + 1 => by
    show (ctn v o w (i + k) && _) = false
    rw [ctn_f h k]
    rfl
theorem l_216 {v o w : Nat} (hv : v ≤ 20) (ho : o ≤ 9) (hw : w ≤ 9) : ∀ j i : Nat, i + j = 10 → ctn v o w i = true → aWp ko d 216 (aP.1 (Int.toNat 13825)) [.int (nI v), .int (nI o), .int (nI w), .int (gnI v o w), .int (nI i)] [] σ (aL Q) = Q (some (.int (nI (b2n (ctn v o w 10 = true))))) σ := by
  intro j
  induction j with
  | zero =>
    intro i hi hc
    have e : i = 10 := by omega
    subst e
    rw [b2n_t hc]
    simp (disch := (first | omega | exact aCat_8 (by with_unfolding_all rfl) | exact rk_lt (by with_unfolding_all rfl) | exact aCat_16 (by with_unfolding_all rfl) | exact rk_eq (by with_unfolding_all rfl) | assumption | exact b2n_lt _ | exact id_b (by with_unfolding_all rfl) | (simp (disch := omega) only [u2_same, u2_ab, u2_aq]; done) | (simp (disch := omega) only [u2_same, u2_ab, u2_aq]; omega) | fail)) only [al_13824, wp_iload_0, wp_iload_1, wp_iload_2, wc_217, wp_istore_3, wk_0, wp_istore_4, wp_jsr, al_13825, wp_iload_4, wk_9, wn_gt_t, wn_gt_f, wp_iload_3, wn_le_t, wn_le_f, wp_freturn0, wp_freturn1, wp_freturnb, al_13826, wp_iinc_4_1, wp_goto, al_13827, wk_1, nl_i, nl_r, nl_k, nl_j, nl_l, nI_add, pk_mul, pk_sub, tl_s, tl_n, aL_inl, u2_same, u2_ab, u2_aq, nI_l, lN_i, Nat.add_zero, Nat.zero_add, Nat.zero_le, true_and, and_true, b2n_10, b2n_T, b2n_F, b2n_0, Decidable.not_not, not_true_eq_false, not_false_eq_true, Nat.reduceAdd, Nat.reduceMul, Nat.reduceSub]
  | succ j ih =>
    intro i hi hc
    rw [al_13825]
    by_cases hle : gnI v i w ≤ gnI v o w
    · have hc1 : ctn v o w (i + 1) = true := by
        show (ctn v o w i && decide (gnI v i w ≤ gnI v o w)) = true
        rw [hc, decide_eq_true hle]
        rfl
      simp (disch := (first | omega | exact aCat_8 (by with_unfolding_all rfl) | exact rk_lt (by with_unfolding_all rfl) | exact aCat_16 (by with_unfolding_all rfl) | exact rk_eq (by with_unfolding_all rfl) | assumption | exact b2n_lt _ | exact id_b (by with_unfolding_all rfl) | (simp (disch := omega) only [u2_same, u2_ab, u2_aq]; done) | (simp (disch := omega) only [u2_same, u2_ab, u2_aq]; omega) | fail)) only [al_13824, wp_iload_0, wp_iload_1, wp_iload_2, wc_217, wp_istore_3, wk_0, wp_istore_4, wp_jsr, wp_iload_4, wk_9, wn_gt_t, wn_gt_f, wp_iload_3, wn_le_t, wn_le_f, wp_freturn0, wp_freturn1, wp_freturnb, al_13826, wp_iinc_4_1, wp_goto, al_13827, wk_1, nl_i, nl_r, nl_k, nl_j, nl_l, nI_add, pk_mul, pk_sub, tl_s, tl_n, aL_inl, u2_same, u2_ab, u2_aq, nI_l, lN_i, Nat.add_zero, Nat.zero_add, Nat.zero_le, true_and, and_true, b2n_10, b2n_T, b2n_F, b2n_0, Decidable.not_not, not_true_eq_false, not_false_eq_true, Nat.reduceAdd, Nat.reduceMul, Nat.reduceSub, t_217 hv (show i ≤ 9 by omega) hw, wx_le_t hle]
      exact ih (i + 1) (by omega) hc1
    · have hc1 : ctn v o w (i + 1) = false := by
        show (ctn v o w i && decide (gnI v i w ≤ gnI v o w)) = false
        rw [decide_eq_false hle, Bool.and_false]
      have hc2 : ¬ ctn v o w 10 = true := by
        have := ctn_f hc1 j
        rw [show i + 1 + j = 10 by omega] at this
        rw [this]
        decide
      rw [b2n_f hc2]
      simp (disch := (first | omega | exact aCat_8 (by with_unfolding_all rfl) | exact rk_lt (by with_unfolding_all rfl) | exact aCat_16 (by with_unfolding_all rfl) | exact rk_eq (by with_unfolding_all rfl) | assumption | exact b2n_lt _ | exact id_b (by with_unfolding_all rfl) | (simp (disch := omega) only [u2_same, u2_ab, u2_aq]; done) | (simp (disch := omega) only [u2_same, u2_ab, u2_aq]; omega) | fail)) only [al_13824, wp_iload_0, wp_iload_1, wp_iload_2, wc_217, wp_istore_3, wk_0, wp_istore_4, wp_jsr, wp_iload_4, wk_9, wn_gt_t, wn_gt_f, wp_iload_3, wn_le_t, wn_le_f, wp_freturn0, wp_freturn1, wp_freturnb, al_13826, wp_iinc_4_1, wp_goto, al_13827, wk_1, nl_i, nl_r, nl_k, nl_j, nl_l, nI_add, pk_mul, pk_sub, tl_s, tl_n, aL_inl, u2_same, u2_ab, u2_aq, nI_l, lN_i, Nat.add_zero, Nat.zero_add, Nat.zero_le, true_and, and_true, b2n_10, b2n_T, b2n_F, b2n_0, Decidable.not_not, not_true_eq_false, not_false_eq_true, Nat.reduceAdd, Nat.reduceMul, Nat.reduceSub, t_217 hv (show i ≤ 9 by omega) hw, wx_le_f hle]
theorem t_216 {v o w : Nat} (hv : v ≤ 20) (ho : o ≤ 9) (hw : w ≤ 9) : aMm ko d 216 [.int (nI v), .int (nI o), .int (nI w)] σ Q = Q (some (.int (nI (b2n (ctn v o w 10 = true))))) σ := by
  rw [me_216]
  simp (disch := (first | omega | exact aCat_8 (by with_unfolding_all rfl) | exact rk_lt (by with_unfolding_all rfl) | exact aCat_16 (by with_unfolding_all rfl) | exact rk_eq (by with_unfolding_all rfl) | assumption | exact b2n_lt _ | exact id_b (by with_unfolding_all rfl) | (simp (disch := omega) only [u2_same, u2_ab, u2_aq]; done) | (simp (disch := omega) only [u2_same, u2_ab, u2_aq]; omega) | fail)) only [al_13824, wp_iload_0, wp_iload_1, wp_iload_2, wc_217, wp_istore_3, wk_0, wp_istore_4, wp_jsr, wp_iload_4, wk_9, wn_gt_t, wn_gt_f, wp_iload_3, wn_le_t, wn_le_f, wp_freturn0, wp_freturn1, wp_freturnb, al_13826, wp_iinc_4_1, wp_goto, al_13827, wk_1, nl_i, nl_r, nl_k, nl_j, nl_l, nI_add, pk_mul, pk_sub, tl_s, tl_n, aL_inl, u2_same, u2_ab, u2_aq, nI_l, lN_i, Nat.add_zero, Nat.zero_add, Nat.zero_le, true_and, and_true, b2n_10, b2n_T, b2n_F, b2n_0, Decidable.not_not, not_true_eq_false, not_false_eq_true, Nat.reduceAdd, Nat.reduceMul, Nat.reduceSub, t_217 hv ho hw]
  exact l_216 hv ho hw 10 0 rfl rfl
theorem l_100 {v o w : Nat} (hv : v ≤ 20) (ho : o ≤ 9) (hw : w ≤ 9) : ∀ j i : Nat, i + j = 10 → aWp ko d 100 (aP.1 (Int.toNat 6401)) [.int (nI o), .int (nI w), .int (nI v), .int (nI (b2n (ctn v o w i = true))), .int (nI i)] [] σ (aL Q) = Q (some (.int (nI (b2n (ctn v o w 10 = true))))) σ := by
  intro j
  induction j with
  | zero =>
    intro i hi
    have e : i = 10 := by omega
    subst e
    simp (disch := (first | omega | exact aCat_8 (by with_unfolding_all rfl) | exact rk_lt (by with_unfolding_all rfl) | exact aCat_16 (by with_unfolding_all rfl) | exact rk_eq (by with_unfolding_all rfl) | assumption | exact b2n_lt _ | exact id_b (by with_unfolding_all rfl) | (simp (disch := omega) only [u2_same, u2_ab, u2_aq]; done) | (simp (disch := omega) only [u2_same, u2_ab, u2_aq]; omega) | fail)) only [al_6400, wk_1, wp_istore_3, wk_0, wp_istore_4, wp_jsr, al_6401, wp_iload_4, wk_9, wn_gt_t, wn_gt_f, wp_iload_3, wz_eq_t, wz_eq_f, wb_eq_t, wb_eq_f, wm_eq_1, wm_eq_2, wp_iload_1, wp_iload_2, wc_101, wp_iload_0, wp_goto, al_6402, al_6403, wp_iinc_4_1, al_6404, wp_freturn0, wp_freturn1, wp_freturnb, nl_i, nl_r, nl_k, nl_j, nl_l, nI_add, pk_mul, pk_sub, tl_s, tl_n, aL_inl, u2_same, u2_ab, u2_aq, nI_l, lN_i, Nat.add_zero, Nat.zero_add, Nat.zero_le, true_and, and_true, b2n_10, b2n_T, b2n_F, b2n_0, Decidable.not_not, not_true_eq_false, not_false_eq_true, Nat.reduceAdd, Nat.reduceMul, Nat.reduceSub]
  | succ j ih =>
    intro i hi
    have ih1 := ih (i + 1) (by omega)
    have es : ctn v o w (i + 1) = (ctn v o w i && decide (gnI v i w ≤ gnI v o w)) := rfl
    rw [al_6401]
    by_cases hc : ctn v o w i = true
    · rw [es, hc, Bool.true_and] at ih1
      rw [b2n_t hc]
      by_cases hle : gnI v i w ≤ gnI v o w
      · have hng : ¬ gnI v o w < gnI v i w := Int32.not_lt.mpr hle
        rw [decide_eq_true hle, b2n_t rfl] at ih1
        simp (disch := (first | omega | exact aCat_8 (by with_unfolding_all rfl) | exact rk_lt (by with_unfolding_all rfl) | exact aCat_16 (by with_unfolding_all rfl) | exact rk_eq (by with_unfolding_all rfl) | assumption | exact b2n_lt _ | exact id_b (by with_unfolding_all rfl) | (simp (disch := omega) only [u2_same, u2_ab, u2_aq]; done) | (simp (disch := omega) only [u2_same, u2_ab, u2_aq]; omega) | fail)) only [al_6400, wk_1, wp_istore_3, wk_0, wp_istore_4, wp_jsr, wp_iload_4, wk_9, wn_gt_t, wn_gt_f, wp_iload_3, wz_eq_t, wz_eq_f, wb_eq_t, wb_eq_f, wm_eq_1, wm_eq_2, wp_iload_1, wp_iload_2, wc_101, wp_iload_0, wp_goto, al_6402, al_6403, wp_iinc_4_1, al_6404, wp_freturn0, wp_freturn1, wp_freturnb, nl_i, nl_r, nl_k, nl_j, nl_l, nI_add, pk_mul, pk_sub, tl_s, tl_n, aL_inl, u2_same, u2_ab, u2_aq, nI_l, lN_i, Nat.add_zero, Nat.zero_add, Nat.zero_le, true_and, and_true, b2n_10, b2n_T, b2n_F, b2n_0, Decidable.not_not, not_true_eq_false, not_false_eq_true, Nat.reduceAdd, Nat.reduceMul, Nat.reduceSub, t_101 hv (show i ≤ 9 by omega) hw, t_101 hv ho hw, wx_gt_f hng]
        exact ih1
      · have hg : gnI v o w < gnI v i w := Int32.not_le.mp hle
        rw [decide_eq_false hle, b2n_f (by decide)] at ih1
        simp (disch := (first | omega | exact aCat_8 (by with_unfolding_all rfl) | exact rk_lt (by with_unfolding_all rfl) | exact aCat_16 (by with_unfolding_all rfl) | exact rk_eq (by with_unfolding_all rfl) | assumption | exact b2n_lt _ | exact id_b (by with_unfolding_all rfl) | (simp (disch := omega) only [u2_same, u2_ab, u2_aq]; done) | (simp (disch := omega) only [u2_same, u2_ab, u2_aq]; omega) | fail)) only [al_6400, wk_1, wp_istore_3, wk_0, wp_istore_4, wp_jsr, wp_iload_4, wk_9, wn_gt_t, wn_gt_f, wp_iload_3, wz_eq_t, wz_eq_f, wb_eq_t, wb_eq_f, wm_eq_1, wm_eq_2, wp_iload_1, wp_iload_2, wc_101, wp_iload_0, wp_goto, al_6402, al_6403, wp_iinc_4_1, al_6404, wp_freturn0, wp_freturn1, wp_freturnb, nl_i, nl_r, nl_k, nl_j, nl_l, nI_add, pk_mul, pk_sub, tl_s, tl_n, aL_inl, u2_same, u2_ab, u2_aq, nI_l, lN_i, Nat.add_zero, Nat.zero_add, Nat.zero_le, true_and, and_true, b2n_10, b2n_T, b2n_F, b2n_0, Decidable.not_not, not_true_eq_false, not_false_eq_true, Nat.reduceAdd, Nat.reduceMul, Nat.reduceSub, t_101 hv (show i ≤ 9 by omega) hw, t_101 hv ho hw, wx_gt_t hg]
        exact ih1
    · have hcf : ctn v o w i = false := by simpa using hc
      rw [es, hcf, Bool.false_and, b2n_f (by decide)] at ih1
      rw [b2n_f hc]
      simp (disch := (first | omega | exact aCat_8 (by with_unfolding_all rfl) | exact rk_lt (by with_unfolding_all rfl) | exact aCat_16 (by with_unfolding_all rfl) | exact rk_eq (by with_unfolding_all rfl) | assumption | exact b2n_lt _ | exact id_b (by with_unfolding_all rfl) | (simp (disch := omega) only [u2_same, u2_ab, u2_aq]; done) | (simp (disch := omega) only [u2_same, u2_ab, u2_aq]; omega) | fail)) only [al_6400, wk_1, wp_istore_3, wk_0, wp_istore_4, wp_jsr, wp_iload_4, wk_9, wn_gt_t, wn_gt_f, wp_iload_3, wz_eq_t, wz_eq_f, wb_eq_t, wb_eq_f, wm_eq_1, wm_eq_2, wp_iload_1, wp_iload_2, wc_101, wp_iload_0, wp_goto, al_6402, al_6403, wp_iinc_4_1, al_6404, wp_freturn0, wp_freturn1, wp_freturnb, nl_i, nl_r, nl_k, nl_j, nl_l, nI_add, pk_mul, pk_sub, tl_s, tl_n, aL_inl, u2_same, u2_ab, u2_aq, nI_l, lN_i, Nat.add_zero, Nat.zero_add, Nat.zero_le, true_and, and_true, b2n_10, b2n_T, b2n_F, b2n_0, Decidable.not_not, not_true_eq_false, not_false_eq_true, Nat.reduceAdd, Nat.reduceMul, Nat.reduceSub]
      exact ih1
theorem t_100 {v o w : Nat} (hv : v ≤ 20) (ho : o ≤ 9) (hw : w ≤ 9) : aMm ko d 100 [.int (nI o), .int (nI w), .int (nI v)] σ Q = Q (some (.int (nI (b2n (ctn v o w 10 = true))))) σ := by
  have h := @l_100 ko d σ Q v o w hv ho hw 10 0 rfl
  have e : ctn v o w 0 = true := rfl
  rw [b2n_t e] at h
  rw [me_100]
  simp (disch := (first | omega | exact aCat_8 (by with_unfolding_all rfl) | exact rk_lt (by with_unfolding_all rfl) | exact aCat_16 (by with_unfolding_all rfl) | exact rk_eq (by with_unfolding_all rfl) | assumption | exact b2n_lt _ | exact id_b (by with_unfolding_all rfl) | (simp (disch := omega) only [u2_same, u2_ab, u2_aq]; done) | (simp (disch := omega) only [u2_same, u2_ab, u2_aq]; omega) | fail)) only [al_6400, wk_1, wp_istore_3, wk_0, wp_istore_4, wp_jsr, wp_iload_4, wk_9, wn_gt_t, wn_gt_f, wp_iload_3, wz_eq_t, wz_eq_f, wb_eq_t, wb_eq_f, wm_eq_1, wm_eq_2, wp_iload_1, wp_iload_2, wc_101, wp_iload_0, wp_goto, al_6402, al_6403, wp_iinc_4_1, al_6404, wp_freturn0, wp_freturn1, wp_freturnb, nl_i, nl_r, nl_k, nl_j, nl_l, nI_add, pk_mul, pk_sub, tl_s, tl_n, aL_inl, u2_same, u2_ab, u2_aq, nI_l, lN_i, Nat.add_zero, Nat.zero_add, Nat.zero_le, true_and, and_true, b2n_10, b2n_T, b2n_F, b2n_0, Decidable.not_not, not_true_eq_false, not_false_eq_true, Nat.reduceAdd, Nat.reduceMul, Nat.reduceSub]
  exact h
end R1
