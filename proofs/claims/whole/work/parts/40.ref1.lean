/-! LEAVES of the reference, as equations of weakest preconditions. From wip/whole/src. -/
section R1
variable {ko : aKo} {d k : Nat} {is : List Instr} {ls st : List Value} {σ : aH} {D : Nat → Nat} {N : Nat → Nat → Nat} {I : Nat → Nat → Int32} {J : Nat → Nat → Int64} {x : Nat} {Q : Option Value → aH → Prop} {P : (Option Value ⊕ Unit) → aH → Prop}
theorem lg_eq {x y : Int64} : aCmp .eq (lg_cmp x y) 0 = decide (x = y) := by
  unfold aCmp lg_cmp
  dsimp only
  by_cases h1 : x > y
  · have h2 : ¬ x = y := by
      intro e
      have h1 : y < x := h1
      rw [Int64.lt_iff_toInt_lt, e] at h1
      omega
    rw [if_pos h1, decide_eq_false h2]
    decide
  · by_cases h2 : x = y
    · rw [if_neg h1, if_pos h2, decide_eq_true h2]; decide
    · rw [if_neg h1, if_neg h2, decide_eq_false h2]; decide
theorem lg_ne {x y : Int64} : aCmp .ne (lg_cmp x y) 0 = decide (¬ x = y) := by
  have h : decide (lg_cmp x y = 0) = decide (x = y) := @lg_eq x y
  show decide (¬ lg_cmp x y = 0) = _
  by_cases e : x = y
  · rw [decide_eq_true e] at h
    have h1 : lg_cmp x y = 0 := of_decide_eq_true h
    rw [decide_eq_false (fun q => q h1), decide_eq_false (fun q => q e)]
  · rw [decide_eq_false e] at h
    have h1 : ¬ lg_cmp x y = 0 := of_decide_eq_false h
    rw [decide_eq_true h1, decide_eq_true e]
theorem t_4 {v lo hi : Int64} : aMm ko d 4 [.long v, .long lo, .long hi] σ Q = Q (some (.int (nI (b2n (lo ≤ v ∧ v ≤ hi))))) σ := by
  rw [me_4]
  by_cases h1 : v < lo
  · have h2 : ¬ (lo ≤ v ∧ v ≤ hi) := by
      rw [Int64.lt_iff_toInt_lt] at h1
      rw [Int64.le_iff_toInt_le, Int64.le_iff_toInt_le]
      omega
    rw [b2n_f h2]
    simp (disch := (first | omega | exact aCat_8 (by with_unfolding_all rfl) | exact rk_lt (by with_unfolding_all rfl) | exact aCat_16 (by with_unfolding_all rfl) | exact rk_eq (by with_unfolding_all rfl) | assumption | exact b2n_lt _ | exact id_b (by with_unfolding_all rfl) | (simp (disch := omega) only [u2_same, u2_ab, u2_aq]; done) | (simp (disch := omega) only [u2_same, u2_ab, u2_aq]; omega) | fail)) only [al_256, wp_lload_0, wp_lload_2, wp_lcmp, wz_lt_t, wz_lt_f, wm_lt_1, wm_lt_2, wp_lload_4, wz_gt_t, wz_gt_f, wm_gt_1, wm_gt_2, wk_1, wp_goto, al_257, wk_0, wp_jsr, al_258, wp_freturn0, wp_freturn1, wp_freturnb, nl_i, nl_r, nl_k, nl_j, nl_l, nI_add, pk_mul, pk_sub, tl_s, tl_n, aL_inl, u2_same, u2_ab, u2_aq, nI_l, lN_i, Nat.add_zero, Nat.zero_add, Nat.zero_le, true_and, and_true, b2n_10, b2n_T, b2n_F, b2n_0, Decidable.not_not, not_true_eq_false, not_false_eq_true, Nat.reduceAdd, Nat.reduceMul, wp_ifc, lg_lt, lg_gt, decide_eq_true_eq, h1, if_true]
  · by_cases h3 : hi < v
    · have h2 : ¬ (lo ≤ v ∧ v ≤ hi) := by
        rw [Int64.lt_iff_toInt_lt] at h3
        rw [Int64.le_iff_toInt_le, Int64.le_iff_toInt_le]
        omega
      rw [b2n_f h2]
      simp (disch := (first | omega | exact aCat_8 (by with_unfolding_all rfl) | exact rk_lt (by with_unfolding_all rfl) | exact aCat_16 (by with_unfolding_all rfl) | exact rk_eq (by with_unfolding_all rfl) | assumption | exact b2n_lt _ | exact id_b (by with_unfolding_all rfl) | (simp (disch := omega) only [u2_same, u2_ab, u2_aq]; done) | (simp (disch := omega) only [u2_same, u2_ab, u2_aq]; omega) | fail)) only [al_256, wp_lload_0, wp_lload_2, wp_lcmp, wz_lt_t, wz_lt_f, wm_lt_1, wm_lt_2, wp_lload_4, wz_gt_t, wz_gt_f, wm_gt_1, wm_gt_2, wk_1, wp_goto, al_257, wk_0, wp_jsr, al_258, wp_freturn0, wp_freturn1, wp_freturnb, nl_i, nl_r, nl_k, nl_j, nl_l, nI_add, pk_mul, pk_sub, tl_s, tl_n, aL_inl, u2_same, u2_ab, u2_aq, nI_l, lN_i, Nat.add_zero, Nat.zero_add, Nat.zero_le, true_and, and_true, b2n_10, b2n_T, b2n_F, b2n_0, Decidable.not_not, not_true_eq_false, not_false_eq_true, Nat.reduceAdd, Nat.reduceMul, wp_ifc, lg_lt, lg_gt, decide_eq_true_eq, h1, h3, if_true, if_false]
    · have h2 : lo ≤ v ∧ v ≤ hi := by
        rw [Int64.lt_iff_toInt_lt] at h1 h3
        rw [Int64.le_iff_toInt_le, Int64.le_iff_toInt_le]
        omega
      rw [b2n_t h2]
      simp (disch := (first | omega | exact aCat_8 (by with_unfolding_all rfl) | exact rk_lt (by with_unfolding_all rfl) | exact aCat_16 (by with_unfolding_all rfl) | exact rk_eq (by with_unfolding_all rfl) | assumption | exact b2n_lt _ | exact id_b (by with_unfolding_all rfl) | (simp (disch := omega) only [u2_same, u2_ab, u2_aq]; done) | (simp (disch := omega) only [u2_same, u2_ab, u2_aq]; omega) | fail)) only [al_256, wp_lload_0, wp_lload_2, wp_lcmp, wz_lt_t, wz_lt_f, wm_lt_1, wm_lt_2, wp_lload_4, wz_gt_t, wz_gt_f, wm_gt_1, wm_gt_2, wk_1, wp_goto, al_257, wk_0, wp_jsr, al_258, wp_freturn0, wp_freturn1, wp_freturnb, nl_i, nl_r, nl_k, nl_j, nl_l, nI_add, pk_mul, pk_sub, tl_s, tl_n, aL_inl, u2_same, u2_ab, u2_aq, nI_l, lN_i, Nat.add_zero, Nat.zero_add, Nat.zero_le, true_and, and_true, b2n_10, b2n_T, b2n_F, b2n_0, Decidable.not_not, not_true_eq_false, not_false_eq_true, Nat.reduceAdd, Nat.reduceMul, wp_ifc, lg_lt, lg_gt, decide_eq_true_eq, h1, h3, if_true, if_false]
theorem t_17 {v : Nat} (h : v < 2147483648) : aMm ko d 17 [.int (nI v)] σ Q = Q (some (.int (nI (b2n (¬ v = 0))))) σ := by
  rw [me_17]
  by_cases h1 : v = 0
  · rw [b2n_f (fun q => q h1)]
    simp (disch := (first | omega | exact aCat_8 (by with_unfolding_all rfl) | exact rk_lt (by with_unfolding_all rfl) | exact aCat_16 (by with_unfolding_all rfl) | exact rk_eq (by with_unfolding_all rfl) | assumption | exact b2n_lt _ | exact id_b (by with_unfolding_all rfl) | (simp (disch := omega) only [u2_same, u2_ab, u2_aq]; done) | (simp (disch := omega) only [u2_same, u2_ab, u2_aq]; omega) | fail)) only [al_1088, wp_iload_0, wz_eq_t, wz_eq_f, wb_eq_t, wb_eq_f, wm_eq_1, wm_eq_2, wk_1, wp_goto, al_1089, wk_0, wp_jsr, al_1090, wp_ireturn, nl_i, nl_r, nl_k, nl_j, nl_l, nI_add, pk_mul, pk_sub, tl_s, tl_n, aL_inl, u2_same, u2_ab, u2_aq, nI_l, lN_i, Nat.add_zero, Nat.zero_add, Nat.zero_le, true_and, and_true, b2n_10, b2n_T, b2n_F, b2n_0, Decidable.not_not, not_true_eq_false, not_false_eq_true, Nat.reduceAdd, Nat.reduceMul]
  · rw [b2n_t h1]
    simp (disch := (first | omega | exact aCat_8 (by with_unfolding_all rfl) | exact rk_lt (by with_unfolding_all rfl) | exact aCat_16 (by with_unfolding_all rfl) | exact rk_eq (by with_unfolding_all rfl) | assumption | exact b2n_lt _ | exact id_b (by with_unfolding_all rfl) | (simp (disch := omega) only [u2_same, u2_ab, u2_aq]; done) | (simp (disch := omega) only [u2_same, u2_ab, u2_aq]; omega) | fail)) only [al_1088, wp_iload_0, wz_eq_t, wz_eq_f, wb_eq_t, wb_eq_f, wm_eq_1, wm_eq_2, wk_1, wp_goto, al_1089, wk_0, wp_jsr, al_1090, wp_ireturn, nl_i, nl_r, nl_k, nl_j, nl_l, nI_add, pk_mul, pk_sub, tl_s, tl_n, aL_inl, u2_same, u2_ab, u2_aq, nI_l, lN_i, Nat.add_zero, Nat.zero_add, Nat.zero_le, true_and, and_true, b2n_10, b2n_T, b2n_F, b2n_0, Decidable.not_not, not_true_eq_false, not_false_eq_true, Nat.reduceAdd, Nat.reduceMul]
theorem t_10 : aMm ko d 10 [.ref 86] (hp D N I J x) Q = Q (some (.int (nI (D 0 * D 1)))) (hp D N I J x) := by
  rw [me_10]
  simp (disch := (first | omega | exact aCat_8 (by with_unfolding_all rfl) | exact rk_lt (by with_unfolding_all rfl) | exact aCat_16 (by with_unfolding_all rfl) | exact rk_eq (by with_unfolding_all rfl) | assumption | exact b2n_lt _ | exact id_b (by with_unfolding_all rfl) | (simp (disch := omega) only [u2_same, u2_ab, u2_aq]; done) | (simp (disch := omega) only [u2_same, u2_ab, u2_aq]; omega) | fail)) only [al_640, wp_aloadr_0, wp_aloadk_0, hg_86_3, hg_86_4, wp_imul, wp_ireturn, nl_i, nl_r, nl_k, nl_j, nl_l, nI_add, pk_mul, pk_sub, tl_s, tl_n, aL_inl, u2_same, u2_ab, u2_aq, nI_l, lN_i, Nat.add_zero, Nat.zero_add, Nat.zero_le, true_and, and_true, b2n_10, b2n_T, b2n_F, b2n_0, Decidable.not_not, not_true_eq_false, not_false_eq_true, Nat.reduceAdd, Nat.reduceMul]
theorem t_1 : aMm ko d 1 [.ref 86] (hp D N I J x) Q = Q (some (.int (nI (N 86 0)))) (hp D N I J x) := by
  rw [me_1]
  simp (disch := (first | omega | exact aCat_8 (by with_unfolding_all rfl) | exact rk_lt (by with_unfolding_all rfl) | exact aCat_16 (by with_unfolding_all rfl) | exact rk_eq (by with_unfolding_all rfl) | assumption | exact b2n_lt _ | exact id_b (by with_unfolding_all rfl) | (simp (disch := omega) only [u2_same, u2_ab, u2_aq]; done) | (simp (disch := omega) only [u2_same, u2_ab, u2_aq]; omega) | fail)) only [al_64, wp_aloadr_0, wp_aloadk_0, hg_86_0, wp_ireturn, nl_i, nl_r, nl_k, nl_j, nl_l, nI_add, pk_mul, pk_sub, tl_s, tl_n, aL_inl, u2_same, u2_ab, u2_aq, nI_l, lN_i, Nat.add_zero, Nat.zero_add, Nat.zero_le, true_and, and_true, b2n_10, b2n_T, b2n_F, b2n_0, Decidable.not_not, not_true_eq_false, not_false_eq_true, Nat.reduceAdd, Nat.reduceMul]
theorem t_24 : aMm ko d 24 [.ref 86] (hp D N I J x) Q = Q (some (.int (nI 0))) (hp D (u2 N 86 0 1) I J x) := by
  rw [me_24]
  simp (disch := (first | omega | exact aCat_8 (by with_unfolding_all rfl) | exact rk_lt (by with_unfolding_all rfl) | exact aCat_16 (by with_unfolding_all rfl) | exact rk_eq (by with_unfolding_all rfl) | assumption | exact b2n_lt _ | exact id_b (by with_unfolding_all rfl) | (simp (disch := omega) only [u2_same, u2_ab, u2_aq]; done) | (simp (disch := omega) only [u2_same, u2_ab, u2_aq]; omega) | fail)) only [al_1536, wp_aloadr_0, wp_aloadk_0, wk_1, hp_86_0, wk_0, wp_ireturn, nl_i, nl_r, nl_k, nl_j, nl_l, nI_add, pk_mul, pk_sub, tl_s, tl_n, aL_inl, u2_same, u2_ab, u2_aq, nI_l, lN_i, Nat.add_zero, Nat.zero_add, Nat.zero_le, true_and, and_true, b2n_10, b2n_T, b2n_F, b2n_0, Decidable.not_not, not_true_eq_false, not_false_eq_true, Nat.reduceAdd, Nat.reduceMul]
theorem t_28 {f : Nat} (h : f < 2147483648) (hC : D 1 ≤ D 0 * D 1) (hF : D 0 * D 1 ≤ 36) : aMm ko d 28 [.ref 86, .int (nI f)] (hp D N I J x) Q = Q (some (.int (nI (b2n (D 0 * D 1 - D 1 ≤ f))))) (hp D N I J x) := by
  rw [me_28]
  by_cases h1 : D 0 * D 1 - D 1 ≤ f
  · rw [b2n_t h1]
    simp (disch := (first | omega | exact aCat_8 (by with_unfolding_all rfl) | exact rk_lt (by with_unfolding_all rfl) | exact aCat_16 (by with_unfolding_all rfl) | exact rk_eq (by with_unfolding_all rfl) | assumption | exact b2n_lt _ | exact id_b (by with_unfolding_all rfl) | (simp (disch := omega) only [u2_same, u2_ab, u2_aq]; done) | (simp (disch := omega) only [u2_same, u2_ab, u2_aq]; omega) | fail)) only [al_1792, wp_iload_1, wp_aloadr_0, wp_aloadk_0, wc_10, t_10, hg_86_4, wp_isub, wn_lt_t, wn_lt_f, wk_1, wp_goto, al_1793, wk_0, wp_jsr, al_1794, wp_freturn0, wp_freturn1, wp_freturnb, nl_i, nl_r, nl_k, nl_j, nl_l, nI_add, pk_mul, pk_sub, tl_s, tl_n, aL_inl, u2_same, u2_ab, u2_aq, nI_l, lN_i, Nat.add_zero, Nat.zero_add, Nat.zero_le, true_and, and_true, b2n_10, b2n_T, b2n_F, b2n_0, Decidable.not_not, not_true_eq_false, not_false_eq_true, Nat.reduceAdd, Nat.reduceMul, t_10]
  · rw [b2n_f h1]
    simp (disch := (first | omega | exact aCat_8 (by with_unfolding_all rfl) | exact rk_lt (by with_unfolding_all rfl) | exact aCat_16 (by with_unfolding_all rfl) | exact rk_eq (by with_unfolding_all rfl) | assumption | exact b2n_lt _ | exact id_b (by with_unfolding_all rfl) | (simp (disch := omega) only [u2_same, u2_ab, u2_aq]; done) | (simp (disch := omega) only [u2_same, u2_ab, u2_aq]; omega) | fail)) only [al_1792, wp_iload_1, wp_aloadr_0, wp_aloadk_0, wc_10, t_10, hg_86_4, wp_isub, wn_lt_t, wn_lt_f, wk_1, wp_goto, al_1793, wk_0, wp_jsr, al_1794, wp_freturn0, wp_freturn1, wp_freturnb, nl_i, nl_r, nl_k, nl_j, nl_l, nI_add, pk_mul, pk_sub, tl_s, tl_n, aL_inl, u2_same, u2_ab, u2_aq, nI_l, lN_i, Nat.add_zero, Nat.zero_add, Nat.zero_le, true_and, and_true, b2n_10, b2n_T, b2n_F, b2n_0, Decidable.not_not, not_true_eq_false, not_false_eq_true, Nat.reduceAdd, Nat.reduceMul, t_10]
theorem ra_kl {r : Nat} (h : r = 89 ∨ r = 90) (D n : Nat → Nat) (f : Nat → Int32) (g : Nat → Int64) : kl r D n f g = .inl (.int, 111, .inl (fun q => nI (n q))) := by rcases h with rfl | rfl <;> rfl
theorem ra_l {r : Nat} (h : r = 89 ∨ r = 90) {j : Nat} (hj : j < 111) : aWp ko d k (.iaload :: is) ls (.int (nI j) :: .ref r :: st) (hp D N I J x) P = aWp ko d k is ls (.int (nI (N r j)) :: st) (hp D N I J x) P := hl_N (by rcases h with rfl | rfl <;> decide) (ra_kl h _ _ _ _) hj (by decide)
theorem ra_s {r : Nat} (h : r = 89 ∨ r = 90) {j v : Nat} (hj : j < 111) : aWp ko d k (.iastore :: is) ls (.int (nI v) :: .int (nI j) :: .ref r :: st) (hp D N I J x) P = aWp ko d k is ls st (hp D (u2 N r j v) I J x) P := hs_N (by rcases h with rfl | rfl <;> decide) (ra_kl h) hj (by decide)
theorem t_26 {r f : Nat} (hr : r = 89 ∨ r = 90) (hf : 36 + f < 111) (hb : N r (36 + f) ≤ 1) : aMm ko d 26 [.ref r, .int (nI f)] (hp D N I J x) Q = Q (some (.int (nI (b2n (N r (36 + f) = 1))))) (hp D N I J x) := by
  rw [me_26]
  by_cases h1 : N r (36 + f) = 1
  · rw [b2n_t h1]
    simp (disch := (first | omega | exact aCat_8 (by with_unfolding_all rfl) | exact rk_lt (by with_unfolding_all rfl) | exact aCat_16 (by with_unfolding_all rfl) | exact rk_eq (by with_unfolding_all rfl) | assumption | exact b2n_lt _ | exact id_b (by with_unfolding_all rfl) | (simp (disch := omega) only [u2_same, u2_ab, u2_aq]; done) | (simp (disch := omega) only [u2_same, u2_ab, u2_aq]; omega) | fail)) only [al_1664, wp_aloadr_0, wp_aloadk_0, wk_36, wp_iload_1, wp_iadd, wk_1, wn_ne_t, wn_ne_f, wp_goto, al_1665, wk_0, wp_jsr, al_1666, wp_freturn0, wp_freturn1, wp_freturnb, nl_i, nl_r, nl_k, nl_j, nl_l, nI_add, pk_mul, pk_sub, tl_s, tl_n, aL_inl, u2_same, u2_ab, u2_aq, nI_l, lN_i, Nat.add_zero, Nat.zero_add, Nat.zero_le, true_and, and_true, b2n_10, b2n_T, b2n_F, b2n_0, Decidable.not_not, not_true_eq_false, not_false_eq_true, Nat.reduceAdd, Nat.reduceMul, ra_l hr]
  · rw [b2n_f h1]
    simp (disch := (first | omega | exact aCat_8 (by with_unfolding_all rfl) | exact rk_lt (by with_unfolding_all rfl) | exact aCat_16 (by with_unfolding_all rfl) | exact rk_eq (by with_unfolding_all rfl) | assumption | exact b2n_lt _ | exact id_b (by with_unfolding_all rfl) | (simp (disch := omega) only [u2_same, u2_ab, u2_aq]; done) | (simp (disch := omega) only [u2_same, u2_ab, u2_aq]; omega) | fail)) only [al_1664, wp_aloadr_0, wp_aloadk_0, wk_36, wp_iload_1, wp_iadd, wk_1, wn_ne_t, wn_ne_f, wp_goto, al_1665, wk_0, wp_jsr, al_1666, wp_freturn0, wp_freturn1, wp_freturnb, nl_i, nl_r, nl_k, nl_j, nl_l, nI_add, pk_mul, pk_sub, tl_s, tl_n, aL_inl, u2_same, u2_ab, u2_aq, nI_l, lN_i, Nat.add_zero, Nat.zero_add, Nat.zero_le, true_and, and_true, b2n_10, b2n_T, b2n_F, b2n_0, Decidable.not_not, not_true_eq_false, not_false_eq_true, Nat.reduceAdd, Nat.reduceMul, ra_l hr]
theorem t_43 {v : Int64} (h : N 86 1 < 40) : aMm ko d 43 [.ref 86, .long v] (hp D N I J x) Q = Q none (hp D (u2 N 86 1 (N 86 1 + 1)) I (u2 J 87 (N 86 1) v) x) := by
  rw [me_43]
  simp (disch := (first | omega | exact aCat_8 (by with_unfolding_all rfl) | exact rk_lt (by with_unfolding_all rfl) | exact aCat_16 (by with_unfolding_all rfl) | exact rk_eq (by with_unfolding_all rfl) | assumption | exact b2n_lt _ | exact id_b (by with_unfolding_all rfl) | (simp (disch := omega) only [u2_same, u2_ab, u2_aq]; done) | (simp (disch := omega) only [u2_same, u2_ab, u2_aq]; omega) | fail)) only [al_2752, wp_aloadr_0, wp_aloadk_0, hg_86_2, ha_87l, ha_87s, hg_86_1, wp_lload_1, wp_dupi, wp_dupr, wk_1, wp_iadd, hp_86_1, wp_return, nl_i, nl_r, nl_k, nl_j, nl_l, nI_add, pk_mul, pk_sub, tl_s, tl_n, aL_inl, u2_same, u2_ab, u2_aq, nI_l, lN_i, Nat.add_zero, Nat.zero_add, Nat.zero_le, true_and, and_true, b2n_10, b2n_T, b2n_F, b2n_0, Decidable.not_not, not_true_eq_false, not_false_eq_true, Nat.reduceAdd, Nat.reduceMul]
theorem t_27 {f : Nat} (h : N 86 24 < 36) (hf : f < 36) : aMm ko d 27 [.ref 86, .int (nI f)] (hp D N I J x) Q = Q none (hp D (u2 (u2 (u2 N 97 (N 86 24) f) 86 24 (N 86 24 + 1)) 98 f 1) I J x) := by
  rw [me_27]
  simp (disch := (first | omega | exact aCat_8 (by with_unfolding_all rfl) | exact rk_lt (by with_unfolding_all rfl) | exact aCat_16 (by with_unfolding_all rfl) | exact rk_eq (by with_unfolding_all rfl) | assumption | exact b2n_lt _ | exact id_b (by with_unfolding_all rfl) | (simp (disch := omega) only [u2_same, u2_ab, u2_aq]; done) | (simp (disch := omega) only [u2_same, u2_ab, u2_aq]; omega) | fail)) only [al_1728, wp_aloadr_0, wp_aloadk_0, hg_86_22, ha_97l, ha_97s, hg_86_24, wp_iload_1, wp_dupi, wp_dupr, wk_1, wp_iadd, hp_86_24, hg_86_23, ha_98l, ha_98s, wp_return, nl_i, nl_r, nl_k, nl_j, nl_l, nI_add, pk_mul, pk_sub, tl_s, tl_n, aL_inl, u2_same, u2_ab, u2_aq, nI_l, lN_i, Nat.add_zero, Nat.zero_add, Nat.zero_le, true_and, and_true, b2n_10, b2n_T, b2n_F, b2n_0, Decidable.not_not, not_true_eq_false, not_false_eq_true, Nat.reduceAdd, Nat.reduceMul]
def sumR (f : Nat → Nat) : Nat → Nat
  | 0 => 0
  | n + 1 => sumR f n + f n
theorem l_36 {r fr : Nat} (hr : r = 89 ∨ r = 90) (hF : D 0 * D 1 ≤ 36) (h2 : fr + D 0 * D 1 ≤ 111) : ∀ j i : Nat, i + j = D 0 * D 1 → aWp ko d 36 (aP.1 (Int.toNat 2305)) [.ref 86, .ref r, .int (nI fr), .int (nI (sumR (fun q => N r (fr + q)) i)), .int (nI i)] [] (hp D N I J x) (aL Q) = Q (some (.int (nI (sumR (fun q => N r (fr + q)) (D 0 * D 1))))) (hp D N I J x) := by
  intro j
  induction j with
  | zero =>
    intro i hi
    have e : i = D 0 * D 1 := by omega
    subst e
    simp (disch := (first | omega | exact aCat_8 (by with_unfolding_all rfl) | exact rk_lt (by with_unfolding_all rfl) | exact aCat_16 (by with_unfolding_all rfl) | exact rk_eq (by with_unfolding_all rfl) | assumption | exact b2n_lt _ | exact id_b (by with_unfolding_all rfl) | (simp (disch := omega) only [u2_same, u2_ab, u2_aq]; done) | (simp (disch := omega) only [u2_same, u2_ab, u2_aq]; omega) | fail)) only [al_2304, wk_0, wp_istore_3, wp_istore_4, wp_jsr, al_2305, wp_iload_4, wp_aloadr_0, wp_aloadk_0, wc_10, t_10, wn_ge_t, wn_ge_f, wp_iload_3, wp_aloadr_1, wp_aloadk_1, wp_iload_2, wp_iadd, wp_iinc_4_1, wp_goto, al_2306, wp_ireturn, nl_i, nl_r, nl_k, nl_j, nl_l, nI_add, pk_mul, pk_sub, tl_s, tl_n, aL_inl, u2_same, u2_ab, u2_aq, nI_l, lN_i, Nat.add_zero, Nat.zero_add, Nat.zero_le, true_and, and_true, b2n_10, b2n_T, b2n_F, b2n_0, Decidable.not_not, not_true_eq_false, not_false_eq_true, Nat.reduceAdd, Nat.reduceMul, ra_l hr, t_10]
  | succ j ih =>
    intro i hi
    rw [al_2305]
    simp (disch := (first | omega | exact aCat_8 (by with_unfolding_all rfl) | exact rk_lt (by with_unfolding_all rfl) | exact aCat_16 (by with_unfolding_all rfl) | exact rk_eq (by with_unfolding_all rfl) | assumption | exact b2n_lt _ | exact id_b (by with_unfolding_all rfl) | (simp (disch := omega) only [u2_same, u2_ab, u2_aq]; done) | (simp (disch := omega) only [u2_same, u2_ab, u2_aq]; omega) | fail)) only [al_2304, wk_0, wp_istore_3, wp_istore_4, wp_jsr, wp_iload_4, wp_aloadr_0, wp_aloadk_0, wc_10, t_10, wn_ge_t, wn_ge_f, wp_iload_3, wp_aloadr_1, wp_aloadk_1, wp_iload_2, wp_iadd, wp_iinc_4_1, wp_goto, al_2306, wp_ireturn, nl_i, nl_r, nl_k, nl_j, nl_l, nI_add, pk_mul, pk_sub, tl_s, tl_n, aL_inl, u2_same, u2_ab, u2_aq, nI_l, lN_i, Nat.add_zero, Nat.zero_add, Nat.zero_le, true_and, and_true, b2n_10, b2n_T, b2n_F, b2n_0, Decidable.not_not, not_true_eq_false, not_false_eq_true, Nat.reduceAdd, Nat.reduceMul, ra_l hr, t_10]
    exact ih (i + 1) (by omega)
theorem t_36 {r fr : Nat} (hr : r = 89 ∨ r = 90) (hF : D 0 * D 1 ≤ 36) (h2 : fr + D 0 * D 1 ≤ 111) : aMm ko d 36 [.ref 86, .ref r, .int (nI fr)] (hp D N I J x) Q = Q (some (.int (nI (sumR (fun q => N r (fr + q)) (D 0 * D 1))))) (hp D N I J x) := by
  rw [me_36]
  simp (disch := (first | omega | exact aCat_8 (by with_unfolding_all rfl) | exact rk_lt (by with_unfolding_all rfl) | exact aCat_16 (by with_unfolding_all rfl) | exact rk_eq (by with_unfolding_all rfl) | assumption | exact b2n_lt _ | exact id_b (by with_unfolding_all rfl) | (simp (disch := omega) only [u2_same, u2_ab, u2_aq]; done) | (simp (disch := omega) only [u2_same, u2_ab, u2_aq]; omega) | fail)) only [al_2304, wk_0, wp_istore_3, wp_istore_4, wp_jsr, wp_iload_4, wp_aloadr_0, wp_aloadk_0, wc_10, t_10, wn_ge_t, wn_ge_f, wp_iload_3, wp_aloadr_1, wp_aloadk_1, wp_iload_2, wp_iadd, wp_iinc_4_1, wp_goto, al_2306, wp_ireturn, nl_i, nl_r, nl_k, nl_j, nl_l, nI_add, pk_mul, pk_sub, tl_s, tl_n, aL_inl, u2_same, u2_ab, u2_aq, nI_l, lN_i, Nat.add_zero, Nat.zero_add, Nat.zero_le, true_and, and_true, b2n_10, b2n_T, b2n_F, b2n_0, Decidable.not_not, not_true_eq_false, not_false_eq_true, Nat.reduceAdd, Nat.reduceMul]
  exact l_36 hr hF h2 (D 0 * D 1) 0 (by omega)
end R1
