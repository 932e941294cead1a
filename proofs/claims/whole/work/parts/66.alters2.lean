/-! alters, the pair. From wip/whole/src. -/
section O5
variable {ko : aKo} {d k : Nat} {is : List Instr} {ls st : List Value} {σ : aH} {D : Nat → Nat} {N : Nat → Nat → Nat} {I : Nat → Nat → Int32} {J : Nat → Nat → Int64} {x t : Nat} {Q : Option Value → aH → Prop} {P : (Option Value ⊕ Unit) → aH → Prop}
theorem t_180 {n : Nat} (h : n < 2147483648) : aMm ko d 180 [.int (nI n)] σ Q = Q (some (.int (nI (b2n (n < 1 ∨ 99 < n))))) σ := by
  rw [me_180]
  by_cases h1 : n < 1
  · rw [b2n_t (Or.inl h1)]
    simp (disch := (first | omega | exact aCat_8 (by with_unfolding_all rfl) | exact rk_lt (by with_unfolding_all rfl) | exact aCat_16 (by with_unfolding_all rfl) | exact rk_eq (by with_unfolding_all rfl) | assumption | exact b2n_lt _ | exact id_b (by with_unfolding_all rfl) | (simp (disch := omega) only [u2_same, u2_ab, u2_aq]; done) | (simp (disch := omega) only [u2_same, u2_ab, u2_aq]; omega) | fail)) only [al_11520, wp_iload_0, wk_1, wn_lt_t, wn_lt_f, wk_99, wn_le_t, wn_le_f, wp_jsr, al_11521, wp_goto, al_11522, wk_0, al_11523, wp_freturn0, wp_freturn1, wp_freturnb, nl_i, nl_r, nl_k, nl_j, nl_l, nI_add, pk_mul, pk_sub, tl_s, tl_n, aL_inl, u2_same, u2_ab, u2_aq, nI_l, lN_i, Nat.add_zero, Nat.zero_add, Nat.zero_le, true_and, and_true, b2n_10, b2n_T, b2n_F, b2n_0, Decidable.not_not, not_true_eq_false, not_false_eq_true, Nat.reduceAdd, Nat.reduceMul]
  · by_cases h2 : 99 < n
    · rw [b2n_t (Or.inr h2)]
      simp (disch := (first | omega | exact aCat_8 (by with_unfolding_all rfl) | exact rk_lt (by with_unfolding_all rfl) | exact aCat_16 (by with_unfolding_all rfl) | exact rk_eq (by with_unfolding_all rfl) | assumption | exact b2n_lt _ | exact id_b (by with_unfolding_all rfl) | (simp (disch := omega) only [u2_same, u2_ab, u2_aq]; done) | (simp (disch := omega) only [u2_same, u2_ab, u2_aq]; omega) | fail)) only [al_11520, wp_iload_0, wk_1, wn_lt_t, wn_lt_f, wk_99, wn_le_t, wn_le_f, wp_jsr, al_11521, wp_goto, al_11522, wk_0, al_11523, wp_freturn0, wp_freturn1, wp_freturnb, nl_i, nl_r, nl_k, nl_j, nl_l, nI_add, pk_mul, pk_sub, tl_s, tl_n, aL_inl, u2_same, u2_ab, u2_aq, nI_l, lN_i, Nat.add_zero, Nat.zero_add, Nat.zero_le, true_and, and_true, b2n_10, b2n_T, b2n_F, b2n_0, Decidable.not_not, not_true_eq_false, not_false_eq_true, Nat.reduceAdd, Nat.reduceMul]
    · rw [b2n_f (by omega)]
      simp (disch := (first | omega | exact aCat_8 (by with_unfolding_all rfl) | exact rk_lt (by with_unfolding_all rfl) | exact aCat_16 (by with_unfolding_all rfl) | exact rk_eq (by with_unfolding_all rfl) | assumption | exact b2n_lt _ | exact id_b (by with_unfolding_all rfl) | (simp (disch := omega) only [u2_same, u2_ab, u2_aq]; done) | (simp (disch := omega) only [u2_same, u2_ab, u2_aq]; omega) | fail)) only [al_11520, wp_iload_0, wk_1, wn_lt_t, wn_lt_f, wk_99, wn_le_t, wn_le_f, wp_jsr, al_11521, wp_goto, al_11522, wk_0, al_11523, wp_freturn0, wp_freturn1, wp_freturnb, nl_i, nl_r, nl_k, nl_j, nl_l, nI_add, pk_mul, pk_sub, tl_s, tl_n, aL_inl, u2_same, u2_ab, u2_aq, nI_l, lN_i, Nat.add_zero, Nat.zero_add, Nat.zero_le, true_and, and_true, b2n_10, b2n_T, b2n_F, b2n_0, Decidable.not_not, not_true_eq_false, not_false_eq_true, Nat.reduceAdd, Nat.reduceMul]
theorem t_180x {a : Int32} (h : a < nI 1 ∨ (¬ a < nI 1 ∧ nI 99 < a)) : aMm ko d 180 [.int a] σ Q = Q (some (.int (nI 1))) σ := by
  rw [me_180]
  rcases h with h | ⟨h1, h2⟩
  · simp (disch := (first | omega | exact aCat_8 (by with_unfolding_all rfl) | exact rk_lt (by with_unfolding_all rfl) | exact aCat_16 (by with_unfolding_all rfl) | exact rk_eq (by with_unfolding_all rfl) | assumption | exact b2n_lt _ | exact id_b (by with_unfolding_all rfl) | (simp (disch := omega) only [u2_same, u2_ab, u2_aq]; done) | (simp (disch := omega) only [u2_same, u2_ab, u2_aq]; omega) | fail)) only [al_11520, wp_iload_0, wk_1, wn_lt_t, wn_lt_f, wk_99, wn_le_t, wn_le_f, wp_jsr, al_11521, wp_goto, al_11522, wk_0, al_11523, wp_freturn0, wp_freturn1, wp_freturnb, nl_i, nl_r, nl_k, nl_j, nl_l, nI_add, pk_mul, pk_sub, tl_s, tl_n, aL_inl, u2_same, u2_ab, u2_aq, nI_l, lN_i, Nat.add_zero, Nat.zero_add, Nat.zero_le, true_and, and_true, b2n_10, b2n_T, b2n_F, b2n_0, Decidable.not_not, not_true_eq_false, not_false_eq_true, Nat.reduceAdd, Nat.reduceMul, wx_lt_t h]
  · have h3 : ¬ a ≤ nI 99 := fun z => (Int32.not_lt.mpr z) h2
    simp (disch := (first | omega | exact aCat_8 (by with_unfolding_all rfl) | exact rk_lt (by with_unfolding_all rfl) | exact aCat_16 (by with_unfolding_all rfl) | exact rk_eq (by with_unfolding_all rfl) | assumption | exact b2n_lt _ | exact id_b (by with_unfolding_all rfl) | (simp (disch := omega) only [u2_same, u2_ab, u2_aq]; done) | (simp (disch := omega) only [u2_same, u2_ab, u2_aq]; omega) | fail)) only [al_11520, wp_iload_0, wk_1, wn_lt_t, wn_lt_f, wk_99, wn_le_t, wn_le_f, wp_jsr, al_11521, wp_goto, al_11522, wk_0, al_11523, wp_freturn0, wp_freturn1, wp_freturnb, nl_i, nl_r, nl_k, nl_j, nl_l, nI_add, pk_mul, pk_sub, tl_s, tl_n, aL_inl, u2_same, u2_ab, u2_aq, nI_l, lN_i, Nat.add_zero, Nat.zero_add, Nat.zero_le, true_and, and_true, b2n_10, b2n_T, b2n_F, b2n_0, Decidable.not_not, not_true_eq_false, not_false_eq_true, Nat.reduceAdd, Nat.reduceMul, wx_lt_f h1, wx_le_f h3]
theorem crsS_36 {N0 : Nat → Nat → Nat} {I0 : Nat → Nat → Int32} {J0 : Nat → Nat → Int64} {k : Nat} (h : invB D N0 I0 J0 t) (hk : k ≤ 200) (ht : t + 300 < 1000000000) : crK (D 0) (D 1) (crsS D N0 (itS D N0 (N0 89) k)) ∧ (crsS D N0 (itS D N0 (N0 89) k)).1 ≤ 36 ∧ ∀ i, i < (crsS D N0 (itS D N0 (N0 89) k)).1 → (crsS D N0 (itS D N0 (N0 89) k)).2.1 i < 36 := by
  have hF := dm_F h.1.1
  have h89 := h.2.2.2.2.1
  have hK := crsS_K (N := N0) h.1.1 (itS_O (N := N0) h.1.1 h89.1 k (by have := h89.2.2.1; omega))
  exact ⟨hK, Nat.le_trans hK.1 hF.1, fun i hi => Nat.lt_of_lt_of_le (hK.2.1 i hi) hF.1⟩
theorem l_179 {N0 : Nat → Nat → Nat} {I0 : Nat → Nat → Int32} {J0 : Nat → Nat → Int64} {n : Nat} (h : invB D N0 I0 J0 t) (ht : t + 300 < 1000000000) (hn : n ≤ 99)
    (hS : ∀ k, k < n → ¬ smB (crsS D N0 (itS D N0 (N0 89) k)) (crsS D N0 (N0 89)) = true → (∀ i, i < k → ¬ ¬ smB (crsS D N0 (itS D N0 (N0 89) i)) (crsS D N0 (N0 89)) = true) → ansC D N0 I0 J0 x (.int (nI k)) 1 (fun _ => (mth (D 1) (crsS D N0 (itS D N0 (N0 89) k))).toInt64) Q)
    (hN : (∀ i, i < n → ¬ ¬ smB (crsS D N0 (itS D N0 (N0 89) i)) (crsS D N0 (N0 89)) = true) → ∀ (N' : Nat → Nat → Nat) (I' : Nat → Nat → Int32) (J' : Nat → Nat → Int64), sN N' N0 → sI I' I0 → sJ J' J0 → tdSC N' N0 J' J0 → tdSR N' N0 J' J0 → Q (some (.int (-2))) (hp D N' I' J' x)) :
    ∀ (j k : Nat) (N : Nat → Nat → Nat) (I : Nat → Nat → Int32) (J : Nat → Nat → Int64), k + j = n → (∀ i, i < k → ¬ ¬ smB (crsS D N0 (itS D N0 (N0 89) i)) (crsS D N0 (N0 89)) = true) → drO D N0 N I0 I J0 J (itS D N0 (N0 89) k) → N 26 14 = (crsS D N0 (N0 89)).1 → (∀ i, i < (crsS D N0 (N0 89)).1 → N 31 i = (crsS D N0 (N0 89)).2.1 i) → aWp ko d 179 (aP.1 (Int.toNat 11458)) [.ref 0, .int (nI n), .int (nI k)] [] (hp D N I J x) (aL Q) := by
  have hF := dm_F h.1.1
  obtain ⟨hK0, hL0, hp0⟩ := crsS_36 (k := 0) h (by omega) ht
  intro j
  induction j with
  | zero =>
    intro k N I J hj hno hD _ _
    have e : k = n := by omega
    subst e
    rw [al_11458]
    simp (disch := (first | omega | exact aCat_8 (by with_unfolding_all rfl) | exact rk_lt (by with_unfolding_all rfl) | exact aCat_16 (by with_unfolding_all rfl) | exact rk_eq (by with_unfolding_all rfl) | assumption | exact b2n_lt _ | exact id_b (by with_unfolding_all rfl) | (simp (disch := omega) only [u2_same, u2_ab, u2_aq]; done) | (simp (disch := omega) only [u2_same, u2_ab, u2_aq]; omega) | fail)) only [al_11456, wp_iload_1, wc_180, wz_eq_t, wz_eq_f, wb_eq_t, wb_eq_f, wm_eq_1, wm_eq_2, wk_m1, wp_ireturn, al_11457, wp_aloadr_0, wp_aloadk_0, hg_0_9, hg_0_7, hg_0_10, hg_0_4, wk_1, wc_254, wp_pop, wc_261, wp_istore_2, wp_jsr, wp_iload_2, wn_ge_t, wn_ge_f, wc_262, wz_ne_t, wz_ne_f, wb_ne_t, wb_ne_f, wm_ne_1, wm_ne_2, hg_0_1, wc_292, t_292, hg_26_11, wp_i2l, wc_293, t_293, al_11459, wp_iinc_2_1, wp_goto, al_11460, wk_m2, nl_i, nl_r, nl_k, nl_j, nl_l, nI_add, pk_mul, pk_sub, tl_s, tl_n, aL_inl, u2_same, u2_ab, u2_aq, nI_l, lN_i, Nat.add_zero, Nat.zero_add, Nat.zero_le, true_and, and_true, b2n_10, b2n_T, b2n_F, b2n_0, Decidable.not_not, not_true_eq_false, not_false_eq_true, Nat.reduceAdd, Nat.reduceMul]
    exact hN hno N I J hD.2.2.2.1 hD.2.2.2.2.1 hD.2.2.2.2.2.1 hD.2.2.2.2.2.2.1 hD.2.2.2.2.2.2.2
  | succ j ih =>
    intro k N I J hj hno hD h14 h31
    rw [al_11458]
    simp (disch := (first | omega | exact aCat_8 (by with_unfolding_all rfl) | exact rk_lt (by with_unfolding_all rfl) | exact aCat_16 (by with_unfolding_all rfl) | exact rk_eq (by with_unfolding_all rfl) | assumption | exact b2n_lt _ | exact id_b (by with_unfolding_all rfl) | (simp (disch := omega) only [u2_same, u2_ab, u2_aq]; done) | (simp (disch := omega) only [u2_same, u2_ab, u2_aq]; omega) | fail)) only [al_11456, wp_iload_1, wc_180, wz_eq_t, wz_eq_f, wb_eq_t, wb_eq_f, wm_eq_1, wm_eq_2, wk_m1, wp_ireturn, al_11457, wp_aloadr_0, wp_aloadk_0, hg_0_9, hg_0_7, hg_0_10, hg_0_4, wk_1, wc_254, wp_pop, wc_261, wp_istore_2, wp_jsr, wp_iload_2, wn_ge_t, wn_ge_f, wc_262, wz_ne_t, wz_ne_f, wb_ne_t, wb_ne_f, wm_ne_1, wm_ne_2, hg_0_1, wc_292, t_292, hg_26_11, wp_i2l, wc_293, t_293, al_11459, wp_iinc_2_1, wp_goto, al_11460, wk_m2, nl_i, nl_r, nl_k, nl_j, nl_l, nI_add, pk_mul, pk_sub, tl_s, tl_n, aL_inl, u2_same, u2_ab, u2_aq, nI_l, lN_i, Nat.add_zero, Nat.zero_add, Nat.zero_le, true_and, and_true, b2n_10, b2n_T, b2n_F, b2n_0, Decidable.not_not, not_true_eq_false, not_false_eq_true, Nat.reduceAdd, Nat.reduceMul]
    refine dr_1 h (by omega) ht hD ?_
    intro N' I' J' hD' hc' hN' _ _
    obtain ⟨hK, hL, hp1⟩ := crsS_36 (k := k) h (by omega) ht
    have h14' : N' 26 14 = (crsS D N0 (N0 89)).1 := (hN' 26 14 (by decide) (by omega) (by decide) (by decide)).trans h14
    have h31' : ∀ i, i < (crsS D N0 (N0 89)).1 → N' 31 i = (crsS D N0 (N0 89)).2.1 i := fun i hi => (hN' 31 i (by decide) (by omega) (by decide) (by decide)).trans (h31 i hi)
    have t262 : ∀ Q : Option Value → aH → Prop, aMm ko d 262 [.ref 26] (hp D N' I' J' x) Q = Q (some (.int (nI (b2n (smB (crsS D N0 (itS D N0 (N0 89) k)) (crsS D N0 (N0 89)) = true))))) (hp D N' I' J' x) := fun Q => t_262 hc'.1 h14' (fun i hi => ⟨hc'.2.1 i hi, hp1 i hi⟩) (fun i hi => ⟨h31' i hi, hp0 i hi⟩) hL hL0
    have e11 := hc'.2.2.2.1
    by_cases hs : smB (crsS D N0 (itS D N0 (N0 89) k)) (crsS D N0 (N0 89)) = true
    · simp (disch := (first | omega | exact aCat_8 (by with_unfolding_all rfl) | exact rk_lt (by with_unfolding_all rfl) | exact aCat_16 (by with_unfolding_all rfl) | exact rk_eq (by with_unfolding_all rfl) | assumption | exact b2n_lt _ | exact id_b (by with_unfolding_all rfl) | (simp (disch := omega) only [u2_same, u2_ab, u2_aq]; done) | (simp (disch := omega) only [u2_same, u2_ab, u2_aq]; omega) | fail)) only [al_11456, wp_iload_1, wc_180, wz_eq_t, wz_eq_f, wb_eq_t, wb_eq_f, wm_eq_1, wm_eq_2, wk_m1, wp_ireturn, al_11457, wp_aloadr_0, wp_aloadk_0, hg_0_9, hg_0_7, hg_0_10, hg_0_4, wk_1, wc_254, wp_pop, wc_261, wp_istore_2, wp_jsr, wp_iload_2, wn_ge_t, wn_ge_f, wc_262, wz_ne_t, wz_ne_f, wb_ne_t, wb_ne_f, wm_ne_1, wm_ne_2, hg_0_1, wc_292, t_292, hg_26_11, wp_i2l, wc_293, t_293, al_11459, wp_iinc_2_1, wp_goto, al_11460, wk_m2, nl_i, nl_r, nl_k, nl_j, nl_l, nI_add, pk_mul, pk_sub, tl_s, tl_n, aL_inl, u2_same, u2_ab, u2_aq, nI_l, lN_i, Nat.add_zero, Nat.zero_add, Nat.zero_le, true_and, and_true, b2n_10, b2n_T, b2n_F, b2n_0, Decidable.not_not, not_true_eq_false, not_false_eq_true, Nat.reduceAdd, Nat.reduceMul, t262, b2n_t hs]
      refine ih (k + 1) N' I' J' (by omega) ?_ hD' h14' h31'
      intro i hi
      by_cases e : i = k
      · rw [e]; exact fun z => z hs
      · exact hno i (by omega)
    · simp (disch := (first | omega | exact aCat_8 (by with_unfolding_all rfl) | exact rk_lt (by with_unfolding_all rfl) | exact aCat_16 (by with_unfolding_all rfl) | exact rk_eq (by with_unfolding_all rfl) | assumption | exact b2n_lt _ | exact id_b (by with_unfolding_all rfl) | (simp (disch := omega) only [u2_same, u2_ab, u2_aq]; done) | (simp (disch := omega) only [u2_same, u2_ab, u2_aq]; omega) | fail)) only [al_11456, wp_iload_1, wc_180, wz_eq_t, wz_eq_f, wb_eq_t, wb_eq_f, wm_eq_1, wm_eq_2, wk_m1, wp_ireturn, al_11457, wp_aloadr_0, wp_aloadk_0, hg_0_9, hg_0_7, hg_0_10, hg_0_4, wk_1, wc_254, wp_pop, wc_261, wp_istore_2, wp_jsr, wp_iload_2, wn_ge_t, wn_ge_f, wc_262, wz_ne_t, wz_ne_f, wb_ne_t, wb_ne_f, wm_ne_1, wm_ne_2, hg_0_1, wc_292, t_292, hg_26_11, wp_i2l, wc_293, t_293, al_11459, wp_iinc_2_1, wp_goto, al_11460, wk_m2, nl_i, nl_r, nl_k, nl_j, nl_l, nI_add, pk_mul, pk_sub, tl_s, tl_n, aL_inl, u2_same, u2_ab, u2_aq, nI_l, lN_i, Nat.add_zero, Nat.zero_add, Nat.zero_le, true_and, and_true, b2n_10, b2n_T, b2n_F, b2n_0, Decidable.not_not, not_true_eq_false, not_false_eq_true, Nat.reduceAdd, Nat.reduceMul, t262, b2n_f hs, e11]
      exact hS k (by omega) hs hno _ _ _ (sN_u (sN_u hD'.2.2.2.1 rfl) rfl) hD'.2.2.2.2.1 (sJ_u hD'.2.2.2.2.2.1 rfl) td1C
theorem l_62 {N0 : Nat → Nat → Nat} {I0 : Nat → Nat → Int32} {J0 : Nat → Nat → Int64} {n : Nat} (h : invB D N0 I0 J0 t) (ht : t + 300 < 1000000000) (hn : n ≤ 99)
    (hS : ∀ k, k < n → ¬ smB (crsS D N0 (itS D N0 (N0 89) k)) (crsS D N0 (N0 89)) = true → (∀ i, i < k → ¬ ¬ smB (crsS D N0 (itS D N0 (N0 89) i)) (crsS D N0 (N0 89)) = true) → ansR D N0 I0 J0 x (.int (nI k)) 1 (fun _ => (mth (D 1) (crsS D N0 (itS D N0 (N0 89) k))).toInt64) Q)
    (hN : (∀ i, i < n → ¬ ¬ smB (crsS D N0 (itS D N0 (N0 89) i)) (crsS D N0 (N0 89)) = true) → ∀ (N' : Nat → Nat → Nat) (I' : Nat → Nat → Int32) (J' : Nat → Nat → Int64), qN N' N0 → sI I' I0 → qJ J' J0 → tdSR N' N0 J' J0 → Q (some (.int (-2))) (hp D N' I' J' x)) :
    ∀ (j k : Nat) (N : Nat → Nat → Nat) (I : Nat → Nat → Int32), k + j = n → (∀ i, i < k → ¬ ¬ smB (crsS D N0 (itS D N0 (N0 89) i)) (crsS D N0 (N0 89)) = true) → thO N0 N I0 I (itS D N0 (N0 89) k) → N 86 34 = (crsS D N0 (N0 89)).1 → (∀ i, i < (crsS D N0 (N0 89)).1 → N 104 i = (crsS D N0 (N0 89)).2.1 i) → aWp ko d 62 (aP.1 (Int.toNat 3970)) [.ref 86, .int (nI n), .int (nI k)] [] (hp D N I J0 x) (aL Q) := by
  have hF := dm_F h.1.1
  obtain ⟨hK0, hL0, hp0⟩ := crsS_36 (k := 0) h (by omega) ht
  intro j
  induction j with
  | zero =>
    intro k N I hj hno hT _ _
    have e : k = n := by omega
    subst e
    rw [al_3970]
    simp (disch := (first | omega | exact aCat_8 (by with_unfolding_all rfl) | exact rk_lt (by with_unfolding_all rfl) | exact aCat_16 (by with_unfolding_all rfl) | exact rk_eq (by with_unfolding_all rfl) | assumption | exact b2n_lt _ | exact id_b (by with_unfolding_all rfl) | (simp (disch := omega) only [u2_same, u2_ab, u2_aq]; done) | (simp (disch := omega) only [u2_same, u2_ab, u2_aq]; omega) | fail)) only [al_3968, wp_aloadr_0, wp_aloadk_0, wk_0, hp_86_0, wp_iload_1, wp_i2l, wl_1, wl_99, wc_4, t_4, lN_le, wz_ne_t, wz_ne_f, wb_ne_t, wb_ne_f, wm_ne_1, wm_ne_2, wk_m1, wp_ireturn, al_3969, wc_60, hg_86_9, ha_90l, ha_90s, wc_25, wc_63, wp_istore_2, wp_jsr, wp_iload_2, wn_ge_t, wn_ge_f, wc_64, hp_86_1, wc_58, wc_43, t_43, al_3971, wc_41, wp_iinc_2_1, wp_goto, al_3972, wk_m2, nl_i, nl_r, nl_k, nl_j, nl_l, nI_add, pk_mul, pk_sub, tl_s, tl_n, aL_inl, u2_same, u2_ab, u2_aq, nI_l, lN_i, Nat.add_zero, Nat.zero_add, Nat.zero_le, true_and, and_true, b2n_10, b2n_T, b2n_F, b2n_0, Decidable.not_not, not_true_eq_false, not_false_eq_true, Nat.reduceAdd, Nat.reduceMul]
    exact hN hno N I J0 hT.2.1 hT.2.2.1 qJ_r ⟨hT.2.2.2, fun _ => rfl⟩
  | succ j ih =>
    intro k N I hj hno hT h34 h104
    rw [al_3970]
    simp (disch := (first | omega | exact aCat_8 (by with_unfolding_all rfl) | exact rk_lt (by with_unfolding_all rfl) | exact aCat_16 (by with_unfolding_all rfl) | exact rk_eq (by with_unfolding_all rfl) | assumption | exact b2n_lt _ | exact id_b (by with_unfolding_all rfl) | (simp (disch := omega) only [u2_same, u2_ab, u2_aq]; done) | (simp (disch := omega) only [u2_same, u2_ab, u2_aq]; omega) | fail)) only [al_3968, wp_aloadr_0, wp_aloadk_0, wk_0, hp_86_0, wp_iload_1, wp_i2l, wl_1, wl_99, wc_4, t_4, lN_le, wz_ne_t, wz_ne_f, wb_ne_t, wb_ne_f, wm_ne_1, wm_ne_2, wk_m1, wp_ireturn, al_3969, wc_60, hg_86_9, ha_90l, ha_90s, wc_25, wc_63, wp_istore_2, wp_jsr, wp_iload_2, wn_ge_t, wn_ge_f, wc_64, hp_86_1, wc_58, wc_43, t_43, al_3971, wc_41, wp_iinc_2_1, wp_goto, al_3972, wk_m2, nl_i, nl_r, nl_k, nl_j, nl_l, nI_add, pk_mul, pk_sub, tl_s, tl_n, aL_inl, u2_same, u2_ab, u2_aq, nI_l, lN_i, Nat.add_zero, Nat.zero_add, Nat.zero_le, true_and, and_true, b2n_10, b2n_T, b2n_F, b2n_0, Decidable.not_not, not_true_eq_false, not_false_eq_true, Nat.reduceAdd, Nat.reduceMul]
    refine th_c h (by omega) ht hT ?_
    intro N1 I1 hT1 hc1 hN1 _
    obtain ⟨hK, hL, hp1⟩ := crsS_36 (k := k) h (by omega) ht
    have h34' : N1 86 34 = (crsS D N0 (N0 89)).1 := (hN1 86 34 rfl).trans h34
    have h104' : ∀ i, i < (crsS D N0 (N0 89)).1 → N1 104 i = (crsS D N0 (N0 89)).2.1 i := fun i hi => (hN1 104 i rfl).trans (h104 i hi)
    have t64 : ∀ Q : Option Value → aH → Prop, aMm ko d 64 [.ref 86] (hp D N1 I1 J0 x) Q = Q (some (.int (nI (b2n (smB (crsS D N0 (itS D N0 (N0 89) k)) (crsS D N0 (N0 89)) = true))))) (hp D N1 I1 J0 x) := fun Q => t_64 hc1.1 h34' (fun i hi => ⟨hc1.2.2.1 i hi, hp1 i hi⟩) (fun i hi => ⟨h104' i hi, hp0 i hi⟩) hL hL0
    by_cases hs : smB (crsS D N0 (itS D N0 (N0 89) k)) (crsS D N0 (N0 89)) = true
    · simp (disch := (first | omega | exact aCat_8 (by with_unfolding_all rfl) | exact rk_lt (by with_unfolding_all rfl) | exact aCat_16 (by with_unfolding_all rfl) | exact rk_eq (by with_unfolding_all rfl) | assumption | exact b2n_lt _ | exact id_b (by with_unfolding_all rfl) | (simp (disch := omega) only [u2_same, u2_ab, u2_aq]; done) | (simp (disch := omega) only [u2_same, u2_ab, u2_aq]; omega) | fail)) only [al_3968, wp_aloadr_0, wp_aloadk_0, wk_0, hp_86_0, wp_iload_1, wp_i2l, wl_1, wl_99, wc_4, t_4, lN_le, wz_ne_t, wz_ne_f, wb_ne_t, wb_ne_f, wm_ne_1, wm_ne_2, wk_m1, wp_ireturn, al_3969, wc_60, hg_86_9, ha_90l, ha_90s, wc_25, wc_63, wp_istore_2, wp_jsr, wp_iload_2, wn_ge_t, wn_ge_f, wc_64, hp_86_1, wc_58, wc_43, t_43, al_3971, wc_41, wp_iinc_2_1, wp_goto, al_3972, wk_m2, nl_i, nl_r, nl_k, nl_j, nl_l, nI_add, pk_mul, pk_sub, tl_s, tl_n, aL_inl, u2_same, u2_ab, u2_aq, nI_l, lN_i, Nat.add_zero, Nat.zero_add, Nat.zero_le, true_and, and_true, b2n_10, b2n_T, b2n_F, b2n_0, Decidable.not_not, not_true_eq_false, not_false_eq_true, Nat.reduceAdd, Nat.reduceMul, t64, b2n_t hs]
      refine th_1 h (by omega) ht hT1 ?_
      intro N2 I2 hT2 _ hN2 _
      simp (disch := (first | omega | exact aCat_8 (by with_unfolding_all rfl) | exact rk_lt (by with_unfolding_all rfl) | exact aCat_16 (by with_unfolding_all rfl) | exact rk_eq (by with_unfolding_all rfl) | assumption | exact b2n_lt _ | exact id_b (by with_unfolding_all rfl) | (simp (disch := omega) only [u2_same, u2_ab, u2_aq]; done) | (simp (disch := omega) only [u2_same, u2_ab, u2_aq]; omega) | fail)) only [al_3968, wp_aloadr_0, wp_aloadk_0, wk_0, hp_86_0, wp_iload_1, wp_i2l, wl_1, wl_99, wc_4, t_4, lN_le, wz_ne_t, wz_ne_f, wb_ne_t, wb_ne_f, wm_ne_1, wm_ne_2, wk_m1, wp_ireturn, al_3969, wc_60, hg_86_9, ha_90l, ha_90s, wc_25, wc_63, wp_istore_2, wp_jsr, wp_iload_2, wn_ge_t, wn_ge_f, wc_64, hp_86_1, wc_58, wc_43, t_43, al_3971, wc_41, wp_iinc_2_1, wp_goto, al_3972, wk_m2, nl_i, nl_r, nl_k, nl_j, nl_l, nI_add, pk_mul, pk_sub, tl_s, tl_n, aL_inl, u2_same, u2_ab, u2_aq, nI_l, lN_i, Nat.add_zero, Nat.zero_add, Nat.zero_le, true_and, and_true, b2n_10, b2n_T, b2n_F, b2n_0, Decidable.not_not, not_true_eq_false, not_false_eq_true, Nat.reduceAdd, Nat.reduceMul]
      refine ih (k + 1) N2 I2 (by omega) ?_ hT2 ((hN2 86 34 rfl (by decide)).trans h34') (fun i hi => (hN2 104 i rfl (by decide)).trans (h104' i hi))
      intro i hi
      by_cases e : i = k
      · rw [e]; exact fun z => z hs
      · exact hno i (by omega)
    · have hc1' : crO (u2 N1 86 1 0) (crsS D N0 (itS D N0 (N0 89) k)) := ⟨by rw [u2_aq (by decide)]; exact hc1.1, by rw [u2_aq (by decide)]; exact hc1.2.1, fun k hk => by rw [u2_ab (by decide)]; exact hc1.2.2.1 k hk, fun g hg => by rw [u2_ab (by decide)]; exact hc1.2.2.2 g hg⟩
      simp (disch := (first | omega | exact aCat_8 (by with_unfolding_all rfl) | exact rk_lt (by with_unfolding_all rfl) | exact aCat_16 (by with_unfolding_all rfl) | exact rk_eq (by with_unfolding_all rfl) | assumption | exact b2n_lt _ | exact id_b (by with_unfolding_all rfl) | (simp (disch := omega) only [u2_same, u2_ab, u2_aq]; done) | (simp (disch := omega) only [u2_same, u2_ab, u2_aq]; omega) | fail)) only [al_3968, wp_aloadr_0, wp_aloadk_0, wk_0, hp_86_0, wp_iload_1, wp_i2l, wl_1, wl_99, wc_4, t_4, lN_le, wz_ne_t, wz_ne_f, wb_ne_t, wb_ne_f, wm_ne_1, wm_ne_2, wk_m1, wp_ireturn, al_3969, wc_60, hg_86_9, ha_90l, ha_90s, wc_25, wc_63, wp_istore_2, wp_jsr, wp_iload_2, wn_ge_t, wn_ge_f, wc_64, hp_86_1, wc_58, wc_43, t_43, al_3971, wc_41, wp_iinc_2_1, wp_goto, al_3972, wk_m2, nl_i, nl_r, nl_k, nl_j, nl_l, nI_add, pk_mul, pk_sub, tl_s, tl_n, aL_inl, u2_same, u2_ab, u2_aq, nI_l, lN_i, Nat.add_zero, Nat.zero_add, Nat.zero_le, true_and, and_true, b2n_10, b2n_T, b2n_F, b2n_0, Decidable.not_not, not_true_eq_false, not_false_eq_true, Nat.reduceAdd, Nat.reduceMul, t64, b2n_f hs, t_58 h.1.1 hc1' hK]
      exact hS k (by omega) hs hno _ _ _ (qN_u (qN_u hT1.2.1 rfl) rfl) hT1.2.2.1 (qJ_u qJ_r rfl) td1R
theorem o_alters {a : Int32} (h : inv D N I J t) (ht : t + 300 < 1000000000) : opO ko d 179 62 [.int a] D N I J x (t + 300) := by
  rcases rng3 a 1 (b := 99) (by decide) (by decide) with ⟨n, hn1, hn, rfl⟩ | hbad
  · have hcl : ∀ (Q : Option Value → aH → Prop), (∀ k, k < n → ¬ smB (crsS D N (itS D N (N 89) k)) (crsS D N (N 89)) = true → (∀ i, i < k → ¬ ¬ smB (crsS D N (itS D N (N 89) i)) (crsS D N (N 89)) = true) → ansC D N I J x (.int (nI k)) 1 (fun _ => (mth (D 1) (crsS D N (itS D N (N 89) k))).toInt64) Q) → ((∀ i, i < n → ¬ ¬ smB (crsS D N (itS D N (N 89) i)) (crsS D N (N 89)) = true) → ∀ (N' : Nat → Nat → Nat) (I' : Nat → Nat → Int32) (J' : Nat → Nat → Int64), sN N' N → sI I' I → sJ J' J → tdSC N' N J' J → tdSR N' N J' J → Q (some (.int (-2))) (hp D N' I' J' x)) → aMm ko d 179 [.ref 0, .int (nI n)] (hp D N I J x) Q := by
      intro Q hS hN
      have hb : ¬ (n < 1 ∨ 99 < n) := by omega
      rw [me_179]
      simp (disch := (first | omega | exact aCat_8 (by with_unfolding_all rfl) | exact rk_lt (by with_unfolding_all rfl) | exact aCat_16 (by with_unfolding_all rfl) | exact rk_eq (by with_unfolding_all rfl) | assumption | exact b2n_lt _ | exact id_b (by with_unfolding_all rfl) | (simp (disch := omega) only [u2_same, u2_ab, u2_aq]; done) | (simp (disch := omega) only [u2_same, u2_ab, u2_aq]; omega) | fail)) only [al_11456, wp_iload_1, wc_180, wz_eq_t, wz_eq_f, wb_eq_t, wb_eq_f, wm_eq_1, wm_eq_2, wk_m1, wp_ireturn, al_11457, wp_aloadr_0, wp_aloadk_0, hg_0_9, hg_0_7, hg_0_10, hg_0_4, wk_1, wc_254, wp_pop, wc_261, wp_istore_2, wp_jsr, wp_iload_2, wn_ge_t, wn_ge_f, wc_262, wz_ne_t, wz_ne_f, wb_ne_t, wb_ne_f, wm_ne_1, wm_ne_2, hg_0_1, wc_292, t_292, hg_26_11, wp_i2l, wc_293, t_293, al_11459, wp_iinc_2_1, wp_goto, al_11460, wk_m2, nl_i, nl_r, nl_k, nl_j, nl_l, nI_add, pk_mul, pk_sub, tl_s, tl_n, aL_inl, u2_same, u2_ab, u2_aq, nI_l, lN_i, Nat.add_zero, Nat.zero_add, Nat.zero_le, true_and, and_true, b2n_10, b2n_T, b2n_F, b2n_0, Decidable.not_not, not_true_eq_false, not_false_eq_true, Nat.reduceAdd, Nat.reduceMul, t_180, b2n_f hb, wc_283 (m := 24) rfl, t_283 (s := 24) (s' := 20) rfl rfl (by decide)]
      refine dr_1 (k := 0) h.1 (by omega) ht (dr_0 h.1) ?_
      intro N1 I1 J1 hD1 hc1 _ _ _
      obtain ⟨hK0, hL0, hp0⟩ := crsS_36 (k := 0) h.1 (by omega) ht
      simp (disch := (first | omega | exact aCat_8 (by with_unfolding_all rfl) | exact rk_lt (by with_unfolding_all rfl) | exact aCat_16 (by with_unfolding_all rfl) | exact rk_eq (by with_unfolding_all rfl) | assumption | exact b2n_lt _ | exact id_b (by with_unfolding_all rfl) | (simp (disch := omega) only [u2_same, u2_ab, u2_aq]; done) | (simp (disch := omega) only [u2_same, u2_ab, u2_aq]; omega) | fail)) only [al_11456, wp_iload_1, wc_180, wz_eq_t, wz_eq_f, wb_eq_t, wb_eq_f, wm_eq_1, wm_eq_2, wk_m1, wp_ireturn, al_11457, wp_aloadr_0, wp_aloadk_0, hg_0_9, hg_0_7, hg_0_10, hg_0_4, wk_1, wc_254, wp_pop, wc_261, wp_istore_2, wp_jsr, wp_iload_2, wn_ge_t, wn_ge_f, wc_262, wz_ne_t, wz_ne_f, wb_ne_t, wb_ne_f, wm_ne_1, wm_ne_2, hg_0_1, wc_292, t_292, hg_26_11, wp_i2l, wc_293, t_293, al_11459, wp_iinc_2_1, wp_goto, al_11460, wk_m2, nl_i, nl_r, nl_k, nl_j, nl_l, nI_add, pk_mul, pk_sub, tl_s, tl_n, aL_inl, u2_same, u2_ab, u2_aq, nI_l, lN_i, Nat.add_zero, Nat.zero_add, Nat.zero_le, true_and, and_true, b2n_10, b2n_T, b2n_F, b2n_0, Decidable.not_not, not_true_eq_false, not_false_eq_true, Nat.reduceAdd, Nat.reduceMul, t_261]
      have e26 : ∀ (T : Nat → Nat) (b : Nat), b ≠ 31 → setRow N1 31 T b = N1 b := fun T b hb => setRow_n hb
      refine l_179 h.1 ht hn hS hN (n - 1) 1 _ _ _ (by omega) ?_ ?_ ?_ ?_
      · intro i hi
        have : i = 0 := by omega
        subst this
        exact fun z => z (smB_r _)
      · obtain ⟨hA, hsk, h91, d1, d2, d3, d4, d5⟩ := hD1
        have hm : ∀ b q, b ≠ 31 → ¬ (b = 26 ∧ q = 14) → u2 (setRow N1 31 (mixN (N1 30) (N1 31) 36)) 26 14 (N1 26 9) b q = N1 b q := by
          intro b q h1 h2
          rw [u2_rd, if_neg h2, setRow_n h1]
        refine ⟨?_, ?_, ?_, ?_, d2, d3, ⟨?_, d4.2⟩, ⟨?_, d5.2⟩⟩
        · refine ⟨ldO_f hA.1 (fun q => ⟨hm 6 q (by decide) (by omega), hm 7 q (by decide) (by omega)⟩) (fun _ => rfl) (fun _ => rfl), clS_c hA.2.1 (fun q => hm 24 q (by decide) (by omega)) (fun q => hm 25 q (by decide) (by omega)) (fun _ => rfl), hA.2.2.1, ⟨(hm 11 2 (by decide) (by omega)).trans hA.2.2.2.1.1, hA.2.2.2.1.2⟩, hA.2.2.2.2⟩
        · rw [← hsk]
          unfold skC
          funext q
          rw [hm 9 1 (by decide) (by omega), hm 10 _ (by decide) (by omega)]
        · rw [hm 9 1 (by decide) (by omega)]; exact h91
        · exact sN_u (sN_w d1 (fun _ => rfl)) rfl
        · rw [hm 3 1 (by decide) (by omega)]; exact d4.1
        · rw [hm 86 1 (by decide) (by omega)]; exact d5.1
      · rw [u2_same]; exact hc1.1
      · intro i hi
        rw [u2_ab (by decide), setRow_s]
        unfold mixN
        have : i < 36 := Nat.lt_of_lt_of_le hi hL0
        rw [if_pos this]
        exact hc1.2.1 i hi
    have hrf : ∀ (N1 : Nat → Nat → Nat) (I1 : Nat → Nat → Int32) (J1 : Nat → Nat → Int64) (_ : invB D N1 I1 J1 t) (Q : Option Value → aH → Prop), (∀ k, k < n → ¬ smB (crsS D N1 (itS D N1 (N1 89) k)) (crsS D N1 (N1 89)) = true → (∀ i, i < k → ¬ ¬ smB (crsS D N1 (itS D N1 (N1 89) i)) (crsS D N1 (N1 89)) = true) → ansR D N1 I1 J1 x (.int (nI k)) 1 (fun _ => (mth (D 1) (crsS D N1 (itS D N1 (N1 89) k))).toInt64) Q) → ((∀ i, i < n → ¬ ¬ smB (crsS D N1 (itS D N1 (N1 89) i)) (crsS D N1 (N1 89)) = true) → ∀ (N' : Nat → Nat → Nat) (I' : Nat → Nat → Int32) (J' : Nat → Nat → Int64), qN N' N1 → sI I' I1 → qJ J' J1 → tdSR N' N1 J' J1 → Q (some (.int (-2))) (hp D N' I' J' x)) → aMm ko d 62 [.ref 86, .int (nI n)] (hp D N1 I1 J1 x) Q := by
      intro N1 I1 J1 h1 Q hS hN
      have hz1 : ∀ q, 111 ≤ q → u2 N1 86 0 0 89 q = 0 := fun q hq => by rw [u2_ab (by decide)]; exact h1.2.2.2.2.1.1.2.2.2.2 q hq
      have hz2 : ∀ q, 111 ≤ q → u2 N1 86 0 0 90 q = 0 := fun q hq => by rw [u2_ab (by decide)]; exact h1.2.2.2.2.2.2.2.2.2 q hq
      rw [me_62]
      simp (disch := (first | omega | exact aCat_8 (by with_unfolding_all rfl) | exact rk_lt (by with_unfolding_all rfl) | exact aCat_16 (by with_unfolding_all rfl) | exact rk_eq (by with_unfolding_all rfl) | assumption | exact b2n_lt _ | exact id_b (by with_unfolding_all rfl) | (simp (disch := omega) only [u2_same, u2_ab, u2_aq]; done) | (simp (disch := omega) only [u2_same, u2_ab, u2_aq]; omega) | fail)) only [al_3968, wp_aloadr_0, wp_aloadk_0, wk_0, hp_86_0, wp_iload_1, wp_i2l, wl_1, wl_99, wc_4, t_4, lN_le, wz_ne_t, wz_ne_f, wb_ne_t, wb_ne_f, wm_ne_1, wm_ne_2, wk_m1, wp_ireturn, al_3969, wc_60, hg_86_9, ha_90l, ha_90s, wc_25, wc_63, wp_istore_2, wp_jsr, wp_iload_2, wn_ge_t, wn_ge_f, wc_64, hp_86_1, wc_58, wc_43, t_43, al_3971, wc_41, wp_iinc_2_1, wp_goto, al_3972, wk_m2, nl_i, nl_r, nl_k, nl_j, nl_l, nI_add, pk_mul, pk_sub, tl_s, tl_n, aL_inl, u2_same, u2_ab, u2_aq, nI_l, lN_i, Nat.add_zero, Nat.zero_add, Nat.zero_le, true_and, and_true, b2n_10, b2n_T, b2n_F, b2n_0, Decidable.not_not, not_true_eq_false, not_false_eq_true, Nat.reduceAdd, Nat.reduceMul, t_60 hz1 hz2]
      refine th_c (k := 0) h1 (by omega) ht (th_0 h1 (qN_u qN_r rfl) (u2_aq (by decide)) hz1) ?_
      intro N2 I2 hT2 hc2 hN2 _
      obtain ⟨hK0, hL0, hp0⟩ := crsS_36 (k := 0) h1 (by omega) ht
      have h24 : N2 86 24 ≤ 36 := by rw [hc2.1]; exact hL0
      simp (disch := (first | omega | exact aCat_8 (by with_unfolding_all rfl) | exact rk_lt (by with_unfolding_all rfl) | exact aCat_16 (by with_unfolding_all rfl) | exact rk_eq (by with_unfolding_all rfl) | assumption | exact b2n_lt _ | exact id_b (by with_unfolding_all rfl) | (simp (disch := omega) only [u2_same, u2_ab, u2_aq]; done) | (simp (disch := omega) only [u2_same, u2_ab, u2_aq]; omega) | fail)) only [al_3968, wp_aloadr_0, wp_aloadk_0, wk_0, hp_86_0, wp_iload_1, wp_i2l, wl_1, wl_99, wc_4, t_4, lN_le, wz_ne_t, wz_ne_f, wb_ne_t, wb_ne_f, wm_ne_1, wm_ne_2, wk_m1, wp_ireturn, al_3969, wc_60, hg_86_9, ha_90l, ha_90s, wc_25, wc_63, wp_istore_2, wp_jsr, wp_iload_2, wn_ge_t, wn_ge_f, wc_64, hp_86_1, wc_58, wc_43, t_43, al_3971, wc_41, wp_iinc_2_1, wp_goto, al_3972, wk_m2, nl_i, nl_r, nl_k, nl_j, nl_l, nI_add, pk_mul, pk_sub, tl_s, tl_n, aL_inl, u2_same, u2_ab, u2_aq, nI_l, lN_i, Nat.add_zero, Nat.zero_add, Nat.zero_le, true_and, and_true, b2n_10, b2n_T, b2n_F, b2n_0, Decidable.not_not, not_true_eq_false, not_false_eq_true, Nat.reduceAdd, Nat.reduceMul, t_63 h24]
      refine l_62 h1 ht hn hS hN n 0 _ _ (by omega) (fun i hi => absurd hi (Nat.not_lt_zero _)) ?_ ?_ ?_
      · refine ⟨by rw [setRow_n (by decide), u2_nb (by decide)]; exact hT2.1, qN_w (qN_u hT2.2.1 rfl) (fun _ => rfl), hT2.2.2.1, ?_⟩
        rw [setRow_n (by decide), u2_aq (by decide)]
        exact hT2.2.2.2
      · rw [setRow_n (by decide), u2_same]
        exact hc2.1
      · intro i hi
        rw [setRow_s]
        unfold mixN
        have e24 : N2 86 24 = (crsS D N1 (N1 89)).1 := hc2.1
        rw [if_pos (by rw [e24]; exact hi)]
        exact hc2.2.2.1 i hi
    rcases firstOf (fun k => ¬ smB (crsS D N (itS D N (N 89) k)) (crsS D N (N 89)) = true) n with ⟨k0, hk, hp, hno⟩ | hno
    · refine op_ans (v := .int (nI k0)) (m := 1) (f := fun _ => (mth (D 1) (crsS D N (itS D N (N 89) k0))).toInt64) h (by decide) (by omega) ?_ ?_
      · intro Q hQ
        refine hcl Q (fun k1 _ hp1 hno1 => ?_) (fun z => absurd hp (z k0 hk))
        have := first_u (p := fun k => ¬ smB (crsS D N (itS D N (N 89) k)) (crsS D N (N 89)) = true) hp1 hno1 hp hno
        subst this
        exact hQ
      · intro N1 I1 J1 h1 hN hI hJ Q hQ
        have ee : ∀ k, crsS D N1 (itS D N1 (N1 89) k) = crsS D N (itS D N (N 89) k) := fun k => by rw [sN_89 hN, smR_it (sN_sm hN), smR_crs (sN_sm hN)]
        have ee0 : crsS D N1 (N1 89) = crsS D N (N 89) := ee 0
        refine hrf N1 I1 J1 h1 Q (fun k1 _ hp1 hno1 => ?_) (fun z => absurd hp (by have := z k0 hk; rw [ee, ee0] at this; exact this))
        rw [ee, ee0] at hp1
        rw [ee]
        have := first_u (p := fun k => ¬ smB (crsS D N (itS D N (N 89) k)) (crsS D N (N 89)) = true) hp1 (fun i hi => by have := hno1 i hi; rw [ee, ee0] at this; exact this) hp hno
        subst this
        exact hQ
    · refine op_same (v := .int (-2)) h (by omega) ?_ ?_
      · intro Q hQ
        exact hcl Q (fun k1 hk1 hp1 _ => absurd hp1 (hno k1 hk1)) (fun _ => hQ)
      · intro N1 I1 J1 h1 hN hI hJ Q hQ
        have ee : ∀ k, crsS D N1 (itS D N1 (N1 89) k) = crsS D N (itS D N (N 89) k) := fun k => by rw [sN_89 hN, smR_it (sN_sm hN), smR_crs (sN_sm hN)]
        have ee0 : crsS D N1 (N1 89) = crsS D N (N 89) := ee 0
        exact hrf N1 I1 J1 h1 Q (fun k1 hk1 hp1 _ => absurd (by rw [ee, ee0] at hp1; exact hp1) (hno k1 hk1)) (fun _ => hQ)
  · refine op_same (v := .int (-1)) h (by omega) ?_ ?_
    · intro Q hQ
      rw [me_179]
      simp (disch := (first | omega | exact aCat_8 (by with_unfolding_all rfl) | exact rk_lt (by with_unfolding_all rfl) | exact aCat_16 (by with_unfolding_all rfl) | exact rk_eq (by with_unfolding_all rfl) | assumption | exact b2n_lt _ | exact id_b (by with_unfolding_all rfl) | (simp (disch := omega) only [u2_same, u2_ab, u2_aq]; done) | (simp (disch := omega) only [u2_same, u2_ab, u2_aq]; omega) | fail)) only [al_11456, wp_iload_1, wc_180, wz_eq_t, wz_eq_f, wb_eq_t, wb_eq_f, wm_eq_1, wm_eq_2, wk_m1, wp_ireturn, al_11457, wp_aloadr_0, wp_aloadk_0, hg_0_9, hg_0_7, hg_0_10, hg_0_4, wk_1, wc_254, wp_pop, wc_261, wp_istore_2, wp_jsr, wp_iload_2, wn_ge_t, wn_ge_f, wc_262, wz_ne_t, wz_ne_f, wb_ne_t, wb_ne_f, wm_ne_1, wm_ne_2, hg_0_1, wc_292, t_292, hg_26_11, wp_i2l, wc_293, t_293, al_11459, wp_iinc_2_1, wp_goto, al_11460, wk_m2, nl_i, nl_r, nl_k, nl_j, nl_l, nI_add, pk_mul, pk_sub, tl_s, tl_n, aL_inl, u2_same, u2_ab, u2_aq, nI_l, lN_i, Nat.add_zero, Nat.zero_add, Nat.zero_le, true_and, and_true, b2n_10, b2n_T, b2n_F, b2n_0, Decidable.not_not, not_true_eq_false, not_false_eq_true, Nat.reduceAdd, Nat.reduceMul, t_180x hbad]
      exact hQ N I J sN_r sI_r sJ_r ⟨rfl, fun _ => rfl⟩ ⟨rfl, fun _ => rfl⟩
    · intro N1 I1 J1 h1 hN hI hJ Q hQ
      have hin := in_f (a := 1) (b := 99) (by decide) (by decide) hbad
      rw [me_62]
      simp (disch := (first | omega | exact aCat_8 (by with_unfolding_all rfl) | exact rk_lt (by with_unfolding_all rfl) | exact aCat_16 (by with_unfolding_all rfl) | exact rk_eq (by with_unfolding_all rfl) | assumption | exact b2n_lt _ | exact id_b (by with_unfolding_all rfl) | (simp (disch := omega) only [u2_same, u2_ab, u2_aq]; done) | (simp (disch := omega) only [u2_same, u2_ab, u2_aq]; omega) | fail)) only [al_3968, wp_aloadr_0, wp_aloadk_0, wk_0, hp_86_0, wp_iload_1, wp_i2l, wl_1, wl_99, wc_4, t_4, lN_le, wz_ne_t, wz_ne_f, wb_ne_t, wb_ne_f, wm_ne_1, wm_ne_2, wk_m1, wp_ireturn, al_3969, wc_60, hg_86_9, ha_90l, ha_90s, wc_25, wc_63, wp_istore_2, wp_jsr, wp_iload_2, wn_ge_t, wn_ge_f, wc_64, hp_86_1, wc_58, wc_43, t_43, al_3971, wc_41, wp_iinc_2_1, wp_goto, al_3972, wk_m2, nl_i, nl_r, nl_k, nl_j, nl_l, nI_add, pk_mul, pk_sub, tl_s, tl_n, aL_inl, u2_same, u2_ab, u2_aq, nI_l, lN_i, Nat.add_zero, Nat.zero_add, Nat.zero_le, true_and, and_true, b2n_10, b2n_T, b2n_F, b2n_0, Decidable.not_not, not_true_eq_false, not_false_eq_true, Nat.reduceAdd, Nat.reduceMul, b2n_f hin]
      exact hQ _ _ _ (qN_u qN_r rfl) sI_r qJ_r ⟨u2_aq (by decide), fun _ => rfl⟩
end O5
