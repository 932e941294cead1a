/-! least: the pair. From wip/whole/src. -/
section E2
variable {ko : aKo} {d k : Nat} {is : List Instr} {ls st : List Value} {σ : aH} {D : Nat → Nat} {N : Nat → Nat → Nat} {I : Nat → Nat → Int32} {J : Nat → Nat → Int64} {x t : Nat} {Q : Option Value → aH → Prop} {P : (Option Value ⊕ Unit) → aH → Prop}
/-- the m-th that is tried: amounts in turn, for each the fields in turn -/
def lsP (D : Nat → Nat) (N : Nat → Nat → Nat) (m : Nat) : Prop := lsA D N (m / (D 0 * D 1) + 1) (m % (D 0 * D 1)) = true
theorem lsP_at {F a f : Nat} (hF : 0 < F) (hf : f < F) : (F * a + f) / F = a ∧ (F * a + f) % F = f := by
  constructor
  · rw [Nat.mul_add_div hF, Nat.div_eq_of_lt hf, Nat.add_zero]
  · rw [Nat.mul_add_mod, Nat.mod_eq_of_lt hf]
theorem lsP_lt {F a f : Nat} (ha : a < 9) (hf : f < F) : F * a + f < F * 9 := Nat.lt_of_lt_of_le (show F * a + f < F * (a + 1) by rw [Nat.mul_succ]; omega) (Nat.mul_le_mul_left F (by omega))
theorem lsP_iff {a f : Nat} (hF : 0 < D 0 * D 1) (hf : f < D 0 * D 1) : lsP D N (D 0 * D 1 * a + f) ↔ lsA D N (a + 1) f = true := by
  unfold lsP
  rw [(lsP_at hF hf).1, (lsP_at hF hf).2]
theorem no_s {p : Nat → Prop} {m : Nat} (h : ∀ i, i < m → ¬ p i) (h2 : ¬ p m) : ∀ i, i < m + 1 → ¬ p i := by
  intro i hi
  by_cases e : i = m
  · rw [e]; exact h2
  · exact h i (by omega)
theorem l_188i {N0 : Nat → Nat → Nat} {I0 : Nat → Nat → Int32} {J0 : Nat → Nat → Int64} {w : Int64} {a : Nat} (h : invB D N0 I0 J0 t) (ha : a < 9)
    (hw : ∀ f, f < D 0 * D 1 → tb w f = false → ∀ b, lsA D N0 b f = false)
    (hS : ∀ m, m < D 0 * D 1 * 9 → lsP D N0 m → (∀ i, i < m → ¬ lsP D N0 i) → ansC D N0 I0 J0 x (.int (nI (m / (D 0 * D 1) + 1))) 1 (fun _ => lN (m % (D 0 * D 1))) Q)
    (hK : ∀ (N : Nat → Nat → Nat) (I : Nat → Nat → Int32) (J : Nat → Nat → Int64), (∀ i, i < D 0 * D 1 * (a + 1) → ¬ lsP D N0 i) → lsO D N0 N I0 I J0 J → aWp ko d 188 (aP.1 (Int.toNat 12036)) [.ref 0, .long w, aJk, .int (nI (a + 1)), .int (nI (D 0 * D 1))] [] (hp D N I J x) (aL Q)) :
    ∀ (j f : Nat) (N : Nat → Nat → Nat) (I : Nat → Nat → Int32) (J : Nat → Nat → Int64), f + j = D 0 * D 1 → (∀ i, i < D 0 * D 1 * a + f → ¬ lsP D N0 i) → lsO D N0 N I0 I J0 J → aWp ko d 188 (aP.1 (Int.toNat 12034)) [.ref 0, .long w, aJk, .int (nI (a + 1)), .int (nI f)] [] (hp D N I J x) (aL Q) := by
  have hF := dm_F h.1.1
  have h4 := inv_d4 h
  intro j
  induction j with
  | zero =>
    intro f N I J hj hno hO
    have e : f = D 0 * D 1 := by omega
    subst e
    rw [al_12034]
    simp (disch := (first | omega | exact aCat_8 (by with_unfolding_all rfl) | exact rk_lt (by with_unfolding_all rfl) | exact aCat_16 (by with_unfolding_all rfl) | exact rk_eq (by with_unfolding_all rfl) | assumption | exact b2n_lt _ | exact id_b (by with_unfolding_all rfl) | (simp (disch := omega) only [u2_same, u2_ab, u2_aq]; done) | (simp (disch := omega) only [u2_same, u2_ab, u2_aq]; omega) | fail)) only [al_12032, wp_aloadr_0, wp_aloadk_0, hg_0_10, hg_0_7, hg_0_4, wc_260, wc_261, hg_26_10, hg_0_2, wc_243, wp_lor, wp_lstore_1, hg_0_9, wk_1, wp_istore_3, wp_jsr, wp_iload_3, wk_9, wn_gt_t, wn_gt_f, wk_0, wp_istore_4, wp_iload_4, hg_5_2, wn_ge_t, wn_ge_f, wp_lload_1, wc_161, t_161, wn_ne_t, wn_ne_f, wc_189, wz_eq_t, wz_eq_f, wb_eq_t, wb_eq_f, wm_eq_1, wm_eq_2, hg_0_1, wc_292, t_292, wp_i2l, wc_293, t_293, wp_ireturn, al_12035, wp_iinc_4_1, wp_goto, wp_iinc_3_1, al_12037, wk_m2, nl_i, nl_r, nl_k, nl_j, nl_l, nI_add, pk_mul, pk_sub, tl_s, tl_n, aL_inl, u2_same, u2_ab, u2_aq, nI_l, lN_i, Nat.add_zero, Nat.zero_add, Nat.zero_le, true_and, and_true, b2n_10, b2n_T, b2n_F, b2n_0, Decidable.not_not, not_true_eq_false, not_false_eq_true, Nat.reduceAdd, Nat.reduceMul, Nat.reduceSub, h4]
    exact hK N I J (by rw [Nat.mul_succ]; exact hno) hO
  | succ j ih =>
    intro f N I J hj hno hO
    have hf : f < D 0 * D 1 := by omega
    have hi := lsP_iff (D := D) (N := N0) (a := a) (f := f) (by omega) hf
    have ih1 := fun N I J (z : ¬ lsP D N0 (D 0 * D 1 * a + f)) => ih (f + 1) N I J (by omega) (by rw [← Nat.add_assoc]; exact no_s hno z)
    rw [al_12034]
    by_cases hb : tb w f = true
    · simp (disch := (first | omega | exact aCat_8 (by with_unfolding_all rfl) | exact rk_lt (by with_unfolding_all rfl) | exact aCat_16 (by with_unfolding_all rfl) | exact rk_eq (by with_unfolding_all rfl) | assumption | exact b2n_lt _ | exact id_b (by with_unfolding_all rfl) | (simp (disch := omega) only [u2_same, u2_ab, u2_aq]; done) | (simp (disch := omega) only [u2_same, u2_ab, u2_aq]; omega) | fail)) only [al_12032, wp_aloadr_0, wp_aloadk_0, hg_0_10, hg_0_7, hg_0_4, wc_260, wc_261, hg_26_10, hg_0_2, wc_243, wp_lor, wp_lstore_1, hg_0_9, wk_1, wp_istore_3, wp_jsr, wp_iload_3, wk_9, wn_gt_t, wn_gt_f, wk_0, wp_istore_4, wp_iload_4, hg_5_2, wn_ge_t, wn_ge_f, wp_lload_1, wc_161, t_161, wn_ne_t, wn_ne_f, wc_189, wz_eq_t, wz_eq_f, wb_eq_t, wb_eq_f, wm_eq_1, wm_eq_2, hg_0_1, wc_292, t_292, wp_i2l, wc_293, t_293, wp_ireturn, al_12035, wp_iinc_4_1, wp_goto, wp_iinc_3_1, al_12037, wk_m2, nl_i, nl_r, nl_k, nl_j, nl_l, nI_add, pk_mul, pk_sub, tl_s, tl_n, aL_inl, u2_same, u2_ab, u2_aq, nI_l, lN_i, Nat.add_zero, Nat.zero_add, Nat.zero_le, true_and, and_true, b2n_10, b2n_T, b2n_F, b2n_0, Decidable.not_not, not_true_eq_false, not_false_eq_true, Nat.reduceAdd, Nat.reduceMul, Nat.reduceSub, h4, b2n_t hb]
      refine t_189 h hf (by omega) hO ?_
      intro N1 I1 J1 hO1
      by_cases hp : lsA D N0 (a + 1) f = true
      · have hs := hS _ (lsP_lt ha hf) (hi.mpr hp) hno
        rw [(lsP_at (F := D 0 * D 1) (a := a) (by omega) hf).1, (lsP_at (F := D 0 * D 1) (a := a) (by omega) hf).2] at hs
        simp (disch := (first | omega | exact aCat_8 (by with_unfolding_all rfl) | exact rk_lt (by with_unfolding_all rfl) | exact aCat_16 (by with_unfolding_all rfl) | exact rk_eq (by with_unfolding_all rfl) | assumption | exact b2n_lt _ | exact id_b (by with_unfolding_all rfl) | (simp (disch := omega) only [u2_same, u2_ab, u2_aq]; done) | (simp (disch := omega) only [u2_same, u2_ab, u2_aq]; omega) | fail)) only [al_12032, wp_aloadr_0, wp_aloadk_0, hg_0_10, hg_0_7, hg_0_4, wc_260, wc_261, hg_26_10, hg_0_2, wc_243, wp_lor, wp_lstore_1, hg_0_9, wk_1, wp_istore_3, wp_jsr, wp_iload_3, wk_9, wn_gt_t, wn_gt_f, wk_0, wp_istore_4, wp_iload_4, hg_5_2, wn_ge_t, wn_ge_f, wp_lload_1, wc_161, t_161, wn_ne_t, wn_ne_f, wc_189, wz_eq_t, wz_eq_f, wb_eq_t, wb_eq_f, wm_eq_1, wm_eq_2, hg_0_1, wc_292, t_292, wp_i2l, wc_293, t_293, wp_ireturn, al_12035, wp_iinc_4_1, wp_goto, wp_iinc_3_1, al_12037, wk_m2, nl_i, nl_r, nl_k, nl_j, nl_l, nI_add, pk_mul, pk_sub, tl_s, tl_n, aL_inl, u2_same, u2_ab, u2_aq, nI_l, lN_i, Nat.add_zero, Nat.zero_add, Nat.zero_le, true_and, and_true, b2n_10, b2n_T, b2n_F, b2n_0, Decidable.not_not, not_true_eq_false, not_false_eq_true, Nat.reduceAdd, Nat.reduceMul, Nat.reduceSub, b2n_t hp]
        exact hs _ _ _ (sN_u (sN_u hO1.1.2.2.2.1 rfl) rfl) hO1.1.2.2.2.2.1 (sJ_u hO1.1.2.2.2.2.2.1 rfl) td1C
      · simp (disch := (first | omega | exact aCat_8 (by with_unfolding_all rfl) | exact rk_lt (by with_unfolding_all rfl) | exact aCat_16 (by with_unfolding_all rfl) | exact rk_eq (by with_unfolding_all rfl) | assumption | exact b2n_lt _ | exact id_b (by with_unfolding_all rfl) | (simp (disch := omega) only [u2_same, u2_ab, u2_aq]; done) | (simp (disch := omega) only [u2_same, u2_ab, u2_aq]; omega) | fail)) only [al_12032, wp_aloadr_0, wp_aloadk_0, hg_0_10, hg_0_7, hg_0_4, wc_260, wc_261, hg_26_10, hg_0_2, wc_243, wp_lor, wp_lstore_1, hg_0_9, wk_1, wp_istore_3, wp_jsr, wp_iload_3, wk_9, wn_gt_t, wn_gt_f, wk_0, wp_istore_4, wp_iload_4, hg_5_2, wn_ge_t, wn_ge_f, wp_lload_1, wc_161, t_161, wn_ne_t, wn_ne_f, wc_189, wz_eq_t, wz_eq_f, wb_eq_t, wb_eq_f, wm_eq_1, wm_eq_2, hg_0_1, wc_292, t_292, wp_i2l, wc_293, t_293, wp_ireturn, al_12035, wp_iinc_4_1, wp_goto, wp_iinc_3_1, al_12037, wk_m2, nl_i, nl_r, nl_k, nl_j, nl_l, nI_add, pk_mul, pk_sub, tl_s, tl_n, aL_inl, u2_same, u2_ab, u2_aq, nI_l, lN_i, Nat.add_zero, Nat.zero_add, Nat.zero_le, true_and, and_true, b2n_10, b2n_T, b2n_F, b2n_0, Decidable.not_not, not_true_eq_false, not_false_eq_true, Nat.reduceAdd, Nat.reduceMul, Nat.reduceSub, b2n_f hp]
        exact ih1 N1 I1 J1 (fun z => hp (hi.mp z)) hO1
    · have hbf : tb w f = false := by simpa using hb
      have hp := hw f hf hbf (a + 1)
      simp (disch := (first | omega | exact aCat_8 (by with_unfolding_all rfl) | exact rk_lt (by with_unfolding_all rfl) | exact aCat_16 (by with_unfolding_all rfl) | exact rk_eq (by with_unfolding_all rfl) | assumption | exact b2n_lt _ | exact id_b (by with_unfolding_all rfl) | (simp (disch := omega) only [u2_same, u2_ab, u2_aq]; done) | (simp (disch := omega) only [u2_same, u2_ab, u2_aq]; omega) | fail)) only [al_12032, wp_aloadr_0, wp_aloadk_0, hg_0_10, hg_0_7, hg_0_4, wc_260, wc_261, hg_26_10, hg_0_2, wc_243, wp_lor, wp_lstore_1, hg_0_9, wk_1, wp_istore_3, wp_jsr, wp_iload_3, wk_9, wn_gt_t, wn_gt_f, wk_0, wp_istore_4, wp_iload_4, hg_5_2, wn_ge_t, wn_ge_f, wp_lload_1, wc_161, t_161, wn_ne_t, wn_ne_f, wc_189, wz_eq_t, wz_eq_f, wb_eq_t, wb_eq_f, wm_eq_1, wm_eq_2, hg_0_1, wc_292, t_292, wp_i2l, wc_293, t_293, wp_ireturn, al_12035, wp_iinc_4_1, wp_goto, wp_iinc_3_1, al_12037, wk_m2, nl_i, nl_r, nl_k, nl_j, nl_l, nI_add, pk_mul, pk_sub, tl_s, tl_n, aL_inl, u2_same, u2_ab, u2_aq, nI_l, lN_i, Nat.add_zero, Nat.zero_add, Nat.zero_le, true_and, and_true, b2n_10, b2n_T, b2n_F, b2n_0, Decidable.not_not, not_true_eq_false, not_false_eq_true, Nat.reduceAdd, Nat.reduceMul, Nat.reduceSub, h4, b2n_f hb]
      exact ih1 N I J (fun z => by rw [hi.mp z] at hp; cases hp) hO
theorem l_188 {N0 : Nat → Nat → Nat} {I0 : Nat → Nat → Int32} {J0 : Nat → Nat → Int64} {w : Int64} (h : invB D N0 I0 J0 t)
    (hw : ∀ f, f < D 0 * D 1 → tb w f = false → ∀ b, lsA D N0 b f = false)
    (hS : ∀ m, m < D 0 * D 1 * 9 → lsP D N0 m → (∀ i, i < m → ¬ lsP D N0 i) → ansC D N0 I0 J0 x (.int (nI (m / (D 0 * D 1) + 1))) 1 (fun _ => lN (m % (D 0 * D 1))) Q)
    (hN : (∀ i, i < D 0 * D 1 * 9 → ¬ lsP D N0 i) → ∀ (N' : Nat → Nat → Nat) (I' : Nat → Nat → Int32) (J' : Nat → Nat → Int64), rsO N0 N' I0 I' J0 J' → Q (some (.int (-2))) (hp D N' I' J' x)) :
    ∀ (j a : Nat) (N : Nat → Nat → Nat) (I : Nat → Nat → Int32) (J : Nat → Nat → Int64) (w4 : Value), a + j = 9 → (∀ i, i < D 0 * D 1 * a → ¬ lsP D N0 i) → lsO D N0 N I0 I J0 J → aWp ko d 188 (aP.1 (Int.toNat 12033)) [.ref 0, .long w, aJk, .int (nI (a + 1)), w4] [] (hp D N I J x) (aL Q) := by
  have hF := dm_F h.1.1
  intro j
  induction j with
  | zero =>
    intro a N I J w4 hj hno hO
    have e : a = 9 := by omega
    subst e
    rw [al_12033]
    simp (disch := (first | omega | exact aCat_8 (by with_unfolding_all rfl) | exact rk_lt (by with_unfolding_all rfl) | exact aCat_16 (by with_unfolding_all rfl) | exact rk_eq (by with_unfolding_all rfl) | assumption | exact b2n_lt _ | exact id_b (by with_unfolding_all rfl) | (simp (disch := omega) only [u2_same, u2_ab, u2_aq]; done) | (simp (disch := omega) only [u2_same, u2_ab, u2_aq]; omega) | fail)) only [al_12032, wp_aloadr_0, wp_aloadk_0, hg_0_10, hg_0_7, hg_0_4, wc_260, wc_261, hg_26_10, hg_0_2, wc_243, wp_lor, wp_lstore_1, hg_0_9, wk_1, wp_istore_3, wp_jsr, wp_iload_3, wk_9, wn_gt_t, wn_gt_f, wk_0, wp_istore_4, wp_iload_4, hg_5_2, wn_ge_t, wn_ge_f, wp_lload_1, wc_161, t_161, wn_ne_t, wn_ne_f, wc_189, wz_eq_t, wz_eq_f, wb_eq_t, wb_eq_f, wm_eq_1, wm_eq_2, hg_0_1, wc_292, t_292, wp_i2l, wc_293, t_293, wp_ireturn, al_12035, wp_iinc_4_1, wp_goto, al_12036, wp_iinc_3_1, al_12037, wk_m2, nl_i, nl_r, nl_k, nl_j, nl_l, nI_add, pk_mul, pk_sub, tl_s, tl_n, aL_inl, u2_same, u2_ab, u2_aq, nI_l, lN_i, Nat.add_zero, Nat.zero_add, Nat.zero_le, true_and, and_true, b2n_10, b2n_T, b2n_F, b2n_0, Decidable.not_not, not_true_eq_false, not_false_eq_true, Nat.reduceAdd, Nat.reduceMul, Nat.reduceSub]
    exact hN hno N I J (dr_rs hO.1)
  | succ j ih =>
    intro a N I J w4 hj hno hO
    have hx := l_188i (ko := ko) (d := d) (x := x) (Q := Q) (a := a) h (by omega) hw hS (fun N I J hno hO => by
      have := ih (a + 1) N I J (.int (nI (D 0 * D 1))) (by omega) hno hO
      rw [al_12036]
      simp (disch := (first | omega | exact aCat_8 (by with_unfolding_all rfl) | exact rk_lt (by with_unfolding_all rfl) | exact aCat_16 (by with_unfolding_all rfl) | exact rk_eq (by with_unfolding_all rfl) | assumption | exact b2n_lt _ | exact id_b (by with_unfolding_all rfl) | (simp (disch := omega) only [u2_same, u2_ab, u2_aq]; done) | (simp (disch := omega) only [u2_same, u2_ab, u2_aq]; omega) | fail)) only [al_12032, wp_aloadr_0, wp_aloadk_0, hg_0_10, hg_0_7, hg_0_4, wc_260, wc_261, hg_26_10, hg_0_2, wc_243, wp_lor, wp_lstore_1, hg_0_9, wk_1, wp_istore_3, wp_jsr, wp_iload_3, wk_9, wn_gt_t, wn_gt_f, wk_0, wp_istore_4, wp_iload_4, hg_5_2, wn_ge_t, wn_ge_f, wp_lload_1, wc_161, t_161, wn_ne_t, wn_ne_f, wc_189, wz_eq_t, wz_eq_f, wb_eq_t, wb_eq_f, wm_eq_1, wm_eq_2, hg_0_1, wc_292, t_292, wp_i2l, wc_293, t_293, wp_ireturn, al_12035, wp_iinc_4_1, wp_goto, al_12036, wp_iinc_3_1, al_12037, wk_m2, nl_i, nl_r, nl_k, nl_j, nl_l, nI_add, pk_mul, pk_sub, tl_s, tl_n, aL_inl, u2_same, u2_ab, u2_aq, nI_l, lN_i, Nat.add_zero, Nat.zero_add, Nat.zero_le, true_and, and_true, b2n_10, b2n_T, b2n_F, b2n_0, Decidable.not_not, not_true_eq_false, not_false_eq_true, Nat.reduceAdd, Nat.reduceMul, Nat.reduceSub]
      exact this) (D 0 * D 1) 0 N I J (by omega) hno hO
    rw [al_12033]
    simp (disch := (first | omega | exact aCat_8 (by with_unfolding_all rfl) | exact rk_lt (by with_unfolding_all rfl) | exact aCat_16 (by with_unfolding_all rfl) | exact rk_eq (by with_unfolding_all rfl) | assumption | exact b2n_lt _ | exact id_b (by with_unfolding_all rfl) | (simp (disch := omega) only [u2_same, u2_ab, u2_aq]; done) | (simp (disch := omega) only [u2_same, u2_ab, u2_aq]; omega) | fail)) only [al_12032, wp_aloadr_0, wp_aloadk_0, hg_0_10, hg_0_7, hg_0_4, wc_260, wc_261, hg_26_10, hg_0_2, wc_243, wp_lor, wp_lstore_1, hg_0_9, wk_1, wp_istore_3, wp_jsr, wp_iload_3, wk_9, wn_gt_t, wn_gt_f, wk_0, wp_istore_4, wp_iload_4, hg_5_2, wn_ge_t, wn_ge_f, wp_lload_1, wc_161, t_161, wn_ne_t, wn_ne_f, wc_189, wz_eq_t, wz_eq_f, wb_eq_t, wb_eq_f, wm_eq_1, wm_eq_2, hg_0_1, wc_292, t_292, wp_i2l, wc_293, t_293, wp_ireturn, al_12035, wp_iinc_4_1, wp_goto, al_12036, wp_iinc_3_1, al_12037, wk_m2, nl_i, nl_r, nl_k, nl_j, nl_l, nI_add, pk_mul, pk_sub, tl_s, tl_n, aL_inl, u2_same, u2_ab, u2_aq, nI_l, lN_i, Nat.add_zero, Nat.zero_add, Nat.zero_le, true_and, and_true, b2n_10, b2n_T, b2n_F, b2n_0, Decidable.not_not, not_true_eq_false, not_false_eq_true, Nat.reduceAdd, Nat.reduceMul, Nat.reduceSub]
    exact hx
theorem qk_90 {q : Nat} (h : q < 111) : kqN 90 q = false := by
  have : Nat.ble 111 q = false := by
    cases e : Nat.ble 111 q with
    | false => rfl
    | true => exact absurd (Nat.le_of_ble_eq_true e) (by omega)
  simp [kqN, kpN, this]
  decide
theorem th_u9 {N0 : Nat → Nat → Nat} {I0 : Nat → Nat → Int32} {S : Nat → Nat} {f v : Nat} (hf : f < 111) (hT : thO N0 N I0 I S) : thO N0 (u2 N 90 f v) I0 I (upn S f v) := by
  obtain ⟨h9, hN, hI, h1⟩ := hT
  refine ⟨?_, qN_u hN (qk_90 hf), hI, by rw [u2_ab (by decide)]; exact h1⟩
  funext q
  rw [u2_rd, h9, upn]
  by_cases z : q = f
  · rw [if_pos ⟨rfl, z⟩, if_pos z]
  · rw [if_neg (fun y => z y.2), if_neg z]
theorem th_cf {N0 : Nat → Nat → Nat} {I0 : Nat → Nat → Int32} {J0 : Nat → Nat → Int64} {S : Nat → Nat} (h : invB D N0 I0 J0 t) (hS : rwO (D 1) S) (hT : thO N0 N I0 I S)
    (hQ : ∀ (N' : Nat → Nat → Nat) (I' : Nat → Nat → Int32), thO N0 N' I0 I' S → crO N' (crsS D N0 S) → (∀ b q, frC b q = false → N' b q = N b q) → Q none (hp D N' I' J x)) :
    aMm ko d 25 [.ref 86, .ref 90] (hp D N I J x) Q := by
  obtain ⟨h9, hN, hI, h1⟩ := hT
  have hs := sN_sm (qN_s hN)
  refine t_25 (r := 90) (Or.inr rfl) h.1.1 (by rw [h9]; exact hS) (smR_rl hs (inv_rl h)) ?_
  intro N' I' hc hN' hI'
  have hcc : crs0 (D 0) (D 1) (dsl (D 1) N (N 90)) (wlS (N 90)) (N 90 108) = crsS D N0 S := by
    rw [h9, smR_dsl hs]
    rfl
  rw [hcc] at hc
  refine hQ N' I' ⟨?_, qN_t (rN_q hN') hN, sI_t (rI_s hI') hI, (hN' 86 1 rfl).trans h1⟩ hc hN'
  rw [← h9]
  funext q
  exact hN' 90 q rfl
def lsR (D : Nat → Nat) (N0 N : Nat → Nat → Nat) (I0 I : Nat → Nat → Int32) : Prop := thO N0 N I0 I (N0 89) ∧ N 86 34 = (crsS D N0 (N0 89)).1 ∧ ∀ i, i < (crsS D N0 (N0 89)).1 → N 104 i = (crsS D N0 (N0 89)).2.1 i
theorem l_73i {N0 : Nat → Nat → Nat} {I0 : Nat → Nat → Int32} {J0 : Nat → Nat → Int64} {a : Nat} (h : invB D N0 I0 J0 t) (ha : a < 9)
    (hS : ∀ m, m < D 0 * D 1 * 9 → lsP D N0 m → (∀ i, i < m → ¬ lsP D N0 i) → ansR D N0 I0 J0 x (.int (nI (m / (D 0 * D 1) + 1))) 1 (fun _ => lN (m % (D 0 * D 1))) Q)
    (hK : ∀ (N : Nat → Nat → Nat) (I : Nat → Nat → Int32), (∀ i, i < D 0 * D 1 * (a + 1) → ¬ lsP D N0 i) → lsR D N0 N I0 I → aWp ko d 73 (aP.1 (Int.toNat 4676)) [.ref 86, .int (nI (a + 1)), .int (nI (D 0 * D 1))] [] (hp D N I J0 x) (aL Q)) :
    ∀ (j f : Nat) (N : Nat → Nat → Nat) (I : Nat → Nat → Int32), f + j = D 0 * D 1 → (∀ i, i < D 0 * D 1 * a + f → ¬ lsP D N0 i) → lsR D N0 N I0 I → aWp ko d 73 (aP.1 (Int.toNat 4674)) [.ref 86, .int (nI (a + 1)), .int (nI f)] [] (hp D N I J0 x) (aL Q) := by
  have hF := dm_F h.1.1
  have h89 := h.2.2.2.2.1
  intro j
  induction j with
  | zero =>
    intro f N I hj hno hO
    have e : f = D 0 * D 1 := by omega
    subst e
    rw [al_4674]
    simp (disch := (first | omega | exact aCat_8 (by with_unfolding_all rfl) | exact rk_lt (by with_unfolding_all rfl) | exact aCat_16 (by with_unfolding_all rfl) | exact rk_eq (by with_unfolding_all rfl) | assumption | exact b2n_lt _ | exact id_b (by with_unfolding_all rfl) | (simp (disch := omega) only [u2_same, u2_ab, u2_aq]; done) | (simp (disch := omega) only [u2_same, u2_ab, u2_aq]; omega) | fail)) only [al_4672, wp_aloadr_0, wp_aloadk_0, wk_0, hp_86_0, wc_60, hg_86_9, ha_90l, ha_90s, wc_25, wc_63, wk_1, wp_istore_1, wp_jsr, wp_iload_1, wk_9, wn_gt_t, wn_gt_f, wp_istore_2, wp_iload_2, wc_10, t_10, wn_ge_t, wn_ge_f, hg_86_8, ha_89l, ha_89s, wn_lt_t, wn_lt_f, wp_isub, wc_64, wz_ne_t, wz_ne_f, wb_ne_t, wb_ne_f, wm_ne_1, wm_ne_2, hp_86_1, wp_i2l, wc_43, t_43, wp_ireturn, al_4675, wp_iinc_2_1, wp_goto, wp_iinc_1_1, al_4677, wk_m2, nl_i, nl_r, nl_k, nl_j, nl_l, nI_add, pk_mul, pk_sub, tl_s, tl_n, aL_inl, u2_same, u2_ab, u2_aq, nI_l, lN_i, Nat.add_zero, Nat.zero_add, Nat.zero_le, true_and, and_true, b2n_10, b2n_T, b2n_F, b2n_0, Decidable.not_not, not_true_eq_false, not_false_eq_true, Nat.reduceAdd, Nat.reduceMul, Nat.reduceSub]
    exact hK N I (by rw [Nat.mul_succ]; exact hno) hO
  | succ j ih =>
    intro f N I hj hno hO
    have hf : f < D 0 * D 1 := by omega
    have h9 := (h89.1.1 f (by omega)).1
    have hi := lsP_iff (D := D) (N := N0) (a := a) (f := f) (by omega) hf
    have ih1 := fun N I (z : ¬ lsP D N0 (D 0 * D 1 * a + f)) => ih (f + 1) N I (by omega) (by rw [← Nat.add_assoc]; exact no_s hno z)
    have e89 : ∀ q, N 89 q = N0 89 q := fun q => hO.1.2.1 89 q rfl
    rw [al_4674]
    by_cases hlt : a + 1 ≤ N0 89 f
    · simp (disch := (first | omega | exact aCat_8 (by with_unfolding_all rfl) | exact rk_lt (by with_unfolding_all rfl) | exact aCat_16 (by with_unfolding_all rfl) | exact rk_eq (by with_unfolding_all rfl) | assumption | exact b2n_lt _ | exact id_b (by with_unfolding_all rfl) | (simp (disch := omega) only [u2_same, u2_ab, u2_aq]; done) | (simp (disch := omega) only [u2_same, u2_ab, u2_aq]; omega) | fail)) only [al_4672, wp_aloadr_0, wp_aloadk_0, wk_0, hp_86_0, wc_60, hg_86_9, ha_90l, ha_90s, wc_25, wc_63, wk_1, wp_istore_1, wp_jsr, wp_iload_1, wk_9, wn_gt_t, wn_gt_f, wp_istore_2, wp_iload_2, wc_10, t_10, wn_ge_t, wn_ge_f, hg_86_8, ha_89l, ha_89s, wn_lt_t, wn_lt_f, wp_isub, wc_64, wz_ne_t, wz_ne_f, wb_ne_t, wb_ne_f, wm_ne_1, wm_ne_2, hp_86_1, wp_i2l, wc_43, t_43, wp_ireturn, al_4675, wp_iinc_2_1, wp_goto, wp_iinc_1_1, al_4677, wk_m2, nl_i, nl_r, nl_k, nl_j, nl_l, nI_add, pk_mul, pk_sub, tl_s, tl_n, aL_inl, u2_same, u2_ab, u2_aq, nI_l, lN_i, Nat.add_zero, Nat.zero_add, Nat.zero_le, true_and, and_true, b2n_10, b2n_T, b2n_F, b2n_0, Decidable.not_not, not_true_eq_false, not_false_eq_true, Nat.reduceAdd, Nat.reduceMul, Nat.reduceSub, e89]
      refine th_cf h (ls_G h hf hlt).1 (th_u9 (v := N0 89 f - (a + 1)) (by omega) hO.1) ?_
      intro N1 I1 hT1 hc1 hN1
      obtain ⟨c1, c2⟩ := crs_36 h (ls_G h hf hlt).1
      obtain ⟨c3, c4⟩ := crs_36 h h89.1
      have e89' : ∀ q, N1 89 q = N0 89 q := fun q => hT1.2.1 89 q rfl
      have e : upn (lsS N0 (a + 1) f) f (N0 89 f) = N0 89 := by
        funext q
        unfold lsS upn
        by_cases z : q = f
        · rw [if_pos z, z]
        · rw [if_neg z, if_neg z]
      have hT2 := th_u9 (v := N0 89 f) (f := f) (by omega) hT1
      rw [e] at hT2
      have eN : ∀ b q, b ≠ 90 → u2 N1 90 f (N0 89 f) b q = N1 b q := fun b q z => u2_ab z
      have hO2 : lsR D N0 (u2 N1 90 f (N0 89 f)) I0 I1 := ⟨hT2, (eN 86 34 (by decide)).trans ((hN1 86 34 rfl).trans (by rw [u2_ab (by decide)]; exact hO.2.1)), fun i hi => (eN 104 i (by decide)).trans ((hN1 104 i rfl).trans (by rw [u2_ab (by decide)]; exact hO.2.2 i hi))⟩
      have t64 : ∀ Q : Option Value → aH → Prop, aMm ko d 64 [.ref 86] (hp D (u2 N1 90 f (N0 89 f)) I1 J0 x) Q = Q (some (.int (nI (b2n (smB (crsS D N0 (lsS N0 (a + 1) f)) (crsS D N0 (N0 89)) = true))))) (hp D (u2 N1 90 f (N0 89 f)) I1 J0 x) := fun Q => t_64 ((eN 86 24 (by decide)).trans hc1.1) hO2.2.1 (fun i hi => ⟨(eN 97 i (by decide)).trans (hc1.2.2.1 i hi), c2 i hi⟩) (fun i hi => ⟨hO2.2.2 i hi, c4 i hi⟩) c1 c3
      have hla : lsA D N0 (a + 1) f = !smB (crsS D N0 (lsS N0 (a + 1) f)) (crsS D N0 (N0 89)) := by
        unfold lsA
        rw [decide_eq_true hlt, Bool.true_and]
      by_cases hs : smB (crsS D N0 (lsS N0 (a + 1) f)) (crsS D N0 (N0 89)) = true
      · simp (disch := (first | omega | exact aCat_8 (by with_unfolding_all rfl) | exact rk_lt (by with_unfolding_all rfl) | exact aCat_16 (by with_unfolding_all rfl) | exact rk_eq (by with_unfolding_all rfl) | assumption | exact b2n_lt _ | exact id_b (by with_unfolding_all rfl) | (simp (disch := omega) only [u2_same, u2_ab, u2_aq]; done) | (simp (disch := omega) only [u2_same, u2_ab, u2_aq]; omega) | fail)) only [al_4672, wp_aloadr_0, wp_aloadk_0, wk_0, hp_86_0, wc_60, hg_86_9, ha_90l, ha_90s, wc_25, wc_63, wk_1, wp_istore_1, wp_jsr, wp_iload_1, wk_9, wn_gt_t, wn_gt_f, wp_istore_2, wp_iload_2, wc_10, t_10, wn_ge_t, wn_ge_f, hg_86_8, ha_89l, ha_89s, wn_lt_t, wn_lt_f, wp_isub, wc_64, wz_ne_t, wz_ne_f, wb_ne_t, wb_ne_f, wm_ne_1, wm_ne_2, hp_86_1, wp_i2l, wc_43, t_43, wp_ireturn, al_4675, wp_iinc_2_1, wp_goto, wp_iinc_1_1, al_4677, wk_m2, nl_i, nl_r, nl_k, nl_j, nl_l, nI_add, pk_mul, pk_sub, tl_s, tl_n, aL_inl, u2_same, u2_ab, u2_aq, nI_l, lN_i, Nat.add_zero, Nat.zero_add, Nat.zero_le, true_and, and_true, b2n_10, b2n_T, b2n_F, b2n_0, Decidable.not_not, not_true_eq_false, not_false_eq_true, Nat.reduceAdd, Nat.reduceMul, Nat.reduceSub, e89', t64, b2n_t hs]
        refine ih1 _ _ (fun z => ?_) hO2
        have := hi.mp z
        rw [hla, hs] at this
        cases this
      · have hs' : smB (crsS D N0 (lsS N0 (a + 1) f)) (crsS D N0 (N0 89)) = false := by simpa using hs
        have hans := hS _ (lsP_lt ha hf) (hi.mpr (by rw [hla, hs']; rfl)) hno
        rw [(lsP_at (F := D 0 * D 1) (a := a) (by omega) hf).1, (lsP_at (F := D 0 * D 1) (a := a) (by omega) hf).2] at hans
        simp (disch := (first | omega | exact aCat_8 (by with_unfolding_all rfl) | exact rk_lt (by with_unfolding_all rfl) | exact aCat_16 (by with_unfolding_all rfl) | exact rk_eq (by with_unfolding_all rfl) | assumption | exact b2n_lt _ | exact id_b (by with_unfolding_all rfl) | (simp (disch := omega) only [u2_same, u2_ab, u2_aq]; done) | (simp (disch := omega) only [u2_same, u2_ab, u2_aq]; omega) | fail)) only [al_4672, wp_aloadr_0, wp_aloadk_0, wk_0, hp_86_0, wc_60, hg_86_9, ha_90l, ha_90s, wc_25, wc_63, wk_1, wp_istore_1, wp_jsr, wp_iload_1, wk_9, wn_gt_t, wn_gt_f, wp_istore_2, wp_iload_2, wc_10, t_10, wn_ge_t, wn_ge_f, hg_86_8, ha_89l, ha_89s, wn_lt_t, wn_lt_f, wp_isub, wc_64, wz_ne_t, wz_ne_f, wb_ne_t, wb_ne_f, wm_ne_1, wm_ne_2, hp_86_1, wp_i2l, wc_43, t_43, wp_ireturn, al_4675, wp_iinc_2_1, wp_goto, wp_iinc_1_1, al_4677, wk_m2, nl_i, nl_r, nl_k, nl_j, nl_l, nI_add, pk_mul, pk_sub, tl_s, tl_n, aL_inl, u2_same, u2_ab, u2_aq, nI_l, lN_i, Nat.add_zero, Nat.zero_add, Nat.zero_le, true_and, and_true, b2n_10, b2n_T, b2n_F, b2n_0, Decidable.not_not, not_true_eq_false, not_false_eq_true, Nat.reduceAdd, Nat.reduceMul, Nat.reduceSub, e89', t64, b2n_f hs]
        exact hans _ _ _ (qN_u (qN_u hO2.1.2.1 rfl) rfl) hO2.1.2.2.1 (qJ_u qJ_r rfl) td1R
    · simp (disch := (first | omega | exact aCat_8 (by with_unfolding_all rfl) | exact rk_lt (by with_unfolding_all rfl) | exact aCat_16 (by with_unfolding_all rfl) | exact rk_eq (by with_unfolding_all rfl) | assumption | exact b2n_lt _ | exact id_b (by with_unfolding_all rfl) | (simp (disch := omega) only [u2_same, u2_ab, u2_aq]; done) | (simp (disch := omega) only [u2_same, u2_ab, u2_aq]; omega) | fail)) only [al_4672, wp_aloadr_0, wp_aloadk_0, wk_0, hp_86_0, wc_60, hg_86_9, ha_90l, ha_90s, wc_25, wc_63, wk_1, wp_istore_1, wp_jsr, wp_iload_1, wk_9, wn_gt_t, wn_gt_f, wp_istore_2, wp_iload_2, wc_10, t_10, wn_ge_t, wn_ge_f, hg_86_8, ha_89l, ha_89s, wn_lt_t, wn_lt_f, wp_isub, wc_64, wz_ne_t, wz_ne_f, wb_ne_t, wb_ne_f, wm_ne_1, wm_ne_2, hp_86_1, wp_i2l, wc_43, t_43, wp_ireturn, al_4675, wp_iinc_2_1, wp_goto, wp_iinc_1_1, al_4677, wk_m2, nl_i, nl_r, nl_k, nl_j, nl_l, nI_add, pk_mul, pk_sub, tl_s, tl_n, aL_inl, u2_same, u2_ab, u2_aq, nI_l, lN_i, Nat.add_zero, Nat.zero_add, Nat.zero_le, true_and, and_true, b2n_10, b2n_T, b2n_F, b2n_0, Decidable.not_not, not_true_eq_false, not_false_eq_true, Nat.reduceAdd, Nat.reduceMul, Nat.reduceSub, e89]
      refine ih1 N I (fun z => ?_) hO
      have := hi.mp z
      unfold lsA at this
      rw [decide_eq_false hlt, Bool.false_and] at this
      cases this
theorem l_73 {N0 : Nat → Nat → Nat} {I0 : Nat → Nat → Int32} {J0 : Nat → Nat → Int64} (h : invB D N0 I0 J0 t)
    (hS : ∀ m, m < D 0 * D 1 * 9 → lsP D N0 m → (∀ i, i < m → ¬ lsP D N0 i) → ansR D N0 I0 J0 x (.int (nI (m / (D 0 * D 1) + 1))) 1 (fun _ => lN (m % (D 0 * D 1))) Q)
    (hN : (∀ i, i < D 0 * D 1 * 9 → ¬ lsP D N0 i) → ∀ (N' : Nat → Nat → Nat) (I' : Nat → Nat → Int32), rqO N0 N' I0 I' → Q (some (.int (-2))) (hp D N' I' J0 x)) :
    ∀ (j a : Nat) (N : Nat → Nat → Nat) (I : Nat → Nat → Int32) (w2 : Value), a + j = 9 → (∀ i, i < D 0 * D 1 * a → ¬ lsP D N0 i) → lsR D N0 N I0 I → aWp ko d 73 (aP.1 (Int.toNat 4673)) [.ref 86, .int (nI (a + 1)), w2] [] (hp D N I J0 x) (aL Q) := by
  have hF := dm_F h.1.1
  intro j
  induction j with
  | zero =>
    intro a N I w2 hj hno hO
    have e : a = 9 := by omega
    subst e
    rw [al_4673]
    simp (disch := (first | omega | exact aCat_8 (by with_unfolding_all rfl) | exact rk_lt (by with_unfolding_all rfl) | exact aCat_16 (by with_unfolding_all rfl) | exact rk_eq (by with_unfolding_all rfl) | assumption | exact b2n_lt _ | exact id_b (by with_unfolding_all rfl) | (simp (disch := omega) only [u2_same, u2_ab, u2_aq]; done) | (simp (disch := omega) only [u2_same, u2_ab, u2_aq]; omega) | fail)) only [al_4672, wp_aloadr_0, wp_aloadk_0, wk_0, hp_86_0, wc_60, hg_86_9, ha_90l, ha_90s, wc_25, wc_63, wk_1, wp_istore_1, wp_jsr, wp_iload_1, wk_9, wn_gt_t, wn_gt_f, wp_istore_2, wp_iload_2, wc_10, t_10, wn_ge_t, wn_ge_f, hg_86_8, ha_89l, ha_89s, wn_lt_t, wn_lt_f, wp_isub, wc_64, wz_ne_t, wz_ne_f, wb_ne_t, wb_ne_f, wm_ne_1, wm_ne_2, hp_86_1, wp_i2l, wc_43, t_43, wp_ireturn, al_4675, wp_iinc_2_1, wp_goto, al_4676, wp_iinc_1_1, al_4677, wk_m2, nl_i, nl_r, nl_k, nl_j, nl_l, nI_add, pk_mul, pk_sub, tl_s, tl_n, aL_inl, u2_same, u2_ab, u2_aq, nI_l, lN_i, Nat.add_zero, Nat.zero_add, Nat.zero_le, true_and, and_true, b2n_10, b2n_T, b2n_F, b2n_0, Decidable.not_not, not_true_eq_false, not_false_eq_true, Nat.reduceAdd, Nat.reduceMul, Nat.reduceSub]
    exact hN hno N I (th_rq hO.1)
  | succ j ih =>
    intro a N I w2 hj hno hO
    have hx := l_73i (ko := ko) (d := d) (x := x) (Q := Q) (a := a) h (by omega) hS (fun N I hno hO => by
      have := ih (a + 1) N I (.int (nI (D 0 * D 1))) (by omega) hno hO
      rw [al_4676]
      simp (disch := (first | omega | exact aCat_8 (by with_unfolding_all rfl) | exact rk_lt (by with_unfolding_all rfl) | exact aCat_16 (by with_unfolding_all rfl) | exact rk_eq (by with_unfolding_all rfl) | assumption | exact b2n_lt _ | exact id_b (by with_unfolding_all rfl) | (simp (disch := omega) only [u2_same, u2_ab, u2_aq]; done) | (simp (disch := omega) only [u2_same, u2_ab, u2_aq]; omega) | fail)) only [al_4672, wp_aloadr_0, wp_aloadk_0, wk_0, hp_86_0, wc_60, hg_86_9, ha_90l, ha_90s, wc_25, wc_63, wk_1, wp_istore_1, wp_jsr, wp_iload_1, wk_9, wn_gt_t, wn_gt_f, wp_istore_2, wp_iload_2, wc_10, t_10, wn_ge_t, wn_ge_f, hg_86_8, ha_89l, ha_89s, wn_lt_t, wn_lt_f, wp_isub, wc_64, wz_ne_t, wz_ne_f, wb_ne_t, wb_ne_f, wm_ne_1, wm_ne_2, hp_86_1, wp_i2l, wc_43, t_43, wp_ireturn, al_4675, wp_iinc_2_1, wp_goto, al_4676, wp_iinc_1_1, al_4677, wk_m2, nl_i, nl_r, nl_k, nl_j, nl_l, nI_add, pk_mul, pk_sub, tl_s, tl_n, aL_inl, u2_same, u2_ab, u2_aq, nI_l, lN_i, Nat.add_zero, Nat.zero_add, Nat.zero_le, true_and, and_true, b2n_10, b2n_T, b2n_F, b2n_0, Decidable.not_not, not_true_eq_false, not_false_eq_true, Nat.reduceAdd, Nat.reduceMul, Nat.reduceSub]
      exact this) (D 0 * D 1) 0 N I (by omega) hno hO
    rw [al_4673]
    simp (disch := (first | omega | exact aCat_8 (by with_unfolding_all rfl) | exact rk_lt (by with_unfolding_all rfl) | exact aCat_16 (by with_unfolding_all rfl) | exact rk_eq (by with_unfolding_all rfl) | assumption | exact b2n_lt _ | exact id_b (by with_unfolding_all rfl) | (simp (disch := omega) only [u2_same, u2_ab, u2_aq]; done) | (simp (disch := omega) only [u2_same, u2_ab, u2_aq]; omega) | fail)) only [al_4672, wp_aloadr_0, wp_aloadk_0, wk_0, hp_86_0, wc_60, hg_86_9, ha_90l, ha_90s, wc_25, wc_63, wk_1, wp_istore_1, wp_jsr, wp_iload_1, wk_9, wn_gt_t, wn_gt_f, wp_istore_2, wp_iload_2, wc_10, t_10, wn_ge_t, wn_ge_f, hg_86_8, ha_89l, ha_89s, wn_lt_t, wn_lt_f, wp_isub, wc_64, wz_ne_t, wz_ne_f, wb_ne_t, wb_ne_f, wm_ne_1, wm_ne_2, hp_86_1, wp_i2l, wc_43, t_43, wp_ireturn, al_4675, wp_iinc_2_1, wp_goto, al_4676, wp_iinc_1_1, al_4677, wk_m2, nl_i, nl_r, nl_k, nl_j, nl_l, nI_add, pk_mul, pk_sub, tl_s, tl_n, aL_inl, u2_same, u2_ab, u2_aq, nI_l, lN_i, Nat.add_zero, Nat.zero_add, Nat.zero_le, true_and, and_true, b2n_10, b2n_T, b2n_F, b2n_0, Decidable.not_not, not_true_eq_false, not_false_eq_true, Nat.reduceAdd, Nat.reduceMul, Nat.reduceSub]
    exact hx
end E2
section E3
variable {ko : aKo} {d k : Nat} {is : List Instr} {ls st : List Value} {σ : aH} {D : Nat → Nat} {N : Nat → Nat → Nat} {I : Nat → Nat → Int32} {J : Nat → Nat → Int64} {x t : Nat} {Q : Option Value → aH → Prop} {P : (Option Value ⊕ Unit) → aH → Prop}
theorem rs_rem {N0 : Nat → Nat → Nat} {I0 : Nat → Nat → Int32} {J0 : Nat → Nat → Int64} (hr : rsO N0 N I0 I J0 J) {T : Nat → Nat} {v : Nat} : rsO N0 (u2 (setRow N 31 T) 26 14 v) I0 I J0 J := by
  obtain ⟨d1, d2, d3, d4, d5⟩ := hr
  have hm : ∀ b q, b ≠ 31 → ¬ (b = 26 ∧ q = 14) → u2 (setRow N 31 T) 26 14 v b q = N b q := by
    intro b q h1 h2
    rw [u2_rd, if_neg h2, setRow_n h1]
  refine ⟨sN_u (sN_w d1 (fun _ => rfl)) rfl, d2, d3, ⟨?_, d4.2⟩, ⟨?_, d5.2⟩⟩
  · rw [hm 3 1 (by decide) (by omega)]; exact d4.1
  · rw [hm 86 1 (by decide) (by omega)]; exact d5.1
theorem o_least (h : inv D N I J t) : opO ko d 188 73 [] D N I J x (t + 300) := by
  have hF := dm_F h.1.1.1
  have h89 := h.1.2.2.2.2.1
  have hcl : ∀ (Q : Option Value → aH → Prop), (∀ m, m < D 0 * D 1 * 9 → lsP D N m → (∀ i, i < m → ¬ lsP D N i) → ansC D N I J x (.int (nI (m / (D 0 * D 1) + 1))) 1 (fun _ => lN (m % (D 0 * D 1))) Q) → ((∀ i, i < D 0 * D 1 * 9 → ¬ lsP D N i) → ∀ (N' : Nat → Nat → Nat) (I' : Nat → Nat → Int32) (J' : Nat → Nat → Int64), rsO N N' I I' J J' → Q (some (.int (-2))) (hp D N' I' J' x)) → aMm ko d 188 [.ref 0] (hp D N I J x) Q := by
    intro Q hS hN
    rw [me_188]
    simp (disch := (first | omega | exact aCat_8 (by with_unfolding_all rfl) | exact rk_lt (by with_unfolding_all rfl) | exact aCat_16 (by with_unfolding_all rfl) | exact rk_eq (by with_unfolding_all rfl) | assumption | exact b2n_lt _ | exact id_b (by with_unfolding_all rfl) | (simp (disch := omega) only [u2_same, u2_ab, u2_aq]; done) | (simp (disch := omega) only [u2_same, u2_ab, u2_aq]; omega) | fail)) only [al_12032, wp_aloadr_0, wp_aloadk_0, hg_0_10, hg_0_7, hg_0_4, wc_260, wc_261, hg_26_10, hg_0_2, wc_243, wp_lor, wp_lstore_1, hg_0_9, wk_1, wp_istore_3, wp_jsr, wp_iload_3, wk_9, wn_gt_t, wn_gt_f, wk_0, wp_istore_4, wp_iload_4, hg_5_2, wn_ge_t, wn_ge_f, wp_lload_1, wc_161, t_161, wn_ne_t, wn_ne_f, wc_189, wz_eq_t, wz_eq_f, wb_eq_t, wb_eq_f, wm_eq_1, wm_eq_2, hg_0_1, wc_292, t_292, wp_i2l, wc_293, t_293, wp_ireturn, al_12035, wp_iinc_4_1, wp_goto, al_12036, wp_iinc_3_1, al_12037, wk_m2, nl_i, nl_r, nl_k, nl_j, nl_l, nI_add, pk_mul, pk_sub, tl_s, tl_n, aL_inl, u2_same, u2_ab, u2_aq, nI_l, lN_i, Nat.add_zero, Nat.zero_add, Nat.zero_le, true_and, and_true, b2n_10, b2n_T, b2n_F, b2n_0, Decidable.not_not, not_true_eq_false, not_false_eq_true, Nat.reduceAdd, Nat.reduceMul, Nat.reduceSub]
    refine t_260 (c := N 93) (n := N 86 18) (S := N 89) (s := 20) (ru := 11) rfl rfl (inv_rv h.1) (inv_s1 h.1) (inv_s2 h.1) ?_
    intro N1 I1 J1 _ hN1 hI1 hJ1 hc
    rw [inv_G h.1, h.1.1.2.2.1] at hc
    have hr1 : rsO N N1 I I1 J J1 := ⟨gN_s hN1, fI_s hI1, fJ_s hJ1, ⟨hN1 3 1 (by decide) (by omega), fun q => hJ1 4 q (by decide) (by omega)⟩, ⟨hN1 86 1 (by decide) (by omega), fun q => hJ1 87 q (by decide) (by omega)⟩⟩
    have h1 := invB_c h.1 (Nat.le_refl t) hr1.1 hr1.2.1 hr1.2.2.1
    obtain ⟨c1, c2⟩ := crs_36 h.1 h89.1
    have hK := crsS_K (N := N) h.1.1.1 h89.1
    simp (disch := (first | omega | exact aCat_8 (by with_unfolding_all rfl) | exact rk_lt (by with_unfolding_all rfl) | exact aCat_16 (by with_unfolding_all rfl) | exact rk_eq (by with_unfolding_all rfl) | assumption | exact b2n_lt _ | exact id_b (by with_unfolding_all rfl) | (simp (disch := omega) only [u2_same, u2_ab, u2_aq]; done) | (simp (disch := omega) only [u2_same, u2_ab, u2_aq]; omega) | fail)) only [al_12032, wp_aloadr_0, wp_aloadk_0, hg_0_10, hg_0_7, hg_0_4, wc_260, wc_261, hg_26_10, hg_0_2, wc_243, wp_lor, wp_lstore_1, hg_0_9, wk_1, wp_istore_3, wp_jsr, wp_iload_3, wk_9, wn_gt_t, wn_gt_f, wk_0, wp_istore_4, wp_iload_4, hg_5_2, wn_ge_t, wn_ge_f, wp_lload_1, wc_161, t_161, wn_ne_t, wn_ne_f, wc_189, wz_eq_t, wz_eq_f, wb_eq_t, wb_eq_f, wm_eq_1, wm_eq_2, hg_0_1, wc_292, t_292, wp_i2l, wc_293, t_293, wp_ireturn, al_12035, wp_iinc_4_1, wp_goto, al_12036, wp_iinc_3_1, al_12037, wk_m2, nl_i, nl_r, nl_k, nl_j, nl_l, nI_add, pk_mul, pk_sub, tl_s, tl_n, aL_inl, u2_same, u2_ab, u2_aq, nI_l, lN_i, Nat.add_zero, Nat.zero_add, Nat.zero_le, true_and, and_true, b2n_10, b2n_T, b2n_F, b2n_0, Decidable.not_not, not_true_eq_false, not_false_eq_true, Nat.reduceAdd, Nat.reduceMul, Nat.reduceSub, t_261, t_243 (show D 3 ≤ 6 by rw [h.1.1.2.2.1]; exact h.1.1.1.2.2.2), wc_283 (m := 24) rfl, t_283 (s := 24) (s' := 20) rfl rfl (by decide)]
    have hr2 := rs_rem hr1 (T := mixN (N1 30) (N1 31) 36) (v := N1 26 9)
    have hx := fun w4 => l_188 (ko := ko) (d := d) (x := x) (Q := Q) (w := J1 26 10 ||| arJ D J1 (J1 26 10)) h.1 (by
      intro f hf hb b
      have hld := h1.1.2.2.2
      have hout : ∀ i, i < 64 → D 2 * D 3 ≤ i → tb (J1 26 10) i = false := by
        intro i hi hge
        rw [hc.2.2.1 i hi]
        cases hq : onP (crsS D N (N 89)).1 (crsS D N (N 89)).2.1 i with
        | false => rfl
        | true =>
          obtain ⟨k, hk, e⟩ := onP_iff.mp hq
          have := hK.2.1 k hk
          rw [h.1.1.2.1, h.1.1.2.2.1] at hge
          omega
      have hfar : ∀ k v, k < (crsS D N (N 89)).1 → v < 3 → bsd (D 0) (D 1) ((crsS D N (N 89)).2.1 k) v ≠ some f := by
        intro k v hk hv hbs
        have hon : tb (J1 26 10) ((crsS D N (N 89)).2.1 k) = true := by
          rw [hc.2.2.1 _ (by have := c2 k hk; omega)]
          exact onP_iff.mpr ⟨k, hk, rfl⟩
        have hbk := bsd_back (o := tb (J1 26 10)) h.1.1.1.2.2.1 hv hbs hon
        rw [tb_or, tb_around hld hout (by omega), h.1.1.2.1, h.1.1.2.2.1, hbk] at hb
        simp [hf] at hb
      unfold lsA
      rw [ls_far (by omega) hfar, smB_r, Bool.not_true, Bool.and_false]) hS hN 9 0 _ I1 _ w4 (by omega) (fun i hi => by omega) ⟨dr_n h.1 hr2, by rw [cp_N (by decide) (by decide), u2_same]; exact hc.1, fun i hi => by
        rw [cp_N (by decide) (by decide), u2_ab (by decide), setRow_s]
        unfold mixN
        rw [if_pos (Nat.lt_of_lt_of_le hi c1)]
        exact hc.2.1 i hi⟩
    exact hx _
  have hrf : ∀ (N1 : Nat → Nat → Nat) (I1 : Nat → Nat → Int32) (J1 : Nat → Nat → Int64) (_ : invB D N1 I1 J1 t) (Q : Option Value → aH → Prop), (∀ m, m < D 0 * D 1 * 9 → lsP D N1 m → (∀ i, i < m → ¬ lsP D N1 i) → ansR D N1 I1 J1 x (.int (nI (m / (D 0 * D 1) + 1))) 1 (fun _ => lN (m % (D 0 * D 1))) Q) → ((∀ i, i < D 0 * D 1 * 9 → ¬ lsP D N1 i) → ∀ (N' : Nat → Nat → Nat) (I' : Nat → Nat → Int32), rqO N1 N' I1 I' → Q (some (.int (-2))) (hp D N' I' J1 x)) → aMm ko d 73 [.ref 86] (hp D N1 I1 J1 x) Q := by
    intro N1 I1 J1 h1 Q hS hN
    have hz1 : ∀ q, 111 ≤ q → u2 N1 86 0 0 89 q = 0 := fun q hq => by rw [u2_ab (by decide)]; exact h1.2.2.2.2.1.1.2.2.2.2 q hq
    have hz2 : ∀ q, 111 ≤ q → u2 N1 86 0 0 90 q = 0 := fun q hq => by rw [u2_ab (by decide)]; exact h1.2.2.2.2.2.2.2.2.2 q hq
    rw [me_73]
    simp (disch := (first | omega | exact aCat_8 (by with_unfolding_all rfl) | exact rk_lt (by with_unfolding_all rfl) | exact aCat_16 (by with_unfolding_all rfl) | exact rk_eq (by with_unfolding_all rfl) | assumption | exact b2n_lt _ | exact id_b (by with_unfolding_all rfl) | (simp (disch := omega) only [u2_same, u2_ab, u2_aq]; done) | (simp (disch := omega) only [u2_same, u2_ab, u2_aq]; omega) | fail)) only [al_4672, wp_aloadr_0, wp_aloadk_0, wk_0, hp_86_0, wc_60, hg_86_9, ha_90l, ha_90s, wc_25, wc_63, wk_1, wp_istore_1, wp_jsr, wp_iload_1, wk_9, wn_gt_t, wn_gt_f, wp_istore_2, wp_iload_2, wc_10, t_10, wn_ge_t, wn_ge_f, hg_86_8, ha_89l, ha_89s, wn_lt_t, wn_lt_f, wp_isub, wc_64, wz_ne_t, wz_ne_f, wb_ne_t, wb_ne_f, wm_ne_1, wm_ne_2, hp_86_1, wp_i2l, wc_43, t_43, wp_ireturn, al_4675, wp_iinc_2_1, wp_goto, al_4676, wp_iinc_1_1, al_4677, wk_m2, nl_i, nl_r, nl_k, nl_j, nl_l, nI_add, pk_mul, pk_sub, tl_s, tl_n, aL_inl, u2_same, u2_ab, u2_aq, nI_l, lN_i, Nat.add_zero, Nat.zero_add, Nat.zero_le, true_and, and_true, b2n_10, b2n_T, b2n_F, b2n_0, Decidable.not_not, not_true_eq_false, not_false_eq_true, Nat.reduceAdd, Nat.reduceMul, Nat.reduceSub, t_60 hz1 hz2]
    refine th_cf h1 h1.2.2.2.2.1.1 (th_0 h1 (qN_u qN_r rfl) (u2_aq (by decide)) hz1) ?_
    intro N2 I2 hT2 hc2 _
    obtain ⟨c1, c2⟩ := crs_36 h1 h1.2.2.2.2.1.1
    have h24 := hc2.1
    simp (disch := (first | omega | exact aCat_8 (by with_unfolding_all rfl) | exact rk_lt (by with_unfolding_all rfl) | exact aCat_16 (by with_unfolding_all rfl) | exact rk_eq (by with_unfolding_all rfl) | assumption | exact b2n_lt _ | exact id_b (by with_unfolding_all rfl) | (simp (disch := omega) only [u2_same, u2_ab, u2_aq]; done) | (simp (disch := omega) only [u2_same, u2_ab, u2_aq]; omega) | fail)) only [al_4672, wp_aloadr_0, wp_aloadk_0, wk_0, hp_86_0, wc_60, hg_86_9, ha_90l, ha_90s, wc_25, wc_63, wk_1, wp_istore_1, wp_jsr, wp_iload_1, wk_9, wn_gt_t, wn_gt_f, wp_istore_2, wp_iload_2, wc_10, t_10, wn_ge_t, wn_ge_f, hg_86_8, ha_89l, ha_89s, wn_lt_t, wn_lt_f, wp_isub, wc_64, wz_ne_t, wz_ne_f, wb_ne_t, wb_ne_f, wm_ne_1, wm_ne_2, hp_86_1, wp_i2l, wc_43, t_43, wp_ireturn, al_4675, wp_iinc_2_1, wp_goto, al_4676, wp_iinc_1_1, al_4677, wk_m2, nl_i, nl_r, nl_k, nl_j, nl_l, nI_add, pk_mul, pk_sub, tl_s, tl_n, aL_inl, u2_same, u2_ab, u2_aq, nI_l, lN_i, Nat.add_zero, Nat.zero_add, Nat.zero_le, true_and, and_true, b2n_10, b2n_T, b2n_F, b2n_0, Decidable.not_not, not_true_eq_false, not_false_eq_true, Nat.reduceAdd, Nat.reduceMul, Nat.reduceSub, t_63 (show N2 86 24 ≤ 36 by rw [h24]; exact c1)]
    have hx := fun w2 => l_73 (ko := ko) (d := d) (x := x) (Q := Q) h1 hS hN 9 0 (setRow (u2 N2 86 34 (N2 86 24)) 104 (mixN (N2 97) (N2 104) (N2 86 24))) I2 w2 (by omega) (fun i hi => by omega) ⟨⟨by rw [setRow_n (by decide), u2_nb (by decide)]; exact hT2.1, fun b q z => by
        rw [setRow_n (by rintro rfl; cases z)]
        exact (qN_u hT2.2.1 rfl) b q z, hT2.2.2.1, by rw [setRow_n (by decide), u2_aq (by decide)]; exact hT2.2.2.2⟩, by rw [setRow_n (by decide), u2_same]; exact h24, fun i hi => by
        rw [setRow_s]
        unfold mixN
        rw [h24, if_pos hi]
        exact hc2.2.2.1 i hi⟩
    exact hx _
  have esm : ∀ N1 : Nat → Nat → Nat, sN N1 N → ∀ m, (lsP D N1 m ↔ lsP D N m) := by
    intro N1 hN m
    unfold lsP lsA lsS
    rw [sN_89 hN, smR_crs (sN_sm hN), smR_crs (sN_sm hN)]
  rcases firstOf (lsP D N) (D 0 * D 1 * 9) with ⟨m, hm, hp1, hno⟩ | hno
  · refine op_ans (v := .int (nI (m / (D 0 * D 1) + 1))) (m := 1) (f := fun _ => lN (m % (D 0 * D 1))) h (by decide) (by omega) ?_ ?_
    · intro Q hQ
      refine hcl Q (fun m1 hm1 hp2 hno2 => ?_) (fun z => absurd hp1 (z m hm))
      have := first_u hp2 hno2 hp1 hno
      subst this
      exact hQ
    · intro N1 I1 J1 h1 hN hI hJ Q hQ
      refine hrf N1 I1 J1 h1 Q (fun m1 hm1 hp2 hno2 => ?_) (fun z => absurd ((esm N1 hN m).mpr hp1) (z m hm))
      have := first_u ((esm N1 hN m1).mp hp2) (fun i hi z => hno2 i hi ((esm N1 hN i).mpr z)) hp1 hno
      subst this
      exact hQ
  · refine op_same (v := .int (-2)) h (by omega) ?_ ?_
    · intro Q hQ
      refine hcl Q (fun m1 hm1 hp2 hno2 => ?_) (fun _ N' I' J' hr => hQ N' I' J' hr.1 hr.2.1 hr.2.2.1 hr.2.2.2.1 hr.2.2.2.2)
      exact absurd hp2 (hno m1 hm1)
    · intro N1 I1 J1 h1 hN hI hJ Q hQ
      refine hrf N1 I1 J1 h1 Q (fun m1 hm1 hp2 hno2 => ?_) (fun _ N' I' hr => hQ N' I' J1 hr.1 hr.2.1 qJ_r ⟨hr.2.2, fun _ => rfl⟩)
      exact absurd ((esm N1 hN m1).mp hp2) (hno m1 hm1)
end E3
