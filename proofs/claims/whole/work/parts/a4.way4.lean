/-! way: the reference's end, the pair. From wip/whole/src. -/
section Y4
variable {ko : aKo} {d k : Nat} {is : List Instr} {ls st : List Value} {σ : aH} {D : Nat → Nat} {N : Nat → Nat → Nat} {I : Nat → Nat → Int32} {J : Nat → Nat → Int64} {x t : Nat} {Q : Option Value → aH → Prop} {P : (Option Value ⊕ Unit) → aH → Prop}
theorem l_79f {N0 M : Nat → Nat → Nat} {p r : Nat} {w6 w7 : Value} (hd : dmO D) (hp9 : p ≤ 9) (hwr : rwO (D 1) (N0 89)) (e89 : M 89 = N0 89) (hr : r < 100)
    (hK : ∀ (N : Nat → Nat → Nat) (w4 w5 : Value), (∀ b q, b ≠ 112 → N b q = M b q) → wyS D N0 p (N 112) → wyC D N0 p (r + 1) (N 112) → aWp ko d 79 (aP.1 (Int.toNat 5068)) [.ref 86, .int (nI p), .int (nI r), .int (nI (D 0 * D 1)), w4, w5, w6, w7] [] (hp D N I J x) (aL Q)) :
    ∀ (j f : Nat) (N : Nat → Nat → Nat) (w4 w5 : Value), f + j = D 0 * D 1 → wyI D N0 M N p r f → aWp ko d 79 (aP.1 (Int.toNat 5063)) [.ref 86, .int (nI p), .int (nI r), .int (nI f), w4, w5, w6, w7] [] (hp D N I J x) (aL Q) := by
  have hF := dm_F hd
  intro j
  induction j with
  | zero =>
    intro f N w4 w5 hj hI
    have e : f = D 0 * D 1 := by omega
    subst e
    rw [al_5063]
    simp (disch := (first | omega | exact aCat_8 (by with_unfolding_all rfl) | exact rk_lt (by with_unfolding_all rfl) | exact aCat_16 (by with_unfolding_all rfl) | exact rk_eq (by with_unfolding_all rfl) | assumption | exact b2n_lt _ | exact id_b (by with_unfolding_all rfl) | (simp (disch := omega) only [u2_same, u2_ab, u2_aq]; done) | (simp (disch := omega) only [u2_same, u2_ab, u2_aq]; omega) | fail)) only [al_5056, wp_aloadr_0, wp_aloadk_0, wk_0, hp_86_0, wp_iload_1, wp_i2l, wl_1, wl_9, wc_4, t_4, lN_le, wz_ne_t, wz_ne_f, wb_ne_t, wb_ne_f, wm_ne_1, wm_ne_2, wk_m1, wp_ireturn, al_5057, wp_istore_2, wp_jsr, wp_iload_2, wc_10, t_10, wn_ge_t, wn_ge_f, hg_86_43, ha_112l, ha_112s, wc_28, wz_eq_t, wz_eq_f, wb_eq_t, wb_eq_f, wm_eq_1, wm_eq_2, wc_80, wk_1, wp_goto, al_5059, wk_1000000, al_5060, wp_iinc_2_1, al_5061, wp_istore_3, wp_iload_3, wp_istore_4, wp_iload_4, wk_4, wc_29, wp_istore_5, wp_iload_5, wz_lt_t, wz_lt_f, wm_lt_1, wm_lt_2, wp_iadd, wp_min, al_5065, al_5066, wp_iinc_4_1, al_5067, wp_iinc_3_1, al_5069, hg_86_8, ha_89l, ha_89s, wk_108, wn_lt_t, wn_lt_f, wk_m2, al_5070, hp_86_1, wc_43, t_43, wp_isub, wz_le_t, wz_le_f, wm_le_1, wm_le_2, wp_istore_6, wp_iload_6, wp_istore_7, wp_iload_7, wn_ne_t, wn_ne_f, al_5073, al_5074, al_5075, wp_iinc_6_1, al_5076, wp_idec_4_1, al_5077, nl_i, nl_r, nl_k, nl_j, nl_l, nI_add, pk_mul, pk_sub, tl_s, tl_n, aL_inl, u2_same, u2_ab, u2_aq, nI_l, lN_i, Nat.add_zero, Nat.zero_add, Nat.zero_le, true_and, and_true, b2n_10, b2n_T, b2n_F, b2n_0, Decidable.not_not, not_true_eq_false, not_false_eq_true, Nat.reduceAdd, Nat.reduceMul, Nat.reduceSub]
    refine hK N _ _ hI.1 hI.2.1 ?_
    intro k hk f hf hl
    by_cases e : k = r + 1
    · rw [e] at hl ⊢
      exact hI.2.2.2 f hf hl
    · exact hI.2.2.1 k (by omega) f hf hl
  | succ j ih =>
    intro f N w4 w5 hj hI
    have hx := fun w5 => l_79w (ko := ko) (d := d) (I := I) (J := J) (x := x) (Q := Q) (w6 := w6) (w7 := w7) hd hp9 hwr e89 (show f < D 0 * D 1 by omega) (fun N w4 w5 hI => by
      have := ih (f + 1) N w4 w5 (by omega) hI
      rw [al_5067]
      simp (disch := (first | omega | exact aCat_8 (by with_unfolding_all rfl) | exact rk_lt (by with_unfolding_all rfl) | exact aCat_16 (by with_unfolding_all rfl) | exact rk_eq (by with_unfolding_all rfl) | assumption | exact b2n_lt _ | exact id_b (by with_unfolding_all rfl) | (simp (disch := omega) only [u2_same, u2_ab, u2_aq]; done) | (simp (disch := omega) only [u2_same, u2_ab, u2_aq]; omega) | fail)) only [al_5056, wp_aloadr_0, wp_aloadk_0, wk_0, hp_86_0, wp_iload_1, wp_i2l, wl_1, wl_9, wc_4, t_4, lN_le, wz_ne_t, wz_ne_f, wb_ne_t, wb_ne_f, wm_ne_1, wm_ne_2, wk_m1, wp_ireturn, al_5057, wp_istore_2, wp_jsr, wp_iload_2, wc_10, t_10, wn_ge_t, wn_ge_f, hg_86_43, ha_112l, ha_112s, wc_28, wz_eq_t, wz_eq_f, wb_eq_t, wb_eq_f, wm_eq_1, wm_eq_2, wc_80, wk_1, wp_goto, al_5059, wk_1000000, al_5060, wp_iinc_2_1, al_5061, wp_istore_3, wp_iload_3, wp_istore_4, wp_iload_4, wk_4, wc_29, wp_istore_5, wp_iload_5, wz_lt_t, wz_lt_f, wm_lt_1, wm_lt_2, wp_iadd, wp_min, al_5065, al_5066, wp_iinc_4_1, al_5067, wp_iinc_3_1, al_5068, al_5069, hg_86_8, ha_89l, ha_89s, wk_108, wn_lt_t, wn_lt_f, wk_m2, al_5070, hp_86_1, wc_43, t_43, wp_isub, wz_le_t, wz_le_f, wm_le_1, wm_le_2, wp_istore_6, wp_iload_6, wp_istore_7, wp_iload_7, wn_ne_t, wn_ne_f, al_5073, al_5074, al_5075, wp_iinc_6_1, al_5076, wp_idec_4_1, al_5077, nl_i, nl_r, nl_k, nl_j, nl_l, nI_add, pk_mul, pk_sub, tl_s, tl_n, aL_inl, u2_same, u2_ab, u2_aq, nI_l, lN_i, Nat.add_zero, Nat.zero_add, Nat.zero_le, true_and, and_true, b2n_10, b2n_T, b2n_F, b2n_0, Decidable.not_not, not_true_eq_false, not_false_eq_true, Nat.reduceAdd, Nat.reduceMul, Nat.reduceSub]
      exact this) 4 0 N w5 rfl hI (fun v y hv => absurd hv (Nat.not_lt_zero v))
    rw [al_5063]
    simp (disch := (first | omega | exact aCat_8 (by with_unfolding_all rfl) | exact rk_lt (by with_unfolding_all rfl) | exact aCat_16 (by with_unfolding_all rfl) | exact rk_eq (by with_unfolding_all rfl) | assumption | exact b2n_lt _ | exact id_b (by with_unfolding_all rfl) | (simp (disch := omega) only [u2_same, u2_ab, u2_aq]; done) | (simp (disch := omega) only [u2_same, u2_ab, u2_aq]; omega) | fail)) only [al_5056, wp_aloadr_0, wp_aloadk_0, wk_0, hp_86_0, wp_iload_1, wp_i2l, wl_1, wl_9, wc_4, t_4, lN_le, wz_ne_t, wz_ne_f, wb_ne_t, wb_ne_f, wm_ne_1, wm_ne_2, wk_m1, wp_ireturn, al_5057, wp_istore_2, wp_jsr, wp_iload_2, wc_10, t_10, wn_ge_t, wn_ge_f, hg_86_43, ha_112l, ha_112s, wc_28, wz_eq_t, wz_eq_f, wb_eq_t, wb_eq_f, wm_eq_1, wm_eq_2, wc_80, wk_1, wp_goto, al_5059, wk_1000000, al_5060, wp_iinc_2_1, al_5061, wp_istore_3, wp_iload_3, wp_istore_4, wp_iload_4, wk_4, wc_29, wp_istore_5, wp_iload_5, wz_lt_t, wz_lt_f, wm_lt_1, wm_lt_2, wp_iadd, wp_min, al_5065, al_5066, wp_iinc_4_1, al_5067, wp_iinc_3_1, al_5069, hg_86_8, ha_89l, ha_89s, wk_108, wn_lt_t, wn_lt_f, wk_m2, al_5070, hp_86_1, wc_43, t_43, wp_isub, wz_le_t, wz_le_f, wm_le_1, wm_le_2, wp_istore_6, wp_iload_6, wp_istore_7, wp_iload_7, wn_ne_t, wn_ne_f, al_5073, al_5074, al_5075, wp_iinc_6_1, al_5076, wp_idec_4_1, al_5077, nl_i, nl_r, nl_k, nl_j, nl_l, nI_add, pk_mul, pk_sub, tl_s, tl_n, aL_inl, u2_same, u2_ab, u2_aq, nI_l, lN_i, Nat.add_zero, Nat.zero_add, Nat.zero_le, true_and, and_true, b2n_10, b2n_T, b2n_F, b2n_0, Decidable.not_not, not_true_eq_false, not_false_eq_true, Nat.reduceAdd, Nat.reduceMul, Nat.reduceSub]
    exact hx _
theorem l_79r {N0 M : Nat → Nat → Nat} {p : Nat} {w6 w7 : Value} (hd : dmO D) (hp9 : p ≤ 9) (hwr : rwO (D 1) (N0 89)) (e89 : M 89 = N0 89)
    (hK : ∀ (N : Nat → Nat → Nat) (w3 w4 w5 : Value), (∀ b q, b ≠ 112 → N b q = M b q) → wyS D N0 p (N 112) → wyC D N0 p (D 0 * D 1) (N 112) → aWp ko d 79 (aP.1 (Int.toNat 5069)) [.ref 86, .int (nI p), .int (nI (D 0 * D 1)), w3, w4, w5, w6, w7] [] (hp D N I J x) (aL Q)) :
    ∀ (j r : Nat) (N : Nat → Nat → Nat) (w3 w4 w5 : Value), r + j = D 0 * D 1 → (∀ b q, b ≠ 112 → N b q = M b q) → wyS D N0 p (N 112) → wyC D N0 p r (N 112) → aWp ko d 79 (aP.1 (Int.toNat 5062)) [.ref 86, .int (nI p), .int (nI r), w3, w4, w5, w6, w7] [] (hp D N I J x) (aL Q) := by
  have hF := dm_F hd
  intro j
  induction j with
  | zero =>
    intro r N w3 w4 w5 hj hN hS hC
    have e : r = D 0 * D 1 := by omega
    subst e
    rw [al_5062]
    simp (disch := (first | omega | exact aCat_8 (by with_unfolding_all rfl) | exact rk_lt (by with_unfolding_all rfl) | exact aCat_16 (by with_unfolding_all rfl) | exact rk_eq (by with_unfolding_all rfl) | assumption | exact b2n_lt _ | exact id_b (by with_unfolding_all rfl) | (simp (disch := omega) only [u2_same, u2_ab, u2_aq]; done) | (simp (disch := omega) only [u2_same, u2_ab, u2_aq]; omega) | fail)) only [al_5056, wp_aloadr_0, wp_aloadk_0, wk_0, hp_86_0, wp_iload_1, wp_i2l, wl_1, wl_9, wc_4, t_4, lN_le, wz_ne_t, wz_ne_f, wb_ne_t, wb_ne_f, wm_ne_1, wm_ne_2, wk_m1, wp_ireturn, al_5057, wp_istore_2, wp_jsr, wp_iload_2, wc_10, t_10, wn_ge_t, wn_ge_f, hg_86_43, ha_112l, ha_112s, wc_28, wz_eq_t, wz_eq_f, wb_eq_t, wb_eq_f, wm_eq_1, wm_eq_2, wc_80, wk_1, wp_goto, al_5059, wk_1000000, al_5060, wp_iinc_2_1, al_5061, wp_istore_3, wp_iload_3, wp_istore_4, wp_iload_4, wk_4, wc_29, wp_istore_5, wp_iload_5, wz_lt_t, wz_lt_f, wm_lt_1, wm_lt_2, wp_iadd, wp_min, al_5065, al_5066, wp_iinc_4_1, al_5067, wp_iinc_3_1, al_5068, hg_86_8, ha_89l, ha_89s, wk_108, wn_lt_t, wn_lt_f, wk_m2, al_5070, hp_86_1, wc_43, t_43, wp_isub, wz_le_t, wz_le_f, wm_le_1, wm_le_2, wp_istore_6, wp_iload_6, wp_istore_7, wp_iload_7, wn_ne_t, wn_ne_f, al_5073, al_5074, al_5075, wp_iinc_6_1, al_5076, wp_idec_4_1, al_5077, nl_i, nl_r, nl_k, nl_j, nl_l, nI_add, pk_mul, pk_sub, tl_s, tl_n, aL_inl, u2_same, u2_ab, u2_aq, nI_l, lN_i, Nat.add_zero, Nat.zero_add, Nat.zero_le, true_and, and_true, b2n_10, b2n_T, b2n_F, b2n_0, Decidable.not_not, not_true_eq_false, not_false_eq_true, Nat.reduceAdd, Nat.reduceMul, Nat.reduceSub]
    exact hK N _ _ _ hN hS hC
  | succ j ih =>
    intro r N w3 w4 w5 hj hN hS hC
    have hx := fun w4 w5 => l_79f (ko := ko) (d := d) (I := I) (J := J) (x := x) (Q := Q) (w6 := w6) (w7 := w7) hd hp9 hwr e89 (show r < 100 by omega) (fun N w4 w5 hN hS hC => by
      have := ih (r + 1) N (.int (nI (D 0 * D 1))) w4 w5 (by omega) hN hS hC
      rw [al_5068]
      simp (disch := (first | omega | exact aCat_8 (by with_unfolding_all rfl) | exact rk_lt (by with_unfolding_all rfl) | exact aCat_16 (by with_unfolding_all rfl) | exact rk_eq (by with_unfolding_all rfl) | assumption | exact b2n_lt _ | exact id_b (by with_unfolding_all rfl) | (simp (disch := omega) only [u2_same, u2_ab, u2_aq]; done) | (simp (disch := omega) only [u2_same, u2_ab, u2_aq]; omega) | fail)) only [al_5056, wp_aloadr_0, wp_aloadk_0, wk_0, hp_86_0, wp_iload_1, wp_i2l, wl_1, wl_9, wc_4, t_4, lN_le, wz_ne_t, wz_ne_f, wb_ne_t, wb_ne_f, wm_ne_1, wm_ne_2, wk_m1, wp_ireturn, al_5057, wp_istore_2, wp_jsr, wp_iload_2, wc_10, t_10, wn_ge_t, wn_ge_f, hg_86_43, ha_112l, ha_112s, wc_28, wz_eq_t, wz_eq_f, wb_eq_t, wb_eq_f, wm_eq_1, wm_eq_2, wc_80, wk_1, wp_goto, al_5059, wk_1000000, al_5060, wp_iinc_2_1, al_5061, wp_istore_3, wp_iload_3, wp_istore_4, wp_iload_4, wk_4, wc_29, wp_istore_5, wp_iload_5, wz_lt_t, wz_lt_f, wm_lt_1, wm_lt_2, wp_iadd, wp_min, al_5065, al_5066, wp_iinc_4_1, al_5067, wp_iinc_3_1, al_5068, al_5069, hg_86_8, ha_89l, ha_89s, wk_108, wn_lt_t, wn_lt_f, wk_m2, al_5070, hp_86_1, wc_43, t_43, wp_isub, wz_le_t, wz_le_f, wm_le_1, wm_le_2, wp_istore_6, wp_iload_6, wp_istore_7, wp_iload_7, wn_ne_t, wn_ne_f, al_5073, al_5074, al_5075, wp_iinc_6_1, al_5076, wp_idec_4_1, al_5077, nl_i, nl_r, nl_k, nl_j, nl_l, nI_add, pk_mul, pk_sub, tl_s, tl_n, aL_inl, u2_same, u2_ab, u2_aq, nI_l, lN_i, Nat.add_zero, Nat.zero_add, Nat.zero_le, true_and, and_true, b2n_10, b2n_T, b2n_F, b2n_0, Decidable.not_not, not_true_eq_false, not_false_eq_true, Nat.reduceAdd, Nat.reduceMul, Nat.reduceSub]
      exact this) (D 0 * D 1) 0 N w4 w5 (by omega) ⟨hN, hS, hC, fun y hy => absurd hy (Nat.not_lt_zero y)⟩
    rw [al_5062]
    simp (disch := (first | omega | exact aCat_8 (by with_unfolding_all rfl) | exact rk_lt (by with_unfolding_all rfl) | exact aCat_16 (by with_unfolding_all rfl) | exact rk_eq (by with_unfolding_all rfl) | assumption | exact b2n_lt _ | exact id_b (by with_unfolding_all rfl) | (simp (disch := omega) only [u2_same, u2_ab, u2_aq]; done) | (simp (disch := omega) only [u2_same, u2_ab, u2_aq]; omega) | fail)) only [al_5056, wp_aloadr_0, wp_aloadk_0, wk_0, hp_86_0, wp_iload_1, wp_i2l, wl_1, wl_9, wc_4, t_4, lN_le, wz_ne_t, wz_ne_f, wb_ne_t, wb_ne_f, wm_ne_1, wm_ne_2, wk_m1, wp_ireturn, al_5057, wp_istore_2, wp_jsr, wp_iload_2, wc_10, t_10, wn_ge_t, wn_ge_f, hg_86_43, ha_112l, ha_112s, wc_28, wz_eq_t, wz_eq_f, wb_eq_t, wb_eq_f, wm_eq_1, wm_eq_2, wc_80, wk_1, wp_goto, al_5059, wk_1000000, al_5060, wp_iinc_2_1, al_5061, wp_istore_3, wp_iload_3, wp_istore_4, wp_iload_4, wk_4, wc_29, wp_istore_5, wp_iload_5, wz_lt_t, wz_lt_f, wm_lt_1, wm_lt_2, wp_iadd, wp_min, al_5065, al_5066, wp_iinc_4_1, al_5067, wp_iinc_3_1, al_5068, hg_86_8, ha_89l, ha_89s, wk_108, wn_lt_t, wn_lt_f, wk_m2, al_5070, hp_86_1, wc_43, t_43, wp_isub, wz_le_t, wz_le_f, wm_le_1, wm_le_2, wp_istore_6, wp_iload_6, wp_istore_7, wp_iload_7, wn_ne_t, wn_ne_f, al_5073, al_5074, al_5075, wp_iinc_6_1, al_5076, wp_idec_4_1, al_5077, nl_i, nl_r, nl_k, nl_j, nl_l, nI_add, pk_mul, pk_sub, tl_s, tl_n, aL_inl, u2_same, u2_ab, u2_aq, nI_l, lN_i, Nat.add_zero, Nat.zero_add, Nat.zero_le, true_and, and_true, b2n_10, b2n_T, b2n_F, b2n_0, Decidable.not_not, not_true_eq_false, not_false_eq_true, Nat.reduceAdd, Nat.reduceMul, Nat.reduceSub]
    exact hx _ _
/-- the distances at the end -/
theorem wy_ex {N0 : Nat → Nat → Nat} {p : Nat} {e : Nat → Nat} (hd : dmO D) (hS : wyS D N0 p e) (hC : wyC D N0 p (D 0 * D 1) e) {g i : Nat} (hg : g < D 0 * D 1) (hi : i + 1 < 1000000) : e g = i + 1 ↔ flF (D 0) (D 1) (wyO D N0 p) (wyA D) i g := by
  have hF := dm_F hd
  have hC2 := hd.2.2.1
  constructor
  · intro he
    obtain ⟨k, k1, k2⟩ := (hS g hg).2 (by omega)
    have ek : k = i := by omega
    rw [ek] at k2
    obtain ⟨j, j1, j2⟩ := fl_first i k2
    have hjF := fl_lt (by omega) hg j2
    have := hC j (by omega) g hg j2.1
    have : j = i := by omega
    rw [← this]
    exact j2
  · intro hf
    have hiF := fl_lt (by omega) hg hf
    have h1 := hC i (by omega) g hg hf.1
    obtain ⟨k, k1, k2⟩ := (hS g hg).2 (by omega)
    have : ¬ k < i := fun z => by
      have := hf.2 k z
      have k2' : fl (D 0) (D 1) (wyO D N0 p) (wyA D) k g = true := k2
      rw [k2'] at this
      cases this
    omega
theorem l_79n {N0 : Nat → Nat → Nat} {p cur i : Nat} {w2 : Int32} (hd : dmO D) (hS : wyS D N0 p (N 112)) (hC : wyC D N0 p (D 0 * D 1) (N 112)) (hc : cur < D 0 * D 1) (hf : flF (D 0) (D 1) (wyO D N0 p) (wyA D) (i + 1) cur) (hi : i < 36)
    (hK : ∀ w7 : Value, aWp ko d 79 (aP.1 (Int.toNat 5076)) [.ref 86, .int (nI p), .int w2, .int (nI cur), .int (nI (i + 1)), .int (nI (nxt D N0 p i cur)), .int (nI 4), w7] [] (hp D N I J x) (aL Q)) :
    ∀ (j w : Nat) (B : Int32) (w7 : Value), w + j = 4 → ((B = -1 ∧ ∀ v g, v < w → bsd (D 0) (D 1) cur v = some g → ¬ N 112 g = i + 1) ∨ (∃ a, B = nI a ∧ a < D 0 * D 1 ∧ N 112 a = i + 1 ∧ (∃ v, v < w ∧ bsd (D 0) (D 1) cur v = some a) ∧ ∀ v g, v < w → bsd (D 0) (D 1) cur v = some g → N 112 g = i + 1 → a ≤ g)) → aWp ko d 79 (aP.1 (Int.toNat 5072)) [.ref 86, .int (nI p), .int w2, .int (nI cur), .int (nI (i + 1)), .int B, .int (nI w), w7] [] (hp D N I J x) (aL Q) := by
  have hF := dm_F hd
  have hC2 := hd.2.2.1
  obtain ⟨a0, n1, n2, n3, n4, n5⟩ := nx_ok hd hc hf
  intro j
  induction j with
  | zero =>
    intro w B w7 hj hB
    have e : w = 4 := by omega
    subst e
    have hx := hK w7
    have hw0 : ∃ v, v < 4 ∧ bsd (D 0) (D 1) cur v = some a0 := by
      obtain ⟨v2, y2, hv2, hb2, hy2⟩ := (besW_iff 4).mp (Bool.and_eq_true _ _ |>.mp n4).1
      have e2 : y2 = cur := by simpa using hy2
      subst e2
      exact bsd_sym hC2 hv2 n2 hb2
    obtain ⟨v0, hv0, hb0⟩ := hw0
    have hN0 := (wy_ex hd hS hC n2 (show i + 1 < 1000000 by omega)).mpr n3
    have hBe : B = nI a0 := by
      rcases hB with ⟨_, h2⟩ | ⟨a, h1, h2, h3, ⟨v, hv, hb⟩, h5⟩
      · exact absurd hN0 (h2 v0 a0 hv0 hb0)
      · have hle := h5 v0 a0 hv0 hb0 hN0
        have hfa := (wy_ex hd hS hC h2 (show i + 1 < 1000000 by omega)).mp h3
        have hnb : nxB D N0 p i cur a = true := by
          unfold nxB wyL
          obtain ⟨u, hu, hub⟩ := bsd_sym hC2 hv hc hb
          rw [(besW_iff 4).mpr ⟨u, cur, hu, hub, by simp⟩, hfa.1]
          rfl
        have : ¬ a < a0 := fun z => by rw [n5 a z] at hnb; cases hnb
        have : a = a0 := by omega
        rw [h1, this]
    rw [n1] at hx
    rw [al_5072, hBe]
    simp (disch := (first | omega | exact aCat_8 (by with_unfolding_all rfl) | exact rk_lt (by with_unfolding_all rfl) | exact aCat_16 (by with_unfolding_all rfl) | exact rk_eq (by with_unfolding_all rfl) | assumption | exact b2n_lt _ | exact id_b (by with_unfolding_all rfl) | (simp (disch := omega) only [u2_same, u2_ab, u2_aq]; done) | (simp (disch := omega) only [u2_same, u2_ab, u2_aq]; omega) | fail)) only [al_5056, wp_aloadr_0, wp_aloadk_0, wk_0, hp_86_0, wp_iload_1, wp_i2l, wl_1, wl_9, wc_4, t_4, lN_le, wz_ne_t, wz_ne_f, wb_ne_t, wb_ne_f, wm_ne_1, wm_ne_2, wk_m1, wp_ireturn, al_5057, wp_istore_2, wp_jsr, wp_iload_2, wc_10, t_10, wn_ge_t, wn_ge_f, hg_86_43, ha_112l, ha_112s, wc_28, wz_eq_t, wz_eq_f, wb_eq_t, wb_eq_f, wm_eq_1, wm_eq_2, wc_80, wk_1, wp_goto, al_5059, wk_1000000, al_5060, wp_iinc_2_1, al_5061, wp_istore_3, wp_iload_3, wp_istore_4, wp_iload_4, wk_4, wc_29, wp_istore_5, wp_iload_5, wz_lt_t, wz_lt_f, wm_lt_1, wm_lt_2, wp_iadd, wp_min, al_5065, al_5066, wp_iinc_4_1, al_5067, wp_iinc_3_1, al_5068, al_5069, hg_86_8, ha_89l, ha_89s, wk_108, wn_lt_t, wn_lt_f, wk_m2, al_5070, hp_86_1, wc_43, t_43, wp_isub, wz_le_t, wz_le_f, wm_le_1, wm_le_2, wp_istore_6, wp_iload_6, wp_istore_7, wp_iload_7, wn_ne_t, wn_ne_f, al_5073, al_5074, al_5075, wp_iinc_6_1, wp_idec_4_1, al_5077, nl_i, nl_r, nl_k, nl_j, nl_l, nI_add, pk_mul, pk_sub, tl_s, tl_n, aL_inl, u2_same, u2_ab, u2_aq, nI_l, lN_i, Nat.add_zero, Nat.zero_add, Nat.zero_le, true_and, and_true, b2n_10, b2n_T, b2n_F, b2n_0, Decidable.not_not, not_true_eq_false, not_false_eq_true, Nat.reduceAdd, Nat.reduceMul, Nat.reduceSub]
    exact hx
  | succ j ih =>
    intro w B w7 hj hB
    have h29 := fun Q => t_29 (ko := ko) (d := d) (D := D) (N := N) (I := I) (J := J) (x := x) (Q := Q) (f := cur) (w := w) hd.1 hd.2.2.1 hd.2.2.2 hd.2.1 hc (by omega)
    rw [al_5072]
    cases hbs : bsd (D 0) (D 1) cur w with
    | none =>
      rw [hbs] at h29
      simp (disch := (first | omega | exact aCat_8 (by with_unfolding_all rfl) | exact rk_lt (by with_unfolding_all rfl) | exact aCat_16 (by with_unfolding_all rfl) | exact rk_eq (by with_unfolding_all rfl) | assumption | exact b2n_lt _ | exact id_b (by with_unfolding_all rfl) | (simp (disch := omega) only [u2_same, u2_ab, u2_aq]; done) | (simp (disch := omega) only [u2_same, u2_ab, u2_aq]; omega) | fail)) only [al_5056, wp_aloadr_0, wp_aloadk_0, wk_0, hp_86_0, wp_iload_1, wp_i2l, wl_1, wl_9, wc_4, t_4, lN_le, wz_ne_t, wz_ne_f, wb_ne_t, wb_ne_f, wm_ne_1, wm_ne_2, wk_m1, wp_ireturn, al_5057, wp_istore_2, wp_jsr, wp_iload_2, wc_10, t_10, wn_ge_t, wn_ge_f, hg_86_43, ha_112l, ha_112s, wc_28, wz_eq_t, wz_eq_f, wb_eq_t, wb_eq_f, wm_eq_1, wm_eq_2, wc_80, wk_1, wp_goto, al_5059, wk_1000000, al_5060, wp_iinc_2_1, al_5061, wp_istore_3, wp_iload_3, wp_istore_4, wp_iload_4, wk_4, wc_29, wp_istore_5, wp_iload_5, wz_lt_t, wz_lt_f, wm_lt_1, wm_lt_2, wp_iadd, wp_min, al_5065, al_5066, wp_iinc_4_1, al_5067, wp_iinc_3_1, al_5068, al_5069, hg_86_8, ha_89l, ha_89s, wk_108, wn_lt_t, wn_lt_f, wk_m2, al_5070, hp_86_1, wc_43, t_43, wp_isub, wz_le_t, wz_le_f, wm_le_1, wm_le_2, wp_istore_6, wp_iload_6, wp_istore_7, wp_iload_7, wn_ne_t, wn_ne_f, al_5073, al_5074, al_5075, wp_iinc_6_1, wp_idec_4_1, al_5077, nl_i, nl_r, nl_k, nl_j, nl_l, nI_add, pk_mul, pk_sub, tl_s, tl_n, aL_inl, u2_same, u2_ab, u2_aq, nI_l, lN_i, Nat.add_zero, Nat.zero_add, Nat.zero_le, true_and, and_true, b2n_10, b2n_T, b2n_F, b2n_0, Decidable.not_not, not_true_eq_false, not_false_eq_true, Nat.reduceAdd, Nat.reduceMul, Nat.reduceSub, h29, oI_n, qe_n1, qe_m1, qn_n1, qn_m1, qe_n2, qe_m2, qn_n2, qn_m2]
      refine ih (w + 1) B _ (by omega) ?_
      rcases hB with ⟨h1, h2⟩ | ⟨a, h1, h2, h3, ⟨v, hv, hb⟩, h5⟩
      · refine Or.inl ⟨h1, fun v g hv hb => ?_⟩
        by_cases e : v = w
        · rw [e, hbs] at hb; cases hb
        · exact h2 v g (by omega) hb
      · refine Or.inr ⟨a, h1, h2, h3, ⟨v, by omega, hb⟩, fun v g hv hb hg => ?_⟩
        by_cases e : v = w
        · rw [e, hbs] at hb; cases hb
        · exact h5 v g (by omega) hb hg
    | some g =>
      rw [hbs] at h29
      have hg : g < D 0 * D 1 := bsd_lt (by omega) hc hbs
      have hg6 := (hS g hg).1
      by_cases z : N 112 g = i + 1
      · rcases hB with ⟨h1, h2⟩ | ⟨a, h1, h2, h3, ⟨v, hv, hb⟩, h5⟩
        · subst h1
          simp (disch := (first | omega | exact aCat_8 (by with_unfolding_all rfl) | exact rk_lt (by with_unfolding_all rfl) | exact aCat_16 (by with_unfolding_all rfl) | exact rk_eq (by with_unfolding_all rfl) | assumption | exact b2n_lt _ | exact id_b (by with_unfolding_all rfl) | (simp (disch := omega) only [u2_same, u2_ab, u2_aq]; done) | (simp (disch := omega) only [u2_same, u2_ab, u2_aq]; omega) | fail)) only [al_5056, wp_aloadr_0, wp_aloadk_0, wk_0, hp_86_0, wp_iload_1, wp_i2l, wl_1, wl_9, wc_4, t_4, lN_le, wz_ne_t, wz_ne_f, wb_ne_t, wb_ne_f, wm_ne_1, wm_ne_2, wk_m1, wp_ireturn, al_5057, wp_istore_2, wp_jsr, wp_iload_2, wc_10, t_10, wn_ge_t, wn_ge_f, hg_86_43, ha_112l, ha_112s, wc_28, wz_eq_t, wz_eq_f, wb_eq_t, wb_eq_f, wm_eq_1, wm_eq_2, wc_80, wk_1, wp_goto, al_5059, wk_1000000, al_5060, wp_iinc_2_1, al_5061, wp_istore_3, wp_iload_3, wp_istore_4, wp_iload_4, wk_4, wc_29, wp_istore_5, wp_iload_5, wz_lt_t, wz_lt_f, wm_lt_1, wm_lt_2, wp_iadd, wp_min, al_5065, al_5066, wp_iinc_4_1, al_5067, wp_iinc_3_1, al_5068, al_5069, hg_86_8, ha_89l, ha_89s, wk_108, wn_lt_t, wn_lt_f, wk_m2, al_5070, hp_86_1, wc_43, t_43, wp_isub, wz_le_t, wz_le_f, wm_le_1, wm_le_2, wp_istore_6, wp_iload_6, wp_istore_7, wp_iload_7, wn_ne_t, wn_ne_f, al_5073, al_5074, al_5075, wp_iinc_6_1, wp_idec_4_1, al_5077, nl_i, nl_r, nl_k, nl_j, nl_l, nI_add, pk_mul, pk_sub, tl_s, tl_n, aL_inl, u2_same, u2_ab, u2_aq, nI_l, lN_i, Nat.add_zero, Nat.zero_add, Nat.zero_le, true_and, and_true, b2n_10, b2n_T, b2n_F, b2n_0, Decidable.not_not, not_true_eq_false, not_false_eq_true, Nat.reduceAdd, Nat.reduceMul, Nat.reduceSub, h29, oI_s, z, qe_n1, qe_m1, qn_n1, qn_m1, qe_n2, qe_m2, qn_n2, qn_m2]
          refine ih (w + 1) _ _ (by omega) (Or.inr ⟨g, rfl, hg, z, ⟨w, by omega, hbs⟩, fun v y hv hb hy => ?_⟩)
          by_cases e : v = w
          · rw [e, hbs] at hb; cases hb; exact Nat.le_refl _
          · exact absurd hy (h2 v y (by omega) hb)
        · subst h1
          by_cases y : g < a
          · simp (disch := (first | omega | exact aCat_8 (by with_unfolding_all rfl) | exact rk_lt (by with_unfolding_all rfl) | exact aCat_16 (by with_unfolding_all rfl) | exact rk_eq (by with_unfolding_all rfl) | assumption | exact b2n_lt _ | exact id_b (by with_unfolding_all rfl) | (simp (disch := omega) only [u2_same, u2_ab, u2_aq]; done) | (simp (disch := omega) only [u2_same, u2_ab, u2_aq]; omega) | fail)) only [al_5056, wp_aloadr_0, wp_aloadk_0, wk_0, hp_86_0, wp_iload_1, wp_i2l, wl_1, wl_9, wc_4, t_4, lN_le, wz_ne_t, wz_ne_f, wb_ne_t, wb_ne_f, wm_ne_1, wm_ne_2, wk_m1, wp_ireturn, al_5057, wp_istore_2, wp_jsr, wp_iload_2, wc_10, t_10, wn_ge_t, wn_ge_f, hg_86_43, ha_112l, ha_112s, wc_28, wz_eq_t, wz_eq_f, wb_eq_t, wb_eq_f, wm_eq_1, wm_eq_2, wc_80, wk_1, wp_goto, al_5059, wk_1000000, al_5060, wp_iinc_2_1, al_5061, wp_istore_3, wp_iload_3, wp_istore_4, wp_iload_4, wk_4, wc_29, wp_istore_5, wp_iload_5, wz_lt_t, wz_lt_f, wm_lt_1, wm_lt_2, wp_iadd, wp_min, al_5065, al_5066, wp_iinc_4_1, al_5067, wp_iinc_3_1, al_5068, al_5069, hg_86_8, ha_89l, ha_89s, wk_108, wn_lt_t, wn_lt_f, wk_m2, al_5070, hp_86_1, wc_43, t_43, wp_isub, wz_le_t, wz_le_f, wm_le_1, wm_le_2, wp_istore_6, wp_iload_6, wp_istore_7, wp_iload_7, wn_ne_t, wn_ne_f, al_5073, al_5074, al_5075, wp_iinc_6_1, wp_idec_4_1, al_5077, nl_i, nl_r, nl_k, nl_j, nl_l, nI_add, pk_mul, pk_sub, tl_s, tl_n, aL_inl, u2_same, u2_ab, u2_aq, nI_l, lN_i, Nat.add_zero, Nat.zero_add, Nat.zero_le, true_and, and_true, b2n_10, b2n_T, b2n_F, b2n_0, Decidable.not_not, not_true_eq_false, not_false_eq_true, Nat.reduceAdd, Nat.reduceMul, Nat.reduceSub, h29, oI_s, z, qe_n1, qe_m1, qn_n1, qn_m1, qe_n2, qe_m2, qn_n2, qn_m2]
            refine ih (w + 1) _ _ (by omega) (Or.inr ⟨g, rfl, hg, z, ⟨w, by omega, hbs⟩, fun v y' hv hb hy => ?_⟩)
            by_cases e : v = w
            · rw [e, hbs] at hb; cases hb; exact Nat.le_refl _
            · have := h5 v y' (by omega) hb hy
              omega
          · simp (disch := (first | omega | exact aCat_8 (by with_unfolding_all rfl) | exact rk_lt (by with_unfolding_all rfl) | exact aCat_16 (by with_unfolding_all rfl) | exact rk_eq (by with_unfolding_all rfl) | assumption | exact b2n_lt _ | exact id_b (by with_unfolding_all rfl) | (simp (disch := omega) only [u2_same, u2_ab, u2_aq]; done) | (simp (disch := omega) only [u2_same, u2_ab, u2_aq]; omega) | fail)) only [al_5056, wp_aloadr_0, wp_aloadk_0, wk_0, hp_86_0, wp_iload_1, wp_i2l, wl_1, wl_9, wc_4, t_4, lN_le, wz_ne_t, wz_ne_f, wb_ne_t, wb_ne_f, wm_ne_1, wm_ne_2, wk_m1, wp_ireturn, al_5057, wp_istore_2, wp_jsr, wp_iload_2, wc_10, t_10, wn_ge_t, wn_ge_f, hg_86_43, ha_112l, ha_112s, wc_28, wz_eq_t, wz_eq_f, wb_eq_t, wb_eq_f, wm_eq_1, wm_eq_2, wc_80, wk_1, wp_goto, al_5059, wk_1000000, al_5060, wp_iinc_2_1, al_5061, wp_istore_3, wp_iload_3, wp_istore_4, wp_iload_4, wk_4, wc_29, wp_istore_5, wp_iload_5, wz_lt_t, wz_lt_f, wm_lt_1, wm_lt_2, wp_iadd, wp_min, al_5065, al_5066, wp_iinc_4_1, al_5067, wp_iinc_3_1, al_5068, al_5069, hg_86_8, ha_89l, ha_89s, wk_108, wn_lt_t, wn_lt_f, wk_m2, al_5070, hp_86_1, wc_43, t_43, wp_isub, wz_le_t, wz_le_f, wm_le_1, wm_le_2, wp_istore_6, wp_iload_6, wp_istore_7, wp_iload_7, wn_ne_t, wn_ne_f, al_5073, al_5074, al_5075, wp_iinc_6_1, wp_idec_4_1, al_5077, nl_i, nl_r, nl_k, nl_j, nl_l, nI_add, pk_mul, pk_sub, tl_s, tl_n, aL_inl, u2_same, u2_ab, u2_aq, nI_l, lN_i, Nat.add_zero, Nat.zero_add, Nat.zero_le, true_and, and_true, b2n_10, b2n_T, b2n_F, b2n_0, Decidable.not_not, not_true_eq_false, not_false_eq_true, Nat.reduceAdd, Nat.reduceMul, Nat.reduceSub, h29, oI_s, z, qe_n1, qe_m1, qn_n1, qn_m1, qe_n2, qe_m2, qn_n2, qn_m2]
            refine ih (w + 1) _ _ (by omega) (Or.inr ⟨a, rfl, h2, h3, ⟨v, by omega, hb⟩, fun v y' hv hb hy => ?_⟩)
            by_cases e : v = w
            · rw [e, hbs] at hb; cases hb; omega
            · exact h5 v y' (by omega) hb hy
      · simp (disch := (first | omega | exact aCat_8 (by with_unfolding_all rfl) | exact rk_lt (by with_unfolding_all rfl) | exact aCat_16 (by with_unfolding_all rfl) | exact rk_eq (by with_unfolding_all rfl) | assumption | exact b2n_lt _ | exact id_b (by with_unfolding_all rfl) | (simp (disch := omega) only [u2_same, u2_ab, u2_aq]; done) | (simp (disch := omega) only [u2_same, u2_ab, u2_aq]; omega) | fail)) only [al_5056, wp_aloadr_0, wp_aloadk_0, wk_0, hp_86_0, wp_iload_1, wp_i2l, wl_1, wl_9, wc_4, t_4, lN_le, wz_ne_t, wz_ne_f, wb_ne_t, wb_ne_f, wm_ne_1, wm_ne_2, wk_m1, wp_ireturn, al_5057, wp_istore_2, wp_jsr, wp_iload_2, wc_10, t_10, wn_ge_t, wn_ge_f, hg_86_43, ha_112l, ha_112s, wc_28, wz_eq_t, wz_eq_f, wb_eq_t, wb_eq_f, wm_eq_1, wm_eq_2, wc_80, wk_1, wp_goto, al_5059, wk_1000000, al_5060, wp_iinc_2_1, al_5061, wp_istore_3, wp_iload_3, wp_istore_4, wp_iload_4, wk_4, wc_29, wp_istore_5, wp_iload_5, wz_lt_t, wz_lt_f, wm_lt_1, wm_lt_2, wp_iadd, wp_min, al_5065, al_5066, wp_iinc_4_1, al_5067, wp_iinc_3_1, al_5068, al_5069, hg_86_8, ha_89l, ha_89s, wk_108, wn_lt_t, wn_lt_f, wk_m2, al_5070, hp_86_1, wc_43, t_43, wp_isub, wz_le_t, wz_le_f, wm_le_1, wm_le_2, wp_istore_6, wp_iload_6, wp_istore_7, wp_iload_7, wn_ne_t, wn_ne_f, al_5073, al_5074, al_5075, wp_iinc_6_1, wp_idec_4_1, al_5077, nl_i, nl_r, nl_k, nl_j, nl_l, nI_add, pk_mul, pk_sub, tl_s, tl_n, aL_inl, u2_same, u2_ab, u2_aq, nI_l, lN_i, Nat.add_zero, Nat.zero_add, Nat.zero_le, true_and, and_true, b2n_10, b2n_T, b2n_F, b2n_0, Decidable.not_not, not_true_eq_false, not_false_eq_true, Nat.reduceAdd, Nat.reduceMul, Nat.reduceSub, h29, oI_s, qe_n1, qe_m1, qn_n1, qn_m1, qe_n2, qe_m2, qn_n2, qn_m2]
        refine ih (w + 1) B _ (by omega) ?_
        rcases hB with ⟨h1, h2⟩ | ⟨a, h1, h2, h3, ⟨v, hv, hb⟩, h5⟩
        · refine Or.inl ⟨h1, fun v y hv hb => ?_⟩
          by_cases e : v = w
          · rw [e, hbs] at hb; cases hb; exact z
          · exact h2 v y (by omega) hb
        · refine Or.inr ⟨a, h1, h2, h3, ⟨v, by omega, hb⟩, fun v y hv hb hy => ?_⟩
          by_cases e : v = w
          · rw [e, hbs] at hb; cases hb; exact absurd hy z
          · exact h5 v y (by omega) hb hy
theorem l_79p {N0 M : Nat → Nat → Nat} {J0 : Nat → Nat → Int64} {p k : Nat} (hd : dmO D) (hs : N0 89 108 < D 0 * D 1) (hk : k < 36) (hS : wyS D N0 p (M 112)) (hC : wyC D N0 p (D 0 * D 1) (M 112)) (hf : flF (D 0) (D 1) (wyO D N0 p) (wyA D) k (N0 89 108))
    (hQ : ∀ (N : Nat → Nat → Nat) (J : Nat → Nat → Int64), (∀ b q, ¬ (b = 86 ∧ q = 1) → N b q = M b q) → (∀ b q, b ≠ 87 → J b q = J0 b q) → tdR N J (k + 1) (fun e => lN (wyQ D N0 p k e)) → Q (some (.int (nI (k + 1)))) (hp D N I J x)) :
    ∀ (j e : Nat) (N : Nat → Nat → Nat) (J : Nat → Nat → Int64) (w5 w6 w7 : Value), e + j = k → (∀ b q, ¬ (b = 86 ∧ q = 1) → N b q = M b q) → (∀ b q, b ≠ 87 → J b q = J0 b q) → tdR N J (e + 1) (fun e => lN (wyQ D N0 p k e)) → aWp ko d 79 (aP.1 (Int.toNat 5071)) [.ref 86, .int (nI p), .int (nI (k + 1)), .int (nI (wyQ D N0 p k e)), .int (nI (k - e)), w5, w6, w7] [] (hp D N I J x) (aL Q) := by
  have hF := dm_F hd
  intro j
  induction j with
  | zero =>
    intro e N J w5 w6 w7 hj hN hJ ht
    have ee : e = k := by omega
    subst ee
    rw [Nat.sub_self, al_5071]
    simp (disch := (first | omega | exact aCat_8 (by with_unfolding_all rfl) | exact rk_lt (by with_unfolding_all rfl) | exact aCat_16 (by with_unfolding_all rfl) | exact rk_eq (by with_unfolding_all rfl) | assumption | exact b2n_lt _ | exact id_b (by with_unfolding_all rfl) | (simp (disch := omega) only [u2_same, u2_ab, u2_aq]; done) | (simp (disch := omega) only [u2_same, u2_ab, u2_aq]; omega) | fail)) only [al_5056, wp_aloadr_0, wp_aloadk_0, wk_0, hp_86_0, wp_iload_1, wp_i2l, wl_1, wl_9, wc_4, t_4, lN_le, wz_ne_t, wz_ne_f, wb_ne_t, wb_ne_f, wm_ne_1, wm_ne_2, wk_m1, wp_ireturn, al_5057, wp_istore_2, wp_jsr, wp_iload_2, wc_10, t_10, wn_ge_t, wn_ge_f, hg_86_43, ha_112l, ha_112s, wc_28, wz_eq_t, wz_eq_f, wb_eq_t, wb_eq_f, wm_eq_1, wm_eq_2, wc_80, wk_1, wp_goto, al_5059, wk_1000000, al_5060, wp_iinc_2_1, al_5061, wp_istore_3, wp_iload_3, wp_istore_4, wp_iload_4, wk_4, wc_29, wp_istore_5, wp_iload_5, wz_lt_t, wz_lt_f, wm_lt_1, wm_lt_2, wp_iadd, wp_min, al_5065, al_5066, wp_iinc_4_1, al_5067, wp_iinc_3_1, al_5068, al_5069, hg_86_8, ha_89l, ha_89s, wk_108, wn_lt_t, wn_lt_f, wk_m2, al_5070, hp_86_1, wc_43, t_43, wp_isub, wz_le_t, wz_le_f, wm_le_1, wm_le_2, wp_istore_6, wp_iload_6, wp_istore_7, wp_iload_7, wn_ne_t, wn_ne_f, al_5073, al_5074, al_5075, wp_iinc_6_1, al_5076, wp_idec_4_1, al_5077, nl_i, nl_r, nl_k, nl_j, nl_l, nI_add, pk_mul, pk_sub, tl_s, tl_n, aL_inl, u2_same, u2_ab, u2_aq, nI_l, lN_i, Nat.add_zero, Nat.zero_add, Nat.zero_le, true_and, and_true, b2n_10, b2n_T, b2n_F, b2n_0, Decidable.not_not, not_true_eq_false, not_false_eq_true, Nat.reduceAdd, Nat.reduceMul, Nat.reduceSub]
    exact hQ N J hN hJ ht
  | succ j ih =>
    intro e N J w5 w6 w7 hj hN hJ ht
    obtain ⟨q1, q2⟩ := wq_ok hd hs hf e (by omega)
    have es : k - e = k - 1 - e + 1 := by omega
    rw [es] at q2
    have e112 : N 112 = M 112 := by funext q; exact hN 112 q (by omega)
    obtain ⟨q3, _⟩ := wq_ok hd hs hf (e + 1) (by omega)
    have en : wyQ D N0 p k (e + 1) = nxt D N0 p (k - 1 - e) (wyQ D N0 p k e) := rfl
    rw [en] at q3
    have hx := fun w7 => l_79n (ko := ko) (d := d) (D := D) (N := N) (I := I) (J := J) (x := x) (Q := Q) (p := p) (cur := wyQ D N0 p k e) (i := k - 1 - e) (w2 := nI (k + 1)) hd (by rw [e112]; exact hS) (by rw [e112]; exact hC) q1 q2 (by omega) (by
      intro w7
      have e1 := ht.1
      have ih1 := fun N J w5 w6 w7 => ih (e + 1) N J w5 w6 w7 (by omega)
      rw [en, show k - (e + 1) = k - 1 - e by omega] at ih1
      rw [al_5076]
      simp (disch := (first | omega | exact aCat_8 (by with_unfolding_all rfl) | exact rk_lt (by with_unfolding_all rfl) | exact aCat_16 (by with_unfolding_all rfl) | exact rk_eq (by with_unfolding_all rfl) | assumption | exact b2n_lt _ | exact id_b (by with_unfolding_all rfl) | (simp (disch := omega) only [u2_same, u2_ab, u2_aq]; done) | (simp (disch := omega) only [u2_same, u2_ab, u2_aq]; omega) | fail)) only [al_5056, wp_aloadr_0, wp_aloadk_0, wk_0, hp_86_0, wp_iload_1, wp_i2l, wl_1, wl_9, wc_4, t_4, lN_le, wz_ne_t, wz_ne_f, wb_ne_t, wb_ne_f, wm_ne_1, wm_ne_2, wk_m1, wp_ireturn, al_5057, wp_istore_2, wp_jsr, wp_iload_2, wc_10, t_10, wn_ge_t, wn_ge_f, hg_86_43, ha_112l, ha_112s, wc_28, wz_eq_t, wz_eq_f, wb_eq_t, wb_eq_f, wm_eq_1, wm_eq_2, wc_80, wk_1, wp_goto, al_5059, wk_1000000, al_5060, wp_iinc_2_1, al_5061, wp_istore_3, wp_iload_3, wp_istore_4, wp_iload_4, wk_4, wc_29, wp_istore_5, wp_iload_5, wz_lt_t, wz_lt_f, wm_lt_1, wm_lt_2, wp_iadd, wp_min, al_5065, al_5066, wp_iinc_4_1, al_5067, wp_iinc_3_1, al_5068, al_5069, hg_86_8, ha_89l, ha_89s, wk_108, wn_lt_t, wn_lt_f, wk_m2, al_5070, hp_86_1, wc_43, t_43, wp_isub, wz_le_t, wz_le_f, wm_le_1, wm_le_2, wp_istore_6, wp_iload_6, wp_istore_7, wp_iload_7, wn_ne_t, wn_ne_f, al_5073, al_5074, al_5075, wp_iinc_6_1, al_5076, wp_idec_4_1, al_5077, nl_i, nl_r, nl_k, nl_j, nl_l, nI_add, pk_mul, pk_sub, tl_s, tl_n, aL_inl, u2_same, u2_ab, u2_aq, nI_l, lN_i, Nat.add_zero, Nat.zero_add, Nat.zero_le, true_and, and_true, b2n_10, b2n_T, b2n_F, b2n_0, Decidable.not_not, not_true_eq_false, not_false_eq_true, Nat.reduceAdd, Nat.reduceMul, Nat.reduceSub, e1, Nat.add_sub_cancel]
      refine ih1 _ _ _ _ _ (fun b q z => by rw [u2_rd, if_neg z]; exact hN b q z) (fun b q z => by rw [u2_ab z]; exact hJ b q z) ⟨u2_same _ _ _ _, fun i hi => ?_⟩
      by_cases z : i = e + 1
      · rw [z, u2_same]
        rfl
      · rw [u2_aq z]
        exact ht.2 i (by omega)) 4 0 (-1) w7 rfl (Or.inl ⟨rfl, fun v g hv => absurd hv (Nat.not_lt_zero v)⟩)
    rw [al_5071, es]
    simp (disch := (first | omega | exact aCat_8 (by with_unfolding_all rfl) | exact rk_lt (by with_unfolding_all rfl) | exact aCat_16 (by with_unfolding_all rfl) | exact rk_eq (by with_unfolding_all rfl) | assumption | exact b2n_lt _ | exact id_b (by with_unfolding_all rfl) | (simp (disch := omega) only [u2_same, u2_ab, u2_aq]; done) | (simp (disch := omega) only [u2_same, u2_ab, u2_aq]; omega) | fail)) only [al_5056, wp_aloadr_0, wp_aloadk_0, wk_0, hp_86_0, wp_iload_1, wp_i2l, wl_1, wl_9, wc_4, t_4, lN_le, wz_ne_t, wz_ne_f, wb_ne_t, wb_ne_f, wm_ne_1, wm_ne_2, wk_m1, wp_ireturn, al_5057, wp_istore_2, wp_jsr, wp_iload_2, wc_10, t_10, wn_ge_t, wn_ge_f, hg_86_43, ha_112l, ha_112s, wc_28, wz_eq_t, wz_eq_f, wb_eq_t, wb_eq_f, wm_eq_1, wm_eq_2, wc_80, wk_1, wp_goto, al_5059, wk_1000000, al_5060, wp_iinc_2_1, al_5061, wp_istore_3, wp_iload_3, wp_istore_4, wp_iload_4, wk_4, wc_29, wp_istore_5, wp_iload_5, wz_lt_t, wz_lt_f, wm_lt_1, wm_lt_2, wp_iadd, wp_min, al_5065, al_5066, wp_iinc_4_1, al_5067, wp_iinc_3_1, al_5068, al_5069, hg_86_8, ha_89l, ha_89s, wk_108, wn_lt_t, wn_lt_f, wk_m2, al_5070, hp_86_1, wc_43, t_43, wp_isub, wz_le_t, wz_le_f, wm_le_1, wm_le_2, wp_istore_6, wp_iload_6, wp_istore_7, wp_iload_7, wn_ne_t, wn_ne_f, al_5073, al_5074, al_5075, wp_iinc_6_1, al_5076, wp_idec_4_1, al_5077, nl_i, nl_r, nl_k, nl_j, nl_l, nI_add, pk_mul, pk_sub, tl_s, tl_n, aL_inl, u2_same, u2_ab, u2_aq, nI_l, lN_i, Nat.add_zero, Nat.zero_add, Nat.zero_le, true_and, and_true, b2n_10, b2n_T, b2n_F, b2n_0, Decidable.not_not, not_true_eq_false, not_false_eq_true, Nat.reduceAdd, Nat.reduceMul, Nat.reduceSub]
    exact hx _
theorem r_79 {p : Nat} (h : invB D N I J t) (hp1 : 1 ≤ p) (hp9 : p ≤ 9)
    (hS : ∀ k, k < 36 → flF (D 0) (D 1) (wyO D N p) (wyA D) k (N 89 108) → ansR D N I J x (.int (nI (k + 1))) (k + 1) (fun e => lN (wyQ D N p k e)) Q)
    (hNo : (∀ k, k < 36 → wyL D N p k (N 89 108) = false) → ∀ (N' : Nat → Nat → Nat), rqO N N' I I → Q (some (.int (-2))) (hp D N' I J x)) : aMm ko d 79 [.ref 86, .int (nI p)] (hp D N I J x) Q := by
  have hF := dm_F h.1.1
  have h89 := h.2.2.2.2.1
  have hs : N 89 108 < D 0 * D 1 := by have := h89.1.2.1; omega
  have hpp : 1 ≤ p ∧ p ≤ 9 := ⟨hp1, hp9⟩
  have e89 : u2 N 86 0 0 89 = N 89 := u2_nb (by decide)
  have hx := fun w3 w4 w5 w6 w7 => l_79a (ko := ko) (d := d) (I := I) (J := J) (x := x) (Q := Q) (N0 := N) (M := u2 N 86 0 0) (p := p) (w3 := w3) (w4 := w4) (w5 := w5) (w6 := w6) (w7 := w7) h.1.1 hp9 h89.1 e89 (by
    intro N1 hN1 hS1 hC1
    have hy := fun w3 w4 w5 => l_79r (ko := ko) (d := d) (I := I) (J := J) (x := x) (Q := Q) (N0 := N) (M := u2 N 86 0 0) (p := p) (w6 := w6) (w7 := w7) h.1.1 hp9 h89.1 e89 (by
      intro N2 w3 w4 w5 hN2 hS2 hC2
      have e2 : N2 89 108 = N 89 108 := (hN2 89 108 (by decide)).trans (u2_ab (by decide))
      have hb := (hS2 (N 89 108) hs).1
      have hrq : rqO N N2 I I := ⟨fun b q z => (hN2 b q (by rintro rfl; cases z)).trans (by rw [u2_rd, if_neg (by rintro ⟨rfl, rfl⟩; cases z)]), sI_r, (hN2 86 1 (by decide)).trans (u2_aq (by decide))⟩
      rw [al_5069]
      by_cases z : N2 112 (N 89 108) < 1000000
      · obtain ⟨k, k1, k2⟩ := (hS2 (N 89 108) hs).2 z
        have hfk := (wy_ex h.1.1 hS2 hC2 hs (show k + 1 < 1000000 by omega)).mp k1.symm
        have hkF := fl_lt (by have := h.1.1.2.2.1; omega) hs hfk
        have hk36 : k < 36 := by omega
        have e3 : N2 112 (N 89 108) = k + 1 := k1.symm
        have hz := fun w5 w6 w7 => l_79p (ko := ko) (d := d) (I := I) (x := x) (Q := Q) (N0 := N) (M := N2) (J0 := J) (p := p) (k := k) h.1.1 hs hk36 hS2 hC2 hfk (fun N' J' hN' hJ' ht' => hS k hk36 hfk N' I J' (fun b q zz => by
          rw [hN' b q (by rintro ⟨rfl, rfl⟩; cases zz)]
          exact hrq.1 b q zz) sI_r (fun b q zz => hJ' b q (by rintro rfl; cases zz)) ht') k 0 (u2 (u2 N2 86 1 0) 86 1 1) (u2 J 87 0 (lN (N 89 108))) w5 w6 w7 (by omega) (fun b q zz => by rw [u2_rd, if_neg zz, u2_rd, if_neg zz]) (fun b q zz => u2_ab zz) ⟨u2_same _ _ _ _, fun i hi => by
            have : i = 0 := by omega
            subst this
            rw [u2_same]
            rfl⟩
        have eq0 : wyQ D N p k 0 = N 89 108 := rfl
        rw [eq0, Nat.sub_zero] at hz
        simp (disch := (first | omega | exact aCat_8 (by with_unfolding_all rfl) | exact rk_lt (by with_unfolding_all rfl) | exact aCat_16 (by with_unfolding_all rfl) | exact rk_eq (by with_unfolding_all rfl) | assumption | exact b2n_lt _ | exact id_b (by with_unfolding_all rfl) | (simp (disch := omega) only [u2_same, u2_ab, u2_aq]; done) | (simp (disch := omega) only [u2_same, u2_ab, u2_aq]; omega) | fail)) only [al_5056, wp_aloadr_0, wp_aloadk_0, wk_0, hp_86_0, wp_iload_1, wp_i2l, wl_1, wl_9, wc_4, t_4, lN_le, wz_ne_t, wz_ne_f, wb_ne_t, wb_ne_f, wm_ne_1, wm_ne_2, wk_m1, wp_ireturn, al_5057, wp_istore_2, wp_jsr, wp_iload_2, wc_10, t_10, wn_ge_t, wn_ge_f, hg_86_43, ha_112l, ha_112s, wc_28, wz_eq_t, wz_eq_f, wb_eq_t, wb_eq_f, wm_eq_1, wm_eq_2, wc_80, wk_1, wp_goto, al_5059, wk_1000000, al_5060, wp_iinc_2_1, al_5061, wp_istore_3, wp_iload_3, wp_istore_4, wp_iload_4, wk_4, wc_29, wp_istore_5, wp_iload_5, wz_lt_t, wz_lt_f, wm_lt_1, wm_lt_2, wp_iadd, wp_min, al_5065, al_5066, wp_iinc_4_1, al_5067, wp_iinc_3_1, al_5068, al_5069, hg_86_8, ha_89l, ha_89s, wk_108, wn_lt_t, wn_lt_f, wk_m2, al_5070, hp_86_1, wc_43, t_43, wp_isub, wz_le_t, wz_le_f, wm_le_1, wm_le_2, wp_istore_6, wp_iload_6, wp_istore_7, wp_iload_7, wn_ne_t, wn_ne_f, al_5073, al_5074, al_5075, wp_iinc_6_1, al_5076, wp_idec_4_1, al_5077, nl_i, nl_r, nl_k, nl_j, nl_l, nI_add, pk_mul, pk_sub, tl_s, tl_n, aL_inl, u2_same, u2_ab, u2_aq, nI_l, lN_i, Nat.add_zero, Nat.zero_add, Nat.zero_le, true_and, and_true, b2n_10, b2n_T, b2n_F, b2n_0, Decidable.not_not, not_true_eq_false, not_false_eq_true, Nat.reduceAdd, Nat.reduceMul, Nat.reduceSub, e2, e3, Nat.add_sub_cancel]
        exact hz _ _ _
      · have hno : ∀ k, k < 36 → wyL D N p k (N 89 108) = false := by
          intro k hk
          cases hq : wyL D N p k (N 89 108) with
          | false => rfl
          | true =>
            obtain ⟨i, i1, i2⟩ := fl_first k hq
            have hiF := fl_lt (by have := h.1.1.2.2.1; omega) hs i2
            have := hC2 i (by omega) _ hs i2.1
            omega
        simp (disch := (first | omega | exact aCat_8 (by with_unfolding_all rfl) | exact rk_lt (by with_unfolding_all rfl) | exact aCat_16 (by with_unfolding_all rfl) | exact rk_eq (by with_unfolding_all rfl) | assumption | exact b2n_lt _ | exact id_b (by with_unfolding_all rfl) | (simp (disch := omega) only [u2_same, u2_ab, u2_aq]; done) | (simp (disch := omega) only [u2_same, u2_ab, u2_aq]; omega) | fail)) only [al_5056, wp_aloadr_0, wp_aloadk_0, wk_0, hp_86_0, wp_iload_1, wp_i2l, wl_1, wl_9, wc_4, t_4, lN_le, wz_ne_t, wz_ne_f, wb_ne_t, wb_ne_f, wm_ne_1, wm_ne_2, wk_m1, wp_ireturn, al_5057, wp_istore_2, wp_jsr, wp_iload_2, wc_10, t_10, wn_ge_t, wn_ge_f, hg_86_43, ha_112l, ha_112s, wc_28, wz_eq_t, wz_eq_f, wb_eq_t, wb_eq_f, wm_eq_1, wm_eq_2, wc_80, wk_1, wp_goto, al_5059, wk_1000000, al_5060, wp_iinc_2_1, al_5061, wp_istore_3, wp_iload_3, wp_istore_4, wp_iload_4, wk_4, wc_29, wp_istore_5, wp_iload_5, wz_lt_t, wz_lt_f, wm_lt_1, wm_lt_2, wp_iadd, wp_min, al_5065, al_5066, wp_iinc_4_1, al_5067, wp_iinc_3_1, al_5068, al_5069, hg_86_8, ha_89l, ha_89s, wk_108, wn_lt_t, wn_lt_f, wk_m2, al_5070, hp_86_1, wc_43, t_43, wp_isub, wz_le_t, wz_le_f, wm_le_1, wm_le_2, wp_istore_6, wp_iload_6, wp_istore_7, wp_iload_7, wn_ne_t, wn_ne_f, al_5073, al_5074, al_5075, wp_iinc_6_1, al_5076, wp_idec_4_1, al_5077, nl_i, nl_r, nl_k, nl_j, nl_l, nI_add, pk_mul, pk_sub, tl_s, tl_n, aL_inl, u2_same, u2_ab, u2_aq, nI_l, lN_i, Nat.add_zero, Nat.zero_add, Nat.zero_le, true_and, and_true, b2n_10, b2n_T, b2n_F, b2n_0, Decidable.not_not, not_true_eq_false, not_false_eq_true, Nat.reduceAdd, Nat.reduceMul, Nat.reduceSub, e2]
        exact hNo hno N2 hrq) (D 0 * D 1) 0 N1 w3 w4 w5 (by omega) hN1 hS1 hC1
    rw [al_5061]
    simp (disch := (first | omega | exact aCat_8 (by with_unfolding_all rfl) | exact rk_lt (by with_unfolding_all rfl) | exact aCat_16 (by with_unfolding_all rfl) | exact rk_eq (by with_unfolding_all rfl) | assumption | exact b2n_lt _ | exact id_b (by with_unfolding_all rfl) | (simp (disch := omega) only [u2_same, u2_ab, u2_aq]; done) | (simp (disch := omega) only [u2_same, u2_ab, u2_aq]; omega) | fail)) only [al_5056, wp_aloadr_0, wp_aloadk_0, wk_0, hp_86_0, wp_iload_1, wp_i2l, wl_1, wl_9, wc_4, t_4, lN_le, wz_ne_t, wz_ne_f, wb_ne_t, wb_ne_f, wm_ne_1, wm_ne_2, wk_m1, wp_ireturn, al_5057, wp_istore_2, wp_jsr, wp_iload_2, wc_10, t_10, wn_ge_t, wn_ge_f, hg_86_43, ha_112l, ha_112s, wc_28, wz_eq_t, wz_eq_f, wb_eq_t, wb_eq_f, wm_eq_1, wm_eq_2, wc_80, wk_1, wp_goto, al_5059, wk_1000000, al_5060, wp_iinc_2_1, al_5061, wp_istore_3, wp_iload_3, wp_istore_4, wp_iload_4, wk_4, wc_29, wp_istore_5, wp_iload_5, wz_lt_t, wz_lt_f, wm_lt_1, wm_lt_2, wp_iadd, wp_min, al_5065, al_5066, wp_iinc_4_1, al_5067, wp_iinc_3_1, al_5068, al_5069, hg_86_8, ha_89l, ha_89s, wk_108, wn_lt_t, wn_lt_f, wk_m2, al_5070, hp_86_1, wc_43, t_43, wp_isub, wz_le_t, wz_le_f, wm_le_1, wm_le_2, wp_istore_6, wp_iload_6, wp_istore_7, wp_iload_7, wn_ne_t, wn_ne_f, al_5073, al_5074, al_5075, wp_iinc_6_1, al_5076, wp_idec_4_1, al_5077, nl_i, nl_r, nl_k, nl_j, nl_l, nI_add, pk_mul, pk_sub, tl_s, tl_n, aL_inl, u2_same, u2_ab, u2_aq, nI_l, lN_i, Nat.add_zero, Nat.zero_add, Nat.zero_le, true_and, and_true, b2n_10, b2n_T, b2n_F, b2n_0, Decidable.not_not, not_true_eq_false, not_false_eq_true, Nat.reduceAdd, Nat.reduceMul, Nat.reduceSub]
    exact hy _ _ _) (D 0 * D 1) 0 (u2 N 86 0 0) (by omega) (fun _ _ _ => rfl) (fun f hf => absurd hf (Nat.not_lt_zero f))
  rw [me_79]
  simp (disch := (first | omega | exact aCat_8 (by with_unfolding_all rfl) | exact rk_lt (by with_unfolding_all rfl) | exact aCat_16 (by with_unfolding_all rfl) | exact rk_eq (by with_unfolding_all rfl) | assumption | exact b2n_lt _ | exact id_b (by with_unfolding_all rfl) | (simp (disch := omega) only [u2_same, u2_ab, u2_aq]; done) | (simp (disch := omega) only [u2_same, u2_ab, u2_aq]; omega) | fail)) only [al_5056, wp_aloadr_0, wp_aloadk_0, wk_0, hp_86_0, wp_iload_1, wp_i2l, wl_1, wl_9, wc_4, t_4, lN_le, wz_ne_t, wz_ne_f, wb_ne_t, wb_ne_f, wm_ne_1, wm_ne_2, wk_m1, wp_ireturn, al_5057, wp_istore_2, wp_jsr, wp_iload_2, wc_10, t_10, wn_ge_t, wn_ge_f, hg_86_43, ha_112l, ha_112s, wc_28, wz_eq_t, wz_eq_f, wb_eq_t, wb_eq_f, wm_eq_1, wm_eq_2, wc_80, wk_1, wp_goto, al_5059, wk_1000000, al_5060, wp_iinc_2_1, al_5061, wp_istore_3, wp_iload_3, wp_istore_4, wp_iload_4, wk_4, wc_29, wp_istore_5, wp_iload_5, wz_lt_t, wz_lt_f, wm_lt_1, wm_lt_2, wp_iadd, wp_min, al_5065, al_5066, wp_iinc_4_1, al_5067, wp_iinc_3_1, al_5068, al_5069, hg_86_8, ha_89l, ha_89s, wk_108, wn_lt_t, wn_lt_f, wk_m2, al_5070, hp_86_1, wc_43, t_43, wp_isub, wz_le_t, wz_le_f, wm_le_1, wm_le_2, wp_istore_6, wp_iload_6, wp_istore_7, wp_iload_7, wn_ne_t, wn_ne_f, al_5073, al_5074, al_5075, wp_iinc_6_1, al_5076, wp_idec_4_1, al_5077, nl_i, nl_r, nl_k, nl_j, nl_l, nI_add, pk_mul, pk_sub, tl_s, tl_n, aL_inl, u2_same, u2_ab, u2_aq, nI_l, lN_i, Nat.add_zero, Nat.zero_add, Nat.zero_le, true_and, and_true, b2n_10, b2n_T, b2n_F, b2n_0, Decidable.not_not, not_true_eq_false, not_false_eq_true, Nat.reduceAdd, Nat.reduceMul, Nat.reduceSub, b2n_t hpp]
  exact hx _ _ _ _ _
theorem wy_sm {N1 : Nat → Nat → Nat} (hN : sN N1 N) {p : Nat} : wyO D N1 p = wyO D N p := by
  funext g
  unfold wyO
  rw [sN_89 hN]
theorem wq_sm {N1 : Nat → Nat → Nat} (hN : sN N1 N) {p k : Nat} : wyQ D N1 p k = wyQ D N p k := by
  funext e
  induction e with
  | zero => exact hN 89 108 rfl
  | succ e ih =>
    rw [wyQ, wyQ, ih]
    unfold nxt nxB wyL
    rw [wy_sm hN]
theorem o_way {a : Int32} (h : inv D N I J t) : opO ko d 193 79 [.int a] D N I J x (t + 300) := by
  rcases rng3 a 1 (b := 9) (by decide) (by decide) with ⟨p, hp1, hp9, rfl⟩ | hbad
  · rcases firstOf (fun k => wyL D N p k (N 89 108) = true) 36 with ⟨k, hk, hpk, hno⟩ | hno
    · have hfk : flF (D 0) (D 1) (wyO D N p) (wyA D) k (N 89 108) := ⟨hpk, fun i hi => show wyL D N p i (N 89 108) = false by simpa using hno i hi⟩
      refine op_ans (v := .int (nI (k + 1))) (m := k + 1) (f := fun e => lN (wyQ D N p k e)) h (by omega) (by omega) ?_ ?_
      · intro Q hQ
        refine k_193 h.1 hp1 hp9 (fun k1 _ hf1 => ?_) (fun z => ?_)
        · have := fl_u hf1 hfk
          subst this
          exact fun N' I' J' z1 z2 z3 z4 => ⟨⟨_, rfl⟩, hQ N' I' J' z1 z2 z3 z4⟩
        · have := z k hk
          rw [hpk] at this
          cases this
      · intro N1 I1 J1 h1 hN hI hJ Q hQ
        refine r_79 h1 hp1 hp9 (fun k1 _ hf1 => ?_) (fun z => ?_)
        · rw [wy_sm hN, sN_89 hN] at hf1
          have := fl_u hf1 hfk
          subst this
          rw [wq_sm hN]
          exact hQ
        · have := z k hk
          unfold wyL at this hpk
          rw [wy_sm hN, sN_89 hN, hpk] at this
          cases this
    · have hno' : ∀ k, k < 36 → wyL D N p k (N 89 108) = false := fun k hk => by simpa using hno k hk
      refine op_same (v := .int (-2)) h (by omega) ?_ ?_
      · intro Q hQ
        refine k_193 h.1 hp1 hp9 (fun k1 hk1 hf1 => ?_) (fun _ J' hr => ⟨⟨_, rfl⟩, hQ N I J' hr.1 hr.2.1 hr.2.2.1 hr.2.2.2.1 hr.2.2.2.2⟩)
        have := hno' k1 hk1
        have hf1' : wyL D N p k1 (N 89 108) = true := hf1.1
        rw [hf1'] at this
        cases this
      · intro N1 I1 J1 h1 hN hI hJ Q hQ
        refine r_79 h1 hp1 hp9 (fun k1 hk1 hf1 => ?_) (fun _ N' hr => hQ N' I1 J1 hr.1 hr.2.1 qJ_r ⟨hr.2.2, fun _ => rfl⟩)
        rw [wy_sm hN, sN_89 hN] at hf1
        have := hno' k1 hk1
        have hf1' : wyL D N p k1 (N 89 108) = true := hf1.1
        rw [hf1'] at this
        cases this
  · have hin := in_f (a := 1) (b := 9) (by decide) (by decide) hbad
    refine op_q (v := .int (-1)) h ?_ ?_
    · intro Q
      rw [me_193]
      rcases hbad with hb | ⟨hb1, hb2⟩
      · simp (disch := (first | omega | exact aCat_8 (by with_unfolding_all rfl) | exact rk_lt (by with_unfolding_all rfl) | exact aCat_16 (by with_unfolding_all rfl) | exact rk_eq (by with_unfolding_all rfl) | assumption | exact b2n_lt _ | exact id_b (by with_unfolding_all rfl) | (simp (disch := omega) only [u2_same, u2_ab, u2_aq]; done) | (simp (disch := omega) only [u2_same, u2_ab, u2_aq]; omega) | fail)) only [al_12352, wp_iload_1, wk_1, wn_lt_t, wn_lt_f, wk_9, wn_le_t, wn_le_f, wp_jsr, al_12353, wk_m1, wp_ireturn, al_12354, wl_0, wp_lstore_2, wk_0, wp_istore_4, wp_iload_4, wp_aloadr_0, wp_aloadk_0, hg_0_2, hg_5_2, wn_ge_t, wn_ge_f, hg_0_7, hg_20_0, ha_21l, ha_21s, hg_22_0, ha_23l, ha_23s, hg_24_0, ha_25l, ha_25s, wp_isub, wn_gt_t, wn_gt_f, wp_lload_2, wl_1, wp_lshl, wp_lor, al_12356, wp_iinc_4_1, wp_goto, al_12357, hg_0_16, hg_20_1, hg_22_1, hg_24_1, wl_m1, wp_lxor, wp_land, hg_20_3, hg_22_3, hg_24_3, hg_0_1, wc_237, nl_i, nl_r, nl_k, nl_j, nl_l, nI_add, pk_mul, pk_sub, tl_s, tl_n, aL_inl, u2_same, u2_ab, u2_aq, nI_l, lN_i, Nat.add_zero, Nat.zero_add, Nat.zero_le, true_and, and_true, b2n_10, b2n_T, b2n_F, b2n_0, Decidable.not_not, not_true_eq_false, not_false_eq_true, Nat.reduceAdd, Nat.reduceMul, Nat.reduceSub, wx_lt_t hb]
      · have hb3 : ¬ a ≤ nI 9 := fun z => (Int32.not_lt.mpr z) hb2
        simp (disch := (first | omega | exact aCat_8 (by with_unfolding_all rfl) | exact rk_lt (by with_unfolding_all rfl) | exact aCat_16 (by with_unfolding_all rfl) | exact rk_eq (by with_unfolding_all rfl) | assumption | exact b2n_lt _ | exact id_b (by with_unfolding_all rfl) | (simp (disch := omega) only [u2_same, u2_ab, u2_aq]; done) | (simp (disch := omega) only [u2_same, u2_ab, u2_aq]; omega) | fail)) only [al_12352, wp_iload_1, wk_1, wn_lt_t, wn_lt_f, wk_9, wn_le_t, wn_le_f, wp_jsr, al_12353, wk_m1, wp_ireturn, al_12354, wl_0, wp_lstore_2, wk_0, wp_istore_4, wp_iload_4, wp_aloadr_0, wp_aloadk_0, hg_0_2, hg_5_2, wn_ge_t, wn_ge_f, hg_0_7, hg_20_0, ha_21l, ha_21s, hg_22_0, ha_23l, ha_23s, hg_24_0, ha_25l, ha_25s, wp_isub, wn_gt_t, wn_gt_f, wp_lload_2, wl_1, wp_lshl, wp_lor, al_12356, wp_iinc_4_1, wp_goto, al_12357, hg_0_16, hg_20_1, hg_22_1, hg_24_1, wl_m1, wp_lxor, wp_land, hg_20_3, hg_22_3, hg_24_3, hg_0_1, wc_237, nl_i, nl_r, nl_k, nl_j, nl_l, nI_add, pk_mul, pk_sub, tl_s, tl_n, aL_inl, u2_same, u2_ab, u2_aq, nI_l, lN_i, Nat.add_zero, Nat.zero_add, Nat.zero_le, true_and, and_true, b2n_10, b2n_T, b2n_F, b2n_0, Decidable.not_not, not_true_eq_false, not_false_eq_true, Nat.reduceAdd, Nat.reduceMul, Nat.reduceSub, wx_lt_f hb1, wx_le_f hb3]
    · intro Q
      rw [me_79]
      simp (disch := (first | omega | exact aCat_8 (by with_unfolding_all rfl) | exact rk_lt (by with_unfolding_all rfl) | exact aCat_16 (by with_unfolding_all rfl) | exact rk_eq (by with_unfolding_all rfl) | assumption | exact b2n_lt _ | exact id_b (by with_unfolding_all rfl) | (simp (disch := omega) only [u2_same, u2_ab, u2_aq]; done) | (simp (disch := omega) only [u2_same, u2_ab, u2_aq]; omega) | fail)) only [al_5056, wp_aloadr_0, wp_aloadk_0, wk_0, hp_86_0, wp_iload_1, wp_i2l, wl_1, wl_9, wc_4, t_4, lN_le, wz_ne_t, wz_ne_f, wb_ne_t, wb_ne_f, wm_ne_1, wm_ne_2, wk_m1, wp_ireturn, al_5057, wp_istore_2, wp_jsr, wp_iload_2, wc_10, t_10, wn_ge_t, wn_ge_f, hg_86_43, ha_112l, ha_112s, wc_28, wz_eq_t, wz_eq_f, wb_eq_t, wb_eq_f, wm_eq_1, wm_eq_2, wc_80, wk_1, wp_goto, al_5059, wk_1000000, al_5060, wp_iinc_2_1, al_5061, wp_istore_3, wp_iload_3, wp_istore_4, wp_iload_4, wk_4, wc_29, wp_istore_5, wp_iload_5, wz_lt_t, wz_lt_f, wm_lt_1, wm_lt_2, wp_iadd, wp_min, al_5065, al_5066, wp_iinc_4_1, al_5067, wp_iinc_3_1, al_5068, al_5069, hg_86_8, ha_89l, ha_89s, wk_108, wn_lt_t, wn_lt_f, wk_m2, al_5070, hp_86_1, wc_43, t_43, wp_isub, wz_le_t, wz_le_f, wm_le_1, wm_le_2, wp_istore_6, wp_iload_6, wp_istore_7, wp_iload_7, wn_ne_t, wn_ne_f, al_5073, al_5074, al_5075, wp_iinc_6_1, al_5076, wp_idec_4_1, al_5077, nl_i, nl_r, nl_k, nl_j, nl_l, nI_add, pk_mul, pk_sub, tl_s, tl_n, aL_inl, u2_same, u2_ab, u2_aq, nI_l, lN_i, Nat.add_zero, Nat.zero_add, Nat.zero_le, true_and, and_true, b2n_10, b2n_T, b2n_F, b2n_0, Decidable.not_not, not_true_eq_false, not_false_eq_true, Nat.reduceAdd, Nat.reduceMul, Nat.reduceSub, b2n_f hin]
end Y4
