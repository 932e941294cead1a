/-! source; undo; keep, again. From wip/whole/src. -/
theorem rw_src {C F v : Nat} {S : Nat → Nat} (h : rwO C S) (hz : rwZ F S) (hv : v < C) : rwO C (upn S 108 v) ∧ rwZ F (upn S 108 v) := by
  have e : ∀ q, q ≠ 108 → upn S 108 v q = S q := fun q hq => by rw [upn, if_neg hq]
  refine ⟨⟨?_, ?_, ?_, ?_, ?_⟩, ?_⟩
  · intro g hg
    rw [e g (by omega), e (36 + g) (by omega), e (72 + g) (by omega)]
    exact h.1 g hg
  · simp [upn, hv]
  · rw [e 110 (by omega)]; exact h.2.2.1
  · rw [e 109 (by omega)]; exact h.2.2.2.1
  · intro q hq
    rw [e q (by omega)]; exact h.2.2.2.2 q hq
  · intro g h1 h2
    rw [e g (by omega), e (36 + g) (by omega), e (72 + g) (by omega)]
    exact hz g h1 h2
section A4
variable {ko : aKo} {d k : Nat} {is : List Instr} {ls st : List Value} {σ : aH} {D : Nat → Nat} {N : Nat → Nat → Nat} {I : Nat → Nat → Int32} {J : Nat → Nat → Int64} {x t : Nat} {Q : Option Value → aH → Prop} {P : (Option Value ⊕ Unit) → aH → Prop}
theorem t_170b {a : Int32} (h3 : 0 < D 3) (h6 : D 3 ≤ 6) (h : a < nI 0 ∨ (¬ a < nI 0 ∧ nI (D 3 - 1) < a)) : aMm ko d 170 [.ref 0, .int a] (hp D N I J x) Q = Q (some (.int (-1))) (hp D N I J x) := by
  rw [me_170]
  rcases h with h | ⟨h1, h2⟩
  · have h' : a < 0 := h
    simp (disch := (first | omega | exact aCat_8 (by with_unfolding_all rfl) | exact rk_lt (by with_unfolding_all rfl) | exact aCat_16 (by with_unfolding_all rfl) | exact rk_eq (by with_unfolding_all rfl) | assumption | exact b2n_lt _ | exact id_b (by with_unfolding_all rfl) | (simp (disch := omega) only [u2_same, u2_ab, u2_aq]; done) | (simp (disch := omega) only [u2_same, u2_ab, u2_aq]; omega) | fail)) only [al_10880, wp_iload_1, wz_lt_t, wz_lt_f, wm_lt_1, wm_lt_2, wp_aloadr_0, wp_aloadk_0, hg_0_2, hg_5_1, wn_lt_t, wn_lt_f, wp_jsr, al_10881, wk_m1, wp_ireturn, al_10882, hg_0_7, hg_20_3, hg_22_3, hg_24_3, wn_ne_t, wn_ne_f, wk_m2, al_10883, wp_istore_2, hp_20_3, hp_22_3, hp_24_3, wp_iload_2, nl_i, nl_r, nl_k, nl_j, nl_l, nI_add, pk_mul, pk_sub, tl_s, tl_n, aL_inl, u2_same, u2_ab, u2_aq, nI_l, lN_i, Nat.add_zero, Nat.zero_add, Nat.zero_le, true_and, and_true, b2n_10, b2n_T, b2n_F, b2n_0, Decidable.not_not, not_true_eq_false, not_false_eq_true, Nat.reduceAdd, Nat.reduceMul, Nat.reduceSub, wy_lt_t h']
  · have h1' : ¬ a < 0 := h1
    have h4 : ¬ a < nI (D 3) := by
      rw [Int32.lt_iff_toInt_lt, nI_toInt (by omega)] at h2 ⊢
      omega
    simp (disch := (first | omega | exact aCat_8 (by with_unfolding_all rfl) | exact rk_lt (by with_unfolding_all rfl) | exact aCat_16 (by with_unfolding_all rfl) | exact rk_eq (by with_unfolding_all rfl) | assumption | exact b2n_lt _ | exact id_b (by with_unfolding_all rfl) | (simp (disch := omega) only [u2_same, u2_ab, u2_aq]; done) | (simp (disch := omega) only [u2_same, u2_ab, u2_aq]; omega) | fail)) only [al_10880, wp_iload_1, wz_lt_t, wz_lt_f, wm_lt_1, wm_lt_2, wp_aloadr_0, wp_aloadk_0, hg_0_2, hg_5_1, wn_lt_t, wn_lt_f, wp_jsr, al_10881, wk_m1, wp_ireturn, al_10882, hg_0_7, hg_20_3, hg_22_3, hg_24_3, wn_ne_t, wn_ne_f, wk_m2, al_10883, wp_istore_2, hp_20_3, hp_22_3, hp_24_3, wp_iload_2, nl_i, nl_r, nl_k, nl_j, nl_l, nI_add, pk_mul, pk_sub, tl_s, tl_n, aL_inl, u2_same, u2_ab, u2_aq, nI_l, lN_i, Nat.add_zero, Nat.zero_add, Nat.zero_le, true_and, and_true, b2n_10, b2n_T, b2n_F, b2n_0, Decidable.not_not, not_true_eq_false, not_false_eq_true, Nat.reduceAdd, Nat.reduceMul, Nat.reduceSub, wy_lt_f h1', wx_lt_f h4]
theorem t_170e {c : Nat} (h6 : D 3 ≤ 6) (hc : c < D 3) (he : N 20 3 = c) : aMm ko d 170 [.ref 0, .int (nI c)] (hp D N I J x) Q = Q (some (.int (-2))) (hp D N I J x) := by
  rw [me_170]
  simp (disch := (first | omega | exact aCat_8 (by with_unfolding_all rfl) | exact rk_lt (by with_unfolding_all rfl) | exact aCat_16 (by with_unfolding_all rfl) | exact rk_eq (by with_unfolding_all rfl) | assumption | exact b2n_lt _ | exact id_b (by with_unfolding_all rfl) | (simp (disch := omega) only [u2_same, u2_ab, u2_aq]; done) | (simp (disch := omega) only [u2_same, u2_ab, u2_aq]; omega) | fail)) only [al_10880, wp_iload_1, wz_lt_t, wz_lt_f, wm_lt_1, wm_lt_2, wp_aloadr_0, wp_aloadk_0, hg_0_2, hg_5_1, wn_lt_t, wn_lt_f, wp_jsr, al_10881, wk_m1, wp_ireturn, al_10882, hg_0_7, hg_20_3, hg_22_3, hg_24_3, wn_ne_t, wn_ne_f, wk_m2, al_10883, wp_istore_2, hp_20_3, hp_22_3, hp_24_3, wp_iload_2, nl_i, nl_r, nl_k, nl_j, nl_l, nI_add, pk_mul, pk_sub, tl_s, tl_n, aL_inl, u2_same, u2_ab, u2_aq, nI_l, lN_i, Nat.add_zero, Nat.zero_add, Nat.zero_le, true_and, and_true, b2n_10, b2n_T, b2n_F, b2n_0, Decidable.not_not, not_true_eq_false, not_false_eq_true, Nat.reduceAdd, Nat.reduceMul, Nat.reduceSub, he]
theorem t_170g {c : Nat} (h6 : D 3 ≤ 6) (hc : c < D 3) (hs : N 20 3 < D 3) (he : ¬ N 20 3 = c) : aMm ko d 170 [.ref 0, .int (nI c)] (hp D N I J x) Q = Q (some (.int (nI (N 20 3)))) (hp D (u2 N 20 3 c) I J x) := by
  have he' : ¬ c = N 20 3 := fun z => he z.symm
  rw [me_170]
  simp (disch := (first | omega | exact aCat_8 (by with_unfolding_all rfl) | exact rk_lt (by with_unfolding_all rfl) | exact aCat_16 (by with_unfolding_all rfl) | exact rk_eq (by with_unfolding_all rfl) | assumption | exact b2n_lt _ | exact id_b (by with_unfolding_all rfl) | (simp (disch := omega) only [u2_same, u2_ab, u2_aq]; done) | (simp (disch := omega) only [u2_same, u2_ab, u2_aq]; omega) | fail)) only [al_10880, wp_iload_1, wz_lt_t, wz_lt_f, wm_lt_1, wm_lt_2, wp_aloadr_0, wp_aloadk_0, hg_0_2, hg_5_1, wn_lt_t, wn_lt_f, wp_jsr, al_10881, wk_m1, wp_ireturn, al_10882, hg_0_7, hg_20_3, hg_22_3, hg_24_3, wn_ne_t, wn_ne_f, wk_m2, al_10883, wp_istore_2, hp_20_3, hp_22_3, hp_24_3, wp_iload_2, nl_i, nl_r, nl_k, nl_j, nl_l, nI_add, pk_mul, pk_sub, tl_s, tl_n, aL_inl, u2_same, u2_ab, u2_aq, nI_l, lN_i, Nat.add_zero, Nat.zero_add, Nat.zero_le, true_and, and_true, b2n_10, b2n_T, b2n_F, b2n_0, Decidable.not_not, not_true_eq_false, not_false_eq_true, Nat.reduceAdd, Nat.reduceMul, Nat.reduceSub]
theorem t_53b {a : Int32} (h3 : 0 < D 1) (h6 : D 1 ≤ 6) (h : a < nI 0 ∨ (¬ a < nI 0 ∧ nI (D 1 - 1) < a)) : aMm ko d 53 [.ref 86, .int a] (hp D N I J x) Q = Q (some (.int (-1))) (hp D N I J x) := by
  have hin := in_f (a := 0) (b := D 1 - 1) (by decide) (by omega) h
  rw [me_53]
  simp (disch := (first | omega | exact aCat_8 (by with_unfolding_all rfl) | exact rk_lt (by with_unfolding_all rfl) | exact aCat_16 (by with_unfolding_all rfl) | exact rk_eq (by with_unfolding_all rfl) | assumption | exact b2n_lt _ | exact id_b (by with_unfolding_all rfl) | (simp (disch := omega) only [u2_same, u2_ab, u2_aq]; done) | (simp (disch := omega) only [u2_same, u2_ab, u2_aq]; omega) | fail)) only [al_3392, wp_iload_1, wp_i2l, wl_0, wp_aloadr_0, wp_aloadk_0, hg_86_4, wk_1, wp_isub, wc_4, t_4, lN_le, wz_ne_t, wz_ne_f, wb_ne_t, wb_ne_f, wm_ne_1, wm_ne_2, wk_m1, wp_ireturn, al_3393, hg_86_8, ha_89l, ha_89s, wk_108, wp_istore_2, wp_iload_2, wn_ne_t, wn_ne_f, wk_m2, wp_goto, al_3394, wp_jsr, al_3395, nl_i, nl_r, nl_k, nl_j, nl_l, nI_add, pk_mul, pk_sub, tl_s, tl_n, aL_inl, u2_same, u2_ab, u2_aq, nI_l, lN_i, Nat.add_zero, Nat.zero_add, Nat.zero_le, true_and, and_true, b2n_10, b2n_T, b2n_F, b2n_0, Decidable.not_not, not_true_eq_false, not_false_eq_true, Nat.reduceAdd, Nat.reduceMul, Nat.reduceSub, b2n_f hin]
theorem t_53e {c : Nat} (h6 : D 1 ≤ 6) (hc : c < D 1) (he : N 89 108 = c) : aMm ko d 53 [.ref 86, .int (nI c)] (hp D N I J x) Q = Q (some (.int (-2))) (hp D N I J x) := by
  have h1 : c ≤ D 1 - 1 := by omega
  rw [me_53]
  simp (disch := (first | omega | exact aCat_8 (by with_unfolding_all rfl) | exact rk_lt (by with_unfolding_all rfl) | exact aCat_16 (by with_unfolding_all rfl) | exact rk_eq (by with_unfolding_all rfl) | assumption | exact b2n_lt _ | exact id_b (by with_unfolding_all rfl) | (simp (disch := omega) only [u2_same, u2_ab, u2_aq]; done) | (simp (disch := omega) only [u2_same, u2_ab, u2_aq]; omega) | fail)) only [al_3392, wp_iload_1, wp_i2l, wl_0, wp_aloadr_0, wp_aloadk_0, hg_86_4, wk_1, wp_isub, wc_4, t_4, lN_le, wz_ne_t, wz_ne_f, wb_ne_t, wb_ne_f, wm_ne_1, wm_ne_2, wk_m1, wp_ireturn, al_3393, hg_86_8, ha_89l, ha_89s, wk_108, wp_istore_2, wp_iload_2, wn_ne_t, wn_ne_f, wk_m2, wp_goto, al_3394, wp_jsr, al_3395, nl_i, nl_r, nl_k, nl_j, nl_l, nI_add, pk_mul, pk_sub, tl_s, tl_n, aL_inl, u2_same, u2_ab, u2_aq, nI_l, lN_i, Nat.add_zero, Nat.zero_add, Nat.zero_le, true_and, and_true, b2n_10, b2n_T, b2n_F, b2n_0, Decidable.not_not, not_true_eq_false, not_false_eq_true, Nat.reduceAdd, Nat.reduceMul, Nat.reduceSub, b2n_t h1, he]
  rw [u2_id he]
theorem t_53g {c : Nat} (h6 : D 1 ≤ 6) (hc : c < D 1) (hs : N 89 108 < D 1) (he : ¬ N 89 108 = c) : aMm ko d 53 [.ref 86, .int (nI c)] (hp D N I J x) Q = Q (some (.int (nI (N 89 108)))) (hp D (u2 N 89 108 c) I J x) := by
  have h1 : c ≤ D 1 - 1 := by omega
  rw [me_53]
  simp (disch := (first | omega | exact aCat_8 (by with_unfolding_all rfl) | exact rk_lt (by with_unfolding_all rfl) | exact aCat_16 (by with_unfolding_all rfl) | exact rk_eq (by with_unfolding_all rfl) | assumption | exact b2n_lt _ | exact id_b (by with_unfolding_all rfl) | (simp (disch := omega) only [u2_same, u2_ab, u2_aq]; done) | (simp (disch := omega) only [u2_same, u2_ab, u2_aq]; omega) | fail)) only [al_3392, wp_iload_1, wp_i2l, wl_0, wp_aloadr_0, wp_aloadk_0, hg_86_4, wk_1, wp_isub, wc_4, t_4, lN_le, wz_ne_t, wz_ne_f, wb_ne_t, wb_ne_f, wm_ne_1, wm_ne_2, wk_m1, wp_ireturn, al_3393, hg_86_8, ha_89l, ha_89s, wk_108, wp_istore_2, wp_iload_2, wn_ne_t, wn_ne_f, wk_m2, wp_goto, al_3394, wp_jsr, al_3395, nl_i, nl_r, nl_k, nl_j, nl_l, nI_add, pk_mul, pk_sub, tl_s, tl_n, aL_inl, u2_same, u2_ab, u2_aq, nI_l, lN_i, Nat.add_zero, Nat.zero_add, Nat.zero_le, true_and, and_true, b2n_10, b2n_T, b2n_F, b2n_0, Decidable.not_not, not_true_eq_false, not_false_eq_true, Nat.reduceAdd, Nat.reduceMul, Nat.reduceSub, b2n_t h1]
theorem o_source {a : Int32} (h : inv D N I J t) : opO ko d 169 52 [.int a] D N I J x (t + 300) := by
  have hF := dm_F h.1.1.1
  have h89 := h.1.2.2.2.2.1
  have hd2 := h.1.1.1.2.2.1
  have hd6 := h.1.1.1.2.2.2
  have hd3 := h.1.1.2.2.1
  have hu := h.1.2.2.2.2.2.1
  have hs := h89.1.2.1
  have hn1 : cpS N 22 20 32 1 < 15 := by rw [cp_N (by decide) (by decide)]; exact hu.2.2.1
  have hn2 : cpS N 22 20 32 2 ≤ 15 := by rw [cp_N (by decide) (by decide), hu.1]; exact hu.2.1
  have e3 : cpS N 22 20 20 3 = N 89 108 := (bf_n h.1).2.2.1
  have hno : ∀ v : Int32, v < 0 → (∀ Q : Option Value → aH → Prop, aMm ko d 170 [.ref 0, .int a] (hp D (cpS N 22 20) I (cpJ J 22 20) x) Q = Q (some (.int v)) (hp D (cpS N 22 20) I (cpJ J 22 20) x)) → (∀ N1 J1, (∀ b q, 86 ≤ b → N1 b q = N b q) → ∀ Q : Option Value → aH → Prop, aMm ko d 53 [.ref 86, .int a] (hp D (pbN N1) I J1 x) Q = Q (some (.int v)) (hp D (pbN N1) I J1 x)) → opO ko d 169 52 [.int a] D N I J x (t + 300) := by
    intro v hv hc hr
    refine o_ref (v := v) h ?_ ?_
    · intro Q hQ
      rw [me_169]
      simp (disch := (first | omega | exact aCat_8 (by with_unfolding_all rfl) | exact rk_lt (by with_unfolding_all rfl) | exact aCat_16 (by with_unfolding_all rfl) | exact rk_eq (by with_unfolding_all rfl) | assumption | exact b2n_lt _ | exact id_b (by with_unfolding_all rfl) | (simp (disch := omega) only [u2_same, u2_ab, u2_aq]; done) | (simp (disch := omega) only [u2_same, u2_ab, u2_aq]; omega) | fail)) only [al_10816, wp_aloadr_0, wp_aloadk_0, hg_0_8, hg_0_7, wp_iload_1, wc_170, wc_164, wp_ireturn, nl_i, nl_r, nl_k, nl_j, nl_l, nI_add, pk_mul, pk_sub, tl_s, tl_n, aL_inl, u2_same, u2_ab, u2_aq, nI_l, lN_i, Nat.add_zero, Nat.zero_add, Nat.zero_le, true_and, and_true, b2n_10, b2n_T, b2n_F, b2n_0, Decidable.not_not, not_true_eq_false, not_false_eq_true, Nat.reduceAdd, Nat.reduceMul, Nat.reduceSub, wc_283 (m := 22) rfl, t_283 (s := 22) (s' := 20) rfl rfl (by decide), hc, t_164b hv]
      exact hQ
    · intro N1 J1 hN1 Q hQ
      have hu1 : N1 86 26 ≤ 15 := by rw [hN1 86 26 (by decide)]; exact hu.2.1
      rw [me_52]
      simp (disch := (first | omega | exact aCat_8 (by with_unfolding_all rfl) | exact rk_lt (by with_unfolding_all rfl) | exact aCat_16 (by with_unfolding_all rfl) | exact rk_eq (by with_unfolding_all rfl) | assumption | exact b2n_lt _ | exact id_b (by with_unfolding_all rfl) | (simp (disch := omega) only [u2_same, u2_ab, u2_aq]; done) | (simp (disch := omega) only [u2_same, u2_ab, u2_aq]; omega) | fail)) only [al_3328, wp_aloadr_0, wp_aloadk_0, wk_0, hp_86_0, wc_39, wp_iload_1, wc_53, wc_47, wp_ireturn, nl_i, nl_r, nl_k, nl_j, nl_l, nI_add, pk_mul, pk_sub, tl_s, tl_n, aL_inl, u2_same, u2_ab, u2_aq, nI_l, lN_i, Nat.add_zero, Nat.zero_add, Nat.zero_le, true_and, and_true, b2n_10, b2n_T, b2n_F, b2n_0, Decidable.not_not, not_true_eq_false, not_false_eq_true, Nat.reduceAdd, Nat.reduceMul, Nat.reduceSub, pb_t39 hu1, hr N1 J1 hN1, t_47b hv]
      exact hQ
  rcases rng3 a 0 (b := D 1 - 1) (by decide) (by omega) with ⟨c, _, hc, rfl⟩ | hbad
  · have hc' : c < D 1 := by omega
    by_cases he : N 89 108 = c
    · refine hno (-2) (by decide) (fun Q => t_170e (by omega) (by omega) (by rw [e3]; exact he)) ?_
      intro N1 J1 hN1 Q
      exact t_53e hd6 hc' (by rw [pb_89, hN1 89 108 (by decide)]; exact he)
    · have hup := rw_src h89.1 h89.2.1 hc'
      refine o_gen (v := .int (nI (N 89 108))) (S' := upn (N 89) 108 c) (M := u2 (cpS N 22 20) 20 3 c) (Jm := cpJ J 22 20) h ⟨hup.1, hup.2, by rw [upn, if_neg (by omega)]; have := h89.2.2.1; omega, w8_up (by omega) h89.2.2.1.2⟩ (fun b q z1 z2 => u2_ab z1) (fun _ _ _ => rfl) ?_ ?_ ?_
      · obtain ⟨s1, s2, s3, s4, s5⟩ := bf_n h.1
        have e : ∀ q, q ≠ 108 → upn (N 89) 108 c q = N 89 q := fun q hq => by rw [upn, if_neg hq]
        refine ⟨?_, ?_, ?_, ?_, ?_⟩
        · intro g hg
          rw [u2_ab (by decide), e g (by omega)]
          exact s1 g hg
        · intro g hg
          rw [(s2 g hg).1, (s2 g hg).2]
          by_cases e' : g < 36
          · rw [e (36 + g) (by omega), e (72 + g) (by omega)]
            exact ⟨rfl, rfl⟩
          · simp [e']
        · rw [u2_same]
          simp [upn]
        · rw [u2_aq (by decide), e 109 (by omega)]; exact s4
        · rw [u2_aq (by decide), e 110 (by omega)]; exact s5
      · intro Q hQ
        have hl : u2 (cpS N 22 20) 20 3 c 32 1 < 15 := by rw [u2_ab (by decide)]; exact hn1
        have hl2 : u2 (cpS N 22 20) 20 3 c 32 2 ≤ 15 := by rw [u2_ab (by decide)]; exact hn2
        have t170 := fun Q => @t_170g ko d D (cpS N 22 20) I (cpJ J 22 20) x Q c (by omega) (by omega) (by rw [e3]; omega) (by rw [e3]; exact he)
        simp only [e3] at t170
        rw [me_169]
        simp (disch := (first | omega | exact aCat_8 (by with_unfolding_all rfl) | exact rk_lt (by with_unfolding_all rfl) | exact aCat_16 (by with_unfolding_all rfl) | exact rk_eq (by with_unfolding_all rfl) | assumption | exact b2n_lt _ | exact id_b (by with_unfolding_all rfl) | (simp (disch := omega) only [u2_same, u2_ab, u2_aq]; done) | (simp (disch := omega) only [u2_same, u2_ab, u2_aq]; omega) | fail)) only [al_10816, wp_aloadr_0, wp_aloadk_0, hg_0_8, hg_0_7, wp_iload_1, wc_170, wc_164, wp_ireturn, nl_i, nl_r, nl_k, nl_j, nl_l, nI_add, pk_mul, pk_sub, tl_s, tl_n, aL_inl, u2_same, u2_ab, u2_aq, nI_l, lN_i, Nat.add_zero, Nat.zero_add, Nat.zero_le, true_and, and_true, b2n_10, b2n_T, b2n_F, b2n_0, Decidable.not_not, not_true_eq_false, not_false_eq_true, Nat.reduceAdd, Nat.reduceMul, Nat.reduceSub, wc_283 (m := 22) rfl, t_283 (s := 22) (s' := 20) rfl rfl (by decide), t170, t_164g (n := N 89 108) (by omega) hl hl2]
        exact hQ
      · intro N1 I1 J1 hN1 Q hQ
        have hu1 : N1 86 26 ≤ 15 := by rw [hN1 86 26 (by decide)]; exact hu.2.1
        have e89 : pbN N1 89 108 = N 89 108 := by rw [pb_89, hN1 89 108 (by decide)]
        have eR : pbN N1 89 = N 89 := by rw [pb_89]; funext q; exact hN1 89 q (by decide)
        have t53 := fun Q => @t_53g ko d D (pbN N1) I1 J1 x Q c hd6 hc' (by rw [e89]; omega) (by rw [e89]; exact he)
        simp only [e89] at t53
        rw [u2_row, eR] at t53
        have hu2 : setRow (pbN N1) 89 (upn (N 89) 108 c) 86 26 ≤ 15 := by rw [setRow_n (by decide), pb_26]; exact hu1
        rw [me_52]
        simp (disch := (first | omega | exact aCat_8 (by with_unfolding_all rfl) | exact rk_lt (by with_unfolding_all rfl) | exact aCat_16 (by with_unfolding_all rfl) | exact rk_eq (by with_unfolding_all rfl) | assumption | exact b2n_lt _ | exact id_b (by with_unfolding_all rfl) | (simp (disch := omega) only [u2_same, u2_ab, u2_aq]; done) | (simp (disch := omega) only [u2_same, u2_ab, u2_aq]; omega) | fail)) only [al_3328, wp_aloadr_0, wp_aloadk_0, wk_0, hp_86_0, wc_39, wp_iload_1, wc_53, wc_47, wp_ireturn, nl_i, nl_r, nl_k, nl_j, nl_l, nI_add, pk_mul, pk_sub, tl_s, tl_n, aL_inl, u2_same, u2_ab, u2_aq, nI_l, lN_i, Nat.add_zero, Nat.zero_add, Nat.zero_le, true_and, and_true, b2n_10, b2n_T, b2n_F, b2n_0, Decidable.not_not, not_true_eq_false, not_false_eq_true, Nat.reduceAdd, Nat.reduceMul, Nat.reduceSub, pb_t39 hu1, t53, t_47g (n := N 89 108) (by omega) hu2]
        exact hQ
  · refine hno (-1) (by decide) (fun Q => t_170b (by omega) (by omega) (by rw [hd3]; exact hbad)) ?_
    intro N1 J1 hN1 Q
    exact t_53b (by omega) hd6 hbad
/-! undo -/
theorem l_37 {u : Nat} {T : Nat → Nat} (hu : N 86 26 = u) (h15 : u < 15) : ∀ j i : Nat, i + j = 111 → aWp ko d 37 (aP.1 (Int.toNat 2370)) [.ref 86, .int (nI i)] [] (hp D (setRow N 89 (mixN (fun q => N 99 (111 * u + q)) T i)) I J x) (aL Q) = Q (some (.int (nI u))) (hp D (setRow N 89 (mixN (fun q => N 99 (111 * u + q)) T 111)) I J x) := by
  have en : ∀ (T : Nat → Nat) (b : Nat), b ≠ 89 → setRow N 89 T b = N b := fun T b hb => setRow_n hb
  have em : ∀ i, upn (mixN (fun q => N 99 (111 * u + q)) T i) i (N 99 (111 * u + i)) = mixN (fun q => N 99 (111 * u + q)) T (i + 1) := fun i => mixN_un (g := fun q => N 99 (111 * u + q))
  intro j
  induction j with
  | zero =>
    intro i hi
    have e : i = 111 := by omega
    subst e
    simp (disch := (first | omega | exact aCat_8 (by with_unfolding_all rfl) | exact rk_lt (by with_unfolding_all rfl) | exact aCat_16 (by with_unfolding_all rfl) | exact rk_eq (by with_unfolding_all rfl) | assumption | exact b2n_lt _ | exact id_b (by with_unfolding_all rfl) | (simp (disch := omega) only [u2_same, u2_ab, u2_aq]; done) | (simp (disch := omega) only [u2_same, u2_ab, u2_aq]; omega) | fail)) only [al_2368, wp_aloadr_0, wp_aloadk_0, wk_0, hp_86_0, hg_86_26, wz_ne_t, wz_ne_f, wb_ne_t, wb_ne_f, wm_ne_1, wm_ne_2, wk_m1, wp_ireturn, al_2369, wp_dupi, wp_dupr, wk_1, wp_isub, hp_86_26, wp_istore_1, wp_jsr, al_2370, wp_iload_1, wk_111, wn_ge_t, wn_ge_f, hg_86_8, ha_89l, ha_89s, hg_86_27, ha_99l, ha_99s, wp_imul, wp_iadd, wp_iinc_1_1, wp_goto, al_2371, nl_i, nl_r, nl_k, nl_j, nl_l, nI_add, pk_mul, pk_sub, tl_s, tl_n, aL_inl, u2_same, u2_ab, u2_aq, nI_l, lN_i, Nat.add_zero, Nat.zero_add, Nat.zero_le, true_and, and_true, b2n_10, b2n_T, b2n_F, b2n_0, Decidable.not_not, not_true_eq_false, not_false_eq_true, Nat.reduceAdd, Nat.reduceMul, Nat.reduceSub, en, hu]
  | succ j ih =>
    intro i hi
    rw [al_2370]
    simp (disch := (first | omega | exact aCat_8 (by with_unfolding_all rfl) | exact rk_lt (by with_unfolding_all rfl) | exact aCat_16 (by with_unfolding_all rfl) | exact rk_eq (by with_unfolding_all rfl) | assumption | exact b2n_lt _ | exact id_b (by with_unfolding_all rfl) | (simp (disch := omega) only [u2_same, u2_ab, u2_aq]; done) | (simp (disch := omega) only [u2_same, u2_ab, u2_aq]; omega) | fail)) only [al_2368, wp_aloadr_0, wp_aloadk_0, wk_0, hp_86_0, hg_86_26, wz_ne_t, wz_ne_f, wb_ne_t, wb_ne_f, wm_ne_1, wm_ne_2, wk_m1, wp_ireturn, al_2369, wp_dupi, wp_dupr, wk_1, wp_isub, hp_86_26, wp_istore_1, wp_jsr, wp_iload_1, wk_111, wn_ge_t, wn_ge_f, hg_86_8, ha_89l, ha_89s, hg_86_27, ha_99l, ha_99s, wp_imul, wp_iadd, wp_iinc_1_1, wp_goto, al_2371, nl_i, nl_r, nl_k, nl_j, nl_l, nI_add, pk_mul, pk_sub, tl_s, tl_n, aL_inl, u2_same, u2_ab, u2_aq, nI_l, lN_i, Nat.add_zero, Nat.zero_add, Nat.zero_le, true_and, and_true, b2n_10, b2n_T, b2n_F, b2n_0, Decidable.not_not, not_true_eq_false, not_false_eq_true, Nat.reduceAdd, Nat.reduceMul, Nat.reduceSub, en, hu, setRow_u, em]
    exact ih (i + 1) (by omega)
theorem o_undo (h : inv D N I J t) : opO ko d 175 37 [] D N I J x (t + 300) := by
  have h89 := h.1.2.2.2.2.1
  obtain ⟨u1, u2', u3, u4⟩ := id h.1.2.2.2.2.2.1
  by_cases h0 : N 86 26 = 0
  · refine op_same (v := .int (-1)) h (by omega) ?_ ?_
    · intro Q hQ
      have e : N 32 2 = 0 := by rw [u1]; exact h0
      have t252 : ∀ Q : Option Value → aH → Prop, aMm ko d 252 [.ref 32, .ref 20] (hp D N I J x) Q = Q (some (.int (nI 0))) (hp D N I J x) := by
        intro Q
        rw [me_252]
        simp (disch := (first | omega | exact aCat_8 (by with_unfolding_all rfl) | exact rk_lt (by with_unfolding_all rfl) | exact aCat_16 (by with_unfolding_all rfl) | exact rk_eq (by with_unfolding_all rfl) | assumption | exact b2n_lt _ | exact id_b (by with_unfolding_all rfl) | (simp (disch := omega) only [u2_same, u2_ab, u2_aq]; done) | (simp (disch := omega) only [u2_same, u2_ab, u2_aq]; omega) | fail)) only [al_16128, wp_aloadr_0, wp_aloadk_0, hg_32_2, wz_ne_t, wz_ne_f, wb_ne_t, wb_ne_f, wm_ne_1, wm_ne_2, wk_0, wp_freturn0, wp_freturn1, wp_freturnb, al_16129, hg_32_1, wz_le_t, wz_le_f, wm_le_1, wm_le_2, wk_1, wp_isub, wp_goto, al_16130, wk_14, wp_jsr, al_16131, hp_32_1, wp_aloadr_1, wp_aloadk_1, hg_32_0, ha_33l, wp_dupi, wp_dupr, hp_32_2, nl_i, nl_r, nl_k, nl_j, nl_l, nI_add, pk_mul, pk_sub, tl_s, tl_n, aL_inl, u2_same, u2_ab, u2_aq, nI_l, lN_i, Nat.add_zero, Nat.zero_add, Nat.zero_le, true_and, and_true, b2n_10, b2n_T, b2n_F, b2n_0, Decidable.not_not, not_true_eq_false, not_false_eq_true, Nat.reduceAdd, Nat.reduceMul, Nat.reduceSub, e]
      rw [me_175]
      simp (disch := (first | omega | exact aCat_8 (by with_unfolding_all rfl) | exact rk_lt (by with_unfolding_all rfl) | exact aCat_16 (by with_unfolding_all rfl) | exact rk_eq (by with_unfolding_all rfl) | assumption | exact b2n_lt _ | exact id_b (by with_unfolding_all rfl) | (simp (disch := omega) only [u2_same, u2_ab, u2_aq]; done) | (simp (disch := omega) only [u2_same, u2_ab, u2_aq]; omega) | fail)) only [al_11200, wp_aloadr_0, wp_aloadk_0, hg_0_11, hg_0_7, wc_252, wz_eq_t, wz_eq_f, wb_eq_t, wb_eq_f, wm_eq_1, wm_eq_2, hg_32_2, wp_goto, al_11201, wk_m1, wp_jsr, al_11202, wp_ireturn, nl_i, nl_r, nl_k, nl_j, nl_l, nI_add, pk_mul, pk_sub, tl_s, tl_n, aL_inl, u2_same, u2_ab, u2_aq, nI_l, lN_i, Nat.add_zero, Nat.zero_add, Nat.zero_le, true_and, and_true, b2n_10, b2n_T, b2n_F, b2n_0, Decidable.not_not, not_true_eq_false, not_false_eq_true, Nat.reduceAdd, Nat.reduceMul, Nat.reduceSub, t252]
      exact hQ N I J sN_r sI_r sJ_r ⟨rfl, fun _ => rfl⟩ ⟨rfl, fun _ => rfl⟩
    · intro N1 I1 J1 h1 hN hI hJ Q hQ
      have e : N1 86 26 = 0 := (hN 86 26 rfl).trans h0
      rw [me_37]
      simp (disch := (first | omega | exact aCat_8 (by with_unfolding_all rfl) | exact rk_lt (by with_unfolding_all rfl) | exact aCat_16 (by with_unfolding_all rfl) | exact rk_eq (by with_unfolding_all rfl) | assumption | exact b2n_lt _ | exact id_b (by with_unfolding_all rfl) | (simp (disch := omega) only [u2_same, u2_ab, u2_aq]; done) | (simp (disch := omega) only [u2_same, u2_ab, u2_aq]; omega) | fail)) only [al_2368, wp_aloadr_0, wp_aloadk_0, wk_0, hp_86_0, hg_86_26, wz_ne_t, wz_ne_f, wb_ne_t, wb_ne_f, wm_ne_1, wm_ne_2, wk_m1, wp_ireturn, al_2369, wp_dupi, wp_dupr, wk_1, wp_isub, hp_86_26, wp_istore_1, wp_jsr, wp_iload_1, wk_111, wn_ge_t, wn_ge_f, hg_86_8, ha_89l, ha_89s, hg_86_27, ha_99l, ha_99s, wp_imul, wp_iadd, wp_iinc_1_1, wp_goto, al_2371, nl_i, nl_r, nl_k, nl_j, nl_l, nI_add, pk_mul, pk_sub, tl_s, tl_n, aL_inl, u2_same, u2_ab, u2_aq, nI_l, lN_i, Nat.add_zero, Nat.zero_add, Nat.zero_le, true_and, and_true, b2n_10, b2n_T, b2n_F, b2n_0, Decidable.not_not, not_true_eq_false, not_false_eq_true, Nat.reduceAdd, Nat.reduceMul, Nat.reduceSub, e]
      exact hQ _ _ _ (qN_u qN_r rfl) sI_r qJ_r ⟨u2_aq (by decide), fun _ => rfl⟩
  · -- the state that comes back
    have hpos : ∃ p, p < 15 ∧ p = (if 0 < N 32 1 then N 32 1 - 1 else 14) ∧ p = (N 32 1 + 15 - N 86 26 + (N 86 26 - 1)) % 15 := by
      refine ⟨if 0 < N 32 1 then N 32 1 - 1 else 14, by split <;> omega, rfl, ?_⟩
      split <;> omega
    obtain ⟨p, hp15, hp1, hp2⟩ := hpos
    have hst := u4 (N 86 26 - 1) (by omega)
    rw [← hp2] at hst
    have hsp := st_ring hp15
    -- the class
    have t252 : ∀ Q : Option Value → aH → Prop, aMm ko d 252 [.ref 32, .ref 20] (hp D N I J x) Q = Q (some (.int (nI 1))) (hp D (u2 (cpS (u2 N 32 1 p) 20 (34 + 2 * p)) 32 2 (N 86 26 - 1)) I (cpJ J 20 (34 + 2 * p)) x) := by
      intro Q
      have e32 : ∀ q, cpS (u2 N 32 1 p) 20 (34 + 2 * p) 32 q = u2 N 32 1 p 32 q := fun q => cp_N (by decide) (by decide)
      rw [me_252]
      by_cases hq : 0 < N 32 1
      · rw [if_pos hq] at hp1
        have hp1' : N 32 1 - 1 = p := hp1.symm
        simp (disch := (first | omega | exact aCat_8 (by with_unfolding_all rfl) | exact rk_lt (by with_unfolding_all rfl) | exact aCat_16 (by with_unfolding_all rfl) | exact rk_eq (by with_unfolding_all rfl) | assumption | exact b2n_lt _ | exact id_b (by with_unfolding_all rfl) | (simp (disch := omega) only [u2_same, u2_ab, u2_aq]; done) | (simp (disch := omega) only [u2_same, u2_ab, u2_aq]; omega) | fail)) only [al_16128, wp_aloadr_0, wp_aloadk_0, hg_32_2, wz_ne_t, wz_ne_f, wb_ne_t, wb_ne_f, wm_ne_1, wm_ne_2, wk_0, wp_freturn0, wp_freturn1, wp_freturnb, al_16129, hg_32_1, wz_le_t, wz_le_f, wm_le_1, wm_le_2, wk_1, wp_isub, wp_goto, al_16130, wk_14, wp_jsr, al_16131, hp_32_1, wp_aloadr_1, wp_aloadk_1, hg_32_0, ha_33l, wp_dupi, wp_dupr, hp_32_2, nl_i, nl_r, nl_k, nl_j, nl_l, nI_add, pk_mul, pk_sub, tl_s, tl_n, aL_inl, u2_same, u2_ab, u2_aq, nI_l, lN_i, Nat.add_zero, Nat.zero_add, Nat.zero_le, true_and, and_true, b2n_10, b2n_T, b2n_F, b2n_0, Decidable.not_not, not_true_eq_false, not_false_eq_true, Nat.reduceAdd, Nat.reduceMul, Nat.reduceSub, hp1', wc_283 (m := 20) rfl, t_283 (s := 20) (s' := 34 + 2 * p) rfl hsp (by omega), e32, u1]
      · rw [if_neg hq] at hp1
        subst hp1
        simp (disch := (first | omega | exact aCat_8 (by with_unfolding_all rfl) | exact rk_lt (by with_unfolding_all rfl) | exact aCat_16 (by with_unfolding_all rfl) | exact rk_eq (by with_unfolding_all rfl) | assumption | exact b2n_lt _ | exact id_b (by with_unfolding_all rfl) | (simp (disch := omega) only [u2_same, u2_ab, u2_aq]; done) | (simp (disch := omega) only [u2_same, u2_ab, u2_aq]; omega) | fail)) only [al_16128, wp_aloadr_0, wp_aloadk_0, hg_32_2, wz_ne_t, wz_ne_f, wb_ne_t, wb_ne_f, wm_ne_1, wm_ne_2, wk_0, wp_freturn0, wp_freturn1, wp_freturnb, al_16129, hg_32_1, wz_le_t, wz_le_f, wm_le_1, wm_le_2, wk_1, wp_isub, wp_goto, al_16130, wk_14, wp_jsr, al_16131, hp_32_1, wp_aloadr_1, wp_aloadk_1, hg_32_0, ha_33l, wp_dupi, wp_dupr, hp_32_2, nl_i, nl_r, nl_k, nl_j, nl_l, nI_add, pk_mul, pk_sub, tl_s, tl_n, aL_inl, u2_same, u2_ab, u2_aq, nI_l, lN_i, Nat.add_zero, Nat.zero_add, Nat.zero_le, true_and, and_true, b2n_10, b2n_T, b2n_F, b2n_0, Decidable.not_not, not_true_eq_false, not_false_eq_true, Nat.reduceAdd, Nat.reduceMul, Nat.reduceSub, wc_283 (m := 20) rfl, t_283 (s := 20) (s' := 34 + 2 * 14) rfl rfl (by decide), e32, u1]
    show aMm ko d 175 [.ref 0] (hp D N I J x) _
    rw [me_175]
    simp (disch := (first | omega | exact aCat_8 (by with_unfolding_all rfl) | exact rk_lt (by with_unfolding_all rfl) | exact aCat_16 (by with_unfolding_all rfl) | exact rk_eq (by with_unfolding_all rfl) | assumption | exact b2n_lt _ | exact id_b (by with_unfolding_all rfl) | (simp (disch := omega) only [u2_same, u2_ab, u2_aq]; done) | (simp (disch := omega) only [u2_same, u2_ab, u2_aq]; omega) | fail)) only [al_11200, wp_aloadr_0, wp_aloadk_0, hg_0_11, hg_0_7, wc_252, wz_eq_t, wz_eq_f, wb_eq_t, wb_eq_f, wm_eq_1, wm_eq_2, hg_32_2, wp_goto, al_11201, wk_m1, wp_jsr, al_11202, wp_ireturn, nl_i, nl_r, nl_k, nl_j, nl_l, nI_add, pk_mul, pk_sub, tl_s, tl_n, aL_inl, u2_same, u2_ab, u2_aq, nI_l, lN_i, Nat.add_zero, Nat.zero_add, Nat.zero_le, true_and, and_true, b2n_10, b2n_T, b2n_F, b2n_0, Decidable.not_not, not_true_eq_false, not_false_eq_true, Nat.reduceAdd, Nat.reduceMul, Nat.reduceSub, t252]
    -- the reference
    have ec : ∀ b q, b ≠ 20 → b ≠ 21 → ¬ (b = 32 ∧ (q = 1 ∨ q = 2)) → u2 (cpS (u2 N 32 1 p) 20 (34 + 2 * p)) 32 2 (N 86 26 - 1) b q = N b q := by
      intro b q z1 z2 z3
      rw [u2_rd, if_neg (by omega), cp_N z1 z2, u2_rd, if_neg (by omega)]
    generalize hM : u2 (cpS (u2 N 32 1 p) 20 (34 + 2 * p)) 32 2 (N 86 26 - 1) = M at ec
    have hMS : clS M (cpJ J 20 (34 + 2 * p)) 20 (rwAt N 99 (N 86 26 - 1)) := by
      rw [← hM]
      refine clS_c (cp_S rfl hsp (by omega) (clS_c hst.2.2.2 (fun q => u2_ab (by omega)) (fun q => u2_ab (by omega)) (fun _ => rfl))) (fun q => u2_ab (by decide)) (fun q => u2_ab (by decide)) (fun _ => rfl)
    have hM1 : M 32 1 = p := by rw [← hM, u2_aq (by decide), cp_N (by decide) (by decide), u2_same]
    have hM2 : M 32 2 = N 86 26 - 1 := by rw [← hM, u2_same]
    have e26 : M 86 26 = N 86 26 := ec 86 26 (by decide) (by decide) (by omega)
    have e99 : M 99 = N 99 := by funext q; exact ec 99 q (by decide) (by decide) (by omega)
    have e89 : M 89 = N 89 := by funext q; exact ec 89 q (by decide) (by decide) (by omega)
    have h0' : ¬ M 86 26 = 0 := by rw [e26]; exact h0
    rw [me_37]
    have l37 := @l_37 ko d D (u2 (u2 M 86 0 0) 86 26 (N 86 26 - 1)) I (cpJ J 20 (34 + 2 * p)) x
    simp (disch := (first | omega | exact aCat_8 (by with_unfolding_all rfl) | exact rk_lt (by with_unfolding_all rfl) | exact aCat_16 (by with_unfolding_all rfl) | exact rk_eq (by with_unfolding_all rfl) | assumption | exact b2n_lt _ | exact id_b (by with_unfolding_all rfl) | (simp (disch := omega) only [u2_same, u2_ab, u2_aq]; done) | (simp (disch := omega) only [u2_same, u2_ab, u2_aq]; omega) | fail)) only [al_2368, wp_aloadr_0, wp_aloadk_0, wk_0, hp_86_0, hg_86_26, wz_ne_t, wz_ne_f, wb_ne_t, wb_ne_f, wm_ne_1, wm_ne_2, wk_m1, wp_ireturn, al_2369, wp_dupi, wp_dupr, wk_1, wp_isub, hp_86_26, wp_istore_1, wp_jsr, wp_iload_1, wk_111, wn_ge_t, wn_ge_f, hg_86_8, ha_89l, ha_89s, hg_86_27, ha_99l, ha_99s, wp_imul, wp_iadd, wp_iinc_1_1, wp_goto, al_2371, nl_i, nl_r, nl_k, nl_j, nl_l, nI_add, pk_mul, pk_sub, tl_s, tl_n, aL_inl, u2_same, u2_ab, u2_aq, nI_l, lN_i, Nat.add_zero, Nat.zero_add, Nat.zero_le, true_and, and_true, b2n_10, b2n_T, b2n_F, b2n_0, Decidable.not_not, not_true_eq_false, not_false_eq_true, Nat.reduceAdd, Nat.reduceMul, Nat.reduceSub, e26]
    have hx := fun Q => l37 (Q := Q) (u := N 86 26 - 1) (T := N 89) (by rw [u2_same]) (by omega) 111 0 rfl
    simp only [mixN_0] at hx
    have er : setRow (u2 (u2 M 86 0 0) 86 26 (N 86 26 - 1)) 89 (N 89) = u2 (u2 M 86 0 0) 86 26 (N 86 26 - 1) := by
      have : u2 (u2 M 86 0 0) 86 26 (N 86 26 - 1) 89 = N 89 := by rw [u2_nb (by decide), u2_nb (by decide), e89]
      rw [← this, setRow_id]
    simp only [er] at hx
    refine (hx _).mpr ?_
    have eS : mixN (fun q => u2 (u2 M 86 0 0) 86 26 (N 86 26 - 1) 99 (111 * (N 86 26 - 1) + q)) (N 89) 111 = rwAt N 99 (N 86 26 - 1) := by
      funext q
      unfold mixN rwAt
      split
      · show u2 (u2 M 86 0 0) 86 26 (N 86 26 - 1) 99 _ = _
        rw [u2_ab (by decide), u2_ab (by decide), e99]
      · exact h89.1.2.2.2.2 q (by omega)
    rw [eS]
    have hfr : ∀ b q, b ≠ 89 → ¬ (b = 86 ∧ (q = 0 ∨ q = 26)) → setRow (u2 (u2 M 86 0 0) 86 26 (N 86 26 - 1)) 89 (rwAt N 99 (N 86 26 - 1)) b q = M b q := by
      intro b q z1 z2
      rw [setRow_n z1, u2_rd, if_neg (by omega), u2_rd, if_neg (by omega)]
    refine ⟨rfl, rfl, D, _, I, _, rfl, ?_, ?_, ?_, ?_⟩
    · refine invB_g h.1 (by omega) ?_ sI_r ?_ ?_ ?_
      · intro b q z y
        have hrg := act_rng y
        rw [hfr b q (by rintro rfl; cases y) (by
          rintro ⟨rfl, rfl | rfl⟩
          · cases z
          · cases y)]
        exact ec b q (by rintro rfl; cases y) (by rintro rfl; cases y) (by omega)
      · intro b q z y
        exact cp_J (by rintro rfl; cases y)
      · rw [setRow_s]
        exact ⟨hst.1, hst.2.1, ⟨Nat.le_trans hst.2.2.1.1 (by omega), hst.2.2.1.2⟩, clS_c hMS (fun q => hfr 20 q (by decide) (by omega)) (fun q => hfr 21 q (by decide) (by omega)) (fun _ => rfl)⟩
      · unfold iUn
        rw [hfr 32 2 (by decide) (by omega), hfr 32 1 (by decide) (by omega), hM1, hM2]
        have e26' : setRow (u2 (u2 M 86 0 0) 86 26 (N 86 26 - 1)) 89 (rwAt N 99 (N 86 26 - 1)) 86 26 = N 86 26 - 1 := by rw [setRow_n (by decide), u2_same]
        rw [e26']
        refine ⟨rfl, by omega, hp15, fun j hj => ?_⟩
        have epos : (p + 15 - (N 86 26 - 1) + j) % 15 = (N 32 1 + 15 - N 86 26 + j) % 15 := by
          rw [hp1]
          split <;> omega
        have erow : rwAt (setRow (u2 (u2 M 86 0 0) 86 26 (N 86 26 - 1)) 89 (rwAt N 99 (N 86 26 - 1))) 99 j = rwAt N 99 j := by
          funext q
          unfold rwAt
          rw [setRow_n (by decide), u2_ab (by decide), u2_ab (by decide), e99]
        rw [epos, erow]
        have hm := Nat.mod_lt (N 32 1 + 15 - N 86 26 + j) (show 15 > 0 by decide)
        exact iSt_c (u4 j (by omega)) (by omega) (fun q => by rw [hfr _ q (by omega) (by omega)]; exact ec _ q (by omega) (by omega) (by omega)) (fun q => by rw [hfr _ q (by omega) (by omega)]; exact ec _ q (by omega) (by omega) (by omega)) (fun q => cp_J (by omega))
    · rw [hfr 3 1 (by decide) (by omega), hfr 86 1 (by decide) (by omega), ec 3 1 (by decide) (by decide) (by omega), ec 86 1 (by decide) (by decide) (by omega)]
      exact h.2.1
    · rw [hfr 86 1 (by decide) (by omega), ec 86 1 (by decide) (by decide) (by omega)]
      exact h.2.2.1
    · intro i hi
      rw [hfr 86 1 (by decide) (by omega), ec 86 1 (by decide) (by decide) (by omega)] at hi
      rw [cp_J (by decide), cp_J (by decide)]
      exact h.2.2.2 i hi
end A4
