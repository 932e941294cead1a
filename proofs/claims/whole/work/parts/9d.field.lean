/-! dislikes, field. From wip/whole/src. -/
section T2
variable {ko : aKo} {d k : Nat} {is : List Instr} {ls st : List Value} {σ : aH} {D : Nat → Nat} {N : Nat → Nat → Nat} {I : Nat → Nat → Int32} {J : Nat → Nat → Int64} {x t : Nat} {Q : Option Value → aH → Prop} {P : (Option Value ⊕ Unit) → aH → Prop}
/-- how a pair that may throw ends -/
def fnT (D : Nat → Nat) (x t : Nat) (z : Int32) (w : Option Value) (σ2 : aH) : Prop := ∃ (v : Int64) (N' : Nat → Nat → Nat) (I' : Nat → Nat → Int32) (J' : Nat → Nat → Int64) (x' : Nat), σ2 = hp D N' I' J' x' ∧ inv D N' I' J' t ∧ x' ≤ x + 1 ∧ z = nI (N' 86 0) ∧ N' 86 0 ≤ 1 ∧ (N' 86 0 = 0 → J' 125 0 = v) ∧ rwI w v
theorem fn_thr (h : inv D N I J t) : fnT D x (t + 300) (nI 1) (some (.int (nI 0))) (hp D (u2 (u2 N 86 0 0) 86 0 1) I J (x + 1)) := by
  refine ⟨(nI 0).toInt64, _, _, _, _, rfl, ⟨invB_c h.1 (by omega) (sN_u (sN_u sN_r rfl) rfl) sI_r sJ_r, td_same h.2 (by rw [u2_ab (by decide), u2_ab (by decide)]) (by rw [u2_aq (by decide), u2_aq (by decide)]) (fun q => rfl) (fun q => rfl)⟩, Nat.le_refl _, by rw [u2_same], by rw [u2_same]; decide, (fun z => by rw [u2_same] at z; cases z), nI 0, rfl, rfl⟩
/-- it ends well: v answered on both sides -/
theorem fn_ok {N1 N2 : Nat → Nat → Nat} {I1 I2 : Nat → Nat → Int32} {J1 : Nat → Nat → Int64} {v : Int32} (h : inv D N I J t) (hr : rsO N N1 I I1 J J1) (hq : rqO (u2 N1 86 0 0) N2 I1 I2) (h0 : N2 86 0 = 0) : fnT D x (t + 300) (nI 0) (some (.int v)) (hp D N2 I2 (u2 J1 125 0 v.toInt64) x) := by
  obtain ⟨a1, a2, a3, a4, a5⟩ := hr
  refine ⟨v.toInt64, _, _, _, _, rfl, ⟨invB_c h.1 (by omega) (sN_t (qN_s hq.1) (sN_u a1 rfl)) (sI_t hq.2.1 a2) (sJ_u a3 rfl), td_same h.2 ?_ ?_ (fun q => ?_) (fun q => ?_)⟩, by omega, by rw [h0], by omega, fun _ => u2_same _ _ _ _, v, rfl, rfl⟩
  · rw [hq.1 3 1 rfl, u2_ab (by decide)]; exact a4.1
  · rw [hq.2.2, u2_aq (by decide)]; exact a5.1
  · rw [u2_ab (by decide)]; exact a4.2 q
  · rw [u2_ab (by decide)]; exact a5.2 q
theorem o_dislikes {a b : Int32} (h : inv D N I J t) : opT ko d 226 142 34 rwI [.int a, .int b] D N I J x (t + 300) := by
  have hF := dm_F h.1.1.1
  have h4 := inv_d4 h.1
  have h89 := h.1.2.2.2.2.1
  show aWp ko d 226 (aP.1 (Int.toNat 14464)) [.ref 0, .int a, .int b] [] (hp D N I J x) (aTh 142 [.ref 0, .int a, .int b, .ref 125] (fun z σ1 => aMm ko d 34 [.ref 86, .int a, .int b] σ1 (fnT D x (t + 300) z)))
  have hthr := fn_thr (x := x) h
  rcases rng3 a 0 (b := D 0 * D 1 - 1) (by decide) (by omega) with ⟨f, _, hf, rfl⟩ | hbad
  · have hfF : f < D 0 * D 1 := by omega
    rcases rng3 b 0 (b := 1) (by decide) (by decide) with ⟨bs, _, hb, rfl⟩ | hbad
    · have hA := inv_rv h.1
      have hA' := lk_A (s := 20) (ru := 11) rfl rfl hA (skC N (N 89 109))
      have hlt : f < D 4 := by omega
      simp (disch := (first | omega | exact aCat_8 (by with_unfolding_all rfl) | exact rk_lt (by with_unfolding_all rfl) | exact aCat_16 (by with_unfolding_all rfl) | exact rk_eq (by with_unfolding_all rfl) | assumption | exact b2n_lt _ | exact id_b (by with_unfolding_all rfl) | (simp (disch := omega) only [u2_same, u2_ab, u2_aq]; done) | (simp (disch := omega) only [u2_same, u2_ab, u2_aq]; omega) | fail)) only [al_14464, wp_aloadr_0, wp_aloadk_0, hg_0_2, wp_iload_1, wc_242, wz_eq_t, wz_eq_f, wb_eq_t, wb_eq_f, wm_eq_1, wm_eq_2, wp_iload_2, wz_lt_t, wz_lt_f, wm_lt_1, wm_lt_2, wk_1, wn_le_t, wn_le_f, wp_jsr, al_14465, al_14466, hg_0_10, hg_0_7, hg_0_4, wc_255, wc_258, wp_ireturn, nl_i, nl_r, nl_k, nl_j, nl_l, nI_add, pk_mul, pk_sub, tl_s, tl_n, aL_inl, u2_same, u2_ab, u2_aq, nI_l, lN_i, Nat.add_zero, Nat.zero_add, Nat.zero_le, true_and, and_true, b2n_10, b2n_T, b2n_F, b2n_0, Decidable.not_not, not_true_eq_false, not_false_eq_true, Nat.reduceAdd, Nat.reduceMul, Nat.reduceSub, t_242 (show f < 2147483648 by omega) (show D 4 ≤ 36 by omega), b2n_t hlt, t_255 (S := N 89) (s := 20) rfl hA.2.1.2.2.2.1 hA.2.2.1.2.2.2.1 (inv_s1 h.1) (inv_s2 h.1)]
      refine t_258 (sk := skC N) (S := N 89) (s := 20) (ru := 11) rfl rfl hA'.1 hA'.2.1 hA'.2.2.1 hA'.2.2.2.1 hA'.2.2.2.2 lk_O (by rw [h.1.1.2.1, h.1.1.2.2.1]; exact hfF) (by omega) ?_
      intro I1 J1 _ hI1 hJ1
      have hrs : rsO N (u2 (u2 (u2 N 26 2 20) 26 3 11) 26 7 (skC N (N 89 109))) I I1 J J1 := by
        refine ⟨sN_u (sN_u (sN_u sN_r rfl) rfl) rfl, fI_s (fI_of hI1), ?_, ⟨rfl, fun q => ?_⟩, ⟨rfl, fun q => ?_⟩⟩
        · intro b q z
          rw [hJ1 b q (by rintro rfl; cases z), u2_ab (by rintro rfl; cases z), u2_ab (by rintro rfl; cases z)]
        · rw [hJ1 4 q (by decide), u2_ab (by decide), u2_ab (by decide)]
        · rw [hJ1 87 q (by decide), u2_ab (by decide), u2_ab (by decide)]
      generalize u2 (u2 (u2 N 26 2 20) 26 3 11) 26 7 (skC N (N 89 109)) = N1 at hrs
      have hM : sN (u2 N1 86 0 0) N := sN_u hrs.1 rfl
      have e89 : (u2 N1 86 0 0) 89 = N 89 := sN_89 hM
      have ev : dslG (D 3) (N 93) (N 86 18) (skC N) (N 89) f bs = rlv ((u2 N1 86 0 0) 93) ((u2 N1 86 0 0) 86 18) (asks (D 1) (fun t => (u2 N1 86 0 0) 88 (t % (u2 N1 86 0 0) 86 6)) ((u2 N1 86 0 0) 89) f bs) := by
        have e1 : rlv ((u2 N1 86 0 0) 93) ((u2 N1 86 0 0) 86 18) (asks (D 1) (fun t => (u2 N1 86 0 0) 88 (t % (u2 N1 86 0 0) 86 6)) ((u2 N1 86 0 0) 89) f bs) = dsl (D 1) (u2 N1 86 0 0) ((u2 N1 86 0 0) 89) f bs := rfl
        rw [e1, smR_dsl (sN_sm hM), e89, inv_sk h.1, h.1.1.2.2.1]
        rfl
      simp (disch := (first | omega | exact aCat_8 (by with_unfolding_all rfl) | exact rk_lt (by with_unfolding_all rfl) | exact aCat_16 (by with_unfolding_all rfl) | exact rk_eq (by with_unfolding_all rfl) | assumption | exact b2n_lt _ | exact id_b (by with_unfolding_all rfl) | (simp (disch := omega) only [u2_same, u2_ab, u2_aq]; done) | (simp (disch := omega) only [u2_same, u2_ab, u2_aq]; omega) | fail)) only [al_14464, wp_aloadr_0, wp_aloadk_0, hg_0_2, wp_iload_1, wc_242, wz_eq_t, wz_eq_f, wb_eq_t, wb_eq_f, wm_eq_1, wm_eq_2, wp_iload_2, wz_lt_t, wz_lt_f, wm_lt_1, wm_lt_2, wk_1, wn_le_t, wn_le_f, wp_jsr, al_14465, al_14466, hg_0_10, hg_0_7, hg_0_4, wc_255, wc_258, wp_ireturn, nl_i, nl_r, nl_k, nl_j, nl_l, nI_add, pk_mul, pk_sub, tl_s, tl_n, aL_inl, u2_same, u2_ab, u2_aq, nI_l, lN_i, Nat.add_zero, Nat.zero_add, Nat.zero_le, true_and, and_true, b2n_10, b2n_T, b2n_F, b2n_0, Decidable.not_not, not_true_eq_false, not_false_eq_true, Nat.reduceAdd, Nat.reduceMul, Nat.reduceSub]
      rw [tho_i (by decide), me_34]
      have h1 := invB_c h.1 (Nat.le_refl t) hrs.1 hrs.2.1 hrs.2.2.1
      simp (disch := (first | omega | exact aCat_8 (by with_unfolding_all rfl) | exact rk_lt (by with_unfolding_all rfl) | exact aCat_16 (by with_unfolding_all rfl) | exact rk_eq (by with_unfolding_all rfl) | assumption | exact b2n_lt _ | exact id_b (by with_unfolding_all rfl) | (simp (disch := omega) only [u2_same, u2_ab, u2_aq]; done) | (simp (disch := omega) only [u2_same, u2_ab, u2_aq]; omega) | fail)) only [al_2176, wp_aloadr_0, wp_aloadk_0, wk_0, hp_86_0, wp_iload_1, wc_23, wz_eq_t, wz_eq_f, wb_eq_t, wb_eq_f, wm_eq_1, wm_eq_2, wp_iload_2, wp_i2l, wl_0, wl_1, wc_4, t_4, lN_le, wz_ne_t, wz_ne_f, wb_ne_t, wb_ne_f, wm_ne_1, wm_ne_2, wp_jsr, al_2177, wc_24, t_24, wp_ireturn, al_2178, hg_86_8, ha_89l, ha_89s, wc_30, nl_i, nl_r, nl_k, nl_j, nl_l, nI_add, pk_mul, pk_sub, tl_s, tl_n, aL_inl, u2_same, u2_ab, u2_aq, nI_l, lN_i, Nat.add_zero, Nat.zero_add, Nat.zero_le, true_and, and_true, b2n_10, b2n_T, b2n_F, b2n_0, Decidable.not_not, not_true_eq_false, not_false_eq_true, Nat.reduceAdd, Nat.reduceMul, Nat.reduceSub, t_23 (show f < 2147483648 by omega) hF.1 (show 0 < D 0 * D 1 by omega), b2n_t hf, b2n_t hb]
      refine t_30 (r := 89) (Or.inl rfl) (by omega) h.1.1.1.2.2.1 h.1.1.1.2.2.2 (by rw [hM 86 6 rfl]; exact h.1.2.2.1.2.1) (by rw [hM 86 6 rfl]; exact h.1.2.2.1.2.2.1) (by rw [e89]; have := h89.1.2.2.2.1; omega) (by rw [hM 86 18 rfl, show (u2 N1 86 0 0) 93 = N 93 by funext q; exact hM 93 q rfl]; exact h.1.2.2.2.1.1) ?_
      intro I2 hI2
      rw [← ev]
      simp (disch := (first | omega | exact aCat_8 (by with_unfolding_all rfl) | exact rk_lt (by with_unfolding_all rfl) | exact aCat_16 (by with_unfolding_all rfl) | exact rk_eq (by with_unfolding_all rfl) | assumption | exact b2n_lt _ | exact id_b (by with_unfolding_all rfl) | (simp (disch := omega) only [u2_same, u2_ab, u2_aq]; done) | (simp (disch := omega) only [u2_same, u2_ab, u2_aq]; omega) | fail)) only [al_2176, wp_aloadr_0, wp_aloadk_0, wk_0, hp_86_0, wp_iload_1, wc_23, wz_eq_t, wz_eq_f, wb_eq_t, wb_eq_f, wm_eq_1, wm_eq_2, wp_iload_2, wp_i2l, wl_0, wl_1, wc_4, t_4, lN_le, wz_ne_t, wz_ne_f, wb_ne_t, wb_ne_f, wm_ne_1, wm_ne_2, wp_jsr, al_2177, wc_24, t_24, wp_ireturn, al_2178, hg_86_8, ha_89l, ha_89s, wc_30, nl_i, nl_r, nl_k, nl_j, nl_l, nI_add, pk_mul, pk_sub, tl_s, tl_n, aL_inl, u2_same, u2_ab, u2_aq, nI_l, lN_i, Nat.add_zero, Nat.zero_add, Nat.zero_le, true_and, and_true, b2n_10, b2n_T, b2n_F, b2n_0, Decidable.not_not, not_true_eq_false, not_false_eq_true, Nat.reduceAdd, Nat.reduceMul, Nat.reduceSub]
      exact fn_ok h hrs ⟨qN_r, rI_s hI2, rfl⟩ (u2_same _ _ _ _)
    · have hin := in_f (a := 0) (b := 1) (by decide) (by decide) hbad
      have hlt : f < D 4 := by omega
      have hr34 : aMm ko d 34 [.ref 86, .int (nI f), .int b] (hp D N I J (x + 1)) (fnT D x (t + 300) (nI 1)) := by
        rw [me_34]
        simp (disch := (first | omega | exact aCat_8 (by with_unfolding_all rfl) | exact rk_lt (by with_unfolding_all rfl) | exact aCat_16 (by with_unfolding_all rfl) | exact rk_eq (by with_unfolding_all rfl) | assumption | exact b2n_lt _ | exact id_b (by with_unfolding_all rfl) | (simp (disch := omega) only [u2_same, u2_ab, u2_aq]; done) | (simp (disch := omega) only [u2_same, u2_ab, u2_aq]; omega) | fail)) only [al_2176, wp_aloadr_0, wp_aloadk_0, wk_0, hp_86_0, wp_iload_1, wc_23, wz_eq_t, wz_eq_f, wb_eq_t, wb_eq_f, wm_eq_1, wm_eq_2, wp_iload_2, wp_i2l, wl_0, wl_1, wc_4, t_4, lN_le, wz_ne_t, wz_ne_f, wb_ne_t, wb_ne_f, wm_ne_1, wm_ne_2, wp_jsr, al_2177, wc_24, t_24, wp_ireturn, al_2178, hg_86_8, ha_89l, ha_89s, wc_30, nl_i, nl_r, nl_k, nl_j, nl_l, nI_add, pk_mul, pk_sub, tl_s, tl_n, aL_inl, u2_same, u2_ab, u2_aq, nI_l, lN_i, Nat.add_zero, Nat.zero_add, Nat.zero_le, true_and, and_true, b2n_10, b2n_T, b2n_F, b2n_0, Decidable.not_not, not_true_eq_false, not_false_eq_true, Nat.reduceAdd, Nat.reduceMul, Nat.reduceSub, t_23 (show f < 2147483648 by omega) hF.1 (show 0 < D 0 * D 1 by omega), b2n_t hf, b2n_f hin]
        exact hthr
      rcases hbad with hb | ⟨hb1, hb2⟩
      · have hb' : b < 0 := hb
        simp (disch := (first | omega | exact aCat_8 (by with_unfolding_all rfl) | exact rk_lt (by with_unfolding_all rfl) | exact aCat_16 (by with_unfolding_all rfl) | exact rk_eq (by with_unfolding_all rfl) | assumption | exact b2n_lt _ | exact id_b (by with_unfolding_all rfl) | (simp (disch := omega) only [u2_same, u2_ab, u2_aq]; done) | (simp (disch := omega) only [u2_same, u2_ab, u2_aq]; omega) | fail)) only [al_14464, wp_aloadr_0, wp_aloadk_0, hg_0_2, wp_iload_1, wc_242, wz_eq_t, wz_eq_f, wb_eq_t, wb_eq_f, wm_eq_1, wm_eq_2, wp_iload_2, wz_lt_t, wz_lt_f, wm_lt_1, wm_lt_2, wk_1, wn_le_t, wn_le_f, wp_jsr, al_14465, al_14466, hg_0_10, hg_0_7, hg_0_4, wc_255, wc_258, wp_ireturn, nl_i, nl_r, nl_k, nl_j, nl_l, nI_add, pk_mul, pk_sub, tl_s, tl_n, aL_inl, u2_same, u2_ab, u2_aq, nI_l, lN_i, Nat.add_zero, Nat.zero_add, Nat.zero_le, true_and, and_true, b2n_10, b2n_T, b2n_F, b2n_0, Decidable.not_not, not_true_eq_false, not_false_eq_true, Nat.reduceAdd, Nat.reduceMul, Nat.reduceSub, t_242 (show f < 2147483648 by omega) (show D 4 ≤ 36 by omega), b2n_t hlt, wy_lt_t hb', wp_athrow]
        rw [tho_x]
        exact hr34
      · have hb' : ¬ b < 0 := hb1
        have hb3 : ¬ b ≤ nI 1 := fun z => (Int32.not_lt.mpr z) hb2
        simp (disch := (first | omega | exact aCat_8 (by with_unfolding_all rfl) | exact rk_lt (by with_unfolding_all rfl) | exact aCat_16 (by with_unfolding_all rfl) | exact rk_eq (by with_unfolding_all rfl) | assumption | exact b2n_lt _ | exact id_b (by with_unfolding_all rfl) | (simp (disch := omega) only [u2_same, u2_ab, u2_aq]; done) | (simp (disch := omega) only [u2_same, u2_ab, u2_aq]; omega) | fail)) only [al_14464, wp_aloadr_0, wp_aloadk_0, hg_0_2, wp_iload_1, wc_242, wz_eq_t, wz_eq_f, wb_eq_t, wb_eq_f, wm_eq_1, wm_eq_2, wp_iload_2, wz_lt_t, wz_lt_f, wm_lt_1, wm_lt_2, wk_1, wn_le_t, wn_le_f, wp_jsr, al_14465, al_14466, hg_0_10, hg_0_7, hg_0_4, wc_255, wc_258, wp_ireturn, nl_i, nl_r, nl_k, nl_j, nl_l, nI_add, pk_mul, pk_sub, tl_s, tl_n, aL_inl, u2_same, u2_ab, u2_aq, nI_l, lN_i, Nat.add_zero, Nat.zero_add, Nat.zero_le, true_and, and_true, b2n_10, b2n_T, b2n_F, b2n_0, Decidable.not_not, not_true_eq_false, not_false_eq_true, Nat.reduceAdd, Nat.reduceMul, Nat.reduceSub, t_242 (show f < 2147483648 by omega) (show D 4 ≤ 36 by omega), b2n_t hlt, wy_lt_f hb', wx_le_f hb3, wp_athrow]
        rw [tho_x]
        exact hr34
  · have hr34 : aMm ko d 34 [.ref 86, .int a, .int b] (hp D N I J (x + 1)) (fnT D x (t + 300) (nI 1)) := by
      rw [me_34]
      simp (disch := (first | omega | exact aCat_8 (by with_unfolding_all rfl) | exact rk_lt (by with_unfolding_all rfl) | exact aCat_16 (by with_unfolding_all rfl) | exact rk_eq (by with_unfolding_all rfl) | assumption | exact b2n_lt _ | exact id_b (by with_unfolding_all rfl) | (simp (disch := omega) only [u2_same, u2_ab, u2_aq]; done) | (simp (disch := omega) only [u2_same, u2_ab, u2_aq]; omega) | fail)) only [al_2176, wp_aloadr_0, wp_aloadk_0, wk_0, hp_86_0, wp_iload_1, wc_23, wz_eq_t, wz_eq_f, wb_eq_t, wb_eq_f, wm_eq_1, wm_eq_2, wp_iload_2, wp_i2l, wl_0, wl_1, wc_4, t_4, lN_le, wz_ne_t, wz_ne_f, wb_ne_t, wb_ne_f, wm_ne_1, wm_ne_2, wp_jsr, al_2177, wc_24, t_24, wp_ireturn, al_2178, hg_86_8, ha_89l, ha_89s, wc_30, nl_i, nl_r, nl_k, nl_j, nl_l, nI_add, pk_mul, pk_sub, tl_s, tl_n, aL_inl, u2_same, u2_ab, u2_aq, nI_l, lN_i, Nat.add_zero, Nat.zero_add, Nat.zero_le, true_and, and_true, b2n_10, b2n_T, b2n_F, b2n_0, Decidable.not_not, not_true_eq_false, not_false_eq_true, Nat.reduceAdd, Nat.reduceMul, Nat.reduceSub, t_23x hF.1 (show 0 < D 0 * D 1 by omega) hbad]
      exact hthr
    rw [← h4] at hbad
    simp (disch := (first | omega | exact aCat_8 (by with_unfolding_all rfl) | exact rk_lt (by with_unfolding_all rfl) | exact aCat_16 (by with_unfolding_all rfl) | exact rk_eq (by with_unfolding_all rfl) | assumption | exact b2n_lt _ | exact id_b (by with_unfolding_all rfl) | (simp (disch := omega) only [u2_same, u2_ab, u2_aq]; done) | (simp (disch := omega) only [u2_same, u2_ab, u2_aq]; omega) | fail)) only [al_14464, wp_aloadr_0, wp_aloadk_0, hg_0_2, wp_iload_1, wc_242, wz_eq_t, wz_eq_f, wb_eq_t, wb_eq_f, wm_eq_1, wm_eq_2, wp_iload_2, wz_lt_t, wz_lt_f, wm_lt_1, wm_lt_2, wk_1, wn_le_t, wn_le_f, wp_jsr, al_14465, al_14466, hg_0_10, hg_0_7, hg_0_4, wc_255, wc_258, wp_ireturn, nl_i, nl_r, nl_k, nl_j, nl_l, nI_add, pk_mul, pk_sub, tl_s, tl_n, aL_inl, u2_same, u2_ab, u2_aq, nI_l, lN_i, Nat.add_zero, Nat.zero_add, Nat.zero_le, true_and, and_true, b2n_10, b2n_T, b2n_F, b2n_0, Decidable.not_not, not_true_eq_false, not_false_eq_true, Nat.reduceAdd, Nat.reduceMul, Nat.reduceSub, t_242x (show D 4 ≤ 36 by omega) (show 0 < D 4 by omega) hbad, wp_athrow]
    rw [tho_x]
    exact hr34
/-- what a field shows -/
def fdV (D : Nat → Nat) (N : Nat → Nat → Nat) (f w : Nat) : Nat := if w = 0 then N 89 f else if w = 1 then N 89 (36 + f) else if w = 2 then N 89 (72 + f) else b2n (onP (crsS D N (N 89)).1 (crsS D N (N 89)).2.1 f = true)
theorem k_225 {f w : Nat} (h : inv D N I J t) (hf : f < D 0 * D 1) (hw : w ≤ 3)
    (hQ : ∀ (N1 : Nat → Nat → Nat) (I1 : Nat → Nat → Int32) (J1 : Nat → Nat → Int64), rsO N N1 I I1 J J1 → P (.inl (some (.int (nI (fdV D N f w))))) (hp D N1 I1 J1 x)) : aWp ko d 225 (aP.1 (Int.toNat 14400)) [.ref 0, .int (nI f), .int (nI w)] [] (hp D N I J x) P := by
  have hF := dm_F h.1.1.1
  have h4 := inv_d4 h.1
  have h89 := h.1.2.2.2.2.1
  have hlt : f < D 4 := by omega
  have hcl := h89.2.2.2
  have hc : w = 0 ∨ w = 1 ∨ w = 2 ∨ w = 3 := by omega
  unfold fdV at hQ
  rcases hc with rfl | rfl | rfl | rfl
  · have e := hcl.1 f (by omega)
    have := hQ N I J rs_r
    simp (disch := (first | omega | exact aCat_8 (by with_unfolding_all rfl) | exact rk_lt (by with_unfolding_all rfl) | exact aCat_16 (by with_unfolding_all rfl) | exact rk_eq (by with_unfolding_all rfl) | assumption | exact b2n_lt _ | exact id_b (by with_unfolding_all rfl) | (simp (disch := omega) only [u2_same, u2_ab, u2_aq]; done) | (simp (disch := omega) only [u2_same, u2_ab, u2_aq]; omega) | fail)) only [al_14400, wp_aloadr_0, wp_aloadk_0, hg_0_2, wp_iload_1, wc_242, wz_eq_t, wz_eq_f, wb_eq_t, wb_eq_f, wm_eq_1, wm_eq_2, wp_iload_2, wz_lt_t, wz_lt_f, wm_lt_1, wm_lt_2, wk_3, wn_le_t, wn_le_f, wp_jsr, al_14401, al_14402, wz_ne_t, wz_ne_f, wb_ne_t, wb_ne_f, wm_ne_1, wm_ne_2, hg_0_7, hg_20_0, ha_21l, ha_21s, hg_22_0, ha_23l, ha_23s, hg_24_0, ha_25l, ha_25s, wp_ireturn, al_14403, wn_ne_t, wn_ne_f, hg_0_10, hg_0_4, wc_260, hg_26_10, wc_161, t_161, al_14404, wk_1, hg_20_1, hg_22_1, hg_24_1, wp_goto, al_14405, hg_20_2, hg_22_2, hg_24_2, al_14406, nl_i, nl_r, nl_k, nl_j, nl_l, nI_add, pk_mul, pk_sub, tl_s, tl_n, aL_inl, u2_same, u2_ab, u2_aq, nI_l, lN_i, Nat.add_zero, Nat.zero_add, Nat.zero_le, true_and, and_true, b2n_10, b2n_T, b2n_F, b2n_0, Decidable.not_not, not_true_eq_false, not_false_eq_true, Nat.reduceAdd, Nat.reduceMul, Nat.reduceSub, t_242 (show f < 2147483648 by omega) (show D 4 ≤ 36 by omega), b2n_t hlt, e]
    exact this
  · have e := (hcl.2.1 f (by omega)).1
    have h1 := (h89.1.1 f (by omega)).2.1
    have hb : b2n (tb (J 20 1) f = true) = N 89 (36 + f) := by
      rw [e]
      have hf36 : f < 36 := by omega
      by_cases z : N 89 (36 + f) = 1
      · rw [b2n_t (by simp [hf36, z]), z]
      · rw [b2n_f (by simp [z])]; omega
    have := hQ N I J rs_r
    simp (disch := (first | omega | exact aCat_8 (by with_unfolding_all rfl) | exact rk_lt (by with_unfolding_all rfl) | exact aCat_16 (by with_unfolding_all rfl) | exact rk_eq (by with_unfolding_all rfl) | assumption | exact b2n_lt _ | exact id_b (by with_unfolding_all rfl) | (simp (disch := omega) only [u2_same, u2_ab, u2_aq]; done) | (simp (disch := omega) only [u2_same, u2_ab, u2_aq]; omega) | fail)) only [al_14400, wp_aloadr_0, wp_aloadk_0, hg_0_2, wp_iload_1, wc_242, wz_eq_t, wz_eq_f, wb_eq_t, wb_eq_f, wm_eq_1, wm_eq_2, wp_iload_2, wz_lt_t, wz_lt_f, wm_lt_1, wm_lt_2, wk_3, wn_le_t, wn_le_f, wp_jsr, al_14401, al_14402, wz_ne_t, wz_ne_f, wb_ne_t, wb_ne_f, wm_ne_1, wm_ne_2, hg_0_7, hg_20_0, ha_21l, ha_21s, hg_22_0, ha_23l, ha_23s, hg_24_0, ha_25l, ha_25s, wp_ireturn, al_14403, wn_ne_t, wn_ne_f, hg_0_10, hg_0_4, wc_260, hg_26_10, wc_161, t_161, al_14404, wk_1, hg_20_1, hg_22_1, hg_24_1, wp_goto, al_14405, hg_20_2, hg_22_2, hg_24_2, al_14406, nl_i, nl_r, nl_k, nl_j, nl_l, nI_add, pk_mul, pk_sub, tl_s, tl_n, aL_inl, u2_same, u2_ab, u2_aq, nI_l, lN_i, Nat.add_zero, Nat.zero_add, Nat.zero_le, true_and, and_true, b2n_10, b2n_T, b2n_F, b2n_0, Decidable.not_not, not_true_eq_false, not_false_eq_true, Nat.reduceAdd, Nat.reduceMul, Nat.reduceSub, t_242 (show f < 2147483648 by omega) (show D 4 ≤ 36 by omega), b2n_t hlt, hb]
    exact this
  · have e := (hcl.2.1 f (by omega)).2
    have h1 := (h89.1.1 f (by omega)).2.2
    have hb : b2n (tb (J 20 2) f = true) = N 89 (72 + f) := by
      rw [e]
      have hf36 : f < 36 := by omega
      by_cases z : N 89 (72 + f) = 1
      · rw [b2n_t (by simp [hf36, z]), z]
      · rw [b2n_f (by simp [z])]; omega
    have := hQ N I J rs_r
    simp (disch := (first | omega | exact aCat_8 (by with_unfolding_all rfl) | exact rk_lt (by with_unfolding_all rfl) | exact aCat_16 (by with_unfolding_all rfl) | exact rk_eq (by with_unfolding_all rfl) | assumption | exact b2n_lt _ | exact id_b (by with_unfolding_all rfl) | (simp (disch := omega) only [u2_same, u2_ab, u2_aq]; done) | (simp (disch := omega) only [u2_same, u2_ab, u2_aq]; omega) | fail)) only [al_14400, wp_aloadr_0, wp_aloadk_0, hg_0_2, wp_iload_1, wc_242, wz_eq_t, wz_eq_f, wb_eq_t, wb_eq_f, wm_eq_1, wm_eq_2, wp_iload_2, wz_lt_t, wz_lt_f, wm_lt_1, wm_lt_2, wk_3, wn_le_t, wn_le_f, wp_jsr, al_14401, al_14402, wz_ne_t, wz_ne_f, wb_ne_t, wb_ne_f, wm_ne_1, wm_ne_2, hg_0_7, hg_20_0, ha_21l, ha_21s, hg_22_0, ha_23l, ha_23s, hg_24_0, ha_25l, ha_25s, wp_ireturn, al_14403, wn_ne_t, wn_ne_f, hg_0_10, hg_0_4, wc_260, hg_26_10, wc_161, t_161, al_14404, wk_1, hg_20_1, hg_22_1, hg_24_1, wp_goto, al_14405, hg_20_2, hg_22_2, hg_24_2, al_14406, nl_i, nl_r, nl_k, nl_j, nl_l, nI_add, pk_mul, pk_sub, tl_s, tl_n, aL_inl, u2_same, u2_ab, u2_aq, nI_l, lN_i, Nat.add_zero, Nat.zero_add, Nat.zero_le, true_and, and_true, b2n_10, b2n_T, b2n_F, b2n_0, Decidable.not_not, not_true_eq_false, not_false_eq_true, Nat.reduceAdd, Nat.reduceMul, Nat.reduceSub, t_242 (show f < 2147483648 by omega) (show D 4 ≤ 36 by omega), b2n_t hlt, hb]
    exact this
  · simp (disch := (first | omega | exact aCat_8 (by with_unfolding_all rfl) | exact rk_lt (by with_unfolding_all rfl) | exact aCat_16 (by with_unfolding_all rfl) | exact rk_eq (by with_unfolding_all rfl) | assumption | exact b2n_lt _ | exact id_b (by with_unfolding_all rfl) | (simp (disch := omega) only [u2_same, u2_ab, u2_aq]; done) | (simp (disch := omega) only [u2_same, u2_ab, u2_aq]; omega) | fail)) only [al_14400, wp_aloadr_0, wp_aloadk_0, hg_0_2, wp_iload_1, wc_242, wz_eq_t, wz_eq_f, wb_eq_t, wb_eq_f, wm_eq_1, wm_eq_2, wp_iload_2, wz_lt_t, wz_lt_f, wm_lt_1, wm_lt_2, wk_3, wn_le_t, wn_le_f, wp_jsr, al_14401, al_14402, wz_ne_t, wz_ne_f, wb_ne_t, wb_ne_f, wm_ne_1, wm_ne_2, hg_0_7, hg_20_0, ha_21l, ha_21s, hg_22_0, ha_23l, ha_23s, hg_24_0, ha_25l, ha_25s, wp_ireturn, al_14403, wn_ne_t, wn_ne_f, hg_0_10, hg_0_4, wc_260, hg_26_10, wc_161, t_161, al_14404, wk_1, hg_20_1, hg_22_1, hg_24_1, wp_goto, al_14405, hg_20_2, hg_22_2, hg_24_2, al_14406, nl_i, nl_r, nl_k, nl_j, nl_l, nI_add, pk_mul, pk_sub, tl_s, tl_n, aL_inl, u2_same, u2_ab, u2_aq, nI_l, lN_i, Nat.add_zero, Nat.zero_add, Nat.zero_le, true_and, and_true, b2n_10, b2n_T, b2n_F, b2n_0, Decidable.not_not, not_true_eq_false, not_false_eq_true, Nat.reduceAdd, Nat.reduceMul, Nat.reduceSub, t_242 (show f < 2147483648 by omega) (show D 4 ≤ 36 by omega), b2n_t hlt]
    refine t_260 (c := N 93) (n := N 86 18) (S := N 89) (s := 20) (ru := 11) rfl rfl (inv_rv h.1) (inv_s1 h.1) (inv_s2 h.1) ?_
    intro N1 I1 J1 _ hN hI hJ hc
    rw [inv_G h.1, h.1.1.2.2.1] at hc
    have e := hc.2.2.1 f (by omega)
    have := hQ N1 I1 J1 ⟨gN_s hN, fI_s hI, fJ_s hJ, ⟨hN 3 1 (by decide) (by omega), fun q => hJ 4 q (by decide) (by omega)⟩, ⟨hN 86 1 (by decide) (by omega), fun q => hJ 87 q (by decide) (by omega)⟩⟩
    simp (disch := (first | omega | exact aCat_8 (by with_unfolding_all rfl) | exact rk_lt (by with_unfolding_all rfl) | exact aCat_16 (by with_unfolding_all rfl) | exact rk_eq (by with_unfolding_all rfl) | assumption | exact b2n_lt _ | exact id_b (by with_unfolding_all rfl) | (simp (disch := omega) only [u2_same, u2_ab, u2_aq]; done) | (simp (disch := omega) only [u2_same, u2_ab, u2_aq]; omega) | fail)) only [al_14400, wp_aloadr_0, wp_aloadk_0, hg_0_2, wp_iload_1, wc_242, wz_eq_t, wz_eq_f, wb_eq_t, wb_eq_f, wm_eq_1, wm_eq_2, wp_iload_2, wz_lt_t, wz_lt_f, wm_lt_1, wm_lt_2, wk_3, wn_le_t, wn_le_f, wp_jsr, al_14401, al_14402, wz_ne_t, wz_ne_f, wb_ne_t, wb_ne_f, wm_ne_1, wm_ne_2, hg_0_7, hg_20_0, ha_21l, ha_21s, hg_22_0, ha_23l, ha_23s, hg_24_0, ha_25l, ha_25s, wp_ireturn, al_14403, wn_ne_t, wn_ne_f, hg_0_10, hg_0_4, wc_260, hg_26_10, wc_161, t_161, al_14404, wk_1, hg_20_1, hg_22_1, hg_24_1, wp_goto, al_14405, hg_20_2, hg_22_2, hg_24_2, al_14406, nl_i, nl_r, nl_k, nl_j, nl_l, nI_add, pk_mul, pk_sub, tl_s, tl_n, aL_inl, u2_same, u2_ab, u2_aq, nI_l, lN_i, Nat.add_zero, Nat.zero_add, Nat.zero_le, true_and, and_true, b2n_10, b2n_T, b2n_F, b2n_0, Decidable.not_not, not_true_eq_false, not_false_eq_true, Nat.reduceAdd, Nat.reduceMul, Nat.reduceSub, e]
    exact this
theorem r_22 {f w : Nat} {I0 : Nat → Nat → Int32} (h : invB D N I J t) (hf : f < D 0 * D 1) (hw : w ≤ 3)
    (hQ : ∀ (N1 : Nat → Nat → Nat) (I1 : Nat → Nat → Int32), rqO (u2 N 86 0 0) N1 I I1 → N1 86 0 = 0 → Q (some (.int (nI (fdV D N f w)))) (hp D N1 I1 J x)) : aMm ko d 22 [.ref 86, .int (nI f), .int (nI w)] (hp D N I J x) Q := by
  have hF := dm_F h.1.1
  have h89 := h.2.2.2.2.1
  have hfl : f ≤ D 0 * D 1 - 1 := by omega
  have e89 : u2 N 86 0 0 89 = N 89 := u2_nb (by decide)
  have hs : smR (u2 N 86 0 0) N := ⟨u2_nb (by decide), u2_nb (by decide), u2_aq (by decide), u2_aq (by decide)⟩
  rw [me_22]
  simp (disch := (first | omega | exact aCat_8 (by with_unfolding_all rfl) | exact rk_lt (by with_unfolding_all rfl) | exact aCat_16 (by with_unfolding_all rfl) | exact rk_eq (by with_unfolding_all rfl) | assumption | exact b2n_lt _ | exact id_b (by with_unfolding_all rfl) | (simp (disch := omega) only [u2_same, u2_ab, u2_aq]; done) | (simp (disch := omega) only [u2_same, u2_ab, u2_aq]; omega) | fail)) only [al_1408, wp_aloadr_0, wp_aloadk_0, wk_0, hp_86_0, wp_iload_1, wc_23, wz_eq_t, wz_eq_f, wb_eq_t, wb_eq_f, wm_eq_1, wm_eq_2, wp_iload_2, wp_i2l, wl_0, wl_3, wc_4, t_4, lN_le, wz_ne_t, wz_ne_f, wb_ne_t, wb_ne_f, wm_ne_1, wm_ne_2, wp_jsr, al_1409, wc_24, t_24, wp_ireturn, al_1410, hg_86_8, ha_89l, ha_89s, wc_25, al_1411, al_1412, wk_36, wp_iadd, al_1413, wk_72, al_1414, hg_86_23, ha_98l, ha_98s, wc_17, t_17, nl_i, nl_r, nl_k, nl_j, nl_l, nI_add, pk_mul, pk_sub, tl_s, tl_n, aL_inl, u2_same, u2_ab, u2_aq, nI_l, lN_i, Nat.add_zero, Nat.zero_add, Nat.zero_le, true_and, and_true, b2n_10, b2n_T, b2n_F, b2n_0, Decidable.not_not, not_true_eq_false, not_false_eq_true, Nat.reduceAdd, Nat.reduceMul, Nat.reduceSub, t_23 (show f < 2147483648 by omega) hF.1 (show 0 < D 0 * D 1 by omega), b2n_t hfl, b2n_t hw]
  refine t_25 (r := 89) (Or.inl rfl) h.1.1 (by rw [e89]; exact h89.1) (smR_rl hs (inv_rl h)) ?_
  intro N1 I1 hc hN hI
  have hcc : crs0 (D 0) (D 1) (dsl (D 1) (u2 N 86 0 0) (u2 N 86 0 0 89)) (wlS (u2 N 86 0 0 89)) (u2 N 86 0 0 89 108) = crsS D N (N 89) := by
    rw [e89, smR_dsl hs]
    rfl
  rw [hcc] at hc
  have hr : rqO (u2 N 86 0 0) N1 I I1 := ⟨rN_q hN, rI_s hI, hN 86 1 rfl⟩
  have h0 : N1 86 0 = 0 := (hN 86 0 rfl).trans (u2_same _ _ _ _)
  have e1 : N1 89 = N 89 := by
    rw [← e89]
    funext q
    exact hN 89 q rfl
  have hq := hQ N1 I1 hr h0
  have hcs : w = 0 ∨ w = 1 ∨ w = 2 ∨ w = 3 := by omega
  unfold fdV at hq
  simp (disch := (first | omega | exact aCat_8 (by with_unfolding_all rfl) | exact rk_lt (by with_unfolding_all rfl) | exact aCat_16 (by with_unfolding_all rfl) | exact rk_eq (by with_unfolding_all rfl) | assumption | exact b2n_lt _ | exact id_b (by with_unfolding_all rfl) | (simp (disch := omega) only [u2_same, u2_ab, u2_aq]; done) | (simp (disch := omega) only [u2_same, u2_ab, u2_aq]; omega) | fail)) only [al_1408, wp_aloadr_0, wp_aloadk_0, wk_0, hp_86_0, wp_iload_1, wc_23, wz_eq_t, wz_eq_f, wb_eq_t, wb_eq_f, wm_eq_1, wm_eq_2, wp_iload_2, wp_i2l, wl_0, wl_3, wc_4, t_4, lN_le, wz_ne_t, wz_ne_f, wb_ne_t, wb_ne_f, wm_ne_1, wm_ne_2, wp_jsr, al_1409, wc_24, t_24, wp_ireturn, al_1410, hg_86_8, ha_89l, ha_89s, wc_25, al_1411, al_1412, wk_36, wp_iadd, al_1413, wk_72, al_1414, hg_86_23, ha_98l, ha_98s, wc_17, t_17, nl_i, nl_r, nl_k, nl_j, nl_l, nI_add, pk_mul, pk_sub, tl_s, tl_n, aL_inl, u2_same, u2_ab, u2_aq, nI_l, lN_i, Nat.add_zero, Nat.zero_add, Nat.zero_le, true_and, and_true, b2n_10, b2n_T, b2n_F, b2n_0, Decidable.not_not, not_true_eq_false, not_false_eq_true, Nat.reduceAdd, Nat.reduceMul, Nat.reduceSub]
  rcases hcs with rfl | rfl | rfl | rfl
  · rw [wp_tsw (L := 1411) (by decide)]
    simp (disch := (first | omega | exact aCat_8 (by with_unfolding_all rfl) | exact rk_lt (by with_unfolding_all rfl) | exact aCat_16 (by with_unfolding_all rfl) | exact rk_eq (by with_unfolding_all rfl) | assumption | exact b2n_lt _ | exact id_b (by with_unfolding_all rfl) | (simp (disch := omega) only [u2_same, u2_ab, u2_aq]; done) | (simp (disch := omega) only [u2_same, u2_ab, u2_aq]; omega) | fail)) only [al_1408, wp_aloadr_0, wp_aloadk_0, wk_0, hp_86_0, wp_iload_1, wc_23, wz_eq_t, wz_eq_f, wb_eq_t, wb_eq_f, wm_eq_1, wm_eq_2, wp_iload_2, wp_i2l, wl_0, wl_3, wc_4, t_4, lN_le, wz_ne_t, wz_ne_f, wb_ne_t, wb_ne_f, wm_ne_1, wm_ne_2, wp_jsr, al_1409, wc_24, t_24, wp_ireturn, al_1410, hg_86_8, ha_89l, ha_89s, wc_25, al_1411, al_1412, wk_36, wp_iadd, al_1413, wk_72, al_1414, hg_86_23, ha_98l, ha_98s, wc_17, t_17, nl_i, nl_r, nl_k, nl_j, nl_l, nI_add, pk_mul, pk_sub, tl_s, tl_n, aL_inl, u2_same, u2_ab, u2_aq, nI_l, lN_i, Nat.add_zero, Nat.zero_add, Nat.zero_le, true_and, and_true, b2n_10, b2n_T, b2n_F, b2n_0, Decidable.not_not, not_true_eq_false, not_false_eq_true, Nat.reduceAdd, Nat.reduceMul, Nat.reduceSub, e1]
    exact hq
  · rw [wp_tsw (L := 1412) (by decide)]
    simp (disch := (first | omega | exact aCat_8 (by with_unfolding_all rfl) | exact rk_lt (by with_unfolding_all rfl) | exact aCat_16 (by with_unfolding_all rfl) | exact rk_eq (by with_unfolding_all rfl) | assumption | exact b2n_lt _ | exact id_b (by with_unfolding_all rfl) | (simp (disch := omega) only [u2_same, u2_ab, u2_aq]; done) | (simp (disch := omega) only [u2_same, u2_ab, u2_aq]; omega) | fail)) only [al_1408, wp_aloadr_0, wp_aloadk_0, wk_0, hp_86_0, wp_iload_1, wc_23, wz_eq_t, wz_eq_f, wb_eq_t, wb_eq_f, wm_eq_1, wm_eq_2, wp_iload_2, wp_i2l, wl_0, wl_3, wc_4, t_4, lN_le, wz_ne_t, wz_ne_f, wb_ne_t, wb_ne_f, wm_ne_1, wm_ne_2, wp_jsr, al_1409, wc_24, t_24, wp_ireturn, al_1410, hg_86_8, ha_89l, ha_89s, wc_25, al_1411, al_1412, wk_36, wp_iadd, al_1413, wk_72, al_1414, hg_86_23, ha_98l, ha_98s, wc_17, t_17, nl_i, nl_r, nl_k, nl_j, nl_l, nI_add, pk_mul, pk_sub, tl_s, tl_n, aL_inl, u2_same, u2_ab, u2_aq, nI_l, lN_i, Nat.add_zero, Nat.zero_add, Nat.zero_le, true_and, and_true, b2n_10, b2n_T, b2n_F, b2n_0, Decidable.not_not, not_true_eq_false, not_false_eq_true, Nat.reduceAdd, Nat.reduceMul, Nat.reduceSub, e1]
    exact hq
  · rw [wp_tsw (L := 1413) (by decide)]
    simp (disch := (first | omega | exact aCat_8 (by with_unfolding_all rfl) | exact rk_lt (by with_unfolding_all rfl) | exact aCat_16 (by with_unfolding_all rfl) | exact rk_eq (by with_unfolding_all rfl) | assumption | exact b2n_lt _ | exact id_b (by with_unfolding_all rfl) | (simp (disch := omega) only [u2_same, u2_ab, u2_aq]; done) | (simp (disch := omega) only [u2_same, u2_ab, u2_aq]; omega) | fail)) only [al_1408, wp_aloadr_0, wp_aloadk_0, wk_0, hp_86_0, wp_iload_1, wc_23, wz_eq_t, wz_eq_f, wb_eq_t, wb_eq_f, wm_eq_1, wm_eq_2, wp_iload_2, wp_i2l, wl_0, wl_3, wc_4, t_4, lN_le, wz_ne_t, wz_ne_f, wb_ne_t, wb_ne_f, wm_ne_1, wm_ne_2, wp_jsr, al_1409, wc_24, t_24, wp_ireturn, al_1410, hg_86_8, ha_89l, ha_89s, wc_25, al_1411, al_1412, wk_36, wp_iadd, al_1413, wk_72, al_1414, hg_86_23, ha_98l, ha_98s, wc_17, t_17, nl_i, nl_r, nl_k, nl_j, nl_l, nI_add, pk_mul, pk_sub, tl_s, tl_n, aL_inl, u2_same, u2_ab, u2_aq, nI_l, lN_i, Nat.add_zero, Nat.zero_add, Nat.zero_le, true_and, and_true, b2n_10, b2n_T, b2n_F, b2n_0, Decidable.not_not, not_true_eq_false, not_false_eq_true, Nat.reduceAdd, Nat.reduceMul, Nat.reduceSub, e1]
    exact hq
  · have e98 := hc.2.2.2 f (by omega)
    have hq' : Q (some (.int (nI (b2n (onP (crsS D N (N 89)).1 (crsS D N (N 89)).2.1 f = true))))) (hp D N1 I1 J x) := hq
    have hle := b2n_le (onP (crsS D N (N 89)).1 (crsS D N (N 89)).2.1 f = true)
    generalize b2n (onP (crsS D N (N 89)).1 (crsS D N (N 89)).2.1 f = true) = v at e98 hle hq'
    have hvv : b2n (¬ v = 0) = v := by
      have hv2 : v = 0 ∨ v = 1 := by omega
      rcases hv2 with rfl | rfl <;> rfl
    rw [wp_tsw (L := 1414) (by decide)]
    simp (disch := (first | omega | exact aCat_8 (by with_unfolding_all rfl) | exact rk_lt (by with_unfolding_all rfl) | exact aCat_16 (by with_unfolding_all rfl) | exact rk_eq (by with_unfolding_all rfl) | assumption | exact b2n_lt _ | exact id_b (by with_unfolding_all rfl) | (simp (disch := omega) only [u2_same, u2_ab, u2_aq]; done) | (simp (disch := omega) only [u2_same, u2_ab, u2_aq]; omega) | fail)) only [al_1408, wp_aloadr_0, wp_aloadk_0, wk_0, hp_86_0, wp_iload_1, wc_23, wz_eq_t, wz_eq_f, wb_eq_t, wb_eq_f, wm_eq_1, wm_eq_2, wp_iload_2, wp_i2l, wl_0, wl_3, wc_4, t_4, lN_le, wz_ne_t, wz_ne_f, wb_ne_t, wb_ne_f, wm_ne_1, wm_ne_2, wp_jsr, al_1409, wc_24, t_24, wp_ireturn, al_1410, hg_86_8, ha_89l, ha_89s, wc_25, al_1411, al_1412, wk_36, wp_iadd, al_1413, wk_72, al_1414, hg_86_23, ha_98l, ha_98s, wc_17, t_17, nl_i, nl_r, nl_k, nl_j, nl_l, nI_add, pk_mul, pk_sub, tl_s, tl_n, aL_inl, u2_same, u2_ab, u2_aq, nI_l, lN_i, Nat.add_zero, Nat.zero_add, Nat.zero_le, true_and, and_true, b2n_10, b2n_T, b2n_F, b2n_0, Decidable.not_not, not_true_eq_false, not_false_eq_true, Nat.reduceAdd, Nat.reduceMul, Nat.reduceSub, e98, hvv]
    exact hq'
theorem o_field {a b : Int32} (h : inv D N I J t) : opT ko d 225 141 22 rwI [.int a, .int b] D N I J x (t + 300) := by
  have hF := dm_F h.1.1.1
  have h4 := inv_d4 h.1
  show aWp ko d 225 (aP.1 (Int.toNat 14400)) [.ref 0, .int a, .int b] [] (hp D N I J x) (aTh 141 [.ref 0, .int a, .int b, .ref 125] (fun z σ1 => aMm ko d 22 [.ref 86, .int a, .int b] σ1 (fnT D x (t + 300) z)))
  have hthr := fn_thr (x := x) h
  rcases rng3 a 0 (b := D 0 * D 1 - 1) (by decide) (by omega) with ⟨f, _, hf, rfl⟩ | hbad
  · have hfF : f < D 0 * D 1 := by omega
    rcases rng3 b 0 (b := 3) (by decide) (by decide) with ⟨w, _, hw, rfl⟩ | hbad
    · refine k_225 h hfF hw ?_
      intro N1 I1 J1 hr
      rw [tho_i (by decide)]
      have h1 := invB_c h.1 (Nat.le_refl t) hr.1 hr.2.1 hr.2.2.1
      have h2 : invB D N1 I1 (u2 J1 125 0 (nI (fdV D N f w)).toInt64) t := invB_c h1 (Nat.le_refl t) sN_r sI_r (sJ_u sJ_r rfl)
      refine r_22 (I0 := I1) h2 hfF hw ?_
      intro N2 I2 hq h0
      have ef : fdV D N1 f w = fdV D N f w := by
        unfold fdV
        rw [sN_89 hr.1, smR_crs (sN_sm hr.1)]
      rw [ef]
      exact fn_ok h hr hq h0
    · have hin := in_f (a := 0) (b := 3) (by decide) (by decide) hbad
      have hlt : f < D 4 := by omega
      have hr22 : aMm ko d 22 [.ref 86, .int (nI f), .int b] (hp D N I J (x + 1)) (fnT D x (t + 300) (nI 1)) := by
        rw [me_22]
        simp (disch := (first | omega | exact aCat_8 (by with_unfolding_all rfl) | exact rk_lt (by with_unfolding_all rfl) | exact aCat_16 (by with_unfolding_all rfl) | exact rk_eq (by with_unfolding_all rfl) | assumption | exact b2n_lt _ | exact id_b (by with_unfolding_all rfl) | (simp (disch := omega) only [u2_same, u2_ab, u2_aq]; done) | (simp (disch := omega) only [u2_same, u2_ab, u2_aq]; omega) | fail)) only [al_1408, wp_aloadr_0, wp_aloadk_0, wk_0, hp_86_0, wp_iload_1, wc_23, wz_eq_t, wz_eq_f, wb_eq_t, wb_eq_f, wm_eq_1, wm_eq_2, wp_iload_2, wp_i2l, wl_0, wl_3, wc_4, t_4, lN_le, wz_ne_t, wz_ne_f, wb_ne_t, wb_ne_f, wm_ne_1, wm_ne_2, wp_jsr, al_1409, wc_24, t_24, wp_ireturn, al_1410, hg_86_8, ha_89l, ha_89s, wc_25, al_1411, al_1412, wk_36, wp_iadd, al_1413, wk_72, al_1414, hg_86_23, ha_98l, ha_98s, wc_17, t_17, nl_i, nl_r, nl_k, nl_j, nl_l, nI_add, pk_mul, pk_sub, tl_s, tl_n, aL_inl, u2_same, u2_ab, u2_aq, nI_l, lN_i, Nat.add_zero, Nat.zero_add, Nat.zero_le, true_and, and_true, b2n_10, b2n_T, b2n_F, b2n_0, Decidable.not_not, not_true_eq_false, not_false_eq_true, Nat.reduceAdd, Nat.reduceMul, Nat.reduceSub, t_23 (show f < 2147483648 by omega) hF.1 (show 0 < D 0 * D 1 by omega), b2n_t hf, b2n_f hin]
        exact hthr
      rcases hbad with hb | ⟨hb1, hb2⟩
      · have hb' : b < 0 := hb
        simp (disch := (first | omega | exact aCat_8 (by with_unfolding_all rfl) | exact rk_lt (by with_unfolding_all rfl) | exact aCat_16 (by with_unfolding_all rfl) | exact rk_eq (by with_unfolding_all rfl) | assumption | exact b2n_lt _ | exact id_b (by with_unfolding_all rfl) | (simp (disch := omega) only [u2_same, u2_ab, u2_aq]; done) | (simp (disch := omega) only [u2_same, u2_ab, u2_aq]; omega) | fail)) only [al_14400, wp_aloadr_0, wp_aloadk_0, hg_0_2, wp_iload_1, wc_242, wz_eq_t, wz_eq_f, wb_eq_t, wb_eq_f, wm_eq_1, wm_eq_2, wp_iload_2, wz_lt_t, wz_lt_f, wm_lt_1, wm_lt_2, wk_3, wn_le_t, wn_le_f, wp_jsr, al_14401, al_14402, wz_ne_t, wz_ne_f, wb_ne_t, wb_ne_f, wm_ne_1, wm_ne_2, hg_0_7, hg_20_0, ha_21l, ha_21s, hg_22_0, ha_23l, ha_23s, hg_24_0, ha_25l, ha_25s, wp_ireturn, al_14403, wn_ne_t, wn_ne_f, hg_0_10, hg_0_4, wc_260, hg_26_10, wc_161, t_161, al_14404, wk_1, hg_20_1, hg_22_1, hg_24_1, wp_goto, al_14405, hg_20_2, hg_22_2, hg_24_2, al_14406, nl_i, nl_r, nl_k, nl_j, nl_l, nI_add, pk_mul, pk_sub, tl_s, tl_n, aL_inl, u2_same, u2_ab, u2_aq, nI_l, lN_i, Nat.add_zero, Nat.zero_add, Nat.zero_le, true_and, and_true, b2n_10, b2n_T, b2n_F, b2n_0, Decidable.not_not, not_true_eq_false, not_false_eq_true, Nat.reduceAdd, Nat.reduceMul, Nat.reduceSub, t_242 (show f < 2147483648 by omega) (show D 4 ≤ 36 by omega), b2n_t hlt, wy_lt_t hb', wp_athrow]
        rw [tho_x]
        exact hr22
      · have hb' : ¬ b < 0 := hb1
        have hb3 : ¬ b ≤ nI 3 := fun z => (Int32.not_lt.mpr z) hb2
        simp (disch := (first | omega | exact aCat_8 (by with_unfolding_all rfl) | exact rk_lt (by with_unfolding_all rfl) | exact aCat_16 (by with_unfolding_all rfl) | exact rk_eq (by with_unfolding_all rfl) | assumption | exact b2n_lt _ | exact id_b (by with_unfolding_all rfl) | (simp (disch := omega) only [u2_same, u2_ab, u2_aq]; done) | (simp (disch := omega) only [u2_same, u2_ab, u2_aq]; omega) | fail)) only [al_14400, wp_aloadr_0, wp_aloadk_0, hg_0_2, wp_iload_1, wc_242, wz_eq_t, wz_eq_f, wb_eq_t, wb_eq_f, wm_eq_1, wm_eq_2, wp_iload_2, wz_lt_t, wz_lt_f, wm_lt_1, wm_lt_2, wk_3, wn_le_t, wn_le_f, wp_jsr, al_14401, al_14402, wz_ne_t, wz_ne_f, wb_ne_t, wb_ne_f, wm_ne_1, wm_ne_2, hg_0_7, hg_20_0, ha_21l, ha_21s, hg_22_0, ha_23l, ha_23s, hg_24_0, ha_25l, ha_25s, wp_ireturn, al_14403, wn_ne_t, wn_ne_f, hg_0_10, hg_0_4, wc_260, hg_26_10, wc_161, t_161, al_14404, wk_1, hg_20_1, hg_22_1, hg_24_1, wp_goto, al_14405, hg_20_2, hg_22_2, hg_24_2, al_14406, nl_i, nl_r, nl_k, nl_j, nl_l, nI_add, pk_mul, pk_sub, tl_s, tl_n, aL_inl, u2_same, u2_ab, u2_aq, nI_l, lN_i, Nat.add_zero, Nat.zero_add, Nat.zero_le, true_and, and_true, b2n_10, b2n_T, b2n_F, b2n_0, Decidable.not_not, not_true_eq_false, not_false_eq_true, Nat.reduceAdd, Nat.reduceMul, Nat.reduceSub, t_242 (show f < 2147483648 by omega) (show D 4 ≤ 36 by omega), b2n_t hlt, wy_lt_f hb', wx_le_f hb3, wp_athrow]
        rw [tho_x]
        exact hr22
  · have hr22 : aMm ko d 22 [.ref 86, .int a, .int b] (hp D N I J (x + 1)) (fnT D x (t + 300) (nI 1)) := by
      rw [me_22]
      simp (disch := (first | omega | exact aCat_8 (by with_unfolding_all rfl) | exact rk_lt (by with_unfolding_all rfl) | exact aCat_16 (by with_unfolding_all rfl) | exact rk_eq (by with_unfolding_all rfl) | assumption | exact b2n_lt _ | exact id_b (by with_unfolding_all rfl) | (simp (disch := omega) only [u2_same, u2_ab, u2_aq]; done) | (simp (disch := omega) only [u2_same, u2_ab, u2_aq]; omega) | fail)) only [al_1408, wp_aloadr_0, wp_aloadk_0, wk_0, hp_86_0, wp_iload_1, wc_23, wz_eq_t, wz_eq_f, wb_eq_t, wb_eq_f, wm_eq_1, wm_eq_2, wp_iload_2, wp_i2l, wl_0, wl_3, wc_4, t_4, lN_le, wz_ne_t, wz_ne_f, wb_ne_t, wb_ne_f, wm_ne_1, wm_ne_2, wp_jsr, al_1409, wc_24, t_24, wp_ireturn, al_1410, hg_86_8, ha_89l, ha_89s, wc_25, al_1411, al_1412, wk_36, wp_iadd, al_1413, wk_72, al_1414, hg_86_23, ha_98l, ha_98s, wc_17, t_17, nl_i, nl_r, nl_k, nl_j, nl_l, nI_add, pk_mul, pk_sub, tl_s, tl_n, aL_inl, u2_same, u2_ab, u2_aq, nI_l, lN_i, Nat.add_zero, Nat.zero_add, Nat.zero_le, true_and, and_true, b2n_10, b2n_T, b2n_F, b2n_0, Decidable.not_not, not_true_eq_false, not_false_eq_true, Nat.reduceAdd, Nat.reduceMul, Nat.reduceSub, t_23x hF.1 (show 0 < D 0 * D 1 by omega) hbad]
      exact hthr
    rw [← h4] at hbad
    simp (disch := (first | omega | exact aCat_8 (by with_unfolding_all rfl) | exact rk_lt (by with_unfolding_all rfl) | exact aCat_16 (by with_unfolding_all rfl) | exact rk_eq (by with_unfolding_all rfl) | assumption | exact b2n_lt _ | exact id_b (by with_unfolding_all rfl) | (simp (disch := omega) only [u2_same, u2_ab, u2_aq]; done) | (simp (disch := omega) only [u2_same, u2_ab, u2_aq]; omega) | fail)) only [al_14400, wp_aloadr_0, wp_aloadk_0, hg_0_2, wp_iload_1, wc_242, wz_eq_t, wz_eq_f, wb_eq_t, wb_eq_f, wm_eq_1, wm_eq_2, wp_iload_2, wz_lt_t, wz_lt_f, wm_lt_1, wm_lt_2, wk_3, wn_le_t, wn_le_f, wp_jsr, al_14401, al_14402, wz_ne_t, wz_ne_f, wb_ne_t, wb_ne_f, wm_ne_1, wm_ne_2, hg_0_7, hg_20_0, ha_21l, ha_21s, hg_22_0, ha_23l, ha_23s, hg_24_0, ha_25l, ha_25s, wp_ireturn, al_14403, wn_ne_t, wn_ne_f, hg_0_10, hg_0_4, wc_260, hg_26_10, wc_161, t_161, al_14404, wk_1, hg_20_1, hg_22_1, hg_24_1, wp_goto, al_14405, hg_20_2, hg_22_2, hg_24_2, al_14406, nl_i, nl_r, nl_k, nl_j, nl_l, nI_add, pk_mul, pk_sub, tl_s, tl_n, aL_inl, u2_same, u2_ab, u2_aq, nI_l, lN_i, Nat.add_zero, Nat.zero_add, Nat.zero_le, true_and, and_true, b2n_10, b2n_T, b2n_F, b2n_0, Decidable.not_not, not_true_eq_false, not_false_eq_true, Nat.reduceAdd, Nat.reduceMul, Nat.reduceSub, t_242x (show D 4 ≤ 36 by omega) (show 0 < D 4 by omega) hbad, wp_athrow]
    rw [tho_x]
    exact hr22
end T2
