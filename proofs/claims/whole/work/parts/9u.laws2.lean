/-! laws: both. From wip/whole/src. -/
section L2
variable {ko : aKo} {d k : Nat} {is : List Instr} {ls st : List Value} {σ : aH} {D : Nat → Nat} {N : Nat → Nat → Nat} {I : Nat → Nat → Int32} {J : Nat → Nat → Int64} {x t : Nat} {Q : Option Value → aH → Prop} {P : (Option Value ⊕ Unit) → aH → Prop}
theorem t_209 {a b c f : Nat} {S : Nat → Nat} (hL : ldO D N I J) (hS : clS N J 20 S) (hw : rwO (D 3) S) (ha : a ≤ 3) (hb : b ≤ 3) (hc : c ≤ 3) (hf : f < D 2 * D 3) : aMm ko d 209 [.ref 0, .int (nI f), .int (nI a), .int (nI b), .int (nI c)] (hp D N I J x) Q = Q (some (.int (gbI (gbw (D 2) (D 3) S a b c f 3)))) (hp D N I J x) := by
  have hF := ld_F hL
  have hx := fun w8 w9 => l_209 (ko := ko) (d := d) (x := x) (Q := Q) hL hS hw ha hb hc hf 3 0 w8 w9 rfl
  rw [me_209]
  simp (disch := (first | omega | exact aCat_8 (by with_unfolding_all rfl) | exact rk_lt (by with_unfolding_all rfl) | exact aCat_16 (by with_unfolding_all rfl) | exact rk_eq (by with_unfolding_all rfl) | assumption | exact b2n_lt _ | exact id_b (by with_unfolding_all rfl) | (simp (disch := omega) only [u2_same, u2_ab, u2_aq]; done) | (simp (disch := omega) only [u2_same, u2_ab, u2_aq]; omega) | fail)) only [al_13376, wk_m1, wp_istore_5, wk_0, wp_istore_6, wp_istore_7, wp_jsr, wp_iload_7, wk_3, wn_ge_t, wn_ge_f, wp_aloadr_0, wp_aloadk_0, hg_0_2, wp_iload_1, wc_241, wp_istore_8, wp_iload_8, wn_eq_t, wn_eq_f, hg_0_7, hg_20_1, hg_22_1, hg_24_1, wc_161, t_161, wk_1, wn_ne_t, wn_ne_f, wp_goto, al_13378, wp_iload_2, hg_20_0, ha_21l, ha_21s, hg_22_0, ha_23l, ha_23s, hg_24_0, ha_25l, ha_25s, wp_imul, wz_ne_t, wz_ne_f, wb_ne_t, wb_ne_f, wm_ne_1, wm_ne_2, al_13379, wp_iload_3, al_13380, wp_iadd, wp_iload_4, hg_20_2, hg_22_2, hg_24_2, wp_isub, wp_istore_9, wp_iload_5, wp_iload_9, wp_iload_6, al_13381, al_13382, wp_iinc_7_1, al_13383, wp_ireturn, nl_i, nl_r, nl_k, nl_j, nl_l, nI_add, pk_mul, pk_sub, tl_s, tl_n, aL_inl, u2_same, u2_ab, u2_aq, nI_l, lN_i, Nat.add_zero, Nat.zero_add, Nat.zero_le, true_and, and_true, b2n_10, b2n_T, b2n_F, b2n_0, Decidable.not_not, not_true_eq_false, not_false_eq_true, Nat.reduceAdd, Nat.reduceMul, Nat.reduceSub]
  exact hx _ _
theorem l_94 {a b c f : Nat} (hd : dmO D) (hw : rwO (D 1) (N 89)) (ha : a ≤ 3) (hb : b ≤ 3) (hc : c ≤ 3) (hf : f < D 0 * D 1) :
    ∀ (j w : Nat) (w8 w9 : Value), w + j = 3 → aWp ko d 94 (aP.1 (Int.toNat 6017)) [.ref 86, .int (nI f), .int (nI a), .int (nI b), .int (nI c), .int (gbI (gbw (D 0) (D 1) (N 89) a b c f w)), .int (gbV (gbw (D 0) (D 1) (N 89) a b c f w)), .int (nI w), w8, w9] [] (hp D N I J x) (aL Q) = Q (some (.int (gbI (gbw (D 0) (D 1) (N 89) a b c f 3)))) (hp D N I J x) := by
  have hF := dm_F hd
  intro j
  induction j with
  | zero =>
    intro w w8 w9 hj
    have e : w = 3 := by omega
    subst e
    rw [al_6017]
    simp (disch := (first | omega | exact aCat_8 (by with_unfolding_all rfl) | exact rk_lt (by with_unfolding_all rfl) | exact aCat_16 (by with_unfolding_all rfl) | exact rk_eq (by with_unfolding_all rfl) | assumption | exact b2n_lt _ | exact id_b (by with_unfolding_all rfl) | (simp (disch := omega) only [u2_same, u2_ab, u2_aq]; done) | (simp (disch := omega) only [u2_same, u2_ab, u2_aq]; omega) | fail)) only [al_6016, wk_m1, wp_istore_5, wk_0, wp_istore_6, wp_istore_7, wp_jsr, wp_iload_7, wk_3, wn_ge_t, wn_ge_f, wp_aloadr_0, wp_aloadk_0, wp_iload_1, wc_29, wp_istore_8, wp_iload_8, wz_lt_t, wz_lt_f, wm_lt_1, wm_lt_2, hg_86_8, ha_89l, ha_89s, wc_26, wz_ne_t, wz_ne_f, wb_ne_t, wb_ne_f, wm_ne_1, wm_ne_2, wp_iload_2, wp_imul, wp_iload_3, wz_le_t, wz_le_f, wm_le_1, wm_le_2, wk_1, wp_goto, al_6018, al_6019, wc_17, t_17, wp_iadd, wp_iload_4, wk_72, wp_isub, wp_istore_9, wp_iload_5, wp_iload_9, wp_iload_6, al_6020, al_6021, wp_iinc_7_1, al_6022, wp_ireturn, nl_i, nl_r, nl_k, nl_j, nl_l, nI_add, pk_mul, pk_sub, tl_s, tl_n, aL_inl, u2_same, u2_ab, u2_aq, nI_l, lN_i, Nat.add_zero, Nat.zero_add, Nat.zero_le, true_and, and_true, b2n_10, b2n_T, b2n_F, b2n_0, Decidable.not_not, not_true_eq_false, not_false_eq_true, Nat.reduceAdd, Nat.reduceMul, Nat.reduceSub]
  | succ j ih =>
    intro w w8 w9 hj
    have h29 := fun Q => t_29 (ko := ko) (d := d) (D := D) (N := N) (I := I) (J := J) (x := x) (Q := Q) (f := f) (w := w) hd.1 hd.2.2.1 hd.2.2.2 hd.2.1 hf (by omega)
    have ih1 := fun w8 w9 => ih (w + 1) w8 w9 (by omega)
    rw [gbw] at ih1
    rw [al_6017]
    cases hbs : bsd (D 0) (D 1) f w with
    | none =>
      rw [hbs] at ih1 h29
      simp (disch := (first | omega | exact aCat_8 (by with_unfolding_all rfl) | exact rk_lt (by with_unfolding_all rfl) | exact aCat_16 (by with_unfolding_all rfl) | exact rk_eq (by with_unfolding_all rfl) | assumption | exact b2n_lt _ | exact id_b (by with_unfolding_all rfl) | (simp (disch := omega) only [u2_same, u2_ab, u2_aq]; done) | (simp (disch := omega) only [u2_same, u2_ab, u2_aq]; omega) | fail)) only [al_6016, wk_m1, wp_istore_5, wk_0, wp_istore_6, wp_istore_7, wp_jsr, wp_iload_7, wk_3, wn_ge_t, wn_ge_f, wp_aloadr_0, wp_aloadk_0, wp_iload_1, wc_29, wp_istore_8, wp_iload_8, wz_lt_t, wz_lt_f, wm_lt_1, wm_lt_2, hg_86_8, ha_89l, ha_89s, wc_26, wz_ne_t, wz_ne_f, wb_ne_t, wb_ne_f, wm_ne_1, wm_ne_2, wp_iload_2, wp_imul, wp_iload_3, wz_le_t, wz_le_f, wm_le_1, wm_le_2, wk_1, wp_goto, al_6018, al_6019, wc_17, t_17, wp_iadd, wp_iload_4, wk_72, wp_isub, wp_istore_9, wp_iload_5, wp_iload_9, wp_iload_6, al_6020, al_6021, wp_iinc_7_1, al_6022, wp_ireturn, nl_i, nl_r, nl_k, nl_j, nl_l, nI_add, pk_mul, pk_sub, tl_s, tl_n, aL_inl, u2_same, u2_ab, u2_aq, nI_l, lN_i, Nat.add_zero, Nat.zero_add, Nat.zero_le, true_and, and_true, b2n_10, b2n_T, b2n_F, b2n_0, Decidable.not_not, not_true_eq_false, not_false_eq_true, Nat.reduceAdd, Nat.reduceMul, Nat.reduceSub, h29, oI_n, qe_n1, qe_m1, qn_n1, qn_m1, qe_n2, qe_m2, qn_n2, qn_m2]
      exact ih1 _ _
    | some g =>
      rw [hbs] at ih1 h29
      dsimp only at ih1
      have hg : g < D 0 * D 1 := bsd_lt (by have := hd.2.2.1; omega) hf hbs
      have hg36 : g < 36 := by omega
      obtain ⟨r1, r2, r3⟩ := hw.1 g hg36
      have ht26 := fun Q => t_26 (ko := ko) (d := d) (D := D) (N := N) (I := I) (J := J) (x := x) (Q := Q) (r := 89) (f := g) (Or.inl rfl) (by omega) r2
      by_cases hwl : N 89 (36 + g) = 1
      · rw [if_pos hwl] at ih1
        simp (disch := (first | omega | exact aCat_8 (by with_unfolding_all rfl) | exact rk_lt (by with_unfolding_all rfl) | exact aCat_16 (by with_unfolding_all rfl) | exact rk_eq (by with_unfolding_all rfl) | assumption | exact b2n_lt _ | exact id_b (by with_unfolding_all rfl) | (simp (disch := omega) only [u2_same, u2_ab, u2_aq]; done) | (simp (disch := omega) only [u2_same, u2_ab, u2_aq]; omega) | fail)) only [al_6016, wk_m1, wp_istore_5, wk_0, wp_istore_6, wp_istore_7, wp_jsr, wp_iload_7, wk_3, wn_ge_t, wn_ge_f, wp_aloadr_0, wp_aloadk_0, wp_iload_1, wc_29, wp_istore_8, wp_iload_8, wz_lt_t, wz_lt_f, wm_lt_1, wm_lt_2, hg_86_8, ha_89l, ha_89s, wc_26, wz_ne_t, wz_ne_f, wb_ne_t, wb_ne_f, wm_ne_1, wm_ne_2, wp_iload_2, wp_imul, wp_iload_3, wz_le_t, wz_le_f, wm_le_1, wm_le_2, wk_1, wp_goto, al_6018, al_6019, wc_17, t_17, wp_iadd, wp_iload_4, wk_72, wp_isub, wp_istore_9, wp_iload_5, wp_iload_9, wp_iload_6, al_6020, al_6021, wp_iinc_7_1, al_6022, wp_ireturn, nl_i, nl_r, nl_k, nl_j, nl_l, nI_add, pk_mul, pk_sub, tl_s, tl_n, aL_inl, u2_same, u2_ab, u2_aq, nI_l, lN_i, Nat.add_zero, Nat.zero_add, Nat.zero_le, true_and, and_true, b2n_10, b2n_T, b2n_F, b2n_0, Decidable.not_not, not_true_eq_false, not_false_eq_true, Nat.reduceAdd, Nat.reduceMul, Nat.reduceSub, h29, oI_s, ht26, b2n_t hwl, qe_n1, qe_m1, qn_n1, qn_m1, qe_n2, qe_m2, qn_n2, qn_m2]
        exact ih1 _ _
      · rw [if_neg hwl] at ih1
        have m1 : a * N 89 g ≤ 3 * 9 := Nat.mul_le_mul ha r1
        have m2 : c * N 89 (72 + g) ≤ 3 * 1 := Nat.mul_le_mul hc r3
        cases hq : gbw (D 0) (D 1) (N 89) a b c f w with
        | none =>
          rw [hq] at ih1
          dsimp only at ih1
          have e1 : gbI none = -1 := rfl
          have e2 : gbV none = nI 0 := rfl
          have e3 : ∀ l, gbI (some (w, l)) = nI w := fun _ => rfl
          have e4 : ∀ l, gbV (some (w, l)) = l := fun _ => rfl
          rw [e3, e4] at ih1
          unfold lwV at ih1
          rw [e1, e2]
          by_cases hw0 : w = 0
          · subst hw0
            rw [if_pos rfl] at ih1
            simp (disch := (first | omega | exact aCat_8 (by with_unfolding_all rfl) | exact rk_lt (by with_unfolding_all rfl) | exact aCat_16 (by with_unfolding_all rfl) | exact rk_eq (by with_unfolding_all rfl) | assumption | exact b2n_lt _ | exact id_b (by with_unfolding_all rfl) | (simp (disch := omega) only [u2_same, u2_ab, u2_aq]; done) | (simp (disch := omega) only [u2_same, u2_ab, u2_aq]; omega) | fail)) only [al_6016, wk_m1, wp_istore_5, wk_0, wp_istore_6, wp_istore_7, wp_jsr, wp_iload_7, wk_3, wn_ge_t, wn_ge_f, wp_aloadr_0, wp_aloadk_0, wp_iload_1, wc_29, wp_istore_8, wp_iload_8, wz_lt_t, wz_lt_f, wm_lt_1, wm_lt_2, hg_86_8, ha_89l, ha_89s, wc_26, wz_ne_t, wz_ne_f, wb_ne_t, wb_ne_f, wm_ne_1, wm_ne_2, wp_iload_2, wp_imul, wp_iload_3, wz_le_t, wz_le_f, wm_le_1, wm_le_2, wk_1, wp_goto, al_6018, al_6019, wc_17, t_17, wp_iadd, wp_iload_4, wk_72, wp_isub, wp_istore_9, wp_iload_5, wp_iload_9, wp_iload_6, al_6020, al_6021, wp_iinc_7_1, al_6022, wp_ireturn, nl_i, nl_r, nl_k, nl_j, nl_l, nI_add, pk_mul, pk_sub, tl_s, tl_n, aL_inl, u2_same, u2_ab, u2_aq, nI_l, lN_i, Nat.add_zero, Nat.zero_add, Nat.zero_le, true_and, and_true, b2n_10, b2n_T, b2n_F, b2n_0, Decidable.not_not, not_true_eq_false, not_false_eq_true, Nat.reduceAdd, Nat.reduceMul, Nat.reduceSub, h29, oI_s, ht26, b2n_f hwl, qe_n1, qe_m1, qn_n1, qn_m1, qe_n2, qe_m2, qn_n2, qn_m2, Nat.mul_zero, Nat.mul_one]
            exact ih1 _ _
          · rw [if_neg hw0] at ih1
            simp (disch := (first | omega | exact aCat_8 (by with_unfolding_all rfl) | exact rk_lt (by with_unfolding_all rfl) | exact aCat_16 (by with_unfolding_all rfl) | exact rk_eq (by with_unfolding_all rfl) | assumption | exact b2n_lt _ | exact id_b (by with_unfolding_all rfl) | (simp (disch := omega) only [u2_same, u2_ab, u2_aq]; done) | (simp (disch := omega) only [u2_same, u2_ab, u2_aq]; omega) | fail)) only [al_6016, wk_m1, wp_istore_5, wk_0, wp_istore_6, wp_istore_7, wp_jsr, wp_iload_7, wk_3, wn_ge_t, wn_ge_f, wp_aloadr_0, wp_aloadk_0, wp_iload_1, wc_29, wp_istore_8, wp_iload_8, wz_lt_t, wz_lt_f, wm_lt_1, wm_lt_2, hg_86_8, ha_89l, ha_89s, wc_26, wz_ne_t, wz_ne_f, wb_ne_t, wb_ne_f, wm_ne_1, wm_ne_2, wp_iload_2, wp_imul, wp_iload_3, wz_le_t, wz_le_f, wm_le_1, wm_le_2, wk_1, wp_goto, al_6018, al_6019, wc_17, t_17, wp_iadd, wp_iload_4, wk_72, wp_isub, wp_istore_9, wp_iload_5, wp_iload_9, wp_iload_6, al_6020, al_6021, wp_iinc_7_1, al_6022, wp_ireturn, nl_i, nl_r, nl_k, nl_j, nl_l, nI_add, pk_mul, pk_sub, tl_s, tl_n, aL_inl, u2_same, u2_ab, u2_aq, nI_l, lN_i, Nat.add_zero, Nat.zero_add, Nat.zero_le, true_and, and_true, b2n_10, b2n_T, b2n_F, b2n_0, Decidable.not_not, not_true_eq_false, not_false_eq_true, Nat.reduceAdd, Nat.reduceMul, Nat.reduceSub, h29, oI_s, ht26, b2n_f hwl, qe_n1, qe_m1, qn_n1, qn_m1, qe_n2, qe_m2, qn_n2, qn_m2, Nat.mul_zero, Nat.mul_one]
            exact ih1 _ _
        | some p =>
          obtain ⟨u, l⟩ := p
          have hu := gbw_lt w u l hq
          rw [hq] at ih1
          dsimp only at ih1
          have e1 : gbI (some (u, l)) = nI u := rfl
          have e2 : gbV (some (u, l)) = l := rfl
          have hw0 : ¬ w = 0 := by omega
          have ev : lwV (N 89) a b c g w = nI (a * N 89 g + b) - nI (c * N 89 (72 + g)) := by
            unfold lwV
            rw [if_neg hw0]
          rw [ev] at ih1
          rw [e1, e2]
          by_cases hlt : nI (a * N 89 g + b) - nI (c * N 89 (72 + g)) < l
          · rw [if_pos hlt] at ih1
            have e3 : ∀ l, gbI (some (w, l)) = nI w := fun _ => rfl
            have e4 : ∀ l, gbV (some (w, l)) = l := fun _ => rfl
            rw [e3, e4] at ih1
            have hng : ¬ l ≤ nI (a * N 89 g + b) - nI (c * N 89 (72 + g)) := fun z => (Int32.not_lt.mpr z) hlt
            simp (disch := (first | omega | exact aCat_8 (by with_unfolding_all rfl) | exact rk_lt (by with_unfolding_all rfl) | exact aCat_16 (by with_unfolding_all rfl) | exact rk_eq (by with_unfolding_all rfl) | assumption | exact b2n_lt _ | exact id_b (by with_unfolding_all rfl) | (simp (disch := omega) only [u2_same, u2_ab, u2_aq]; done) | (simp (disch := omega) only [u2_same, u2_ab, u2_aq]; omega) | fail)) only [al_6016, wk_m1, wp_istore_5, wk_0, wp_istore_6, wp_istore_7, wp_jsr, wp_iload_7, wk_3, wn_ge_t, wn_ge_f, wp_aloadr_0, wp_aloadk_0, wp_iload_1, wc_29, wp_istore_8, wp_iload_8, wz_lt_t, wz_lt_f, wm_lt_1, wm_lt_2, hg_86_8, ha_89l, ha_89s, wc_26, wz_ne_t, wz_ne_f, wb_ne_t, wb_ne_f, wm_ne_1, wm_ne_2, wp_iload_2, wp_imul, wp_iload_3, wz_le_t, wz_le_f, wm_le_1, wm_le_2, wk_1, wp_goto, al_6018, al_6019, wc_17, t_17, wp_iadd, wp_iload_4, wk_72, wp_isub, wp_istore_9, wp_iload_5, wp_iload_9, wp_iload_6, al_6020, al_6021, wp_iinc_7_1, al_6022, wp_ireturn, nl_i, nl_r, nl_k, nl_j, nl_l, nI_add, pk_mul, pk_sub, tl_s, tl_n, aL_inl, u2_same, u2_ab, u2_aq, nI_l, lN_i, Nat.add_zero, Nat.zero_add, Nat.zero_le, true_and, and_true, b2n_10, b2n_T, b2n_F, b2n_0, Decidable.not_not, not_true_eq_false, not_false_eq_true, Nat.reduceAdd, Nat.reduceMul, Nat.reduceSub, h29, oI_s, ht26, b2n_f hwl, wx_ge_f hng, qe_n1, qe_m1, qn_n1, qn_m1, qe_n2, qe_m2, qn_n2, qn_m2, Nat.mul_zero, Nat.mul_one]
            exact ih1 _ _
          · rw [if_neg hlt] at ih1
            rw [e1, e2] at ih1
            have hge : l ≤ nI (a * N 89 g + b) - nI (c * N 89 (72 + g)) := Int32.not_lt.mp hlt
            simp (disch := (first | omega | exact aCat_8 (by with_unfolding_all rfl) | exact rk_lt (by with_unfolding_all rfl) | exact aCat_16 (by with_unfolding_all rfl) | exact rk_eq (by with_unfolding_all rfl) | assumption | exact b2n_lt _ | exact id_b (by with_unfolding_all rfl) | (simp (disch := omega) only [u2_same, u2_ab, u2_aq]; done) | (simp (disch := omega) only [u2_same, u2_ab, u2_aq]; omega) | fail)) only [al_6016, wk_m1, wp_istore_5, wk_0, wp_istore_6, wp_istore_7, wp_jsr, wp_iload_7, wk_3, wn_ge_t, wn_ge_f, wp_aloadr_0, wp_aloadk_0, wp_iload_1, wc_29, wp_istore_8, wp_iload_8, wz_lt_t, wz_lt_f, wm_lt_1, wm_lt_2, hg_86_8, ha_89l, ha_89s, wc_26, wz_ne_t, wz_ne_f, wb_ne_t, wb_ne_f, wm_ne_1, wm_ne_2, wp_iload_2, wp_imul, wp_iload_3, wz_le_t, wz_le_f, wm_le_1, wm_le_2, wk_1, wp_goto, al_6018, al_6019, wc_17, t_17, wp_iadd, wp_iload_4, wk_72, wp_isub, wp_istore_9, wp_iload_5, wp_iload_9, wp_iload_6, al_6020, al_6021, wp_iinc_7_1, al_6022, wp_ireturn, nl_i, nl_r, nl_k, nl_j, nl_l, nI_add, pk_mul, pk_sub, tl_s, tl_n, aL_inl, u2_same, u2_ab, u2_aq, nI_l, lN_i, Nat.add_zero, Nat.zero_add, Nat.zero_le, true_and, and_true, b2n_10, b2n_T, b2n_F, b2n_0, Decidable.not_not, not_true_eq_false, not_false_eq_true, Nat.reduceAdd, Nat.reduceMul, Nat.reduceSub, h29, oI_s, ht26, b2n_f hwl, wx_ge_t hge, qe_n1, qe_m1, qn_n1, qn_m1, qe_n2, qe_m2, qn_n2, qn_m2, Nat.mul_zero, Nat.mul_one]
            exact ih1 _ _
theorem t_94 {a b c f : Nat} (hd : dmO D) (hw : rwO (D 1) (N 89)) (ha : a ≤ 3) (hb : b ≤ 3) (hc : c ≤ 3) (hf : f < D 0 * D 1) : aMm ko d 94 [.ref 86, .int (nI f), .int (nI a), .int (nI b), .int (nI c)] (hp D N I J x) Q = Q (some (.int (gbI (gbw (D 0) (D 1) (N 89) a b c f 3)))) (hp D N I J x) := by
  have hx := fun w8 w9 => l_94 (ko := ko) (d := d) (I := I) (J := J) (x := x) (Q := Q) hd hw ha hb hc hf 3 0 w8 w9 rfl
  rw [me_94]
  simp (disch := (first | omega | exact aCat_8 (by with_unfolding_all rfl) | exact rk_lt (by with_unfolding_all rfl) | exact aCat_16 (by with_unfolding_all rfl) | exact rk_eq (by with_unfolding_all rfl) | assumption | exact b2n_lt _ | exact id_b (by with_unfolding_all rfl) | (simp (disch := omega) only [u2_same, u2_ab, u2_aq]; done) | (simp (disch := omega) only [u2_same, u2_ab, u2_aq]; omega) | fail)) only [al_6016, wk_m1, wp_istore_5, wk_0, wp_istore_6, wp_istore_7, wp_jsr, wp_iload_7, wk_3, wn_ge_t, wn_ge_f, wp_aloadr_0, wp_aloadk_0, wp_iload_1, wc_29, wp_istore_8, wp_iload_8, wz_lt_t, wz_lt_f, wm_lt_1, wm_lt_2, hg_86_8, ha_89l, ha_89s, wc_26, wz_ne_t, wz_ne_f, wb_ne_t, wb_ne_f, wm_ne_1, wm_ne_2, wp_iload_2, wp_imul, wp_iload_3, wz_le_t, wz_le_f, wm_le_1, wm_le_2, wk_1, wp_goto, al_6018, al_6019, wc_17, t_17, wp_iadd, wp_iload_4, wk_72, wp_isub, wp_istore_9, wp_iload_5, wp_iload_9, wp_iload_6, al_6020, al_6021, wp_iinc_7_1, al_6022, wp_ireturn, nl_i, nl_r, nl_k, nl_j, nl_l, nI_add, pk_mul, pk_sub, tl_s, tl_n, aL_inl, u2_same, u2_ab, u2_aq, nI_l, lN_i, Nat.add_zero, Nat.zero_add, Nat.zero_le, true_and, and_true, b2n_10, b2n_T, b2n_F, b2n_0, Decidable.not_not, not_true_eq_false, not_false_eq_true, Nat.reduceAdd, Nat.reduceMul, Nat.reduceSub]
  exact hx _ _
/-- whether a law fits the k-th mark -/
def mkB (D : Nat → Nat) (N : Nat → Nat → Nat) (q k : Nat) : Bool := decide (gbI (gbw (D 0) (D 1) (N 89) (q / 16) (q / 4 % 4) (q % 4) (N 118 k) 3) = nI (N 119 k))
def amT (D : Nat → Nat) (N : Nat → Nat → Nat) (q : Nat) : Nat → Bool
  | 0 => true
  | k + 1 => amT D N q k && mkB D N q k
def amB (D : Nat → Nat) (N : Nat → Nat → Nat) (q : Nat) : Bool := amT D N q (N 86 51)
theorem am_f {D : Nat → Nat} {N : Nat → Nat → Nat} {q k : Nat} (h : amT D N q k = false) : ∀ j, amT D N q (k + j) = false
  | 0 => h
  | j + 1 => by
    show (amT D N q (k + j) && _) = false
    rw [am_f h j]
    rfl
theorem l_208 {N0 : Nat → Nat → Nat} {I0 : Nat → Nat → Int32} {J0 : Nat → Nat → Int64} {q : Nat} (h : invB D N0 I0 J0 t) (hr : sN N N0) (hI : sI I I0) (hJ : sJ J J0) (hq : q < 64) :
    ∀ (j k : Nat), k + j = N0 86 51 → amT D N0 q k = true → aWp ko d 208 (aP.1 (Int.toNat 13313)) [.ref 0, .int (nI (q / 16)), .int (nI (q / 4 % 4)), .int (nI (q % 4)), .int (nI k)] [] (hp D N I J x) (aL Q) = Q (some (.int (nI (b2n (amB D N0 q = true))))) (hp D N I J x) := by
  obtain ⟨m1, m2, m3⟩ := h.2.2.2.2.2.2.2.2.1
  have h1 := invB_c h (Nat.le_refl t) hr hI hJ
  have e69 : N 69 3 = N0 86 51 := (hr 69 3 rfl).trans m1
  have e89 := sN_89 hr
  have hA := inv_rv h1
  have hF := dm_F h.1.1
  intro j
  induction j with
  | zero =>
    intro k hj ha
    have e : k = N0 86 51 := by omega
    have hb : amB D N0 q = true := by
      unfold amB
      rw [← e]
      exact ha
    rw [b2n_t hb, al_13313]
    simp (disch := (first | omega | exact aCat_8 (by with_unfolding_all rfl) | exact rk_lt (by with_unfolding_all rfl) | exact aCat_16 (by with_unfolding_all rfl) | exact rk_eq (by with_unfolding_all rfl) | assumption | exact b2n_lt _ | exact id_b (by with_unfolding_all rfl) | (simp (disch := omega) only [u2_same, u2_ab, u2_aq]; done) | (simp (disch := omega) only [u2_same, u2_ab, u2_aq]; omega) | fail)) only [al_13312, wk_0, wp_istore_4, wp_jsr, wp_iload_4, wp_aloadr_0, wp_aloadk_0, hg_0_15, hg_65_3, hg_69_3, wn_ge_t, wn_ge_f, hg_65_1, ha_67l, ha_67s, hg_69_1, ha_71l, ha_71s, wp_iload_1, wp_iload_2, wp_iload_3, wc_209, hg_65_2, ha_68l, ha_68s, hg_69_2, ha_72l, ha_72s, wn_eq_t, wn_eq_f, wp_freturn0, wp_freturn1, wp_freturnb, al_13314, wp_iinc_4_1, wp_goto, al_13315, wk_1, nl_i, nl_r, nl_k, nl_j, nl_l, nI_add, pk_mul, pk_sub, tl_s, tl_n, aL_inl, u2_same, u2_ab, u2_aq, nI_l, lN_i, Nat.add_zero, Nat.zero_add, Nat.zero_le, true_and, and_true, b2n_10, b2n_T, b2n_F, b2n_0, Decidable.not_not, not_true_eq_false, not_false_eq_true, Nat.reduceAdd, Nat.reduceMul, Nat.reduceSub, e69]
  | succ j ih =>
    intro k hj ha
    obtain ⟨s1, s2, s3, s4⟩ := m3 k (by omega)
    have e71 : N 71 k = N0 118 k := (hr 71 k rfl).trans s1
    have e72 : N 72 k = N0 119 k := (hr 72 k rfl).trans s2
    have ht := fun Q => t_209 (ko := ko) (d := d) (x := x) (Q := Q) (a := q / 16) (b := q / 4 % 4) (c := q % 4) (f := N0 118 k) h1.1.2.2.2 hA.2.1 hA.2.2.1 (by omega) (by omega) (by omega) (by rw [h.1.2.1, h.1.2.2.1]; omega)
    rw [h.1.2.1, h.1.2.2.1, e89] at ht
    rw [al_13313]
    by_cases z : gbI (gbw (D 0) (D 1) (N0 89) (q / 16) (q / 4 % 4) (q % 4) (N0 118 k) 3) = nI (N0 119 k)
    · simp (disch := (first | omega | exact aCat_8 (by with_unfolding_all rfl) | exact rk_lt (by with_unfolding_all rfl) | exact aCat_16 (by with_unfolding_all rfl) | exact rk_eq (by with_unfolding_all rfl) | assumption | exact b2n_lt _ | exact id_b (by with_unfolding_all rfl) | (simp (disch := omega) only [u2_same, u2_ab, u2_aq]; done) | (simp (disch := omega) only [u2_same, u2_ab, u2_aq]; omega) | fail)) only [al_13312, wk_0, wp_istore_4, wp_jsr, wp_iload_4, wp_aloadr_0, wp_aloadk_0, hg_0_15, hg_65_3, hg_69_3, wn_ge_t, wn_ge_f, hg_65_1, ha_67l, ha_67s, hg_69_1, ha_71l, ha_71s, wp_iload_1, wp_iload_2, wp_iload_3, wc_209, hg_65_2, ha_68l, ha_68s, hg_69_2, ha_72l, ha_72s, wn_eq_t, wn_eq_f, wp_freturn0, wp_freturn1, wp_freturnb, al_13314, wp_iinc_4_1, wp_goto, al_13315, wk_1, nl_i, nl_r, nl_k, nl_j, nl_l, nI_add, pk_mul, pk_sub, tl_s, tl_n, aL_inl, u2_same, u2_ab, u2_aq, nI_l, lN_i, Nat.add_zero, Nat.zero_add, Nat.zero_le, true_and, and_true, b2n_10, b2n_T, b2n_F, b2n_0, Decidable.not_not, not_true_eq_false, not_false_eq_true, Nat.reduceAdd, Nat.reduceMul, Nat.reduceSub, e69, e71, e72, ht, wx_eq_t z]
      refine ih (k + 1) (by omega) ?_
      show (amT D N0 q k && mkB D N0 q k) = true
      rw [ha]
      unfold mkB
      rw [decide_eq_true z]
      rfl
    · have hf : amT D N0 q (k + 1) = false := by
        show (amT D N0 q k && mkB D N0 q k) = false
        unfold mkB
        rw [decide_eq_false z, Bool.and_false]
      have hb : ¬ amB D N0 q = true := by
        unfold amB
        have := am_f hf j
        rw [show k + 1 + j = N0 86 51 by omega] at this
        rw [this]
        decide
      rw [b2n_f hb]
      simp (disch := (first | omega | exact aCat_8 (by with_unfolding_all rfl) | exact rk_lt (by with_unfolding_all rfl) | exact aCat_16 (by with_unfolding_all rfl) | exact rk_eq (by with_unfolding_all rfl) | assumption | exact b2n_lt _ | exact id_b (by with_unfolding_all rfl) | (simp (disch := omega) only [u2_same, u2_ab, u2_aq]; done) | (simp (disch := omega) only [u2_same, u2_ab, u2_aq]; omega) | fail)) only [al_13312, wk_0, wp_istore_4, wp_jsr, wp_iload_4, wp_aloadr_0, wp_aloadk_0, hg_0_15, hg_65_3, hg_69_3, wn_ge_t, wn_ge_f, hg_65_1, ha_67l, ha_67s, hg_69_1, ha_71l, ha_71s, wp_iload_1, wp_iload_2, wp_iload_3, wc_209, hg_65_2, ha_68l, ha_68s, hg_69_2, ha_72l, ha_72s, wn_eq_t, wn_eq_f, wp_freturn0, wp_freturn1, wp_freturnb, al_13314, wp_iinc_4_1, wp_goto, al_13315, wk_1, nl_i, nl_r, nl_k, nl_j, nl_l, nI_add, pk_mul, pk_sub, tl_s, tl_n, aL_inl, u2_same, u2_ab, u2_aq, nI_l, lN_i, Nat.add_zero, Nat.zero_add, Nat.zero_le, true_and, and_true, b2n_10, b2n_T, b2n_F, b2n_0, Decidable.not_not, not_true_eq_false, not_false_eq_true, Nat.reduceAdd, Nat.reduceMul, Nat.reduceSub, e69, e71, e72, ht, wx_eq_f z]
theorem t_208 {N0 : Nat → Nat → Nat} {I0 : Nat → Nat → Int32} {J0 : Nat → Nat → Int64} {a b c : Nat} (h : invB D N0 I0 J0 t) (hr : sN N N0) (hI : sI I I0) (hJ : sJ J J0) (ha : a ≤ 3) (hb : b ≤ 3) (hc : c ≤ 3) : aMm ko d 208 [.ref 0, .int (nI a), .int (nI b), .int (nI c)] (hp D N I J x) Q = Q (some (.int (nI (b2n (amB D N0 (16 * a + (4 * b + c)) = true))))) (hp D N I J x) := by
  have hx := l_208 (ko := ko) (d := d) (x := x) (Q := Q) (q := 16 * a + (4 * b + c)) h hr hI hJ (by omega) (N0 86 51) 0 (by omega) rfl
  rw [show (16 * a + (4 * b + c)) / 16 = a by omega, show (16 * a + (4 * b + c)) / 4 % 4 = b by omega, show (16 * a + (4 * b + c)) % 4 = c by omega] at hx
  rw [me_208]
  simp (disch := (first | omega | exact aCat_8 (by with_unfolding_all rfl) | exact rk_lt (by with_unfolding_all rfl) | exact aCat_16 (by with_unfolding_all rfl) | exact rk_eq (by with_unfolding_all rfl) | assumption | exact b2n_lt _ | exact id_b (by with_unfolding_all rfl) | (simp (disch := omega) only [u2_same, u2_ab, u2_aq]; done) | (simp (disch := omega) only [u2_same, u2_ab, u2_aq]; omega) | fail)) only [al_13312, wk_0, wp_istore_4, wp_jsr, wp_iload_4, wp_aloadr_0, wp_aloadk_0, hg_0_15, hg_65_3, hg_69_3, wn_ge_t, wn_ge_f, hg_65_1, ha_67l, ha_67s, hg_69_1, ha_71l, ha_71s, wp_iload_1, wp_iload_2, wp_iload_3, wc_209, hg_65_2, ha_68l, ha_68s, hg_69_2, ha_72l, ha_72s, wn_eq_t, wn_eq_f, wp_freturn0, wp_freturn1, wp_freturnb, al_13314, wp_iinc_4_1, wp_goto, al_13315, wk_1, nl_i, nl_r, nl_k, nl_j, nl_l, nI_add, pk_mul, pk_sub, tl_s, tl_n, aL_inl, u2_same, u2_ab, u2_aq, nI_l, lN_i, Nat.add_zero, Nat.zero_add, Nat.zero_le, true_and, and_true, b2n_10, b2n_T, b2n_F, b2n_0, Decidable.not_not, not_true_eq_false, not_false_eq_true, Nat.reduceAdd, Nat.reduceMul, Nat.reduceSub]
  exact hx
end L2
