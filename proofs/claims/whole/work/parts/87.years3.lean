/-! years: the pair. From wip/whole/src. -/
section Y3
variable {ko : aKo} {d k : Nat} {is : List Instr} {ls st : List Value} {σ : aH} {D : Nat → Nat} {N : Nat → Nat → Nat} {I : Nat → Nat → Int32} {J : Nat → Nat → Int64} {x t : Nat} {Q : Option Value → aH → Prop} {P : (Option Value ⊕ Unit) → aH → Prop}
theorem th_i {N0 : Nat → Nat → Nat} {I0 : Nat → Nat → Int32} {S : Nat → Nat} {z : Int32} (hT : thO N0 N I0 I S) : thO N0 N I0 (u2 I 86 56 z) S := ⟨hT.1, hT.2.1, sI_u hT.2.2.1 rfl, hT.2.2.2⟩
theorem l_102 {N0 : Nat → Nat → Nat} {I0 : Nat → Nat → Int32} {J0 : Nat → Nat → Int64} {n : Nat} {z0 : Int32} (h : invB D N0 I0 J0 t) (ht : t + 300 < 1000000000) (hn : n ≤ 60)
    (hQ : ansR D N0 I0 J0 x (.int (nI (yrI D N0 (N0 89) z0 n).2.2)) 2 (fun i => if i = 0 then lN (sumR (yrI D N0 (N0 89) z0 n).1 (D 0 * D 1)) else lN ((yrI D N0 (N0 89) z0 n).1 110)) Q) :
    ∀ (j k : Nat) (N : Nat → Nat → Nat) (I : Nat → Nat → Int32) (w5 w6 : Value), k + j = n → thO N0 N I0 I (yrI D N0 (N0 89) z0 k).1 → I 86 56 = (yrI D N0 (N0 89) z0 k).2.1 → aWp ko d 102 (aP.1 (Int.toNat 6530)) [.ref 86, .int z0, .int (nI n), .int (nI (yrI D N0 (N0 89) z0 k).2.2), .int (nI k), w5, w6] [] (hp D N I J0 x) (aL Q) := by
  have hF := dm_F h.1.1
  intro j
  induction j with
  | zero =>
    intro k N I w5 w6 hk hT hI
    have e : k = n := by omega
    subst e
    obtain ⟨i1, i2⟩ := yr_ok (z := z0) h (inv_rwG h) k (by omega)
    generalize yrI D N0 (N0 89) z0 k = p at *
    have hsm := sum_lt i1.1 hF.1
    have h90 := hT.1
    have h110 := i1.1.2.2.1
    have hl110 : p.1 110 < 2147483648 := by omega
    have es : sumR (fun q => u2 N 86 1 0 90 (0 + q)) (D 0 * D 1) = sumR p.1 (D 0 * D 1) := sumR_congr _ (fun q _ => by rw [u2_ab (by decide), h90, Nat.zero_add])
    have t36 := fun Q => @t_36 ko d D (u2 N 86 1 0) I J0 x Q 90 0 (Or.inr rfl) hF.1 (by omega)
    rw [es] at t36
    simp (disch := (first | omega | exact aCat_8 (by with_unfolding_all rfl) | exact rk_lt (by with_unfolding_all rfl) | exact aCat_16 (by with_unfolding_all rfl) | exact rk_eq (by with_unfolding_all rfl) | assumption | exact b2n_lt _ | exact id_b (by with_unfolding_all rfl) | (simp (disch := omega) only [u2_same, u2_ab, u2_aq]; done) | (simp (disch := omega) only [u2_same, u2_ab, u2_aq]; omega) | fail)) only [al_6528, wp_aloadr_0, wp_aloadk_0, wk_0, hp_86_0, wp_iload_2, wp_i2l, wl_1, wl_60, wc_4, t_4, lN_le, wz_ne_t, wz_ne_f, wb_ne_t, wb_ne_f, wm_ne_1, wm_ne_2, wk_m1, wp_ireturn, al_6529, wp_iload_1, hp_86_56, wc_60, wp_istore_3, wp_istore_4, wp_jsr, al_6530, wp_iload_4, wn_ge_t, wn_ge_f, wk_4, wc_103, wp_istore_5, wp_iload_5, wk_2, wp_iload_3, hg_86_9, ha_90l, ha_90s, wk_1, wc_40, wp_iadd, wp_goto, al_6531, wc_10, t_10, wp_istore_6, wn_ne_t, wn_ne_f, wp_iload_6, wk_3, wc_46, wp_pop, al_6532, wc_51, al_6533, wp_iinc_4_1, al_6534, hp_86_1, wc_36, wc_43, t_43, wk_110, nl_i, nl_r, nl_k, nl_j, nl_l, nI_add, pk_mul, pk_sub, tl_s, tl_n, aL_inl, u2_same, u2_ab, u2_aq, nI_l, lN_i, Nat.add_zero, Nat.zero_add, Nat.zero_le, true_and, and_true, b2n_10, b2n_T, b2n_F, b2n_0, Decidable.not_not, not_true_eq_false, not_false_eq_true, Nat.reduceAdd, Nat.reduceMul, Nat.reduceSub, t36, h90]
    refine hQ _ _ _ ?_ hT.2.2.1 ?_ td2R
    · exact qN_u (qN_u (qN_u hT.2.1 rfl) rfl) rfl
    · exact qJ_u (qJ_u qJ_r rfl) rfl
  | succ j ih =>
    intro k N I w5 w6 hk hT hI
    obtain ⟨i1, i2⟩ := yr_ok (z := z0) h (inv_rwG h) k (by omega)
    have ih1 := fun N I w5 w6 => ih (k + 1) N I w5 w6 (by omega)
    simp only [yrI_s] at ih1
    generalize yrI D N0 (N0 89) z0 k = p at i1 i2 hT hI ih1 ⊢
    have hc2 : p.2.2 < 2147483648 := by omega
    have hkn : k < n := by omega
    have ta : ∀ (Q : Option Value → aH → Prop), aMm ko d 103 [.ref 86, .int (nI 4)] (hp D N I J0 x) Q = Q (some (.int (nI (uSh (drw p.2.1) % 4)))) (hp D N (u2 I 86 56 (drw p.2.1)) J0 x) := fun Q => by rw [t_103 (by decide) (by decide), hI]
    have tb : ∀ (z : Int32) (Q : Option Value → aH → Prop), aMm ko d 103 [.ref 86, .int (nI (D 0 * D 1))] (hp D N (u2 I 86 56 z) J0 x) Q = Q (some (.int (nI (uSh (drw z) % (D 0 * D 1))))) (hp D N (u2 (u2 I 86 56 z) 86 56 (drw z)) J0 x) := fun z Q => by rw [t_103 (by omega) (by omega), u2_same]
    have tc : ∀ (I : Nat → Nat → Int32) (z : Int32) (Q : Option Value → aH → Prop), aMm ko d 103 [.ref 86, .int (nI 3)] (hp D N (u2 I 86 56 z) J0 x) Q = Q (some (.int (nI (uSh (drw z) % 3)))) (hp D N (u2 (u2 I 86 56 z) 86 56 (drw z)) J0 x) := fun I z Q => by rw [t_103 (by decide) (by decide), u2_same]
    have hm : ∀ z, uSh z % (D 0 * D 1) < D 0 * D 1 := fun z => mod_F h
    rw [al_6530]
    by_cases h1 : uSh (drw p.2.1) % 4 < 2
    · simp only [yrA_t h1, p3_1, p3_2, p3_3] at ih1
      clear tb tc
      generalize drw p.2.1 = z1 at *
      simp (disch := (first | omega | exact aCat_8 (by with_unfolding_all rfl) | exact rk_lt (by with_unfolding_all rfl) | exact aCat_16 (by with_unfolding_all rfl) | exact rk_eq (by with_unfolding_all rfl) | assumption | exact b2n_lt _ | exact id_b (by with_unfolding_all rfl) | (simp (disch := omega) only [u2_same, u2_ab, u2_aq]; done) | (simp (disch := omega) only [u2_same, u2_ab, u2_aq]; omega) | fail)) only [al_6528, wp_aloadr_0, wp_aloadk_0, wk_0, hp_86_0, wp_iload_2, wp_i2l, wl_1, wl_60, wc_4, t_4, lN_le, wz_ne_t, wz_ne_f, wb_ne_t, wb_ne_f, wm_ne_1, wm_ne_2, wk_m1, wp_ireturn, al_6529, wp_iload_1, hp_86_56, wc_60, wp_istore_3, wp_istore_4, wp_jsr, wp_iload_4, wn_ge_t, wn_ge_f, wk_4, wc_103, wp_istore_5, wp_iload_5, wk_2, wp_iload_3, hg_86_9, ha_90l, ha_90s, wk_1, wc_40, wp_iadd, wp_goto, al_6531, wc_10, t_10, wp_istore_6, wn_ne_t, wn_ne_f, wp_iload_6, wk_3, wc_46, wp_pop, al_6532, wc_51, al_6533, wp_iinc_4_1, al_6534, hp_86_1, wc_36, wc_43, t_43, wk_110, nl_i, nl_r, nl_k, nl_j, nl_l, nI_add, pk_mul, pk_sub, tl_s, tl_n, aL_inl, u2_same, u2_ab, u2_aq, nI_l, lN_i, Nat.add_zero, Nat.zero_add, Nat.zero_le, true_and, and_true, b2n_10, b2n_T, b2n_F, b2n_0, Decidable.not_not, not_true_eq_false, not_false_eq_true, Nat.reduceAdd, Nat.reduceMul, Nat.reduceSub, ta]
      refine th_g h i1 (by omega) (th_i hT) ?_
      intro N' I' hT' hI'
      have := cmS_le (D := D) (N := N0) (S := p.1) 1
      rw [u2_same] at hI'
      simp (disch := (first | omega | exact aCat_8 (by with_unfolding_all rfl) | exact rk_lt (by with_unfolding_all rfl) | exact aCat_16 (by with_unfolding_all rfl) | exact rk_eq (by with_unfolding_all rfl) | assumption | exact b2n_lt _ | exact id_b (by with_unfolding_all rfl) | (simp (disch := omega) only [u2_same, u2_ab, u2_aq]; done) | (simp (disch := omega) only [u2_same, u2_ab, u2_aq]; omega) | fail)) only [al_6528, wp_aloadr_0, wp_aloadk_0, wk_0, hp_86_0, wp_iload_2, wp_i2l, wl_1, wl_60, wc_4, t_4, lN_le, wz_ne_t, wz_ne_f, wb_ne_t, wb_ne_f, wm_ne_1, wm_ne_2, wk_m1, wp_ireturn, al_6529, wp_iload_1, hp_86_56, wc_60, wp_istore_3, wp_istore_4, wp_jsr, wp_iload_4, wn_ge_t, wn_ge_f, wk_4, wc_103, wp_istore_5, wp_iload_5, wk_2, wp_iload_3, hg_86_9, ha_90l, ha_90s, wk_1, wc_40, wp_iadd, wp_goto, al_6531, wc_10, t_10, wp_istore_6, wn_ne_t, wn_ne_f, wp_iload_6, wk_3, wc_46, wp_pop, al_6532, wc_51, al_6533, wp_iinc_4_1, al_6534, hp_86_1, wc_36, wc_43, t_43, wk_110, nl_i, nl_r, nl_k, nl_j, nl_l, nI_add, pk_mul, pk_sub, tl_s, tl_n, aL_inl, u2_same, u2_ab, u2_aq, nI_l, lN_i, Nat.add_zero, Nat.zero_add, Nat.zero_le, true_and, and_true, b2n_10, b2n_T, b2n_F, b2n_0, Decidable.not_not, not_true_eq_false, not_false_eq_true, Nat.reduceAdd, Nat.reduceMul, Nat.reduceSub]
      exact ih1 N' I' _ _ hT' hI'
    · by_cases h2 : uSh (drw p.2.1) % 4 = 2
      · simp only [yrA_c h2, p3_1, p3_2, p3_3] at ih1
        have tb' := tb (drw p.2.1)
        have tc' := fun I => tc I (drw (drw p.2.1))
        clear tb tc
        generalize drw p.2.1 = z1 at *
        generalize drw z1 = z2 at *
        generalize drw z2 = z3 at *
        have hf := hm z2
        have hn1 : uSh z3 % 3 < 3 := Nat.mod_lt _ (by decide)
        have e1 : 1 + uSh z3 % 3 = uSh z3 % 3 + 1 := Nat.add_comm _ _
        simp (disch := (first | omega | exact aCat_8 (by with_unfolding_all rfl) | exact rk_lt (by with_unfolding_all rfl) | exact aCat_16 (by with_unfolding_all rfl) | exact rk_eq (by with_unfolding_all rfl) | assumption | exact b2n_lt _ | exact id_b (by with_unfolding_all rfl) | (simp (disch := omega) only [u2_same, u2_ab, u2_aq]; done) | (simp (disch := omega) only [u2_same, u2_ab, u2_aq]; omega) | fail)) only [al_6528, wp_aloadr_0, wp_aloadk_0, wk_0, hp_86_0, wp_iload_2, wp_i2l, wl_1, wl_60, wc_4, t_4, lN_le, wz_ne_t, wz_ne_f, wb_ne_t, wb_ne_f, wm_ne_1, wm_ne_2, wk_m1, wp_ireturn, al_6529, wp_iload_1, hp_86_56, wc_60, wp_istore_3, wp_istore_4, wp_jsr, wp_iload_4, wn_ge_t, wn_ge_f, wk_4, wc_103, wp_istore_5, wp_iload_5, wk_2, wp_iload_3, hg_86_9, ha_90l, ha_90s, wk_1, wc_40, wp_iadd, wp_goto, al_6531, wc_10, t_10, wp_istore_6, wn_ne_t, wn_ne_f, wp_iload_6, wk_3, wc_46, wp_pop, al_6532, wc_51, al_6533, wp_iinc_4_1, al_6534, hp_86_1, wc_36, wc_43, t_43, wk_110, nl_i, nl_r, nl_k, nl_j, nl_l, nI_add, pk_mul, pk_sub, tl_s, tl_n, aL_inl, u2_same, u2_ab, u2_aq, nI_l, lN_i, Nat.add_zero, Nat.zero_add, Nat.zero_le, true_and, and_true, b2n_10, b2n_T, b2n_F, b2n_0, Decidable.not_not, not_true_eq_false, not_false_eq_true, Nat.reduceAdd, Nat.reduceMul, Nat.reduceSub, ta, tb', tc', h2, e1]
        refine th_cut h i1 hf (by omega) (by omega) (th_i (th_i (th_i hT))) ?_
        intro v N' hT'
        simp (disch := (first | omega | exact aCat_8 (by with_unfolding_all rfl) | exact rk_lt (by with_unfolding_all rfl) | exact aCat_16 (by with_unfolding_all rfl) | exact rk_eq (by with_unfolding_all rfl) | assumption | exact b2n_lt _ | exact id_b (by with_unfolding_all rfl) | (simp (disch := omega) only [u2_same, u2_ab, u2_aq]; done) | (simp (disch := omega) only [u2_same, u2_ab, u2_aq]; omega) | fail)) only [al_6528, wp_aloadr_0, wp_aloadk_0, wk_0, hp_86_0, wp_iload_2, wp_i2l, wl_1, wl_60, wc_4, t_4, lN_le, wz_ne_t, wz_ne_f, wb_ne_t, wb_ne_f, wm_ne_1, wm_ne_2, wk_m1, wp_ireturn, al_6529, wp_iload_1, hp_86_56, wc_60, wp_istore_3, wp_istore_4, wp_jsr, wp_iload_4, wn_ge_t, wn_ge_f, wk_4, wc_103, wp_istore_5, wp_iload_5, wk_2, wp_iload_3, hg_86_9, ha_90l, ha_90s, wk_1, wc_40, wp_iadd, wp_goto, al_6531, wc_10, t_10, wp_istore_6, wn_ne_t, wn_ne_f, wp_iload_6, wk_3, wc_46, wp_pop, al_6532, wc_51, al_6533, wp_iinc_4_1, al_6534, hp_86_1, wc_36, wc_43, t_43, wk_110, nl_i, nl_r, nl_k, nl_j, nl_l, nI_add, pk_mul, pk_sub, tl_s, tl_n, aL_inl, u2_same, u2_ab, u2_aq, nI_l, lN_i, Nat.add_zero, Nat.zero_add, Nat.zero_le, true_and, and_true, b2n_10, b2n_T, b2n_F, b2n_0, Decidable.not_not, not_true_eq_false, not_false_eq_true, Nat.reduceAdd, Nat.reduceMul, Nat.reduceSub]
        exact ih1 N' _ _ _ hT' (u2_same _ _ _ _)
      · simp only [yrA_w h1 h2, p3_1, p3_2, p3_3] at ih1
        have tb' := tb (drw p.2.1)
        clear tb tc
        generalize drw p.2.1 = z1 at *
        generalize drw z1 = z2 at *
        have hf := hm z2
        simp (disch := (first | omega | exact aCat_8 (by with_unfolding_all rfl) | exact rk_lt (by with_unfolding_all rfl) | exact aCat_16 (by with_unfolding_all rfl) | exact rk_eq (by with_unfolding_all rfl) | assumption | exact b2n_lt _ | exact id_b (by with_unfolding_all rfl) | (simp (disch := omega) only [u2_same, u2_ab, u2_aq]; done) | (simp (disch := omega) only [u2_same, u2_ab, u2_aq]; omega) | fail)) only [al_6528, wp_aloadr_0, wp_aloadk_0, wk_0, hp_86_0, wp_iload_2, wp_i2l, wl_1, wl_60, wc_4, t_4, lN_le, wz_ne_t, wz_ne_f, wb_ne_t, wb_ne_f, wm_ne_1, wm_ne_2, wk_m1, wp_ireturn, al_6529, wp_iload_1, hp_86_56, wc_60, wp_istore_3, wp_istore_4, wp_jsr, wp_iload_4, wn_ge_t, wn_ge_f, wk_4, wc_103, wp_istore_5, wp_iload_5, wk_2, wp_iload_3, hg_86_9, ha_90l, ha_90s, wk_1, wc_40, wp_iadd, wp_goto, al_6531, wc_10, t_10, wp_istore_6, wn_ne_t, wn_ne_f, wp_iload_6, wk_3, wc_46, wp_pop, al_6532, wc_51, al_6533, wp_iinc_4_1, al_6534, hp_86_1, wc_36, wc_43, t_43, wk_110, nl_i, nl_r, nl_k, nl_j, nl_l, nI_add, pk_mul, pk_sub, tl_s, tl_n, aL_inl, u2_same, u2_ab, u2_aq, nI_l, lN_i, Nat.add_zero, Nat.zero_add, Nat.zero_le, true_and, and_true, b2n_10, b2n_T, b2n_F, b2n_0, Decidable.not_not, not_true_eq_false, not_false_eq_true, Nat.reduceAdd, Nat.reduceMul, Nat.reduceSub, ta, tb']
        refine th_wal h i1 hf (th_i (th_i hT)) ?_
        intro v N' hT'
        simp (disch := (first | omega | exact aCat_8 (by with_unfolding_all rfl) | exact rk_lt (by with_unfolding_all rfl) | exact aCat_16 (by with_unfolding_all rfl) | exact rk_eq (by with_unfolding_all rfl) | assumption | exact b2n_lt _ | exact id_b (by with_unfolding_all rfl) | (simp (disch := omega) only [u2_same, u2_ab, u2_aq]; done) | (simp (disch := omega) only [u2_same, u2_ab, u2_aq]; omega) | fail)) only [al_6528, wp_aloadr_0, wp_aloadk_0, wk_0, hp_86_0, wp_iload_2, wp_i2l, wl_1, wl_60, wc_4, t_4, lN_le, wz_ne_t, wz_ne_f, wb_ne_t, wb_ne_f, wm_ne_1, wm_ne_2, wk_m1, wp_ireturn, al_6529, wp_iload_1, hp_86_56, wc_60, wp_istore_3, wp_istore_4, wp_jsr, wp_iload_4, wn_ge_t, wn_ge_f, wk_4, wc_103, wp_istore_5, wp_iload_5, wk_2, wp_iload_3, hg_86_9, ha_90l, ha_90s, wk_1, wc_40, wp_iadd, wp_goto, al_6531, wc_10, t_10, wp_istore_6, wn_ne_t, wn_ne_f, wp_iload_6, wk_3, wc_46, wp_pop, al_6532, wc_51, al_6533, wp_iinc_4_1, al_6534, hp_86_1, wc_36, wc_43, t_43, wk_110, nl_i, nl_r, nl_k, nl_j, nl_l, nI_add, pk_mul, pk_sub, tl_s, tl_n, aL_inl, u2_same, u2_ab, u2_aq, nI_l, lN_i, Nat.add_zero, Nat.zero_add, Nat.zero_le, true_and, and_true, b2n_10, b2n_T, b2n_F, b2n_0, Decidable.not_not, not_true_eq_false, not_false_eq_true, Nat.reduceAdd, Nat.reduceMul, Nat.reduceSub]
        exact ih1 N' _ _ _ hT' (u2_same _ _ _ _)
theorem smR_yr {M N0 : Nat → Nat → Nat} {S : Nat → Nat} {z : Int32} (h : smR M N0) : ∀ k, yrI D M S z k = yrI D N0 S z k
  | 0 => rfl
  | k + 1 => by
    rw [yrI_s, yrI_s, smR_yr h k]
    unfold yrA
    rw [smR_it h, smR_cm h]
theorem o_years {a b : Int32} (h : inv D N I J t) (ht : t + 300 < 1000000000) : opO ko d 218 102 [.int a, .int b] D N I J x (t + 300) := by
  rcases rng3 b 1 (b := 60) (by decide) (by decide) with ⟨n, hn1, hn, rfl⟩ | hbad
  · refine op_ans (v := .int (nI (yrI D N (N 89) a n).2.2)) (m := 2) (f := fun i => if i = 0 then lN (sumR (yrI D N (N 89) a n).1 (D 0 * D 1)) else lN ((yrI D N (N 89) a n).1 110)) h (by decide) (by omega) ?_ ?_
    · intro Q hQ
      have hx := fun w6 w7 => l_218 (ko := ko) (d := d) (z0 := a) h.1 ht hn hQ n 0 (cpS N 24 20) I (cpJ J 24 20) w6 w7 (by omega) (dr_0 h.1)
      simp only [yrI_0, p3_2, p3_3] at hx
      rw [me_218]
      simp (disch := (first | omega | exact aCat_8 (by with_unfolding_all rfl) | exact rk_lt (by with_unfolding_all rfl) | exact aCat_16 (by with_unfolding_all rfl) | exact rk_eq (by with_unfolding_all rfl) | assumption | exact b2n_lt _ | exact id_b (by with_unfolding_all rfl) | (simp (disch := omega) only [u2_same, u2_ab, u2_aq]; done) | (simp (disch := omega) only [u2_same, u2_ab, u2_aq]; omega) | fail)) only [al_13952, wp_iload_2, wk_1, wn_lt_t, wn_lt_f, wk_60, wn_le_t, wn_le_f, wp_jsr, al_13953, wk_m1, wp_ireturn, al_13954, wp_aloadr_0, wp_aloadk_0, hg_0_9, hg_0_7, wp_iload_1, wp_istore_3, wk_0, wp_istore_4, wp_istore_5, wp_iload_5, wn_ge_t, wn_ge_f, wp_iload_3, wc_219, wk_4, wc_220, wp_istore_6, wp_iload_6, wk_2, wp_iload_4, hg_0_10, hg_0_4, wc_254, wp_iadd, wp_goto, al_13956, hg_0_2, hg_5_2, wp_istore_7, wn_ne_t, wn_ne_f, wp_iload_7, wk_3, wc_163, wp_pop, al_13957, wc_168, al_13958, wp_iinc_5_1, al_13959, hg_0_1, wc_292, t_292, wp_i2l, wc_293, t_293, hg_20_5, hg_22_5, hg_24_5, nl_i, nl_r, nl_k, nl_j, nl_l, nI_add, pk_mul, pk_sub, tl_s, tl_n, aL_inl, u2_same, u2_ab, u2_aq, nI_l, lN_i, Nat.add_zero, Nat.zero_add, Nat.zero_le, true_and, and_true, b2n_10, b2n_T, b2n_F, b2n_0, Decidable.not_not, not_true_eq_false, not_false_eq_true, Nat.reduceAdd, Nat.reduceMul, Nat.reduceSub, wc_283 (m := 24) rfl, t_283 (s := 24) (s' := 20) rfl rfl (by decide)]
      exact hx _ _
    · intro N1 I1 J1 h1 hN hI hJ Q hQ
      rw [← sN_89 hN, ← smR_yr (sN_sm hN)] at hQ
      have hz1 : ∀ q, 111 ≤ q → u2 N1 86 0 0 89 q = 0 := fun q hq => by rw [u2_ab (by decide)]; exact h1.2.2.2.2.1.1.2.2.2.2 q hq
      have hz2 : ∀ q, 111 ≤ q → u2 N1 86 0 0 90 q = 0 := fun q hq => by rw [u2_ab (by decide)]; exact h1.2.2.2.2.2.2.2.2.2 q hq
      have hT := th_i (z := a) (th_0 h1 (M := u2 N1 86 0 0) (qN_u qN_r rfl) (u2_aq (by decide)) hz1)
      have hx := fun w6 w7 => l_102 (ko := ko) (d := d) (z0 := a) h1 ht hn hQ n 0 (setRow (u2 N1 86 0 0) 90 (u2 N1 86 0 0 89)) (u2 I1 86 56 a) w6 w7 (by omega) hT (u2_same _ _ _ _)
      simp only [yrI_0, p3_2, p3_3] at hx
      have hin : lN 1 ≤ (nI n).toInt64 := by rw [← nI_l (by decide), wide_le, Int32.le_iff_toInt_le, nI_toInt (by omega), nI_toInt (by omega)]; omega
      rw [me_102]
      simp (disch := (first | omega | exact aCat_8 (by with_unfolding_all rfl) | exact rk_lt (by with_unfolding_all rfl) | exact aCat_16 (by with_unfolding_all rfl) | exact rk_eq (by with_unfolding_all rfl) | assumption | exact b2n_lt _ | exact id_b (by with_unfolding_all rfl) | (simp (disch := omega) only [u2_same, u2_ab, u2_aq]; done) | (simp (disch := omega) only [u2_same, u2_ab, u2_aq]; omega) | fail)) only [al_6528, wp_aloadr_0, wp_aloadk_0, wk_0, hp_86_0, wp_iload_2, wp_i2l, wl_1, wl_60, wc_4, t_4, lN_le, wz_ne_t, wz_ne_f, wb_ne_t, wb_ne_f, wm_ne_1, wm_ne_2, wk_m1, wp_ireturn, al_6529, wp_iload_1, hp_86_56, wc_60, wp_istore_3, wp_istore_4, wp_jsr, wp_iload_4, wn_ge_t, wn_ge_f, wk_4, wc_103, wp_istore_5, wp_iload_5, wk_2, wp_iload_3, hg_86_9, ha_90l, ha_90s, wk_1, wc_40, wp_iadd, wp_goto, al_6531, wc_10, t_10, wp_istore_6, wn_ne_t, wn_ne_f, wp_iload_6, wk_3, wc_46, wp_pop, al_6532, wc_51, al_6533, wp_iinc_4_1, al_6534, hp_86_1, wc_36, wc_43, t_43, wk_110, nl_i, nl_r, nl_k, nl_j, nl_l, nI_add, pk_mul, pk_sub, tl_s, tl_n, aL_inl, u2_same, u2_ab, u2_aq, nI_l, lN_i, Nat.add_zero, Nat.zero_add, Nat.zero_le, true_and, and_true, b2n_10, b2n_T, b2n_F, b2n_0, Decidable.not_not, not_true_eq_false, not_false_eq_true, Nat.reduceAdd, Nat.reduceMul, Nat.reduceSub, t_60 hz1 hz2, b2n_t (show 1 ≤ n ∧ n ≤ 60 from ⟨hn1, hn⟩)]
      exact hx _ _
  · refine op_q (v := .int (-1)) h ?_ ?_
    · intro Q
      rw [me_218]
      rcases hbad with hb | ⟨hb1, hb2⟩
      · simp (disch := (first | omega | exact aCat_8 (by with_unfolding_all rfl) | exact rk_lt (by with_unfolding_all rfl) | exact aCat_16 (by with_unfolding_all rfl) | exact rk_eq (by with_unfolding_all rfl) | assumption | exact b2n_lt _ | exact id_b (by with_unfolding_all rfl) | (simp (disch := omega) only [u2_same, u2_ab, u2_aq]; done) | (simp (disch := omega) only [u2_same, u2_ab, u2_aq]; omega) | fail)) only [al_13952, wp_iload_2, wk_1, wn_lt_t, wn_lt_f, wk_60, wn_le_t, wn_le_f, wp_jsr, al_13953, wk_m1, wp_ireturn, al_13954, wp_aloadr_0, wp_aloadk_0, hg_0_9, hg_0_7, wp_iload_1, wp_istore_3, wk_0, wp_istore_4, wp_istore_5, wp_iload_5, wn_ge_t, wn_ge_f, wp_iload_3, wc_219, wk_4, wc_220, wp_istore_6, wp_iload_6, wk_2, wp_iload_4, hg_0_10, hg_0_4, wc_254, wp_iadd, wp_goto, al_13956, hg_0_2, hg_5_2, wp_istore_7, wn_ne_t, wn_ne_f, wp_iload_7, wk_3, wc_163, wp_pop, al_13957, wc_168, al_13958, wp_iinc_5_1, al_13959, hg_0_1, wc_292, t_292, wp_i2l, wc_293, t_293, hg_20_5, hg_22_5, hg_24_5, nl_i, nl_r, nl_k, nl_j, nl_l, nI_add, pk_mul, pk_sub, tl_s, tl_n, aL_inl, u2_same, u2_ab, u2_aq, nI_l, lN_i, Nat.add_zero, Nat.zero_add, Nat.zero_le, true_and, and_true, b2n_10, b2n_T, b2n_F, b2n_0, Decidable.not_not, not_true_eq_false, not_false_eq_true, Nat.reduceAdd, Nat.reduceMul, Nat.reduceSub, wx_lt_t hb]
      · have hb3 : ¬ b ≤ nI 60 := fun z => (Int32.not_lt.mpr z) hb2
        simp (disch := (first | omega | exact aCat_8 (by with_unfolding_all rfl) | exact rk_lt (by with_unfolding_all rfl) | exact aCat_16 (by with_unfolding_all rfl) | exact rk_eq (by with_unfolding_all rfl) | assumption | exact b2n_lt _ | exact id_b (by with_unfolding_all rfl) | (simp (disch := omega) only [u2_same, u2_ab, u2_aq]; done) | (simp (disch := omega) only [u2_same, u2_ab, u2_aq]; omega) | fail)) only [al_13952, wp_iload_2, wk_1, wn_lt_t, wn_lt_f, wk_60, wn_le_t, wn_le_f, wp_jsr, al_13953, wk_m1, wp_ireturn, al_13954, wp_aloadr_0, wp_aloadk_0, hg_0_9, hg_0_7, wp_iload_1, wp_istore_3, wk_0, wp_istore_4, wp_istore_5, wp_iload_5, wn_ge_t, wn_ge_f, wp_iload_3, wc_219, wk_4, wc_220, wp_istore_6, wp_iload_6, wk_2, wp_iload_4, hg_0_10, hg_0_4, wc_254, wp_iadd, wp_goto, al_13956, hg_0_2, hg_5_2, wp_istore_7, wn_ne_t, wn_ne_f, wp_iload_7, wk_3, wc_163, wp_pop, al_13957, wc_168, al_13958, wp_iinc_5_1, al_13959, hg_0_1, wc_292, t_292, wp_i2l, wc_293, t_293, hg_20_5, hg_22_5, hg_24_5, nl_i, nl_r, nl_k, nl_j, nl_l, nI_add, pk_mul, pk_sub, tl_s, tl_n, aL_inl, u2_same, u2_ab, u2_aq, nI_l, lN_i, Nat.add_zero, Nat.zero_add, Nat.zero_le, true_and, and_true, b2n_10, b2n_T, b2n_F, b2n_0, Decidable.not_not, not_true_eq_false, not_false_eq_true, Nat.reduceAdd, Nat.reduceMul, Nat.reduceSub, wx_lt_f hb1, wx_le_f hb3]
    · intro Q
      have hin := in_f (a := 1) (b := 60) (by decide) (by decide) hbad
      rw [me_102]
      simp (disch := (first | omega | exact aCat_8 (by with_unfolding_all rfl) | exact rk_lt (by with_unfolding_all rfl) | exact aCat_16 (by with_unfolding_all rfl) | exact rk_eq (by with_unfolding_all rfl) | assumption | exact b2n_lt _ | exact id_b (by with_unfolding_all rfl) | (simp (disch := omega) only [u2_same, u2_ab, u2_aq]; done) | (simp (disch := omega) only [u2_same, u2_ab, u2_aq]; omega) | fail)) only [al_6528, wp_aloadr_0, wp_aloadk_0, wk_0, hp_86_0, wp_iload_2, wp_i2l, wl_1, wl_60, wc_4, t_4, lN_le, wz_ne_t, wz_ne_f, wb_ne_t, wb_ne_f, wm_ne_1, wm_ne_2, wk_m1, wp_ireturn, al_6529, wp_iload_1, hp_86_56, wc_60, wp_istore_3, wp_istore_4, wp_jsr, wp_iload_4, wn_ge_t, wn_ge_f, wk_4, wc_103, wp_istore_5, wp_iload_5, wk_2, wp_iload_3, hg_86_9, ha_90l, ha_90s, wk_1, wc_40, wp_iadd, wp_goto, al_6531, wc_10, t_10, wp_istore_6, wn_ne_t, wn_ne_f, wp_iload_6, wk_3, wc_46, wp_pop, al_6532, wc_51, al_6533, wp_iinc_4_1, al_6534, hp_86_1, wc_36, wc_43, t_43, wk_110, nl_i, nl_r, nl_k, nl_j, nl_l, nI_add, pk_mul, pk_sub, tl_s, tl_n, aL_inl, u2_same, u2_ab, u2_aq, nI_l, lN_i, Nat.add_zero, Nat.zero_add, Nat.zero_le, true_and, and_true, b2n_10, b2n_T, b2n_F, b2n_0, Decidable.not_not, not_true_eq_false, not_false_eq_true, Nat.reduceAdd, Nat.reduceMul, Nat.reduceSub, b2n_f hin]
end Y3
