/-! years: the pair. From wip/whole/src. -/
section Y2
variable {ko : aKo} {d k : Nat} {is : List Instr} {ls st : List Value} {σ : aH} {D : Nat → Nat} {N : Nat → Nat → Nat} {I : Nat → Nat → Int32} {J : Nat → Nat → Int64} {x t : Nat} {Q : Option Value → aH → Prop} {P : (Option Value ⊕ Unit) → aH → Prop}
theorem inv_rwG (h : invB D N I J t) : rwG D t (N 89) := ⟨h.2.2.2.2.1.1, h.2.2.2.2.1.2.1, h.2.2.2.2.1.2.2.1.1, h.2.2.2.2.1.2.2.1.2⟩
theorem l_218 {N0 : Nat → Nat → Nat} {I0 : Nat → Nat → Int32} {J0 : Nat → Nat → Int64} {n : Nat} {z0 : Int32} (h : invB D N0 I0 J0 t) (ht : t + 300 < 1000000000) (hn : n ≤ 60)
    (hQ : ansC D N0 I0 J0 x (.int (nI (yrI D N0 (N0 89) z0 n).2.2)) 2 (fun i => if i = 0 then lN (sumR (yrI D N0 (N0 89) z0 n).1 (D 0 * D 1)) else lN ((yrI D N0 (N0 89) z0 n).1 110)) Q) :
    ∀ (j k : Nat) (N : Nat → Nat → Nat) (I : Nat → Nat → Int32) (J : Nat → Nat → Int64) (w6 w7 : Value), k + j = n → drO D N0 N I0 I J0 J (yrI D N0 (N0 89) z0 k).1 → aWp ko d 218 (aP.1 (Int.toNat 13955)) [.ref 0, .int z0, .int (nI n), .int (yrI D N0 (N0 89) z0 k).2.1, .int (nI (yrI D N0 (N0 89) z0 k).2.2), .int (nI k), w6, w7] [] (hp D N I J x) (aL Q) := by
  have hF := dm_F h.1.1
  have h4 := inv_d4 h
  intro j
  induction j with
  | zero =>
    intro k N I J w6 w7 hk hD
    have e : k = n := by omega
    subst e
    obtain ⟨i1, i2⟩ := yr_ok (z := z0) h (inv_rwG h) k (by omega)
    generalize yrI D N0 (N0 89) z0 k = p at *
    have hcl := hD.1.2.1
    have hsm := sum_lt i1.1 hF.1
    have h9 : ∀ q, q < 36 → u2 N 3 1 0 (24 + 1) q ≤ 9 := by
      intro q hq
      rw [u2_ab (by decide), hcl.1 q hq]
      exact (i1.1.1 q hq).1
    have es : sumR (u2 N 3 1 0 (24 + 1)) 36 = sumR p.1 (D 0 * D 1) := by
      rw [← sum_eq hcl i1.2.1 hF.1]
      exact sumR_congr 36 (fun q _ => by rw [u2_ab (by decide)])
    have h5 := hcl.2.2.2.2
    have h110 := i1.1.2.2.1
    have hl110 : p.1 110 < 2147483648 := by omega
    simp (disch := (first | omega | exact aCat_8 (by with_unfolding_all rfl) | exact rk_lt (by with_unfolding_all rfl) | exact aCat_16 (by with_unfolding_all rfl) | exact rk_eq (by with_unfolding_all rfl) | assumption | exact b2n_lt _ | exact id_b (by with_unfolding_all rfl) | (simp (disch := omega) only [u2_same, u2_ab, u2_aq]; done) | (simp (disch := omega) only [u2_same, u2_ab, u2_aq]; omega) | fail)) only [al_13952, wp_iload_2, wk_1, wn_lt_t, wn_lt_f, wk_60, wn_le_t, wn_le_f, wp_jsr, al_13953, wk_m1, wp_ireturn, al_13954, wp_aloadr_0, wp_aloadk_0, hg_0_9, hg_0_7, wp_iload_1, wp_istore_3, wk_0, wp_istore_4, wp_istore_5, al_13955, wp_iload_5, wn_ge_t, wn_ge_f, wp_iload_3, wc_219, wk_4, wc_220, wp_istore_6, wp_iload_6, wk_2, wp_iload_4, hg_0_10, hg_0_4, wc_254, wp_iadd, wp_goto, al_13956, hg_0_2, hg_5_2, wp_istore_7, wn_ne_t, wn_ne_f, wp_iload_7, wk_3, wc_163, wp_pop, al_13957, wc_168, al_13958, wp_iinc_5_1, al_13959, hg_0_1, wc_292, t_292, wp_i2l, wc_293, t_293, hg_20_5, hg_22_5, hg_24_5, nl_i, nl_r, nl_k, nl_j, nl_l, nI_add, pk_mul, pk_sub, tl_s, tl_n, aL_inl, u2_same, u2_ab, u2_aq, nI_l, lN_i, Nat.add_zero, Nat.zero_add, Nat.zero_le, true_and, and_true, b2n_10, b2n_T, b2n_F, b2n_0, Decidable.not_not, not_true_eq_false, not_false_eq_true, Nat.reduceAdd, Nat.reduceMul, Nat.reduceSub, wc_282 (m := 24) rfl, t_282 (s := 24) rfl h9, es, h5]
    refine hQ _ _ _ ?_ hD.2.2.2.2.1 ?_ td2C
    · exact sN_u (sN_u (sN_u hD.2.2.2.1 rfl) rfl) rfl
    · exact sJ_u (sJ_u hD.2.2.2.2.2.1 rfl) rfl
  | succ j ih =>
    intro k N I J w6 w7 hk hD
    obtain ⟨i1, i2⟩ := yr_ok (z := z0) h (inv_rwG h) k (by omega)
    have ih1 := fun N I J w6 w7 => ih (k + 1) N I J w6 w7 (by omega)
    simp only [yrI_s] at ih1
    generalize yrI D N0 (N0 89) z0 k = p at i1 i2 hD ih1 ⊢
    have hc2 : p.2.2 < 2147483648 := by omega
    have hkn : k < n := by omega
    rw [al_13955]
    have ta : ∀ (σ : aH) (Q : Option Value → aH → Prop), aMm ko d 219 [.int p.2.1] σ Q = Q (some (.int (drw p.2.1))) σ := fun _ _ => t_219
    have tb : ∀ (σ : aH) (Q : Option Value → aH → Prop), aMm ko d 219 [.int (drw p.2.1)] σ Q = Q (some (.int (drw (drw p.2.1)))) σ := fun _ _ => t_219
    have tc : ∀ (σ : aH) (Q : Option Value → aH → Prop), aMm ko d 219 [.int (drw (drw p.2.1))] σ Q = Q (some (.int (drw (drw (drw p.2.1))))) σ := fun _ _ => t_219
    have hm : ∀ z, uSh z % (D 0 * D 1) < D 0 * D 1 := fun z => mod_F h
    have t220F : ∀ (z : Int32) (σ : aH) (Q : Option Value → aH → Prop), aMm ko d 220 [.int z, .int (nI (D 4))] σ Q = Q (some (.int (nI (uSh z % (D 0 * D 1))))) σ := fun z σ Q => by rw [t_220 (by omega) (by omega), h4]
    have t2204 : ∀ (z : Int32) (σ : aH) (Q : Option Value → aH → Prop), aMm ko d 220 [.int z, .int (nI 4)] σ Q = Q (some (.int (nI (uSh z % 4)))) σ := fun z σ Q => t_220 (by decide) (by decide)
    have t2203 : ∀ (z : Int32) (σ : aH) (Q : Option Value → aH → Prop), aMm ko d 220 [.int z, .int (nI 3)] σ Q = Q (some (.int (nI (uSh z % 3)))) σ := fun z σ Q => t_220 (by decide) (by decide)
    by_cases h1 : uSh (drw p.2.1) % 4 < 2
    · simp only [yrA_t h1, p3_1, p3_2, p3_3] at ih1
      clear tb tc
      generalize drw p.2.1 = z1 at *
      have hv : uSh z1 % 4 < 2147483648 := by omega
      simp (disch := (first | omega | exact aCat_8 (by with_unfolding_all rfl) | exact rk_lt (by with_unfolding_all rfl) | exact aCat_16 (by with_unfolding_all rfl) | exact rk_eq (by with_unfolding_all rfl) | assumption | exact b2n_lt _ | exact id_b (by with_unfolding_all rfl) | (simp (disch := omega) only [u2_same, u2_ab, u2_aq]; done) | (simp (disch := omega) only [u2_same, u2_ab, u2_aq]; omega) | fail)) only [al_13952, wp_iload_2, wk_1, wn_lt_t, wn_lt_f, wk_60, wn_le_t, wn_le_f, wp_jsr, al_13953, wk_m1, wp_ireturn, al_13954, wp_aloadr_0, wp_aloadk_0, hg_0_9, hg_0_7, wp_iload_1, wp_istore_3, wk_0, wp_istore_4, wp_istore_5, wp_iload_5, wn_ge_t, wn_ge_f, wp_iload_3, wc_219, wk_4, wc_220, wp_istore_6, wp_iload_6, wk_2, wp_iload_4, hg_0_10, hg_0_4, wc_254, wp_iadd, wp_goto, al_13956, hg_0_2, hg_5_2, wp_istore_7, wn_ne_t, wn_ne_f, wp_iload_7, wk_3, wc_163, wp_pop, al_13957, wc_168, al_13958, wp_iinc_5_1, al_13959, hg_0_1, wc_292, t_292, wp_i2l, wc_293, t_293, hg_20_5, hg_22_5, hg_24_5, nl_i, nl_r, nl_k, nl_j, nl_l, nI_add, pk_mul, pk_sub, tl_s, tl_n, aL_inl, u2_same, u2_ab, u2_aq, nI_l, lN_i, Nat.add_zero, Nat.zero_add, Nat.zero_le, true_and, and_true, b2n_10, b2n_T, b2n_F, b2n_0, Decidable.not_not, not_true_eq_false, not_false_eq_true, Nat.reduceAdd, Nat.reduceMul, Nat.reduceSub, ta, t2204]
      refine dr_g h i1 (by omega) hD ?_
      intro N' I' J' hD'
      have := cmS_le (D := D) (N := N0) (S := p.1) 1
      simp (disch := (first | omega | exact aCat_8 (by with_unfolding_all rfl) | exact rk_lt (by with_unfolding_all rfl) | exact aCat_16 (by with_unfolding_all rfl) | exact rk_eq (by with_unfolding_all rfl) | assumption | exact b2n_lt _ | exact id_b (by with_unfolding_all rfl) | (simp (disch := omega) only [u2_same, u2_ab, u2_aq]; done) | (simp (disch := omega) only [u2_same, u2_ab, u2_aq]; omega) | fail)) only [al_13952, wp_iload_2, wk_1, wn_lt_t, wn_lt_f, wk_60, wn_le_t, wn_le_f, wp_jsr, al_13953, wk_m1, wp_ireturn, al_13954, wp_aloadr_0, wp_aloadk_0, hg_0_9, hg_0_7, wp_iload_1, wp_istore_3, wk_0, wp_istore_4, wp_istore_5, wp_iload_5, wn_ge_t, wn_ge_f, wp_iload_3, wc_219, wk_4, wc_220, wp_istore_6, wp_iload_6, wk_2, wp_iload_4, hg_0_10, hg_0_4, wc_254, wp_iadd, wp_goto, al_13956, hg_0_2, hg_5_2, wp_istore_7, wn_ne_t, wn_ne_f, wp_iload_7, wk_3, wc_163, wp_pop, al_13957, wc_168, al_13958, wp_iinc_5_1, al_13959, hg_0_1, wc_292, t_292, wp_i2l, wc_293, t_293, hg_20_5, hg_22_5, hg_24_5, nl_i, nl_r, nl_k, nl_j, nl_l, nI_add, pk_mul, pk_sub, tl_s, tl_n, aL_inl, u2_same, u2_ab, u2_aq, nI_l, lN_i, Nat.add_zero, Nat.zero_add, Nat.zero_le, true_and, and_true, b2n_10, b2n_T, b2n_F, b2n_0, Decidable.not_not, not_true_eq_false, not_false_eq_true, Nat.reduceAdd, Nat.reduceMul, Nat.reduceSub]
      exact ih1 N' I' J' _ _ hD'
    · by_cases h2 : uSh (drw p.2.1) % 4 = 2
      · simp only [yrA_c h2, p3_1, p3_2, p3_3] at ih1
        generalize drw p.2.1 = z1 at *
        generalize drw z1 = z2 at *
        generalize drw z2 = z3 at *
        have hf := hm z2
        have hn1 : uSh z3 % 3 < 3 := Nat.mod_lt _ (by decide)
        simp (disch := (first | omega | exact aCat_8 (by with_unfolding_all rfl) | exact rk_lt (by with_unfolding_all rfl) | exact aCat_16 (by with_unfolding_all rfl) | exact rk_eq (by with_unfolding_all rfl) | assumption | exact b2n_lt _ | exact id_b (by with_unfolding_all rfl) | (simp (disch := omega) only [u2_same, u2_ab, u2_aq]; done) | (simp (disch := omega) only [u2_same, u2_ab, u2_aq]; omega) | fail)) only [al_13952, wp_iload_2, wk_1, wn_lt_t, wn_lt_f, wk_60, wn_le_t, wn_le_f, wp_jsr, al_13953, wk_m1, wp_ireturn, al_13954, wp_aloadr_0, wp_aloadk_0, hg_0_9, hg_0_7, wp_iload_1, wp_istore_3, wk_0, wp_istore_4, wp_istore_5, wp_iload_5, wn_ge_t, wn_ge_f, wp_iload_3, wc_219, wk_4, wc_220, wp_istore_6, wp_iload_6, wk_2, wp_iload_4, hg_0_10, hg_0_4, wc_254, wp_iadd, wp_goto, al_13956, hg_0_2, hg_5_2, wp_istore_7, wn_ne_t, wn_ne_f, wp_iload_7, wk_3, wc_163, wp_pop, al_13957, wc_168, al_13958, wp_iinc_5_1, al_13959, hg_0_1, wc_292, t_292, wp_i2l, wc_293, t_293, hg_20_5, hg_22_5, hg_24_5, nl_i, nl_r, nl_k, nl_j, nl_l, nI_add, pk_mul, pk_sub, tl_s, tl_n, aL_inl, u2_same, u2_ab, u2_aq, nI_l, lN_i, Nat.add_zero, Nat.zero_add, Nat.zero_le, true_and, and_true, b2n_10, b2n_T, b2n_F, b2n_0, Decidable.not_not, not_true_eq_false, not_false_eq_true, Nat.reduceAdd, Nat.reduceMul, Nat.reduceSub, ta, tb, tc, t2204, t220F, t2203, h2]
        refine dr_cut h i1 hf (by omega) (by omega) hD ?_
        intro v N' hD'
        simp (disch := (first | omega | exact aCat_8 (by with_unfolding_all rfl) | exact rk_lt (by with_unfolding_all rfl) | exact aCat_16 (by with_unfolding_all rfl) | exact rk_eq (by with_unfolding_all rfl) | assumption | exact b2n_lt _ | exact id_b (by with_unfolding_all rfl) | (simp (disch := omega) only [u2_same, u2_ab, u2_aq]; done) | (simp (disch := omega) only [u2_same, u2_ab, u2_aq]; omega) | fail)) only [al_13952, wp_iload_2, wk_1, wn_lt_t, wn_lt_f, wk_60, wn_le_t, wn_le_f, wp_jsr, al_13953, wk_m1, wp_ireturn, al_13954, wp_aloadr_0, wp_aloadk_0, hg_0_9, hg_0_7, wp_iload_1, wp_istore_3, wk_0, wp_istore_4, wp_istore_5, wp_iload_5, wn_ge_t, wn_ge_f, wp_iload_3, wc_219, wk_4, wc_220, wp_istore_6, wp_iload_6, wk_2, wp_iload_4, hg_0_10, hg_0_4, wc_254, wp_iadd, wp_goto, al_13956, hg_0_2, hg_5_2, wp_istore_7, wn_ne_t, wn_ne_f, wp_iload_7, wk_3, wc_163, wp_pop, al_13957, wc_168, al_13958, wp_iinc_5_1, al_13959, hg_0_1, wc_292, t_292, wp_i2l, wc_293, t_293, hg_20_5, hg_22_5, hg_24_5, nl_i, nl_r, nl_k, nl_j, nl_l, nI_add, pk_mul, pk_sub, tl_s, tl_n, aL_inl, u2_same, u2_ab, u2_aq, nI_l, lN_i, Nat.add_zero, Nat.zero_add, Nat.zero_le, true_and, and_true, b2n_10, b2n_T, b2n_F, b2n_0, Decidable.not_not, not_true_eq_false, not_false_eq_true, Nat.reduceAdd, Nat.reduceMul, Nat.reduceSub]
        exact ih1 N' I J _ _ hD'
      · simp only [yrA_w h1 h2, p3_1, p3_2, p3_3] at ih1
        clear tc
        generalize drw p.2.1 = z1 at *
        generalize drw z1 = z2 at *
        have hf := hm z2
        simp (disch := (first | omega | exact aCat_8 (by with_unfolding_all rfl) | exact rk_lt (by with_unfolding_all rfl) | exact aCat_16 (by with_unfolding_all rfl) | exact rk_eq (by with_unfolding_all rfl) | assumption | exact b2n_lt _ | exact id_b (by with_unfolding_all rfl) | (simp (disch := omega) only [u2_same, u2_ab, u2_aq]; done) | (simp (disch := omega) only [u2_same, u2_ab, u2_aq]; omega) | fail)) only [al_13952, wp_iload_2, wk_1, wn_lt_t, wn_lt_f, wk_60, wn_le_t, wn_le_f, wp_jsr, al_13953, wk_m1, wp_ireturn, al_13954, wp_aloadr_0, wp_aloadk_0, hg_0_9, hg_0_7, wp_iload_1, wp_istore_3, wk_0, wp_istore_4, wp_istore_5, wp_iload_5, wn_ge_t, wn_ge_f, wp_iload_3, wc_219, wk_4, wc_220, wp_istore_6, wp_iload_6, wk_2, wp_iload_4, hg_0_10, hg_0_4, wc_254, wp_iadd, wp_goto, al_13956, hg_0_2, hg_5_2, wp_istore_7, wn_ne_t, wn_ne_f, wp_iload_7, wk_3, wc_163, wp_pop, al_13957, wc_168, al_13958, wp_iinc_5_1, al_13959, hg_0_1, wc_292, t_292, wp_i2l, wc_293, t_293, hg_20_5, hg_22_5, hg_24_5, nl_i, nl_r, nl_k, nl_j, nl_l, nI_add, pk_mul, pk_sub, tl_s, tl_n, aL_inl, u2_same, u2_ab, u2_aq, nI_l, lN_i, Nat.add_zero, Nat.zero_add, Nat.zero_le, true_and, and_true, b2n_10, b2n_T, b2n_F, b2n_0, Decidable.not_not, not_true_eq_false, not_false_eq_true, Nat.reduceAdd, Nat.reduceMul, Nat.reduceSub, ta, tb, t2204, t220F]
        refine dr_wal h i1 hf hD ?_
        intro v J' hD'
        simp (disch := (first | omega | exact aCat_8 (by with_unfolding_all rfl) | exact rk_lt (by with_unfolding_all rfl) | exact aCat_16 (by with_unfolding_all rfl) | exact rk_eq (by with_unfolding_all rfl) | assumption | exact b2n_lt _ | exact id_b (by with_unfolding_all rfl) | (simp (disch := omega) only [u2_same, u2_ab, u2_aq]; done) | (simp (disch := omega) only [u2_same, u2_ab, u2_aq]; omega) | fail)) only [al_13952, wp_iload_2, wk_1, wn_lt_t, wn_lt_f, wk_60, wn_le_t, wn_le_f, wp_jsr, al_13953, wk_m1, wp_ireturn, al_13954, wp_aloadr_0, wp_aloadk_0, hg_0_9, hg_0_7, wp_iload_1, wp_istore_3, wk_0, wp_istore_4, wp_istore_5, wp_iload_5, wn_ge_t, wn_ge_f, wp_iload_3, wc_219, wk_4, wc_220, wp_istore_6, wp_iload_6, wk_2, wp_iload_4, hg_0_10, hg_0_4, wc_254, wp_iadd, wp_goto, al_13956, hg_0_2, hg_5_2, wp_istore_7, wn_ne_t, wn_ne_f, wp_iload_7, wk_3, wc_163, wp_pop, al_13957, wc_168, al_13958, wp_iinc_5_1, al_13959, hg_0_1, wc_292, t_292, wp_i2l, wc_293, t_293, hg_20_5, hg_22_5, hg_24_5, nl_i, nl_r, nl_k, nl_j, nl_l, nI_add, pk_mul, pk_sub, tl_s, tl_n, aL_inl, u2_same, u2_ab, u2_aq, nI_l, lN_i, Nat.add_zero, Nat.zero_add, Nat.zero_le, true_and, and_true, b2n_10, b2n_T, b2n_F, b2n_0, Decidable.not_not, not_true_eq_false, not_false_eq_true, Nat.reduceAdd, Nat.reduceMul, Nat.reduceSub]
        exact ih1 N I J' _ _ hD'
/-! the reference -/
theorem t_103 {m : Nat} (hm : 0 < m) (hm2 : m ≤ 36) : aMm ko d 103 [.ref 86, .int (nI m)] (hp D N I J x) Q = Q (some (.int (nI (uSh (drw (I 86 56)) % m)))) (hp D N (u2 I 86 56 (drw (I 86 56))) J x) := by
  have := uSh_lt (z := drw (I 86 56))
  have e : drw (I 86 56) = I 86 56 * nI 1103515245 + nI 12345 := rfl
  rw [me_103]
  simp (disch := (first | omega | exact aCat_8 (by with_unfolding_all rfl) | exact rk_lt (by with_unfolding_all rfl) | exact aCat_16 (by with_unfolding_all rfl) | exact rk_eq (by with_unfolding_all rfl) | assumption | exact b2n_lt _ | exact id_b (by with_unfolding_all rfl) | (simp (disch := omega) only [u2_same, u2_ab, u2_aq]; done) | (simp (disch := omega) only [u2_same, u2_ab, u2_aq]; omega) | fail)) only [al_6592, wp_aloadr_0, wp_aloadk_0, hg_86_56, wk_1103515245, wp_imul, wk_12345, wp_iadd, hp_86_56, wk_16, wp_iushr, wp_iload_1, wp_iremn, wp_ireturn, nl_i, nl_r, nl_k, nl_j, nl_l, nI_add, pk_mul, pk_sub, tl_s, tl_n, aL_inl, u2_same, u2_ab, u2_aq, nI_l, lN_i, Nat.add_zero, Nat.zero_add, Nat.zero_le, true_and, and_true, b2n_10, b2n_T, b2n_F, b2n_0, Decidable.not_not, not_true_eq_false, not_false_eq_true, Nat.reduceAdd, Nat.reduceMul, Nat.reduceSub, ← e, uSh_eq]
theorem th_set {N0 : Nat → Nat → Nat} {I0 I' : Nat → Nat → Int32} {S S' : Nat → Nat} {C : Nat} (hT : thO N0 N I0 I S) (h1 : rwO C S) (h2 : rwO C S') (hI : sI I' I) : thO N0 (setRow N 90 S') I0 I' S' := by
  obtain ⟨hS, hN, hi, h1'⟩ := hT
  refine ⟨setRow_s, qN_t (qN_w90 qN_r (fun q hq => ?_)) hN, sI_t hI hi, by rw [setRow_n (by decide)]; exact h1'⟩
  rw [hS, h1.2.2.2.2 q hq, h2.2.2.2.2 q hq]
theorem th_g {N0 : Nat → Nat → Nat} {I0 : Nat → Nat → Int32} {J0 : Nat → Nat → Int64} {u : Nat} {S : Nat → Nat} (h : invB D N0 I0 J0 t) (hS : rwG D u S) (hu : u + 1 < 1000000000) (hT : thO N0 N I0 I S)
    (hQ : ∀ (N' : Nat → Nat → Nat) (I' : Nat → Nat → Int32), thO N0 N' I0 I' (itS D N0 S 1) → I' 86 56 = I 86 56 → Q (some (.int (nI (cmS D N0 S 1)))) (hp D N' I' J x)) : aMm ko d 40 [.ref 86, .ref 90, .int (nI 1)] (hp D N I J x) Q := by
  obtain ⟨h90, hN, hi, h1⟩ := hT
  have hs := sN_sm (qN_s hN)
  have hw := itS_O (N := N0) h.1.1 hS.1 1 (by have := hS.2.2.1; omega)
  refine t_40 (r := 90) (Or.inr rfl) h.1.1 (by rw [h90]; exact hS.1) (smR_rl hs (inv_rl h)) (by decide) (by rw [h90]; have := hS.2.2.1; omega) ?_
  intro N' I' hS' hN' hI'
  rw [h90, smR_it hs] at hS'
  rw [h90, smR_cm hs]
  refine hQ N' I' ⟨hS', qN_t (rN_q9 hN' (fun q hq => ?_)) hN, sI_t (rI_s hI') hi, (hN' 86 1 rfl (by decide)).trans h1⟩ (hI' 86 56 (by decide) (by decide))
  rw [hS', h90, hw.2.2.2.2 q hq, hS.1.2.2.2.2 q hq]
theorem th_cut {N0 : Nat → Nat → Nat} {I0 : Nat → Nat → Int32} {J0 : Nat → Nat → Int64} {u f n : Nat} {S : Nat → Nat} (h : invB D N0 I0 J0 t) (hS : rwG D u S) (hf : f < D 0 * D 1) (h1 : 1 ≤ n) (h9 : n ≤ 9) (hT : thO N0 N I0 I S)
    (hQ : ∀ (v : Int32) (N' : Nat → Nat → Nat), thO N0 N' I0 I (cutY S f n) → Q (some (.int v)) (hp D N' I J x)) : aMm ko d 46 [.ref 86, .ref 90, .int (nI f), .int (nI n)] (hp D N I J x) Q := by
  have hF := dm_F h.1.1
  have e := hT.1
  have hb := (hS.1.1 f (by omega)).1
  have hC := rwG_cut (n := n) hF.1 hf hS
  unfold cutY at hQ hC
  by_cases hlt : S f < n
  · rw [if_neg (by omega)] at hQ
    rw [t_46l (r := 90) (Or.inr rfl) hF.1 hf h1 h9 (by rw [e]; exact hlt)]
    exact hQ _ _ hT
  · rw [if_pos (by omega)] at hQ hC
    rw [t_46g (r := 90) (Or.inr rfl) hF.1 hf h1 h9 (by rw [e]; omega) (by rw [e]; exact hb), e, u2_row, e]
    exact hQ _ _ (th_set hT hS.1 hC.1 sI_r)
theorem th_wal {N0 : Nat → Nat → Nat} {I0 : Nat → Nat → Int32} {J0 : Nat → Nat → Int64} {u f : Nat} {S : Nat → Nat} (h : invB D N0 I0 J0 t) (hS : rwG D u S) (hf : f < D 0 * D 1) (hT : thO N0 N I0 I S)
    (hQ : ∀ (v : Int32) (N' : Nat → Nat → Nat), thO N0 N' I0 I (walY (D 0 * D 1) S f) → Q (some (.int v)) (hp D N' I J x)) : aMm ko d 51 [.ref 86, .ref 90, .int (nI f)] (hp D N I J x) Q := by
  have hF := dm_F h.1.1
  have e := hT.1
  have h1 := (hS.1.1 f (by omega)).2.1
  have hC := rwG_wal hF.1 hf hS
  have hz : sumR (fun q => S (36 + q)) 36 = sumR (fun q => S (36 + q)) (D 0 * D 1) := sumR_z 36 hF.1 (fun q z1 z2 => (hS.2.1 q z1 z2).2.1)
  have h8 := hS.2.2.2
  unfold walY at hQ hC
  by_cases hc : S (36 + f) = 0 ∧ sumR (fun q => S (36 + q)) (D 0 * D 1) = 8
  · rw [if_pos hc] at hQ
    rw [t_51f (r := 90) (Or.inr rfl) hF.1 hf (by rw [e]; exact hc.1) (by rw [e]; exact hc.2)]
    exact hQ _ _ hT
  · rw [if_neg hc] at hQ hC
    rw [t_51g (r := 90) (Or.inr rfl) hF.1 hf (by rw [e]; exact h1) (by
      rw [e]
      intro z
      have : ¬ sumR (fun q => S (36 + q)) (D 0 * D 1) = 8 := fun y => hc ⟨z, y⟩
      omega), e]
    exact hQ _ _ (th_set hT hS.1 hC.1 sI_r)
end Y2
