/-! mouths, the reference and the pair. From wip/whole/src. -/
section O7
variable {ko : aKo} {d k : Nat} {is : List Instr} {ls st : List Value} {σ : aH} {D : Nat → Nat} {N : Nat → Nat → Nat} {I : Nat → Nat → Int32} {J : Nat → Nat → Int64} {x t : Nat} {Q : Option Value → aH → Prop} {P : (Option Value ⊕ Unit) → aH → Prop}
theorem th_u {N0 : Nat → Nat → Nat} {I0 : Nat → Nat → Int32} {S : Nat → Nat} {a j v : Nat} (h : thO N0 N I0 I S) (hk : kqN a j = false) (h9 : a ≠ 90) (h1 : ¬ (a = 86 ∧ j = 1)) : thO N0 (u2 N a j v) I0 I S := ⟨by rw [u2_nb (Ne.symm h9)]; exact h.1, qN_u h.2.1 hk, h.2.2.1, by rw [u2_rd, if_neg (fun z => h1 ⟨z.1.symm, z.2.symm⟩)]; exact h.2.2.2⟩
theorem l_65a {n : Nat} {v2 v3 : Int32} (hC6 : D 1 ≤ 6) : ∀ j i : Nat, i + j = D 1 → aWp ko d 65 (aP.1 (Int.toNat 4162)) [.ref 86, .int (nI n), Value.int v2, Value.int v3, .int (nI i)] [] (hp D (fillN N 105 i 0) I J x) P = aWp ko d 65 (aP.1 (Int.toNat 4163)) [.ref 86, .int (nI n), Value.int v2, Value.int v3, .int (nI (D 1))] [] (hp D (fillN N 105 (D 1) 0) I J x) P := by
  intro j
  induction j with
  | zero =>
    intro i hi
    have e : i = D 1 := by omega
    rw [e]
    simp (disch := (first | omega | exact aCat_8 (by with_unfolding_all rfl) | exact rk_lt (by with_unfolding_all rfl) | exact aCat_16 (by with_unfolding_all rfl) | exact rk_eq (by with_unfolding_all rfl) | assumption | exact b2n_lt _ | exact id_b (by with_unfolding_all rfl) | (simp (disch := omega) only [u2_same, u2_ab, u2_aq]; done) | (simp (disch := omega) only [u2_same, u2_ab, u2_aq]; omega) | fail)) only [al_4160, wp_aloadr_0, wp_aloadk_0, wk_0, hp_86_0, wp_iload_1, wp_i2l, wl_1, wl_99, wc_4, t_4, lN_le, wz_ne_t, wz_ne_f, wb_ne_t, wb_ne_f, wm_ne_1, wm_ne_2, wk_m1, wp_ireturn, al_4161, wc_60, wp_istore_2, wp_istore_3, wp_istore_4, wp_jsr, al_4162, wp_iload_4, hg_86_4, wn_ge_t, wn_ge_f, hg_86_35, ha_105l, ha_105s, wp_iinc_4_1, wp_goto, hg_86_9, ha_90l, ha_90s, wc_41, wp_iload_2, hg_86_25, wc_17, t_17, wp_iadd, wc_58, wp_dup2, wk_1, wp_iload_3, wp_ishl, wp_ior, al_4165, al_4166, hp_86_1, wc_43, t_43, al_4168, nl_i, nl_r, nl_k, nl_j, nl_l, nI_add, pk_mul, pk_sub, tl_s, tl_n, aL_inl, u2_same, u2_ab, u2_aq, nI_l, lN_i, Nat.add_zero, Nat.zero_add, Nat.zero_le, true_and, and_true, b2n_10, b2n_T, b2n_F, b2n_0, Decidable.not_not, not_true_eq_false, not_false_eq_true, Nat.reduceAdd, Nat.reduceMul]
  | succ j ih =>
    intro i hi
    rw [al_4162]
    simp (disch := (first | omega | exact aCat_8 (by with_unfolding_all rfl) | exact rk_lt (by with_unfolding_all rfl) | exact aCat_16 (by with_unfolding_all rfl) | exact rk_eq (by with_unfolding_all rfl) | assumption | exact b2n_lt _ | exact id_b (by with_unfolding_all rfl) | (simp (disch := omega) only [u2_same, u2_ab, u2_aq]; done) | (simp (disch := omega) only [u2_same, u2_ab, u2_aq]; omega) | fail)) only [al_4160, wp_aloadr_0, wp_aloadk_0, wk_0, hp_86_0, wp_iload_1, wp_i2l, wl_1, wl_99, wc_4, t_4, lN_le, wz_ne_t, wz_ne_f, wb_ne_t, wb_ne_f, wm_ne_1, wm_ne_2, wk_m1, wp_ireturn, al_4161, wc_60, wp_istore_2, wp_istore_3, wp_istore_4, wp_jsr, wp_iload_4, hg_86_4, wn_ge_t, wn_ge_f, hg_86_35, ha_105l, ha_105s, wp_iinc_4_1, wp_goto, hg_86_9, ha_90l, ha_90s, wc_41, wp_iload_2, hg_86_25, wc_17, t_17, wp_iadd, wc_58, wp_dup2, wk_1, wp_iload_3, wp_ishl, wp_ior, al_4165, al_4166, hp_86_1, wc_43, t_43, al_4168, nl_i, nl_r, nl_k, nl_j, nl_l, nI_add, pk_mul, pk_sub, tl_s, tl_n, aL_inl, u2_same, u2_ab, u2_aq, nI_l, lN_i, Nat.add_zero, Nat.zero_add, Nat.zero_le, true_and, and_true, b2n_10, b2n_T, b2n_F, b2n_0, Decidable.not_not, not_true_eq_false, not_false_eq_true, Nat.reduceAdd, Nat.reduceMul, fillN_u]
    exact ih (i + 1) (by omega)
theorem l_65c {N0 : Nat → Nat → Nat} {J0 : Nat → Nat → Int64} {n lk : Nat} {b : Int32} {f : Nat → Nat} (hC6 : D 1 ≤ 6) (hf : ∀ i, i < D 1 → N0 105 i = f i ∧ f i < 1000) (hlk : lk < 1000)
    (hQ : ∀ (N' : Nat → Nat → Nat) (J' : Nat → Nat → Int64), (∀ b q, ¬ (b = 86 ∧ q = 1) → N' b q = N0 b q) → (∀ b q, b ≠ 87 → J' b q = J0 b q) → tdR N' J' (D 1 + 1) (fun i => if i < D 1 then lN (f i) else lN lk) → Q (some (.int b)) (hp D N' I J' x)) :
    ∀ (j i : Nat) (N : Nat → Nat → Nat) (J : Nat → Nat → Int64), i + j = D 1 → (∀ b q, ¬ (b = 86 ∧ q = 1) → N b q = N0 b q) → (∀ b q, b ≠ 87 → J b q = J0 b q) → tdR N J i (fun i => lN (f i)) → aWp ko d 65 (aP.1 (Int.toNat 4167)) [.ref 86, .int (nI n), .int (nI lk), .int b, .int (nI i)] [] (hp D N I J x) (aL Q) := by
  intro j
  induction j with
  | zero =>
    intro i N J hj h1 h2 h3
    have e : i = D 1 := by omega
    rw [e] at h3 ⊢
    have e1 := h3.1
    rw [al_4167]
    simp (disch := (first | omega | exact aCat_8 (by with_unfolding_all rfl) | exact rk_lt (by with_unfolding_all rfl) | exact aCat_16 (by with_unfolding_all rfl) | exact rk_eq (by with_unfolding_all rfl) | assumption | exact b2n_lt _ | exact id_b (by with_unfolding_all rfl) | (simp (disch := omega) only [u2_same, u2_ab, u2_aq]; done) | (simp (disch := omega) only [u2_same, u2_ab, u2_aq]; omega) | fail)) only [al_4160, wp_aloadr_0, wp_aloadk_0, wk_0, hp_86_0, wp_iload_1, wp_i2l, wl_1, wl_99, wc_4, t_4, lN_le, wz_ne_t, wz_ne_f, wb_ne_t, wb_ne_f, wm_ne_1, wm_ne_2, wk_m1, wp_ireturn, al_4161, wc_60, wp_istore_2, wp_istore_3, wp_istore_4, wp_jsr, wp_iload_4, hg_86_4, wn_ge_t, wn_ge_f, hg_86_35, ha_105l, ha_105s, wp_iinc_4_1, wp_goto, al_4163, hg_86_9, ha_90l, ha_90s, wc_41, wp_iload_2, hg_86_25, wc_17, t_17, wp_iadd, wc_58, wp_dup2, wk_1, wp_iload_3, wp_ishl, wp_ior, al_4165, al_4166, hp_86_1, wc_43, t_43, al_4168, nl_i, nl_r, nl_k, nl_j, nl_l, nI_add, pk_mul, pk_sub, tl_s, tl_n, aL_inl, u2_same, u2_ab, u2_aq, nI_l, lN_i, Nat.add_zero, Nat.zero_add, Nat.zero_le, true_and, and_true, b2n_10, b2n_T, b2n_F, b2n_0, Decidable.not_not, not_true_eq_false, not_false_eq_true, Nat.reduceAdd, Nat.reduceMul, e1]
    refine hQ _ _ ?_ ?_ ⟨by rw [u2_same], ?_⟩
    · intro b q hb
      rw [u2_rd, if_neg hb]
      exact h1 b q hb
    · intro b q hb
      rw [u2_ab hb]
      exact h2 b q hb
    · intro q hq
      rw [u2_rd]
      by_cases e : q = D 1
      · rw [if_pos ⟨rfl, e⟩]
        show _ = (if q < D 1 then lN (f q) else lN lk)
        rw [if_neg (by omega)]
      · rw [if_neg (fun z => e z.2)]
        show _ = (if q < D 1 then lN (f q) else lN lk)
        rw [if_pos (by omega)]
        exact h3.2 q (by omega)
  | succ j ih =>
    intro i N J hj h1 h2 h3
    have e1 := h3.1
    have e105 : N 105 i = f i := (h1 105 i (by omega)).trans (hf i (by omega)).1
    have hb := (hf i (by omega)).2
    rw [al_4167]
    simp (disch := (first | omega | exact aCat_8 (by with_unfolding_all rfl) | exact rk_lt (by with_unfolding_all rfl) | exact aCat_16 (by with_unfolding_all rfl) | exact rk_eq (by with_unfolding_all rfl) | assumption | exact b2n_lt _ | exact id_b (by with_unfolding_all rfl) | (simp (disch := omega) only [u2_same, u2_ab, u2_aq]; done) | (simp (disch := omega) only [u2_same, u2_ab, u2_aq]; omega) | fail)) only [al_4160, wp_aloadr_0, wp_aloadk_0, wk_0, hp_86_0, wp_iload_1, wp_i2l, wl_1, wl_99, wc_4, t_4, lN_le, wz_ne_t, wz_ne_f, wb_ne_t, wb_ne_f, wm_ne_1, wm_ne_2, wk_m1, wp_ireturn, al_4161, wc_60, wp_istore_2, wp_istore_3, wp_istore_4, wp_jsr, wp_iload_4, hg_86_4, wn_ge_t, wn_ge_f, hg_86_35, ha_105l, ha_105s, wp_iinc_4_1, wp_goto, al_4163, hg_86_9, ha_90l, ha_90s, wc_41, wp_iload_2, hg_86_25, wc_17, t_17, wp_iadd, wc_58, wp_dup2, wk_1, wp_iload_3, wp_ishl, wp_ior, al_4165, al_4166, hp_86_1, wc_43, t_43, al_4168, nl_i, nl_r, nl_k, nl_j, nl_l, nI_add, pk_mul, pk_sub, tl_s, tl_n, aL_inl, u2_same, u2_ab, u2_aq, nI_l, lN_i, Nat.add_zero, Nat.zero_add, Nat.zero_le, true_and, and_true, b2n_10, b2n_T, b2n_F, b2n_0, Decidable.not_not, not_true_eq_false, not_false_eq_true, Nat.reduceAdd, Nat.reduceMul, e1, e105]
    refine ih (i + 1) _ _ (by omega) ?_ ?_ ⟨by rw [u2_same], ?_⟩
    · intro b q hb
      rw [u2_rd, if_neg hb]
      exact h1 b q hb
    · intro b q hb
      rw [u2_ab hb]
      exact h2 b q hb
    · intro q hq
      rw [u2_rd]
      by_cases e : q = i
      · rw [if_pos ⟨rfl, e⟩, e]
      · rw [if_neg (fun z => e z.2)]
        exact h3.2 q (by omega)
theorem l_65b {N0 : Nat → Nat → Nat} {I0 : Nat → Nat → Int32} {J0 : Nat → Nat → Int64} {n : Nat} (h : invB D N0 I0 J0 t) (ht : t + 300 < 1000000000) (hn : n ≤ 99)
    (hQ : ansR D N0 I0 J0 x (.int (bitM (D 1) (fun k => crsS D N0 (itS D N0 (N0 89) k)) n)) (D 1 + 1) (mtd (D 1) (fun k => crsS D N0 (itS D N0 (N0 89) k)) n) Q) :
    ∀ (j k : Nat) (N : Nat → Nat → Nat) (I : Nat → Nat → Int32), k + j = n → thO N0 N I0 I (itS D N0 (N0 89) k) → (∀ m, m < D 1 → N 105 m = cntM (D 1) (fun k => crsS D N0 (itS D N0 (N0 89) k)) m k) → aWp ko d 65 (aP.1 (Int.toNat 4164)) [.ref 86, .int (nI n), .int (nI (cntL (fun k => crsS D N0 (itS D N0 (N0 89) k)) k)), .int (bitM (D 1) (fun k => crsS D N0 (itS D N0 (N0 89) k)) k), .int (nI k)] [] (hp D N I J0 x) (aL Q) := by
  have hF := dm_F h.1.1
  have hd6 := h.1.1.2.2.2
  have hd2 := h.1.1.2.2.1
  intro j
  induction j with
  | zero =>
    intro k N I hj hT h105
    have e : k = n := by omega
    subst e
    rw [al_4164]
    simp (disch := (first | omega | exact aCat_8 (by with_unfolding_all rfl) | exact rk_lt (by with_unfolding_all rfl) | exact aCat_16 (by with_unfolding_all rfl) | exact rk_eq (by with_unfolding_all rfl) | assumption | exact b2n_lt _ | exact id_b (by with_unfolding_all rfl) | (simp (disch := omega) only [u2_same, u2_ab, u2_aq]; done) | (simp (disch := omega) only [u2_same, u2_ab, u2_aq]; omega) | fail)) only [al_4160, wp_aloadr_0, wp_aloadk_0, wk_0, hp_86_0, wp_iload_1, wp_i2l, wl_1, wl_99, wc_4, t_4, lN_le, wz_ne_t, wz_ne_f, wb_ne_t, wb_ne_f, wm_ne_1, wm_ne_2, wk_m1, wp_ireturn, al_4161, wc_60, wp_istore_2, wp_istore_3, wp_istore_4, wp_jsr, wp_iload_4, hg_86_4, wn_ge_t, wn_ge_f, hg_86_35, ha_105l, ha_105s, wp_iinc_4_1, wp_goto, al_4163, hg_86_9, ha_90l, ha_90s, wc_41, wp_iload_2, hg_86_25, wc_17, t_17, wp_iadd, wc_58, wp_dup2, wk_1, wp_iload_3, wp_ishl, wp_ior, al_4165, al_4166, hp_86_1, wc_43, t_43, al_4168, nl_i, nl_r, nl_k, nl_j, nl_l, nI_add, pk_mul, pk_sub, tl_s, tl_n, aL_inl, u2_same, u2_ab, u2_aq, nI_l, lN_i, Nat.add_zero, Nat.zero_add, Nat.zero_le, true_and, and_true, b2n_10, b2n_T, b2n_F, b2n_0, Decidable.not_not, not_true_eq_false, not_false_eq_true, Nat.reduceAdd, Nat.reduceMul]
    refine l_65c (N0 := u2 N 86 1 0) (J0 := J0) (f := fun m => cntM (D 1) (fun k => crsS D N0 (itS D N0 (N0 89) k)) m k) hd6 ?_ ?_ ?_ (D 1) 0 _ _ (by omega) (fun _ _ _ => rfl) (fun _ _ _ => rfl) ⟨by rw [u2_same], fun i hi => absurd hi (Nat.not_lt_zero _)⟩
    · intro i hi
      refine ⟨by rw [u2_ab (by decide)]; exact h105 i hi, ?_⟩
      have := cntM_le (C := D 1) (cs := fun k => crsS D N0 (itS D N0 (N0 89) k)) (m := i) k
      omega
    · have := cntL_le (cs := fun k => crsS D N0 (itS D N0 (N0 89) k)) k
      omega
    · intro N' J' h1 h2 h3
      refine hQ N' I J' ?_ hT.2.2.1 ?_ h3
      · intro b q z
        have z3 : ¬ (b = 86 ∧ q = 1) := by rintro ⟨rfl, rfl⟩; cases z
        rw [h1 b q z3, u2_rd, if_neg z3]
        exact hT.2.1 b q z
      · intro b q z
        exact h2 b q (by rintro rfl; cases z)
  | succ j ih =>
    intro k N I hj hT h105
    rw [al_4164]
    simp (disch := (first | omega | exact aCat_8 (by with_unfolding_all rfl) | exact rk_lt (by with_unfolding_all rfl) | exact aCat_16 (by with_unfolding_all rfl) | exact rk_eq (by with_unfolding_all rfl) | assumption | exact b2n_lt _ | exact id_b (by with_unfolding_all rfl) | (simp (disch := omega) only [u2_same, u2_ab, u2_aq]; done) | (simp (disch := omega) only [u2_same, u2_ab, u2_aq]; omega) | fail)) only [al_4160, wp_aloadr_0, wp_aloadk_0, wk_0, hp_86_0, wp_iload_1, wp_i2l, wl_1, wl_99, wc_4, t_4, lN_le, wz_ne_t, wz_ne_f, wb_ne_t, wb_ne_f, wm_ne_1, wm_ne_2, wk_m1, wp_ireturn, al_4161, wc_60, wp_istore_2, wp_istore_3, wp_istore_4, wp_jsr, wp_iload_4, hg_86_4, wn_ge_t, wn_ge_f, hg_86_35, ha_105l, ha_105s, wp_iinc_4_1, wp_goto, al_4163, hg_86_9, ha_90l, ha_90s, wc_41, wp_iload_2, hg_86_25, wc_17, t_17, wp_iadd, wc_58, wp_dup2, wk_1, wp_iload_3, wp_ishl, wp_ior, al_4165, al_4166, hp_86_1, wc_43, t_43, al_4168, nl_i, nl_r, nl_k, nl_j, nl_l, nI_add, pk_mul, pk_sub, tl_s, tl_n, aL_inl, u2_same, u2_ab, u2_aq, nI_l, lN_i, Nat.add_zero, Nat.zero_add, Nat.zero_le, true_and, and_true, b2n_10, b2n_T, b2n_F, b2n_0, Decidable.not_not, not_true_eq_false, not_false_eq_true, Nat.reduceAdd, Nat.reduceMul]
    refine th_1 h (by omega) ht hT ?_
    intro N1 I1 hT1 hc1 hN1 _
    obtain ⟨hK, hL, hp1⟩ := crsS_36 (k := k) h (by omega) ht
    have h25 := hc1.2.1
    have h105' : ∀ m, m < D 1 → N1 105 m = cntM (D 1) (fun k => crsS D N0 (itS D N0 (N0 89) k)) m k := fun m hm => (hN1 105 m rfl (by decide)).trans (h105 m hm)
    have hml := mcl_lt (C := D 1) (c := crsS D N0 (itS D N0 (N0 89) k)) (by omega)
    by_cases hlk : (crsS D N0 (itS D N0 (N0 89) k)).2.2 = true
    · rw [b2n_t hlk] at h25
      simp (disch := (first | omega | exact aCat_8 (by with_unfolding_all rfl) | exact rk_lt (by with_unfolding_all rfl) | exact aCat_16 (by with_unfolding_all rfl) | exact rk_eq (by with_unfolding_all rfl) | assumption | exact b2n_lt _ | exact id_b (by with_unfolding_all rfl) | (simp (disch := omega) only [u2_same, u2_ab, u2_aq]; done) | (simp (disch := omega) only [u2_same, u2_ab, u2_aq]; omega) | fail)) only [al_4160, wp_aloadr_0, wp_aloadk_0, wk_0, hp_86_0, wp_iload_1, wp_i2l, wl_1, wl_99, wc_4, t_4, lN_le, wz_ne_t, wz_ne_f, wb_ne_t, wb_ne_f, wm_ne_1, wm_ne_2, wk_m1, wp_ireturn, al_4161, wc_60, wp_istore_2, wp_istore_3, wp_istore_4, wp_jsr, wp_iload_4, hg_86_4, wn_ge_t, wn_ge_f, hg_86_35, ha_105l, ha_105s, wp_iinc_4_1, wp_goto, al_4163, hg_86_9, ha_90l, ha_90s, wc_41, wp_iload_2, hg_86_25, wc_17, t_17, wp_iadd, wc_58, wp_dup2, wk_1, wp_iload_3, wp_ishl, wp_ior, al_4165, al_4166, hp_86_1, wc_43, t_43, al_4168, nl_i, nl_r, nl_k, nl_j, nl_l, nI_add, pk_mul, pk_sub, tl_s, tl_n, aL_inl, u2_same, u2_ab, u2_aq, nI_l, lN_i, Nat.add_zero, Nat.zero_add, Nat.zero_le, true_and, and_true, b2n_10, b2n_T, b2n_F, b2n_0, Decidable.not_not, not_true_eq_false, not_false_eq_true, Nat.reduceAdd, Nat.reduceMul, h25]
      have := ih (k + 1) N1 I1 (by omega) hT1 (fun m hm => by
        rw [h105' m hm, cntM, b2n_f (by simp [hlk]), Nat.add_zero])
      rw [cntL, b2n_t hlk, bitM, if_pos hlk] at this
      exact this
    · rw [b2n_f hlk] at h25
      have hm : mth (D 1) (crsS D N0 (itS D N0 (N0 89) k)) = nI (mcl (D 1) (crsS D N0 (itS D N0 (N0 89) k))) := by rw [mth, if_neg hlk]; rfl
      have e105 := h105' _ hml
      have hcl := cntM_le (C := D 1) (cs := fun k => crsS D N0 (itS D N0 (N0 89) k)) (m := mcl (D 1) (crsS D N0 (itS D N0 (N0 89) k))) k
      have hc1' : ∀ v : Nat, crO (u2 N1 105 (mcl (D 1) (crsS D N0 (itS D N0 (N0 89) k))) v) (crsS D N0 (itS D N0 (N0 89) k)) := fun v => ⟨by rw [u2_ab (by decide)]; exact hc1.1, by rw [u2_ab (by decide)]; exact hc1.2.1, fun k hk => by rw [u2_ab (by decide)]; exact hc1.2.2.1 k hk, fun g hg => by rw [u2_ab (by decide)]; exact hc1.2.2.2 g hg⟩
      have t58 : ∀ (v : Nat) (Q : Option Value → aH → Prop), aMm ko d 58 [.ref 86] (hp D (u2 N1 105 (mcl (D 1) (crsS D N0 (itS D N0 (N0 89) k))) v) I1 J0 x) Q = Q (some (.int (mth (D 1) (crsS D N0 (itS D N0 (N0 89) k))))) (hp D (u2 N1 105 (mcl (D 1) (crsS D N0 (itS D N0 (N0 89) k))) v) I1 J0 x) := fun v Q => t_58 h.1.1 (hc1' v) hK
      simp (disch := (first | omega | exact aCat_8 (by with_unfolding_all rfl) | exact rk_lt (by with_unfolding_all rfl) | exact aCat_16 (by with_unfolding_all rfl) | exact rk_eq (by with_unfolding_all rfl) | assumption | exact b2n_lt _ | exact id_b (by with_unfolding_all rfl) | (simp (disch := omega) only [u2_same, u2_ab, u2_aq]; done) | (simp (disch := omega) only [u2_same, u2_ab, u2_aq]; omega) | fail)) only [al_4160, wp_aloadr_0, wp_aloadk_0, wk_0, hp_86_0, wp_iload_1, wp_i2l, wl_1, wl_99, wc_4, t_4, lN_le, wz_ne_t, wz_ne_f, wb_ne_t, wb_ne_f, wm_ne_1, wm_ne_2, wk_m1, wp_ireturn, al_4161, wc_60, wp_istore_2, wp_istore_3, wp_istore_4, wp_jsr, wp_iload_4, hg_86_4, wn_ge_t, wn_ge_f, hg_86_35, ha_105l, ha_105s, wp_iinc_4_1, wp_goto, al_4163, hg_86_9, ha_90l, ha_90s, wc_41, wp_iload_2, hg_86_25, wc_17, t_17, wp_iadd, wc_58, wp_dup2, wk_1, wp_iload_3, wp_ishl, wp_ior, al_4165, al_4166, hp_86_1, wc_43, t_43, al_4168, nl_i, nl_r, nl_k, nl_j, nl_l, nI_add, pk_mul, pk_sub, tl_s, tl_n, aL_inl, u2_same, u2_ab, u2_aq, nI_l, lN_i, Nat.add_zero, Nat.zero_add, Nat.zero_le, true_and, and_true, b2n_10, b2n_T, b2n_F, b2n_0, Decidable.not_not, not_true_eq_false, not_false_eq_true, Nat.reduceAdd, Nat.reduceMul, h25, t_58 h.1.1 hc1 hK, t58, hm, e105]
      have := ih (k + 1) (u2 N1 105 (mcl (D 1) (crsS D N0 (itS D N0 (N0 89) k))) (cntM (D 1) (fun k => crsS D N0 (itS D N0 (N0 89) k)) (mcl (D 1) (crsS D N0 (itS D N0 (N0 89) k))) k + 1)) I1 (by omega) (th_u hT1 rfl (by decide) (by omega)) (fun m hm => by
        rw [u2_rd, cntM]
        by_cases e : m = mcl (D 1) (crsS D N0 (itS D N0 (N0 89) k))
        · rw [if_pos ⟨rfl, e⟩, b2n_t ⟨by simpa using hlk, e.symm⟩, e]
        · rw [if_neg (fun z => e z.2), b2n_f (fun z => e z.2.symm), h105' m hm, Nat.add_zero])
      rw [cntL, b2n_f hlk, bitM, if_neg hlk] at this
      exact this
theorem o_mouths {a : Int32} (h : inv D N I J t) (ht : t + 300 < 1000000000) : opO ko d 181 65 [.int a] D N I J x (t + 300) := by
  have hd6 := h.1.1.1.2.2.2
  have hd2 := h.1.1.1.2.2.1
  rcases rng3 a 1 (b := 99) (by decide) (by decide) with ⟨n, hn1, hn, rfl⟩ | hbad
  · refine op_ans (v := .int (bitM (D 1) (fun k => crsS D N (itS D N (N 89) k)) n)) (m := D 1 + 1) (f := mtd (D 1) (fun k => crsS D N (itS D N (N 89) k)) n) h (by omega) (by omega) ?_ ?_
    · intro Q hQ
      have hb : ¬ (n < 1 ∨ 99 < n) := by omega
      rw [me_181]
      simp (disch := (first | omega | exact aCat_8 (by with_unfolding_all rfl) | exact rk_lt (by with_unfolding_all rfl) | exact aCat_16 (by with_unfolding_all rfl) | exact rk_eq (by with_unfolding_all rfl) | assumption | exact b2n_lt _ | exact id_b (by with_unfolding_all rfl) | (simp (disch := omega) only [u2_same, u2_ab, u2_aq]; done) | (simp (disch := omega) only [u2_same, u2_ab, u2_aq]; omega) | fail)) only [al_11584, wp_iload_1, wc_180, wz_eq_t, wz_eq_f, wb_eq_t, wb_eq_f, wm_eq_1, wm_eq_2, wk_m1, wp_ireturn, al_11585, wp_aloadr_0, wp_aloadk_0, hg_0_1, wc_292, t_292, wk_0, wp_istore_2, wp_jsr, wp_iload_2, hg_0_2, hg_5_1, wn_gt_t, wn_gt_f, wl_0, wc_293, t_293, wp_iinc_2_1, wp_goto, al_11587, hg_0_9, hg_0_7, wp_istore_3, wp_iload_3, wn_ge_t, wn_ge_f, hg_0_10, hg_0_4, wk_1, wc_254, wp_pop, hg_26_11, wk_m2, wn_ne_t, wn_ne_f, wc_294, al_11589, wp_ishl, wp_ior, al_11590, wp_iinc_3_1, al_11591, nl_i, nl_r, nl_k, nl_j, nl_l, nI_add, pk_mul, pk_sub, tl_s, tl_n, aL_inl, u2_same, u2_ab, u2_aq, nI_l, lN_i, Nat.add_zero, Nat.zero_add, Nat.zero_le, true_and, and_true, b2n_10, b2n_T, b2n_F, b2n_0, Decidable.not_not, not_true_eq_false, not_false_eq_true, Nat.reduceAdd, Nat.reduceMul, t_180, b2n_f hb]
      refine l_181a (N := u2 N 3 1 0) (J := J) (C := D 1) h.1.1.2.2.1 hd6 ?_ (D 1 + 1) 0 _ _ (by omega) (fun _ _ _ => rfl) (fun _ _ _ => rfl) ⟨by rw [u2_same], fun i hi => absurd hi (Nat.not_lt_zero _)⟩
      intro N1 J1 h1 h2 h3
      rw [al_11587]
      simp (disch := (first | omega | exact aCat_8 (by with_unfolding_all rfl) | exact rk_lt (by with_unfolding_all rfl) | exact aCat_16 (by with_unfolding_all rfl) | exact rk_eq (by with_unfolding_all rfl) | assumption | exact b2n_lt _ | exact id_b (by with_unfolding_all rfl) | (simp (disch := omega) only [u2_same, u2_ab, u2_aq]; done) | (simp (disch := omega) only [u2_same, u2_ab, u2_aq]; omega) | fail)) only [al_11584, wp_iload_1, wc_180, wz_eq_t, wz_eq_f, wb_eq_t, wb_eq_f, wm_eq_1, wm_eq_2, wk_m1, wp_ireturn, al_11585, wp_aloadr_0, wp_aloadk_0, hg_0_1, wc_292, t_292, wk_0, wp_istore_2, wp_jsr, wp_iload_2, hg_0_2, hg_5_1, wn_gt_t, wn_gt_f, wl_0, wc_293, t_293, wp_iinc_2_1, wp_goto, al_11587, hg_0_9, hg_0_7, wp_istore_3, wp_iload_3, wn_ge_t, wn_ge_f, hg_0_10, hg_0_4, wk_1, wc_254, wp_pop, hg_26_11, wk_m2, wn_ne_t, wn_ne_f, wc_294, al_11589, wp_ishl, wp_ior, al_11590, wp_iinc_3_1, al_11591, nl_i, nl_r, nl_k, nl_j, nl_l, nI_add, pk_mul, pk_sub, tl_s, tl_n, aL_inl, u2_same, u2_ab, u2_aq, nI_l, lN_i, Nat.add_zero, Nat.zero_add, Nat.zero_le, true_and, and_true, b2n_10, b2n_T, b2n_F, b2n_0, Decidable.not_not, not_true_eq_false, not_false_eq_true, Nat.reduceAdd, Nat.reduceMul, wc_283 (m := 24) rfl, t_283 (s := 24) (s' := 20) rfl rfl (by decide)]
      have g1 : sN N1 N := fun b q z => by
        have z3 : b ≠ 3 := by rintro rfl; cases z
        rw [h1 b q z3, u2_ab z3]
      have g2 : sJ J1 J := fun b q z => h2 b q (by rintro rfl; cases z)
      have hi := invB_c h.1 (Nat.le_refl t) g1 sI_r g2
      have e89 := sN_89 g1
      have ee : ∀ k, crsS D N1 (itS D N1 (N1 89) k) = crsS D N (itS D N (N 89) k) := fun k => by rw [sN_89 g1, smR_it (sN_sm g1), smR_crs (sN_sm g1)]
      have ef : (fun k => crsS D N1 (itS D N1 (N1 89) k)) = (fun k => crsS D N (itS D N (N 89) k)) := funext ee
      have hd := dr_0 hi
      refine l_181b (N0 := N1) (I0 := I) (J0 := J1) hi ht hn ?_ n 0 _ _ _ (by omega) ⟨hd.1, hd.2.1, hd.2.2.1, hd.2.2.2.1, hd.2.2.2.2.1, hd.2.2.2.2.2.1⟩ ?_
      · rw [ef]
        intro N' I' J' a1 a2 a3 a4
        exact hQ N' I' J' (sN_t a1 g1) a2 (sJ_t a3 g2) a4
      · refine ⟨(hd.2.2.2.2.2.2.1.1).trans h3.1, fun i hi' => ?_⟩
        rw [hd.2.2.2.2.2.2.1.2 i, h3.2 i hi']
        unfold mtd
        split <;> rfl
    · intro N1 I1 J1 h1 hN hI hJ Q hQ
      have ee : ∀ k, crsS D N1 (itS D N1 (N1 89) k) = crsS D N (itS D N (N 89) k) := fun k => by rw [sN_89 hN, smR_it (sN_sm hN), smR_crs (sN_sm hN)]
      have ef : (fun k => crsS D N1 (itS D N1 (N1 89) k)) = (fun k => crsS D N (itS D N (N 89) k)) := funext ee
      have hz1 : ∀ q, 111 ≤ q → u2 N1 86 0 0 89 q = 0 := fun q hq => by rw [u2_ab (by decide)]; exact h1.2.2.2.2.1.1.2.2.2.2 q hq
      have hz2 : ∀ q, 111 ≤ q → u2 N1 86 0 0 90 q = 0 := fun q hq => by rw [u2_ab (by decide)]; exact h1.2.2.2.2.2.2.2.2.2 q hq
      have hT := th_0 (I := I1) h1 (M := u2 N1 86 0 0) (qN_u qN_r rfl) (u2_aq (by decide)) hz1
      rw [me_65]
      simp (disch := (first | omega | exact aCat_8 (by with_unfolding_all rfl) | exact rk_lt (by with_unfolding_all rfl) | exact aCat_16 (by with_unfolding_all rfl) | exact rk_eq (by with_unfolding_all rfl) | assumption | exact b2n_lt _ | exact id_b (by with_unfolding_all rfl) | (simp (disch := omega) only [u2_same, u2_ab, u2_aq]; done) | (simp (disch := omega) only [u2_same, u2_ab, u2_aq]; omega) | fail)) only [al_4160, wp_aloadr_0, wp_aloadk_0, wk_0, hp_86_0, wp_iload_1, wp_i2l, wl_1, wl_99, wc_4, t_4, lN_le, wz_ne_t, wz_ne_f, wb_ne_t, wb_ne_f, wm_ne_1, wm_ne_2, wk_m1, wp_ireturn, al_4161, wc_60, wp_istore_2, wp_istore_3, wp_istore_4, wp_jsr, wp_iload_4, hg_86_4, wn_ge_t, wn_ge_f, hg_86_35, ha_105l, ha_105s, wp_iinc_4_1, wp_goto, al_4163, hg_86_9, ha_90l, ha_90s, wc_41, wp_iload_2, hg_86_25, wc_17, t_17, wp_iadd, wc_58, wp_dup2, wk_1, wp_iload_3, wp_ishl, wp_ior, al_4165, al_4166, hp_86_1, wc_43, t_43, al_4168, nl_i, nl_r, nl_k, nl_j, nl_l, nI_add, pk_mul, pk_sub, tl_s, tl_n, aL_inl, u2_same, u2_ab, u2_aq, nI_l, lN_i, Nat.add_zero, Nat.zero_add, Nat.zero_le, true_and, and_true, b2n_10, b2n_T, b2n_F, b2n_0, Decidable.not_not, not_true_eq_false, not_false_eq_true, Nat.reduceAdd, Nat.reduceMul, t_60 hz1 hz2]
      have h0 := @l_65a ko d D (setRow (u2 N1 86 0 0) 90 (u2 N1 86 0 0 89)) I1 J1 x (aL Q) n (nI 0) (nI 0) hd6 (D 1) 0 (by omega)
      rw [fillN_0] at h0
      refine h0.mpr ?_
      rw [al_4163]
      simp (disch := (first | omega | exact aCat_8 (by with_unfolding_all rfl) | exact rk_lt (by with_unfolding_all rfl) | exact aCat_16 (by with_unfolding_all rfl) | exact rk_eq (by with_unfolding_all rfl) | assumption | exact b2n_lt _ | exact id_b (by with_unfolding_all rfl) | (simp (disch := omega) only [u2_same, u2_ab, u2_aq]; done) | (simp (disch := omega) only [u2_same, u2_ab, u2_aq]; omega) | fail)) only [al_4160, wp_aloadr_0, wp_aloadk_0, wk_0, hp_86_0, wp_iload_1, wp_i2l, wl_1, wl_99, wc_4, t_4, lN_le, wz_ne_t, wz_ne_f, wb_ne_t, wb_ne_f, wm_ne_1, wm_ne_2, wk_m1, wp_ireturn, al_4161, wc_60, wp_istore_2, wp_istore_3, wp_istore_4, wp_jsr, wp_iload_4, hg_86_4, wn_ge_t, wn_ge_f, hg_86_35, ha_105l, ha_105s, wp_iinc_4_1, wp_goto, al_4163, hg_86_9, ha_90l, ha_90s, wc_41, wp_iload_2, hg_86_25, wc_17, t_17, wp_iadd, wc_58, wp_dup2, wk_1, wp_iload_3, wp_ishl, wp_ior, al_4165, al_4166, hp_86_1, wc_43, t_43, al_4168, nl_i, nl_r, nl_k, nl_j, nl_l, nI_add, pk_mul, pk_sub, tl_s, tl_n, aL_inl, u2_same, u2_ab, u2_aq, nI_l, lN_i, Nat.add_zero, Nat.zero_add, Nat.zero_le, true_and, and_true, b2n_10, b2n_T, b2n_F, b2n_0, Decidable.not_not, not_true_eq_false, not_false_eq_true, Nat.reduceAdd, Nat.reduceMul]
      refine l_65b (N0 := N1) (I0 := I1) (J0 := J1) h1 ht hn (by rw [ef]; exact hQ) n 0 _ _ (by omega) ⟨?_, ?_, hT.2.2.1, ?_⟩ ?_
      · funext q
        rw [fillN_ab (by decide)]
        exact congrFun hT.1 q
      · intro b q z
        rw [fillN_ab (by rintro rfl; cases z)]
        exact hT.2.1 b q z
      · rw [fillN_ab (by decide)]
        exact hT.2.2.2
      · intro m hm
        simp [fillN, hm, cntM]
  · refine op_same (v := .int (-1)) h (by omega) ?_ ?_
    · intro Q hQ
      rw [me_181]
      simp (disch := (first | omega | exact aCat_8 (by with_unfolding_all rfl) | exact rk_lt (by with_unfolding_all rfl) | exact aCat_16 (by with_unfolding_all rfl) | exact rk_eq (by with_unfolding_all rfl) | assumption | exact b2n_lt _ | exact id_b (by with_unfolding_all rfl) | (simp (disch := omega) only [u2_same, u2_ab, u2_aq]; done) | (simp (disch := omega) only [u2_same, u2_ab, u2_aq]; omega) | fail)) only [al_11584, wp_iload_1, wc_180, wz_eq_t, wz_eq_f, wb_eq_t, wb_eq_f, wm_eq_1, wm_eq_2, wk_m1, wp_ireturn, al_11585, wp_aloadr_0, wp_aloadk_0, hg_0_1, wc_292, t_292, wk_0, wp_istore_2, wp_jsr, wp_iload_2, hg_0_2, hg_5_1, wn_gt_t, wn_gt_f, wl_0, wc_293, t_293, wp_iinc_2_1, wp_goto, al_11587, hg_0_9, hg_0_7, wp_istore_3, wp_iload_3, wn_ge_t, wn_ge_f, hg_0_10, hg_0_4, wk_1, wc_254, wp_pop, hg_26_11, wk_m2, wn_ne_t, wn_ne_f, wc_294, al_11589, wp_ishl, wp_ior, al_11590, wp_iinc_3_1, al_11591, nl_i, nl_r, nl_k, nl_j, nl_l, nI_add, pk_mul, pk_sub, tl_s, tl_n, aL_inl, u2_same, u2_ab, u2_aq, nI_l, lN_i, Nat.add_zero, Nat.zero_add, Nat.zero_le, true_and, and_true, b2n_10, b2n_T, b2n_F, b2n_0, Decidable.not_not, not_true_eq_false, not_false_eq_true, Nat.reduceAdd, Nat.reduceMul, t_180x hbad]
      exact hQ N I J sN_r sI_r sJ_r ⟨rfl, fun _ => rfl⟩ ⟨rfl, fun _ => rfl⟩
    · intro N1 I1 J1 h1 hN hI hJ Q hQ
      have hin := in_f (a := 1) (b := 99) (by decide) (by decide) hbad
      rw [me_65]
      simp (disch := (first | omega | exact aCat_8 (by with_unfolding_all rfl) | exact rk_lt (by with_unfolding_all rfl) | exact aCat_16 (by with_unfolding_all rfl) | exact rk_eq (by with_unfolding_all rfl) | assumption | exact b2n_lt _ | exact id_b (by with_unfolding_all rfl) | (simp (disch := omega) only [u2_same, u2_ab, u2_aq]; done) | (simp (disch := omega) only [u2_same, u2_ab, u2_aq]; omega) | fail)) only [al_4160, wp_aloadr_0, wp_aloadk_0, wk_0, hp_86_0, wp_iload_1, wp_i2l, wl_1, wl_99, wc_4, t_4, lN_le, wz_ne_t, wz_ne_f, wb_ne_t, wb_ne_f, wm_ne_1, wm_ne_2, wk_m1, wp_ireturn, al_4161, wc_60, wp_istore_2, wp_istore_3, wp_istore_4, wp_jsr, wp_iload_4, hg_86_4, wn_ge_t, wn_ge_f, hg_86_35, ha_105l, ha_105s, wp_iinc_4_1, wp_goto, al_4163, hg_86_9, ha_90l, ha_90s, wc_41, wp_iload_2, hg_86_25, wc_17, t_17, wp_iadd, wc_58, wp_dup2, wk_1, wp_iload_3, wp_ishl, wp_ior, al_4165, al_4166, hp_86_1, wc_43, t_43, al_4168, nl_i, nl_r, nl_k, nl_j, nl_l, nI_add, pk_mul, pk_sub, tl_s, tl_n, aL_inl, u2_same, u2_ab, u2_aq, nI_l, lN_i, Nat.add_zero, Nat.zero_add, Nat.zero_le, true_and, and_true, b2n_10, b2n_T, b2n_F, b2n_0, Decidable.not_not, not_true_eq_false, not_false_eq_true, Nat.reduceAdd, Nat.reduceMul, b2n_f hin]
      exact hQ _ _ _ (qN_u qN_r rfl) sI_r qJ_r ⟨u2_aq (by decide), fun _ => rfl⟩
end O7
