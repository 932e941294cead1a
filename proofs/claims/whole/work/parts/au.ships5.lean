/-! timetable: the reference reads ships and lets tides go. From wip/whole/src. -/
section KC
variable {ko : aKo} {d k : Nat} {is : List Instr} {ls st : List Value} {σ : aH} {D : Nat → Nat} {N : Nat → Nat → Nat} {I : Nat → Nat → Int32} {J : Nat → Nat → Int64} {x t : Nat} {Q : Option Value → aH → Prop} {P : (Option Value ⊕ Unit) → aH → Prop}
def fr107 (I' I : Nat → Nat → Int32) : Prop := ∀ b q, b ≠ 107 → I' b q = I b q
theorem l_76a {M : Nat → Nat → Nat} {I0 : Nat → Nat → Int32} {n e K : Nat} {w5 w6 w7 w8 w9 : Value} (he : e ≤ 80) (hb : ∀ i, i < e → M 91 i < 256) (hk : frS (M 91) e K)
    (hQ : ∀ (N : Nat → Nat → Nat) (I : Nat → Nat → Int32) (f v : Int32), txR M N e K → fr107 I I0 → (∀ i, i < K → I 107 i = nI (M 91 i - 48)) → aWp ko d 76 (aP.1 (Int.toNat 4869)) [.ref 86, .int (nI n), .int (nI K), .int f, .int v, w5, w6, w7, w8, w9] [] (hp D N I J x) (aL Q)) :
    ∀ (j i : Nat) (N : Nat → Nat → Nat) (I : Nat → Nat → Int32) (w4 : Value), i + j = K → txR M N e i → fr107 I I0 → (∀ p, p < i → I 107 p = nI (M 91 p - 48)) → (i = 0 ∨ ∃ v, w4 = .int v) → aWp ko d 76 (aP.1 (Int.toNat 4866)) [.ref 86, .int (nI n), .int (nI i), .int (nI 1), w4, w5, w6, w7, w8, w9] [] (hp D N I J x) (aL Q) := by
  obtain ⟨k1, k2, k3, k4⟩ := hk
  intro j
  induction j with
  | zero =>
    intro i N I w4 hi hT hf hv hw
    have e1 : i = K := by omega
    subst e1
    rw [al_4866]
    by_cases z : i = 8
    · have h84 : ∃ v : Int32, w4 = .int v := by
        rcases hw with h | h
        · omega
        · exact h
      obtain ⟨v, rfl⟩ := h84
      have hx := hQ N I (nI 1) v hT hf hv
      subst z
      simp (disch := (first | omega | exact aCat_8 (by with_unfolding_all rfl) | exact rk_lt (by with_unfolding_all rfl) | exact aCat_16 (by with_unfolding_all rfl) | exact rk_eq (by with_unfolding_all rfl) | assumption | exact b2n_lt _ | exact id_b (by with_unfolding_all rfl) | (simp (disch := omega) only [u2_same, u2_ab, u2_aq]; done) | (simp (disch := omega) only [u2_same, u2_ab, u2_aq]; omega) | fail)) only [al_4864, wp_aloadr_0, wp_aloadk_0, wk_0, hp_86_0, wk_80, wc_6, wp_pop, wp_iload_1, wp_i2l, wl_1, wl_20, wc_4, t_4, lN_le, wz_ne_t, wz_ne_f, wb_ne_t, wb_ne_f, wm_ne_1, wm_ne_2, wk_m100, wp_ireturn, al_4865, wp_istore_2, wk_1, wp_istore_3, wp_jsr, wp_iload_3, wz_eq_t, wz_eq_f, wb_eq_t, wb_eq_f, wm_eq_1, wm_eq_2, wp_iload_2, wk_8, wn_ge_t, wn_ge_f, wk_9, wc_7, wp_istore_4, wp_iload_4, wz_le_t, wz_le_f, wm_le_1, wm_le_2, wp_goto, al_4867, al_4868, hg_86_38, ha_107l, ha_107s, wc_17, t_17, wp_iadd, hg_86_12, hg_86_13, al_4870, wk_m1, wp_isub, al_4871, wc_60, hg_86_9, ha_90l, ha_90s, wc_25, hg_86_39, ha_108l, ha_108s, wc_75, hg_86_42, ha_111l, ha_111s, wc_41, wp_iinc_4_1, al_4873, wc_77, wp_istore_5, hp_86_1, wp_istore_6, wp_iload_6, wp_iload_5, wn_ne_t, wn_ne_f, al_4875, al_4876, wp_istore_7, wp_iload_7, al_4877, al_4878, wp_istore_8, wp_iload_8, wn_lt_t, wn_lt_f, al_4880, al_4881, wp_istore_9, wp_iload_9, wn_eq_t, wn_eq_f, al_4882, al_4883, al_4884, al_4885, al_4886, al_4887, wz_lt_t, wz_lt_f, wm_lt_1, wm_lt_2, al_4888, al_4889, wc_43, t_43, wp_iinc_6_1, al_4890, nl_i, nl_r, nl_k, nl_j, nl_l, nI_add, pk_mul, pk_sub, tl_s, tl_n, aL_inl, u2_same, u2_ab, u2_aq, nI_l, lN_i, Nat.add_zero, Nat.zero_add, Nat.zero_le, true_and, and_true, b2n_10, b2n_T, b2n_F, b2n_0, Decidable.not_not, not_true_eq_false, not_false_eq_true, Nat.reduceAdd, Nat.reduceMul, Nat.reduceSub]
      exact hx
    · have hd : ¬ (i < e ∧ 49 ≤ M 91 i ∧ M 91 i ≤ 57) := by
        rcases k4 with k4 | k4 | k4
        · omega
        · omega
        · exact fun y => k4 y.2
      have t7 := fun Q => t_7bn (ko := ko) (d := d) (D := D) (I := I) (J := J) (x := x) (Q := Q) hT he k2 hb hd
      have hx := hQ N (u2 I 107 i (-1)) (nI 0) (-1) hT (fun b q y => by rw [u2_ab y]; exact hf b q y) (fun p hp1 => by rw [u2_aq (by omega)]; exact hv p hp1)
      simp (disch := (first | omega | exact aCat_8 (by with_unfolding_all rfl) | exact rk_lt (by with_unfolding_all rfl) | exact aCat_16 (by with_unfolding_all rfl) | exact rk_eq (by with_unfolding_all rfl) | assumption | exact b2n_lt _ | exact id_b (by with_unfolding_all rfl) | (simp (disch := omega) only [u2_same, u2_ab, u2_aq]; done) | (simp (disch := omega) only [u2_same, u2_ab, u2_aq]; omega) | fail)) only [al_4864, wp_aloadr_0, wp_aloadk_0, wk_0, hp_86_0, wk_80, wc_6, wp_pop, wp_iload_1, wp_i2l, wl_1, wl_20, wc_4, t_4, lN_le, wz_ne_t, wz_ne_f, wb_ne_t, wb_ne_f, wm_ne_1, wm_ne_2, wk_m100, wp_ireturn, al_4865, wp_istore_2, wk_1, wp_istore_3, wp_jsr, wp_iload_3, wz_eq_t, wz_eq_f, wb_eq_t, wb_eq_f, wm_eq_1, wm_eq_2, wp_iload_2, wk_8, wn_ge_t, wn_ge_f, wk_9, wc_7, wp_istore_4, wp_iload_4, wz_le_t, wz_le_f, wm_le_1, wm_le_2, wp_goto, al_4867, al_4868, hg_86_38, ha_107l, ha_107s, wc_17, t_17, wp_iadd, hg_86_12, hg_86_13, al_4870, wk_m1, wp_isub, al_4871, wc_60, hg_86_9, ha_90l, ha_90s, wc_25, hg_86_39, ha_108l, ha_108s, wc_75, hg_86_42, ha_111l, ha_111s, wc_41, wp_iinc_4_1, al_4873, wc_77, wp_istore_5, hp_86_1, wp_istore_6, wp_iload_6, wp_iload_5, wn_ne_t, wn_ne_f, al_4875, al_4876, wp_istore_7, wp_iload_7, al_4877, al_4878, wp_istore_8, wp_iload_8, wn_lt_t, wn_lt_f, al_4880, al_4881, wp_istore_9, wp_iload_9, wn_eq_t, wn_eq_f, al_4882, al_4883, al_4884, al_4885, al_4886, al_4887, wz_lt_t, wz_lt_f, wm_lt_1, wm_lt_2, al_4888, al_4889, wc_43, t_43, wp_iinc_6_1, al_4890, nl_i, nl_r, nl_k, nl_j, nl_l, nI_add, pk_mul, pk_sub, tl_s, tl_n, aL_inl, u2_same, u2_ab, u2_aq, nI_l, lN_i, Nat.add_zero, Nat.zero_add, Nat.zero_le, true_and, and_true, b2n_10, b2n_T, b2n_F, b2n_0, Decidable.not_not, not_true_eq_false, not_false_eq_true, Nat.reduceAdd, Nat.reduceMul, Nat.reduceSub, t7, qe_n1, qe_m1, qn_n1, qn_m1, qe_n2, qe_m2, qn_n2, qn_m2]
      rw [al_4866]
      simp (disch := (first | omega | exact aCat_8 (by with_unfolding_all rfl) | exact rk_lt (by with_unfolding_all rfl) | exact aCat_16 (by with_unfolding_all rfl) | exact rk_eq (by with_unfolding_all rfl) | assumption | exact b2n_lt _ | exact id_b (by with_unfolding_all rfl) | (simp (disch := omega) only [u2_same, u2_ab, u2_aq]; done) | (simp (disch := omega) only [u2_same, u2_ab, u2_aq]; omega) | fail)) only [al_4864, wp_aloadr_0, wp_aloadk_0, wk_0, hp_86_0, wk_80, wc_6, wp_pop, wp_iload_1, wp_i2l, wl_1, wl_20, wc_4, t_4, lN_le, wz_ne_t, wz_ne_f, wb_ne_t, wb_ne_f, wm_ne_1, wm_ne_2, wk_m100, wp_ireturn, al_4865, wp_istore_2, wk_1, wp_istore_3, wp_jsr, wp_iload_3, wz_eq_t, wz_eq_f, wb_eq_t, wb_eq_f, wm_eq_1, wm_eq_2, wp_iload_2, wk_8, wn_ge_t, wn_ge_f, wk_9, wc_7, wp_istore_4, wp_iload_4, wz_le_t, wz_le_f, wm_le_1, wm_le_2, wp_goto, al_4867, al_4868, hg_86_38, ha_107l, ha_107s, wc_17, t_17, wp_iadd, hg_86_12, hg_86_13, al_4870, wk_m1, wp_isub, al_4871, wc_60, hg_86_9, ha_90l, ha_90s, wc_25, hg_86_39, ha_108l, ha_108s, wc_75, hg_86_42, ha_111l, ha_111s, wc_41, wp_iinc_4_1, al_4873, wc_77, wp_istore_5, hp_86_1, wp_istore_6, wp_iload_6, wp_iload_5, wn_ne_t, wn_ne_f, al_4875, al_4876, wp_istore_7, wp_iload_7, al_4877, al_4878, wp_istore_8, wp_iload_8, wn_lt_t, wn_lt_f, al_4880, al_4881, wp_istore_9, wp_iload_9, wn_eq_t, wn_eq_f, al_4882, al_4883, al_4884, al_4885, al_4886, al_4887, wz_lt_t, wz_lt_f, wm_lt_1, wm_lt_2, al_4888, al_4889, wc_43, t_43, wp_iinc_6_1, al_4890, nl_i, nl_r, nl_k, nl_j, nl_l, nI_add, pk_mul, pk_sub, tl_s, tl_n, aL_inl, u2_same, u2_ab, u2_aq, nI_l, lN_i, Nat.add_zero, Nat.zero_add, Nat.zero_le, true_and, and_true, b2n_10, b2n_T, b2n_F, b2n_0, Decidable.not_not, not_true_eq_false, not_false_eq_true, Nat.reduceAdd, Nat.reduceMul, Nat.reduceSub]
      exact hx
  | succ j ih =>
    intro i N I w4 hi hT hf hv hw
    have hd := k3 i (by omega)
    rw [al_4866]
    simp (disch := (first | omega | exact aCat_8 (by with_unfolding_all rfl) | exact rk_lt (by with_unfolding_all rfl) | exact aCat_16 (by with_unfolding_all rfl) | exact rk_eq (by with_unfolding_all rfl) | assumption | exact b2n_lt _ | exact id_b (by with_unfolding_all rfl) | (simp (disch := omega) only [u2_same, u2_ab, u2_aq]; done) | (simp (disch := omega) only [u2_same, u2_ab, u2_aq]; omega) | fail)) only [al_4864, wp_aloadr_0, wp_aloadk_0, wk_0, hp_86_0, wk_80, wc_6, wp_pop, wp_iload_1, wp_i2l, wl_1, wl_20, wc_4, t_4, lN_le, wz_ne_t, wz_ne_f, wb_ne_t, wb_ne_f, wm_ne_1, wm_ne_2, wk_m100, wp_ireturn, al_4865, wp_istore_2, wk_1, wp_istore_3, wp_jsr, wp_iload_3, wz_eq_t, wz_eq_f, wb_eq_t, wb_eq_f, wm_eq_1, wm_eq_2, wp_iload_2, wk_8, wn_ge_t, wn_ge_f, wk_9, wc_7, wp_istore_4, wp_iload_4, wz_le_t, wz_le_f, wm_le_1, wm_le_2, wp_goto, al_4867, al_4868, hg_86_38, ha_107l, ha_107s, wc_17, t_17, wp_iadd, hg_86_12, hg_86_13, al_4870, wk_m1, wp_isub, al_4871, wc_60, hg_86_9, ha_90l, ha_90s, wc_25, hg_86_39, ha_108l, ha_108s, wc_75, hg_86_42, ha_111l, ha_111s, wc_41, wp_iinc_4_1, al_4873, wc_77, wp_istore_5, hp_86_1, wp_istore_6, wp_iload_6, wp_iload_5, wn_ne_t, wn_ne_f, al_4875, al_4876, wp_istore_7, wp_iload_7, al_4877, al_4878, wp_istore_8, wp_iload_8, wn_lt_t, wn_lt_f, al_4880, al_4881, wp_istore_9, wp_iload_9, wn_eq_t, wn_eq_f, al_4882, al_4883, al_4884, al_4885, al_4886, al_4887, wz_lt_t, wz_lt_f, wm_lt_1, wm_lt_2, al_4888, al_4889, wc_43, t_43, wp_iinc_6_1, al_4890, nl_i, nl_r, nl_k, nl_j, nl_l, nI_add, pk_mul, pk_sub, tl_s, tl_n, aL_inl, u2_same, u2_ab, u2_aq, nI_l, lN_i, Nat.add_zero, Nat.zero_add, Nat.zero_le, true_and, and_true, b2n_10, b2n_T, b2n_F, b2n_0, Decidable.not_not, not_true_eq_false, not_false_eq_true, Nat.reduceAdd, Nat.reduceMul, Nat.reduceSub]
    refine t_7b hT he ⟨by omega, hd⟩ ?_
    intro N1 hT1
    have hx := ih (i + 1) N1 (u2 I 107 i (nI (M 91 i - 48))) (.int (nI (M 91 i - 48))) (by omega) hT1 (fun b q y => by rw [u2_ab y]; exact hf b q y) (fun p hp1 => by
      rw [u2_rd]
      split
      · rename_i y
        rw [y.2]
      · rename_i y
        exact hv p (by
          have : p ≠ i := fun w => y ⟨rfl, w⟩
          omega)) (Or.inr ⟨_, rfl⟩)
    have h9 : M 91 i - 48 < 10 := by omega
    have h0 : 0 < M 91 i - 48 := by omega
    generalize M 91 i - 48 = c at *
    simp (disch := (first | omega | exact aCat_8 (by with_unfolding_all rfl) | exact rk_lt (by with_unfolding_all rfl) | exact aCat_16 (by with_unfolding_all rfl) | exact rk_eq (by with_unfolding_all rfl) | assumption | exact b2n_lt _ | exact id_b (by with_unfolding_all rfl) | (simp (disch := omega) only [u2_same, u2_ab, u2_aq]; done) | (simp (disch := omega) only [u2_same, u2_ab, u2_aq]; omega) | fail)) only [al_4864, wp_aloadr_0, wp_aloadk_0, wk_0, hp_86_0, wk_80, wc_6, wp_pop, wp_iload_1, wp_i2l, wl_1, wl_20, wc_4, t_4, lN_le, wz_ne_t, wz_ne_f, wb_ne_t, wb_ne_f, wm_ne_1, wm_ne_2, wk_m100, wp_ireturn, al_4865, wp_istore_2, wk_1, wp_istore_3, wp_jsr, wp_iload_3, wz_eq_t, wz_eq_f, wb_eq_t, wb_eq_f, wm_eq_1, wm_eq_2, wp_iload_2, wk_8, wn_ge_t, wn_ge_f, wk_9, wc_7, wp_istore_4, wp_iload_4, wz_le_t, wz_le_f, wm_le_1, wm_le_2, wp_goto, al_4867, al_4868, hg_86_38, ha_107l, ha_107s, wc_17, t_17, wp_iadd, hg_86_12, hg_86_13, al_4870, wk_m1, wp_isub, al_4871, wc_60, hg_86_9, ha_90l, ha_90s, wc_25, hg_86_39, ha_108l, ha_108s, wc_75, hg_86_42, ha_111l, ha_111s, wc_41, wp_iinc_4_1, al_4873, wc_77, wp_istore_5, hp_86_1, wp_istore_6, wp_iload_6, wp_iload_5, wn_ne_t, wn_ne_f, al_4875, al_4876, wp_istore_7, wp_iload_7, al_4877, al_4878, wp_istore_8, wp_iload_8, wn_lt_t, wn_lt_f, al_4880, al_4881, wp_istore_9, wp_iload_9, wn_eq_t, wn_eq_f, al_4882, al_4883, al_4884, al_4885, al_4886, al_4887, wz_lt_t, wz_lt_f, wm_lt_1, wm_lt_2, al_4888, al_4889, wc_43, t_43, wp_iinc_6_1, al_4890, nl_i, nl_r, nl_k, nl_j, nl_l, nI_add, pk_mul, pk_sub, tl_s, tl_n, aL_inl, u2_same, u2_ab, u2_aq, nI_l, lN_i, Nat.add_zero, Nat.zero_add, Nat.zero_le, true_and, and_true, b2n_10, b2n_T, b2n_F, b2n_0, Decidable.not_not, not_true_eq_false, not_false_eq_true, Nat.reduceAdd, Nat.reduceMul, Nat.reduceSub]
    exact hx
theorem th_cx {N0 : Nat → Nat → Nat} {I0 : Nat → Nat → Int32} {J0 : Nat → Nat → Int64} {S : Nat → Nat} (h : invB D N0 I0 J0 t) (hS : rwO (D 1) S) (hT : thO N0 N I0 I S)
    (hQ : ∀ (N' : Nat → Nat → Nat) (I' : Nat → Nat → Int32), thO N0 N' I0 I' S → crO N' (crsS D N0 S) → (∀ b q, frC b q = false → N' b q = N b q) → (∀ b q, b ≠ 95 → b ≠ 96 → I' b q = I b q) → Q none (hp D N' I' J x)) :
    aMm ko d 25 [.ref 86, .ref 90] (hp D N I J x) Q := by
  obtain ⟨h9, hN, hI, h1⟩ := hT
  have hs := sN_sm (qN_s hN)
  refine t_25 (r := 90) (Or.inr rfl) h.1.1 (by rw [h9]; exact hS) (smR_rl hs (inv_rl h)) ?_
  intro N' I' hc hN' hI'
  have hcc : crs0 (D 0) (D 1) (dsl (D 1) N (N 90)) (wlS (N 90)) (N 90 108) = crsS D N0 S := by
    rw [h9, smR_dsl hs]
    rfl
  rw [hcc] at hc
  refine hQ N' I' ⟨?_, qN_t (rN_q hN') hN, sI_t (rI_s hI') hI, (hN' 86 1 rfl).trans h1⟩ hc hN' hI'
  rw [← h9]
  funext q
  exact hN' 90 q rfl
theorem th_1x {N0 : Nat → Nat → Nat} {I0 : Nat → Nat → Int32} {J0 : Nat → Nat → Int64} {S : Nat → Nat} {u : Nat} (h : invB D N0 I0 J0 t) (hS : rwG D u S) (hu : u + 1 < 1000000000) (hT : thO N0 N I0 I S)
    (hQ : ∀ (N' : Nat → Nat → Nat) (I' : Nat → Nat → Int32), thO N0 N' I0 I' (itS D N0 S 1) → (∀ b q, frC b q = false → b ≠ 90 → N' b q = N b q) → (∀ b q, b ≠ 95 → b ≠ 96 → I' b q = I b q) → Q none (hp D N' I' J x)) :
    aMm ko d 41 [.ref 86, .ref 90] (hp D N I J x) Q := by
  obtain ⟨h9, hN, hI, h1⟩ := hT
  have hs := sN_sm (qN_s hN)
  have hw1 := itS_O (N := N0) h.1.1 hS.1 1 (by have := hS.2.2.1; omega)
  refine t_41 (r := 90) (Or.inr rfl) h.1.1 (by rw [h9]; exact hS.1) (smR_rl hs (inv_rl h)) ?_
  intro N' I' hc hS' hN' hI'
  rw [h9, smR_td hs] at hS'
  refine hQ N' I' ⟨hS', qN_t (rN_q9 hN' ?_) hN, sI_t (rI_s hI') hI, (hN' 86 1 rfl (by decide)).trans h1⟩ hN' hI'
  intro q hq
  rw [hS', h9, hS.1.2.2.2.2 q hq]
  exact hw1.2.2.2.2 q hq
theorem th_s {N0 N' : Nat → Nat → Nat} {I0 I' : Nat → Nat → Int32} {S : Nat → Nat} (hT : thO N0 N I0 I S) (h1 : ∀ b q, b ≠ 108 → b ≠ 111 → N' b q = N b q) (h2 : sI I' I) : thO N0 N' I0 I' S := by
  obtain ⟨h9, hN, hI, h1'⟩ := hT
  refine ⟨?_, fun b q z => (h1 b q (by rintro rfl; cases z) (by rintro rfl; cases z)).trans (hN b q z), sI_t h2 hI, (h1 86 1 (by decide) (by decide)).trans h1'⟩
  rw [← h9]
  funext q
  exact h1 90 q (by decide) (by decide)
/-- the reference, before a tide of the plan -/
def plR (D : Nat → Nat) (N0 N : Nat → Nat → Nat) (I0 I : Nat → Nat → Int32) (dr : Nat → Nat) (K q : Nat) : Prop := thO N0 N I0 I (itS D N0 (N0 89) q) ∧ (∀ i, i < K → I 107 i = nI (dr i)) ∧ ∀ p, p < q → N 108 p = dpS D N0 p ∧ N 111 p = 0
theorem l_76b {N0 : Nat → Nat → Nat} {I0 : Nat → Nat → Int32} {J0 : Nat → Nat → Int64} {K n : Nat} {dr : Nat → Nat} {f : Int32} {w5 w6 w7 w8 w9 : Value} (h : invB D N0 I0 J0 t) (ht : t + 300 < 1000000000) (hn : n ≤ 20) (hK : K ≤ 8)
    (hQ : ∀ (N : Nat → Nat → Nat) (I : Nat → Nat → Int32), plR D N0 N I0 I dr K n → aWp ko d 76 (aP.1 (Int.toNat 4873)) [.ref 86, .int (nI n), .int (nI K), .int f, .int (nI n), w5, w6, w7, w8, w9] [] (hp D N I J x) (aL Q)) :
    ∀ (j q : Nat) (N : Nat → Nat → Nat) (I : Nat → Nat → Int32), q + j = n → plR D N0 N I0 I dr K q → aWp ko d 76 (aP.1 (Int.toNat 4872)) [.ref 86, .int (nI n), .int (nI K), .int f, .int (nI q), w5, w6, w7, w8, w9] [] (hp D N I J x) (aL Q) := by
  have h89 := h.2.2.2.2.1
  have hG : ∀ q, q ≤ 20 → rwG D (t + q) (itS D N0 (N0 89) q) := fun q hq => rwG_it h (u := t) (n := q) ⟨h89.1, h89.2.1, h89.2.2.1⟩ (by omega)
  intro j
  induction j with
  | zero =>
    intro q N I hq hP
    have e : q = n := by omega
    subst e
    have hx := hQ N I hP
    rw [al_4872]
    simp (disch := (first | omega | exact aCat_8 (by with_unfolding_all rfl) | exact rk_lt (by with_unfolding_all rfl) | exact aCat_16 (by with_unfolding_all rfl) | exact rk_eq (by with_unfolding_all rfl) | assumption | exact b2n_lt _ | exact id_b (by with_unfolding_all rfl) | (simp (disch := omega) only [u2_same, u2_ab, u2_aq]; done) | (simp (disch := omega) only [u2_same, u2_ab, u2_aq]; omega) | fail)) only [al_4864, wp_aloadr_0, wp_aloadk_0, wk_0, hp_86_0, wk_80, wc_6, wp_pop, wp_iload_1, wp_i2l, wl_1, wl_20, wc_4, t_4, lN_le, wz_ne_t, wz_ne_f, wb_ne_t, wb_ne_f, wm_ne_1, wm_ne_2, wk_m100, wp_ireturn, al_4865, wp_istore_2, wk_1, wp_istore_3, wp_jsr, wp_iload_3, wz_eq_t, wz_eq_f, wb_eq_t, wb_eq_f, wm_eq_1, wm_eq_2, wp_iload_2, wk_8, wn_ge_t, wn_ge_f, wk_9, wc_7, wp_istore_4, wp_iload_4, wz_le_t, wz_le_f, wm_le_1, wm_le_2, wp_goto, al_4867, al_4868, hg_86_38, ha_107l, ha_107s, wc_17, t_17, wp_iadd, al_4869, hg_86_12, hg_86_13, al_4870, wk_m1, wp_isub, al_4871, wc_60, hg_86_9, ha_90l, ha_90s, wc_25, hg_86_39, ha_108l, ha_108s, wc_75, hg_86_42, ha_111l, ha_111s, wc_41, wp_iinc_4_1, wc_77, wp_istore_5, hp_86_1, wp_istore_6, wp_iload_6, wp_iload_5, wn_ne_t, wn_ne_f, al_4875, al_4876, wp_istore_7, wp_iload_7, al_4877, al_4878, wp_istore_8, wp_iload_8, wn_lt_t, wn_lt_f, al_4880, al_4881, wp_istore_9, wp_iload_9, wn_eq_t, wn_eq_f, al_4882, al_4883, al_4884, al_4885, al_4886, al_4887, wz_lt_t, wz_lt_f, wm_lt_1, wm_lt_2, al_4888, al_4889, wc_43, t_43, wp_iinc_6_1, al_4890, nl_i, nl_r, nl_k, nl_j, nl_l, nI_add, pk_mul, pk_sub, tl_s, tl_n, aL_inl, u2_same, u2_ab, u2_aq, nI_l, lN_i, Nat.add_zero, Nat.zero_add, Nat.zero_le, true_and, and_true, b2n_10, b2n_T, b2n_F, b2n_0, Decidable.not_not, not_true_eq_false, not_false_eq_true, Nat.reduceAdd, Nat.reduceMul, Nat.reduceSub]
    exact hx
  | succ j ih =>
    intro q N I hq hP
    obtain ⟨hT, p1, p2⟩ := hP
    have hS := hG q (by omega)
    rw [al_4872]
    simp (disch := (first | omega | exact aCat_8 (by with_unfolding_all rfl) | exact rk_lt (by with_unfolding_all rfl) | exact aCat_16 (by with_unfolding_all rfl) | exact rk_eq (by with_unfolding_all rfl) | assumption | exact b2n_lt _ | exact id_b (by with_unfolding_all rfl) | (simp (disch := omega) only [u2_same, u2_ab, u2_aq]; done) | (simp (disch := omega) only [u2_same, u2_ab, u2_aq]; omega) | fail)) only [al_4864, wp_aloadr_0, wp_aloadk_0, wk_0, hp_86_0, wk_80, wc_6, wp_pop, wp_iload_1, wp_i2l, wl_1, wl_20, wc_4, t_4, lN_le, wz_ne_t, wz_ne_f, wb_ne_t, wb_ne_f, wm_ne_1, wm_ne_2, wk_m100, wp_ireturn, al_4865, wp_istore_2, wk_1, wp_istore_3, wp_jsr, wp_iload_3, wz_eq_t, wz_eq_f, wb_eq_t, wb_eq_f, wm_eq_1, wm_eq_2, wp_iload_2, wk_8, wn_ge_t, wn_ge_f, wk_9, wc_7, wp_istore_4, wp_iload_4, wz_le_t, wz_le_f, wm_le_1, wm_le_2, wp_goto, al_4867, al_4868, hg_86_38, ha_107l, ha_107s, wc_17, t_17, wp_iadd, al_4869, hg_86_12, hg_86_13, al_4870, wk_m1, wp_isub, al_4871, wc_60, hg_86_9, ha_90l, ha_90s, wc_25, hg_86_39, ha_108l, ha_108s, wc_75, hg_86_42, ha_111l, ha_111s, wc_41, wp_iinc_4_1, wc_77, wp_istore_5, hp_86_1, wp_istore_6, wp_iload_6, wp_iload_5, wn_ne_t, wn_ne_f, al_4875, al_4876, wp_istore_7, wp_iload_7, al_4877, al_4878, wp_istore_8, wp_iload_8, wn_lt_t, wn_lt_f, al_4880, al_4881, wp_istore_9, wp_iload_9, wn_eq_t, wn_eq_f, al_4882, al_4883, al_4884, al_4885, al_4886, al_4887, wz_lt_t, wz_lt_f, wm_lt_1, wm_lt_2, al_4888, al_4889, wc_43, t_43, wp_iinc_6_1, al_4890, nl_i, nl_r, nl_k, nl_j, nl_l, nI_add, pk_mul, pk_sub, tl_s, tl_n, aL_inl, u2_same, u2_ab, u2_aq, nI_l, lN_i, Nat.add_zero, Nat.zero_add, Nat.zero_le, true_and, and_true, b2n_10, b2n_T, b2n_F, b2n_0, Decidable.not_not, not_true_eq_false, not_false_eq_true, Nat.reduceAdd, Nat.reduceMul, Nat.reduceSub]
    refine th_cx h hS.1 hT ?_
    intro N1 I1 hT1 hc hN1 hI1
    obtain ⟨c36, c37⟩ := crs_36 h hS.1
    simp (disch := (first | omega | exact aCat_8 (by with_unfolding_all rfl) | exact rk_lt (by with_unfolding_all rfl) | exact aCat_16 (by with_unfolding_all rfl) | exact rk_eq (by with_unfolding_all rfl) | assumption | exact b2n_lt _ | exact id_b (by with_unfolding_all rfl) | (simp (disch := omega) only [u2_same, u2_ab, u2_aq]; done) | (simp (disch := omega) only [u2_same, u2_ab, u2_aq]; omega) | fail)) only [al_4864, wp_aloadr_0, wp_aloadk_0, wk_0, hp_86_0, wk_80, wc_6, wp_pop, wp_iload_1, wp_i2l, wl_1, wl_20, wc_4, t_4, lN_le, wz_ne_t, wz_ne_f, wb_ne_t, wb_ne_f, wm_ne_1, wm_ne_2, wk_m100, wp_ireturn, al_4865, wp_istore_2, wk_1, wp_istore_3, wp_jsr, wp_iload_3, wz_eq_t, wz_eq_f, wb_eq_t, wb_eq_f, wm_eq_1, wm_eq_2, wp_iload_2, wk_8, wn_ge_t, wn_ge_f, wk_9, wc_7, wp_istore_4, wp_iload_4, wz_le_t, wz_le_f, wm_le_1, wm_le_2, wp_goto, al_4867, al_4868, hg_86_38, ha_107l, ha_107s, wc_17, t_17, wp_iadd, al_4869, hg_86_12, hg_86_13, al_4870, wk_m1, wp_isub, al_4871, wc_60, hg_86_9, ha_90l, ha_90s, wc_25, hg_86_39, ha_108l, ha_108s, wc_75, hg_86_42, ha_111l, ha_111s, wc_41, wp_iinc_4_1, wc_77, wp_istore_5, hp_86_1, wp_istore_6, wp_iload_6, wp_iload_5, wn_ne_t, wn_ne_f, al_4875, al_4876, wp_istore_7, wp_iload_7, al_4877, al_4878, wp_istore_8, wp_iload_8, wn_lt_t, wn_lt_f, al_4880, al_4881, wp_istore_9, wp_iload_9, wn_eq_t, wn_eq_f, al_4882, al_4883, al_4884, al_4885, al_4886, al_4887, wz_lt_t, wz_lt_f, wm_lt_1, wm_lt_2, al_4888, al_4889, wc_43, t_43, wp_iinc_6_1, al_4890, nl_i, nl_r, nl_k, nl_j, nl_l, nI_add, pk_mul, pk_sub, tl_s, tl_n, aL_inl, u2_same, u2_ab, u2_aq, nI_l, lN_i, Nat.add_zero, Nat.zero_add, Nat.zero_le, true_and, and_true, b2n_10, b2n_T, b2n_F, b2n_0, Decidable.not_not, not_true_eq_false, not_false_eq_true, Nat.reduceAdd, Nat.reduceMul, Nat.reduceSub]
    refine t_75 (r := 90) (S := itS D N0 (N0 89) q) (Or.inr rfl) (fun f hf => ⟨by rw [hT1.1], (hS.1.1 f hf).1⟩) hc c37 c36 ?_
    have ed : dpt (itS D N0 (N0 89) q) (crsS D N0 (itS D N0 (N0 89) q)) = dpS D N0 q := rfl
    rw [ed]
    have hd9 : dpS D N0 q ≤ 9 := dpt_9
    generalize oI (hst (itS D N0 (N0 89) q) (crsS D N0 (itS D N0 (N0 89) q)).2.1 (crsS D N0 (itS D N0 (N0 89) q)).1) = hh
    have hT2 := th_s (N' := u2 (u2 N1 108 q (dpS D N0 q)) 111 q 0) (I' := u2 I1 86 37 hh) hT1 (fun b p z1 z2 => by rw [u2_ab z2, u2_ab z1]) (sI_u sI_r rfl)
    simp (disch := (first | omega | exact aCat_8 (by with_unfolding_all rfl) | exact rk_lt (by with_unfolding_all rfl) | exact aCat_16 (by with_unfolding_all rfl) | exact rk_eq (by with_unfolding_all rfl) | assumption | exact b2n_lt _ | exact id_b (by with_unfolding_all rfl) | (simp (disch := omega) only [u2_same, u2_ab, u2_aq]; done) | (simp (disch := omega) only [u2_same, u2_ab, u2_aq]; omega) | fail)) only [al_4864, wp_aloadr_0, wp_aloadk_0, wk_0, hp_86_0, wk_80, wc_6, wp_pop, wp_iload_1, wp_i2l, wl_1, wl_20, wc_4, t_4, lN_le, wz_ne_t, wz_ne_f, wb_ne_t, wb_ne_f, wm_ne_1, wm_ne_2, wk_m100, wp_ireturn, al_4865, wp_istore_2, wk_1, wp_istore_3, wp_jsr, wp_iload_3, wz_eq_t, wz_eq_f, wb_eq_t, wb_eq_f, wm_eq_1, wm_eq_2, wp_iload_2, wk_8, wn_ge_t, wn_ge_f, wk_9, wc_7, wp_istore_4, wp_iload_4, wz_le_t, wz_le_f, wm_le_1, wm_le_2, wp_goto, al_4867, al_4868, hg_86_38, ha_107l, ha_107s, wc_17, t_17, wp_iadd, al_4869, hg_86_12, hg_86_13, al_4870, wk_m1, wp_isub, al_4871, wc_60, hg_86_9, ha_90l, ha_90s, wc_25, hg_86_39, ha_108l, ha_108s, wc_75, hg_86_42, ha_111l, ha_111s, wc_41, wp_iinc_4_1, wc_77, wp_istore_5, hp_86_1, wp_istore_6, wp_iload_6, wp_iload_5, wn_ne_t, wn_ne_f, al_4875, al_4876, wp_istore_7, wp_iload_7, al_4877, al_4878, wp_istore_8, wp_iload_8, wn_lt_t, wn_lt_f, al_4880, al_4881, wp_istore_9, wp_iload_9, wn_eq_t, wn_eq_f, al_4882, al_4883, al_4884, al_4885, al_4886, al_4887, wz_lt_t, wz_lt_f, wm_lt_1, wm_lt_2, al_4888, al_4889, wc_43, t_43, wp_iinc_6_1, al_4890, nl_i, nl_r, nl_k, nl_j, nl_l, nI_add, pk_mul, pk_sub, tl_s, tl_n, aL_inl, u2_same, u2_ab, u2_aq, nI_l, lN_i, Nat.add_zero, Nat.zero_add, Nat.zero_le, true_and, and_true, b2n_10, b2n_T, b2n_F, b2n_0, Decidable.not_not, not_true_eq_false, not_false_eq_true, Nat.reduceAdd, Nat.reduceMul, Nat.reduceSub]
    refine th_1x h hS (by omega) hT2 ?_
    intro N3 I3 hT3 hN3 hI3
    have hx := ih (q + 1) N3 I3 (by omega) ⟨hT3, fun i hi => ?_, fun p hp1 => ⟨?_, ?_⟩⟩
    · simp (disch := (first | omega | exact aCat_8 (by with_unfolding_all rfl) | exact rk_lt (by with_unfolding_all rfl) | exact aCat_16 (by with_unfolding_all rfl) | exact rk_eq (by with_unfolding_all rfl) | assumption | exact b2n_lt _ | exact id_b (by with_unfolding_all rfl) | (simp (disch := omega) only [u2_same, u2_ab, u2_aq]; done) | (simp (disch := omega) only [u2_same, u2_ab, u2_aq]; omega) | fail)) only [al_4864, wp_aloadr_0, wp_aloadk_0, wk_0, hp_86_0, wk_80, wc_6, wp_pop, wp_iload_1, wp_i2l, wl_1, wl_20, wc_4, t_4, lN_le, wz_ne_t, wz_ne_f, wb_ne_t, wb_ne_f, wm_ne_1, wm_ne_2, wk_m100, wp_ireturn, al_4865, wp_istore_2, wk_1, wp_istore_3, wp_jsr, wp_iload_3, wz_eq_t, wz_eq_f, wb_eq_t, wb_eq_f, wm_eq_1, wm_eq_2, wp_iload_2, wk_8, wn_ge_t, wn_ge_f, wk_9, wc_7, wp_istore_4, wp_iload_4, wz_le_t, wz_le_f, wm_le_1, wm_le_2, wp_goto, al_4867, al_4868, hg_86_38, ha_107l, ha_107s, wc_17, t_17, wp_iadd, al_4869, hg_86_12, hg_86_13, al_4870, wk_m1, wp_isub, al_4871, wc_60, hg_86_9, ha_90l, ha_90s, wc_25, hg_86_39, ha_108l, ha_108s, wc_75, hg_86_42, ha_111l, ha_111s, wc_41, wp_iinc_4_1, wc_77, wp_istore_5, hp_86_1, wp_istore_6, wp_iload_6, wp_iload_5, wn_ne_t, wn_ne_f, al_4875, al_4876, wp_istore_7, wp_iload_7, al_4877, al_4878, wp_istore_8, wp_iload_8, wn_lt_t, wn_lt_f, al_4880, al_4881, wp_istore_9, wp_iload_9, wn_eq_t, wn_eq_f, al_4882, al_4883, al_4884, al_4885, al_4886, al_4887, wz_lt_t, wz_lt_f, wm_lt_1, wm_lt_2, al_4888, al_4889, wc_43, t_43, wp_iinc_6_1, al_4890, nl_i, nl_r, nl_k, nl_j, nl_l, nI_add, pk_mul, pk_sub, tl_s, tl_n, aL_inl, u2_same, u2_ab, u2_aq, nI_l, lN_i, Nat.add_zero, Nat.zero_add, Nat.zero_le, true_and, and_true, b2n_10, b2n_T, b2n_F, b2n_0, Decidable.not_not, not_true_eq_false, not_false_eq_true, Nat.reduceAdd, Nat.reduceMul, Nat.reduceSub]
      exact hx
    · rw [hI3 107 i (by decide) (by decide), u2_ab (by decide), hI1 107 i (by decide) (by decide)]
      exact p1 i hi
    · rw [hN3 108 p rfl (by decide), u2_ab (by decide), u2_rd]
      split
      · rename_i y
        rw [y.2]
      · rename_i y
        rw [hN1 108 p rfl]
        exact (p2 p (by
          have : p ≠ q := fun w => y ⟨rfl, w⟩
          omega)).1
    · rw [hN3 111 p rfl (by decide), u2_rd]
      split
      · rfl
      · rename_i y
        rw [u2_ab (by decide), hN1 111 p rfl]
        exact (p2 p (by
          have : p ≠ q := fun w => y ⟨rfl, w⟩
          omega)).2
end KC
