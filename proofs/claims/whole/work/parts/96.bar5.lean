/-! bar: the pair. From wip/whole/src. -/
theorem bw_0 {lim h : Nat} : bwn lim h 0 = false := by
  cases hq : bwn lim h 0 with
  | false => rfl
  | true =>
    have := (bwn_iff.mp hq).1.1
    omega
theorem bw_10 {lim h b : Nat} (hl : lim ≤ 9) (hb : bwn lim h b = true) : 1 ≤ b ∧ b < 10 := by
  have := (bwn_iff.mp hb).1
  omega
/-- the least winning share but l, of those above g; T = 0: none -/
def bwG (lim h l g T : Nat) : Prop := (T = 0 ∧ ∀ b, g < b → b ≠ l → bwn lim h b = false) ∨ (g < T ∧ T ≠ l ∧ bwn lim h T = true ∧ ∀ b, g < b → b < T → b ≠ l → bwn lim h b = false)
theorem bwA_G {lim h l T : Nat} (hl : lim ≤ 9) (hT : bwG lim h l 0 T) : bwA lim h l = T := by
  unfold bwA
  rcases hT with ⟨h0, h1⟩ | ⟨h0, h1, h2, h3⟩
  · cases hq : bwL lim h l 10 with
    | none => exact h0.symm
    | some a =>
      obtain ⟨_, a2, a3, _⟩ := bwL_some 10 hq
      have := h1 a (by have := bw_10 hl a3; omega) a2
      rw [this] at a3
      cases a3
  · cases hq : bwL lim h l 10 with
    | none =>
      have := bwL_none 10 hq T (bw_10 hl h2).2 h1
      rw [this] at h2
      cases h2
    | some a =>
      obtain ⟨_, a2, a3, a4⟩ := bwL_some 10 hq
      have ha := bw_10 hl a3
      show a = T
      by_cases e : a < T
      · have := h3 a (by omega) e a2
        rw [this] at a3
        cases a3
      · by_cases e2 : T < a
        · have := a4 T e2 h1
          rw [this] at h2
          cases h2
        · omega
theorem bwA_0 {lim h l : Nat} (hl : lim ≤ 9) : bwA lim h l = 0 ↔ ∀ b, b < 10 → b ≠ l → bwn lim h b = false := by
  unfold bwA
  constructor
  · intro e
    cases hq : bwL lim h l 10 with
    | none => exact bwL_none 10 hq
    | some a =>
      rw [hq] at e
      have e' : a = 0 := e
      subst e'
      have := (bwL_some 10 hq).2.2.1
      rw [bw_0] at this
      cases this
  · intro hall
    cases hq : bwL lim h l 10 with
    | none => rfl
    | some a =>
      obtain ⟨a1, a2, a3, _⟩ := bwL_some 10 hq
      have := hall a a1 a2
      rw [this] at a3
      cases a3
theorem bwA_le {lim h l : Nat} (hl : lim ≤ 9) : bwA lim h l ≤ 9 := by
  unfold bwA
  cases hq : bwL lim h l 10 with
  | none => exact Nat.zero_le _
  | some a =>
    have := (bwL_some 10 hq).1
    show a ≤ 9
    omega
section B5
variable {ko : aKo} {d k : Nat} {is : List Instr} {ls st : List Value} {σ : aH} {D : Nat → Nat} {N : Nat → Nat → Nat} {I : Nat → Nat → Int32} {J : Nat → Nat → Int64} {x t : Nat} {Q : Option Value → aH → Prop} {P : (Option Value ⊕ Unit) → aH → Prop}
/-- what the reference knows before it comes to place m -/
def bwK (lim m : Nat) (N0 N : Nat → Nat → Nat) : Prop := qN N N0 ∧ N 86 1 = N0 86 1 ∧ ∀ h l, l < 10 → 10 * h + l < m → N 120 (10 * h + l) = bwA lim h l
theorem bwK_u {lim m v : Nat} {N0 N : Nat → Nat → Nat} (h : bwK lim m N0 N) : bwK lim m N0 (u2 N 120 m v) := by
  refine ⟨qN_u h.1 rfl, by rw [u2_ab (by decide)]; exact h.2.1, ?_⟩
  intro a b hb hab
  rw [u2_aq (by omega)]
  exact h.2.2 a b hb hab
theorem l_95i {H lim h l : Nat} {N0 : Nat → Nat → Nat} (hH : H ≤ 60) (hl : lim ≤ 9) (hh : h ≤ H) (hl9 : l < 10)
    (hK : ∀ (N : Nat → Nat → Nat), bwK lim (10 * h + l + 1) N0 N → aWp ko d 95 (aP.1 (Int.toNat 6088)) [.ref 86, .int (nI H), .int (nI lim), .int (nI h), .int (nI l), .int (nI (10 * h + l)), .int (nI 0)] [] (hp D N I J x) (aL Q)) :
    ∀ (g : Nat) (N : Nat → Nat → Nat), g ≤ lim → g ≤ h → bwK lim (10 * h + l) N0 N → N 120 (10 * h + l) ≤ 9 → bwG lim h l g (N 120 (10 * h + l)) → aWp ko d 95 (aP.1 (Int.toNat 6085)) [.ref 86, .int (nI H), .int (nI lim), .int (nI h), .int (nI l), .int (nI (10 * h + l)), .int (nI g)] [] (hp D N I J x) (aL Q) := by
  intro g
  induction g with
  | zero =>
    intro N _ _ hk hT9 hT
    simp (disch := (first | omega | exact aCat_8 (by with_unfolding_all rfl) | exact rk_lt (by with_unfolding_all rfl) | exact aCat_16 (by with_unfolding_all rfl) | exact rk_eq (by with_unfolding_all rfl) | assumption | exact b2n_lt _ | exact id_b (by with_unfolding_all rfl) | (simp (disch := omega) only [u2_same, u2_ab, u2_aq]; done) | (simp (disch := omega) only [u2_same, u2_ab, u2_aq]; omega) | fail)) only [al_6080, wp_aloadr_0, wp_aloadk_0, wk_0, hp_86_0, wp_iload_1, wp_i2l, wl_0, wl_60, wc_4, t_4, lN_le, wz_eq_t, wz_eq_f, wb_eq_t, wb_eq_f, wm_eq_1, wm_eq_2, wp_iload_2, wl_1, wl_9, wz_ne_t, wz_ne_f, wb_ne_t, wb_ne_f, wm_ne_1, wm_ne_2, wp_jsr, al_6081, wk_m1, wp_ireturn, al_6082, wp_istore_3, wp_iload_3, wn_gt_t, wn_gt_f, wp_istore_4, wp_iload_4, wk_10, wn_ge_t, wn_ge_f, wp_imul, wp_iadd, wp_istore_5, hg_86_54, ha_120l, ha_120s, wp_iload_5, wp_min, wp_istore_6, al_6085, wp_iload_6, wz_le_t, wz_le_f, wm_le_1, wm_le_2, wn_eq_t, wn_eq_f, wp_isub, wp_goto, al_6086, al_6087, wp_idec_6_1, wp_iinc_4_1, al_6089, wp_iinc_3_1, al_6090, nl_i, nl_r, nl_k, nl_j, nl_l, nI_add, pk_mul, pk_sub, tl_s, tl_n, aL_inl, u2_same, u2_ab, u2_aq, nI_l, lN_i, Nat.add_zero, Nat.zero_add, Nat.zero_le, true_and, and_true, b2n_10, b2n_T, b2n_F, b2n_0, Decidable.not_not, not_true_eq_false, not_false_eq_true, Nat.reduceAdd, Nat.reduceMul, Nat.reduceSub]
    refine hK N ⟨hk.1, hk.2.1, ?_⟩
    intro a b hb hab
    by_cases e : 10 * a + b = 10 * h + l
    · have e1 : a = h := by omega
      have e2 : b = l := by omega
      subst e1 e2
      exact (bwA_G hl hT).symm
    · exact hk.2.2 a b hb (by omega)
  | succ g ih =>
    intro N h1 h2 hk hT9 hT
    have ih1 := fun N => ih N (by omega) (by omega)
    have hrd := hk.2.2 (h - (g + 1)) (g + 1) (by omega) (by omega)
    have hA9 := bwA_le (lim := lim) (h := h - (g + 1)) (l := g + 1) hl
    have hA0 := bwA_0 (lim := lim) (h := h - (g + 1)) (l := g + 1) hl
    have hb : bwn lim h (g + 1) = true ↔ bwA lim (h - (g + 1)) (g + 1) = 0 := by
      rw [bwn_iff, hA0]
      exact ⟨fun z => z.2, fun z => ⟨⟨by omega, by omega, by omega⟩, z⟩⟩
    rw [al_6085]
    by_cases e : g + 1 = l
    · simp (disch := (first | omega | exact aCat_8 (by with_unfolding_all rfl) | exact rk_lt (by with_unfolding_all rfl) | exact aCat_16 (by with_unfolding_all rfl) | exact rk_eq (by with_unfolding_all rfl) | assumption | exact b2n_lt _ | exact id_b (by with_unfolding_all rfl) | (simp (disch := omega) only [u2_same, u2_ab, u2_aq]; done) | (simp (disch := omega) only [u2_same, u2_ab, u2_aq]; omega) | fail)) only [al_6080, wp_aloadr_0, wp_aloadk_0, wk_0, hp_86_0, wp_iload_1, wp_i2l, wl_0, wl_60, wc_4, t_4, lN_le, wz_eq_t, wz_eq_f, wb_eq_t, wb_eq_f, wm_eq_1, wm_eq_2, wp_iload_2, wl_1, wl_9, wz_ne_t, wz_ne_f, wb_ne_t, wb_ne_f, wm_ne_1, wm_ne_2, wp_jsr, al_6081, wk_m1, wp_ireturn, al_6082, wp_istore_3, wp_iload_3, wn_gt_t, wn_gt_f, wp_istore_4, wp_iload_4, wk_10, wn_ge_t, wn_ge_f, wp_imul, wp_iadd, wp_istore_5, hg_86_54, ha_120l, ha_120s, wp_iload_5, wp_min, wp_istore_6, wp_iload_6, wz_le_t, wz_le_f, wm_le_1, wm_le_2, wn_eq_t, wn_eq_f, wp_isub, wp_goto, al_6086, al_6087, wp_idec_6_1, wp_iinc_4_1, al_6089, wp_iinc_3_1, al_6090, nl_i, nl_r, nl_k, nl_j, nl_l, nI_add, pk_mul, pk_sub, tl_s, tl_n, aL_inl, u2_same, u2_ab, u2_aq, nI_l, lN_i, Nat.add_zero, Nat.zero_add, Nat.zero_le, true_and, and_true, b2n_10, b2n_T, b2n_F, b2n_0, Decidable.not_not, not_true_eq_false, not_false_eq_true, Nat.reduceAdd, Nat.reduceMul, Nat.reduceSub]
      refine ih1 _ (bwK_u hk) (by rw [u2_same]; exact hT9) ?_
      rw [u2_same]
      rcases hT with ⟨t0, t1⟩ | ⟨t0, t1, t2, t3⟩
      · refine Or.inl ⟨t0, fun b hb hne => t1 b (by omega) hne⟩
      · refine Or.inr ⟨by omega, t1, t2, fun b hb hlt hne => t3 b (by omega) hlt hne⟩
    · by_cases z : bwA lim (h - (g + 1)) (g + 1) = 0
      · simp (disch := (first | omega | exact aCat_8 (by with_unfolding_all rfl) | exact rk_lt (by with_unfolding_all rfl) | exact aCat_16 (by with_unfolding_all rfl) | exact rk_eq (by with_unfolding_all rfl) | assumption | exact b2n_lt _ | exact id_b (by with_unfolding_all rfl) | (simp (disch := omega) only [u2_same, u2_ab, u2_aq]; done) | (simp (disch := omega) only [u2_same, u2_ab, u2_aq]; omega) | fail)) only [al_6080, wp_aloadr_0, wp_aloadk_0, wk_0, hp_86_0, wp_iload_1, wp_i2l, wl_0, wl_60, wc_4, t_4, lN_le, wz_eq_t, wz_eq_f, wb_eq_t, wb_eq_f, wm_eq_1, wm_eq_2, wp_iload_2, wl_1, wl_9, wz_ne_t, wz_ne_f, wb_ne_t, wb_ne_f, wm_ne_1, wm_ne_2, wp_jsr, al_6081, wk_m1, wp_ireturn, al_6082, wp_istore_3, wp_iload_3, wn_gt_t, wn_gt_f, wp_istore_4, wp_iload_4, wk_10, wn_ge_t, wn_ge_f, wp_imul, wp_iadd, wp_istore_5, hg_86_54, ha_120l, ha_120s, wp_iload_5, wp_min, wp_istore_6, wp_iload_6, wz_le_t, wz_le_f, wm_le_1, wm_le_2, wn_eq_t, wn_eq_f, wp_isub, wp_goto, al_6086, al_6087, wp_idec_6_1, wp_iinc_4_1, al_6089, wp_iinc_3_1, al_6090, nl_i, nl_r, nl_k, nl_j, nl_l, nI_add, pk_mul, pk_sub, tl_s, tl_n, aL_inl, u2_same, u2_ab, u2_aq, nI_l, lN_i, Nat.add_zero, Nat.zero_add, Nat.zero_le, true_and, and_true, b2n_10, b2n_T, b2n_F, b2n_0, Decidable.not_not, not_true_eq_false, not_false_eq_true, Nat.reduceAdd, Nat.reduceMul, Nat.reduceSub, hrd, z]
        refine ih1 _ (bwK_u hk) (by rw [u2_same]; omega) ?_
        rw [u2_same]
        exact Or.inr ⟨by omega, e, hb.mpr z, fun b hb hlt _ => by omega⟩
      · have hf : bwn lim h (g + 1) = false := by
          cases hq : bwn lim h (g + 1) with
          | false => rfl
          | true => exact absurd (hb.mp hq) z
        simp (disch := (first | omega | exact aCat_8 (by with_unfolding_all rfl) | exact rk_lt (by with_unfolding_all rfl) | exact aCat_16 (by with_unfolding_all rfl) | exact rk_eq (by with_unfolding_all rfl) | assumption | exact b2n_lt _ | exact id_b (by with_unfolding_all rfl) | (simp (disch := omega) only [u2_same, u2_ab, u2_aq]; done) | (simp (disch := omega) only [u2_same, u2_ab, u2_aq]; omega) | fail)) only [al_6080, wp_aloadr_0, wp_aloadk_0, wk_0, hp_86_0, wp_iload_1, wp_i2l, wl_0, wl_60, wc_4, t_4, lN_le, wz_eq_t, wz_eq_f, wb_eq_t, wb_eq_f, wm_eq_1, wm_eq_2, wp_iload_2, wl_1, wl_9, wz_ne_t, wz_ne_f, wb_ne_t, wb_ne_f, wm_ne_1, wm_ne_2, wp_jsr, al_6081, wk_m1, wp_ireturn, al_6082, wp_istore_3, wp_iload_3, wn_gt_t, wn_gt_f, wp_istore_4, wp_iload_4, wk_10, wn_ge_t, wn_ge_f, wp_imul, wp_iadd, wp_istore_5, hg_86_54, ha_120l, ha_120s, wp_iload_5, wp_min, wp_istore_6, wp_iload_6, wz_le_t, wz_le_f, wm_le_1, wm_le_2, wn_eq_t, wn_eq_f, wp_isub, wp_goto, al_6086, al_6087, wp_idec_6_1, wp_iinc_4_1, al_6089, wp_iinc_3_1, al_6090, nl_i, nl_r, nl_k, nl_j, nl_l, nI_add, pk_mul, pk_sub, tl_s, tl_n, aL_inl, u2_same, u2_ab, u2_aq, nI_l, lN_i, Nat.add_zero, Nat.zero_add, Nat.zero_le, true_and, and_true, b2n_10, b2n_T, b2n_F, b2n_0, Decidable.not_not, not_true_eq_false, not_false_eq_true, Nat.reduceAdd, Nat.reduceMul, Nat.reduceSub, hrd]
        refine ih1 _ (bwK_u hk) (by rw [u2_same]; exact hT9) ?_
        rw [u2_same]
        rcases hT with ⟨t0, t1⟩ | ⟨t0, t1, t2, t3⟩
        · refine Or.inl ⟨t0, fun b hb hne => ?_⟩
          by_cases e3 : b = g + 1
          · rw [e3]; exact hf
          · exact t1 b (by omega) hne
        · refine Or.inr ⟨by omega, t1, t2, fun b hb hlt hne => ?_⟩
          by_cases e3 : b = g + 1
          · rw [e3]; exact hf
          · exact t3 b (by omega) hlt hne
theorem l_95m {H lim h : Nat} {N0 : Nat → Nat → Nat} (hH : H ≤ 60) (hl1 : 1 ≤ lim) (hl : lim ≤ 9) (hh : h ≤ H)
    (hK : ∀ (N : Nat → Nat → Nat) (w5 w6 : Value), bwK lim (10 * (h + 1)) N0 N → aWp ko d 95 (aP.1 (Int.toNat 6083)) [.ref 86, .int (nI H), .int (nI lim), .int (nI (h + 1)), .int (nI 10), w5, w6] [] (hp D N I J x) (aL Q)) :
    ∀ (j l : Nat) (N : Nat → Nat → Nat) (w5 w6 : Value), l + j = 10 → bwK lim (10 * h + l) N0 N → aWp ko d 95 (aP.1 (Int.toNat 6084)) [.ref 86, .int (nI H), .int (nI lim), .int (nI h), .int (nI l), w5, w6] [] (hp D N I J x) (aL Q) := by
  intro j
  induction j with
  | zero =>
    intro l N w5 w6 hj hk
    have e : l = 10 := by omega
    subst e
    have hk' : bwK lim (10 * (h + 1)) N0 N := by
      rw [show 10 * (h + 1) = 10 * h + 10 by omega]
      exact hk
    simp (disch := (first | omega | exact aCat_8 (by with_unfolding_all rfl) | exact rk_lt (by with_unfolding_all rfl) | exact aCat_16 (by with_unfolding_all rfl) | exact rk_eq (by with_unfolding_all rfl) | assumption | exact b2n_lt _ | exact id_b (by with_unfolding_all rfl) | (simp (disch := omega) only [u2_same, u2_ab, u2_aq]; done) | (simp (disch := omega) only [u2_same, u2_ab, u2_aq]; omega) | fail)) only [al_6080, wp_aloadr_0, wp_aloadk_0, wk_0, hp_86_0, wp_iload_1, wp_i2l, wl_0, wl_60, wc_4, t_4, lN_le, wz_eq_t, wz_eq_f, wb_eq_t, wb_eq_f, wm_eq_1, wm_eq_2, wp_iload_2, wl_1, wl_9, wz_ne_t, wz_ne_f, wb_ne_t, wb_ne_f, wm_ne_1, wm_ne_2, wp_jsr, al_6081, wk_m1, wp_ireturn, al_6082, wp_istore_3, wp_iload_3, wn_gt_t, wn_gt_f, wp_istore_4, al_6084, wp_iload_4, wk_10, wn_ge_t, wn_ge_f, wp_imul, wp_iadd, wp_istore_5, hg_86_54, ha_120l, ha_120s, wp_iload_5, wp_min, wp_istore_6, wp_iload_6, wz_le_t, wz_le_f, wm_le_1, wm_le_2, wn_eq_t, wn_eq_f, wp_isub, wp_goto, al_6086, al_6087, wp_idec_6_1, al_6088, wp_iinc_4_1, al_6089, wp_iinc_3_1, al_6090, nl_i, nl_r, nl_k, nl_j, nl_l, nI_add, pk_mul, pk_sub, tl_s, tl_n, aL_inl, u2_same, u2_ab, u2_aq, nI_l, lN_i, Nat.add_zero, Nat.zero_add, Nat.zero_le, true_and, and_true, b2n_10, b2n_T, b2n_F, b2n_0, Decidable.not_not, not_true_eq_false, not_false_eq_true, Nat.reduceAdd, Nat.reduceMul, Nat.reduceSub]
    exact hK N w5 w6 hk'
  | succ j ih =>
    intro l N w5 w6 hj hk
    rw [al_6084]
    simp (disch := (first | omega | exact aCat_8 (by with_unfolding_all rfl) | exact rk_lt (by with_unfolding_all rfl) | exact aCat_16 (by with_unfolding_all rfl) | exact rk_eq (by with_unfolding_all rfl) | assumption | exact b2n_lt _ | exact id_b (by with_unfolding_all rfl) | (simp (disch := omega) only [u2_same, u2_ab, u2_aq]; done) | (simp (disch := omega) only [u2_same, u2_ab, u2_aq]; omega) | fail)) only [al_6080, wp_aloadr_0, wp_aloadk_0, wk_0, hp_86_0, wp_iload_1, wp_i2l, wl_0, wl_60, wc_4, t_4, lN_le, wz_eq_t, wz_eq_f, wb_eq_t, wb_eq_f, wm_eq_1, wm_eq_2, wp_iload_2, wl_1, wl_9, wz_ne_t, wz_ne_f, wb_ne_t, wb_ne_f, wm_ne_1, wm_ne_2, wp_jsr, al_6081, wk_m1, wp_ireturn, al_6082, wp_istore_3, wp_iload_3, wn_gt_t, wn_gt_f, wp_istore_4, wp_iload_4, wk_10, wn_ge_t, wn_ge_f, wp_imul, wp_iadd, wp_istore_5, hg_86_54, ha_120l, ha_120s, wp_iload_5, wp_min, wp_istore_6, wp_iload_6, wz_le_t, wz_le_f, wm_le_1, wm_le_2, wn_eq_t, wn_eq_f, wp_isub, wp_goto, al_6086, al_6087, wp_idec_6_1, al_6088, wp_iinc_4_1, al_6089, wp_iinc_3_1, al_6090, nl_i, nl_r, nl_k, nl_j, nl_l, nI_add, pk_mul, pk_sub, tl_s, tl_n, aL_inl, u2_same, u2_ab, u2_aq, nI_l, lN_i, Nat.add_zero, Nat.zero_add, Nat.zero_le, true_and, and_true, b2n_10, b2n_T, b2n_F, b2n_0, Decidable.not_not, not_true_eq_false, not_false_eq_true, Nat.reduceAdd, Nat.reduceMul, Nat.reduceSub]
    refine l_95i hH hl hh (by omega) ?_ (min lim h) _ (Nat.min_le_left _ _) (Nat.min_le_right _ _) (bwK_u hk) (by rw [u2_same]; omega) ?_
    · intro N2 hk2
      rw [al_6088]
      simp (disch := (first | omega | exact aCat_8 (by with_unfolding_all rfl) | exact rk_lt (by with_unfolding_all rfl) | exact aCat_16 (by with_unfolding_all rfl) | exact rk_eq (by with_unfolding_all rfl) | assumption | exact b2n_lt _ | exact id_b (by with_unfolding_all rfl) | (simp (disch := omega) only [u2_same, u2_ab, u2_aq]; done) | (simp (disch := omega) only [u2_same, u2_ab, u2_aq]; omega) | fail)) only [al_6080, wp_aloadr_0, wp_aloadk_0, wk_0, hp_86_0, wp_iload_1, wp_i2l, wl_0, wl_60, wc_4, t_4, lN_le, wz_eq_t, wz_eq_f, wb_eq_t, wb_eq_f, wm_eq_1, wm_eq_2, wp_iload_2, wl_1, wl_9, wz_ne_t, wz_ne_f, wb_ne_t, wb_ne_f, wm_ne_1, wm_ne_2, wp_jsr, al_6081, wk_m1, wp_ireturn, al_6082, wp_istore_3, wp_iload_3, wn_gt_t, wn_gt_f, wp_istore_4, wp_iload_4, wk_10, wn_ge_t, wn_ge_f, wp_imul, wp_iadd, wp_istore_5, hg_86_54, ha_120l, ha_120s, wp_iload_5, wp_min, wp_istore_6, wp_iload_6, wz_le_t, wz_le_f, wm_le_1, wm_le_2, wn_eq_t, wn_eq_f, wp_isub, wp_goto, al_6086, al_6087, wp_idec_6_1, al_6088, wp_iinc_4_1, al_6089, wp_iinc_3_1, al_6090, nl_i, nl_r, nl_k, nl_j, nl_l, nI_add, pk_mul, pk_sub, tl_s, tl_n, aL_inl, u2_same, u2_ab, u2_aq, nI_l, lN_i, Nat.add_zero, Nat.zero_add, Nat.zero_le, true_and, and_true, b2n_10, b2n_T, b2n_F, b2n_0, Decidable.not_not, not_true_eq_false, not_false_eq_true, Nat.reduceAdd, Nat.reduceMul, Nat.reduceSub]
      exact ih (l + 1) N2 _ _ (by omega) hk2
    · rw [u2_same]
      refine Or.inl ⟨rfl, fun b hb _ => bw_out ?_⟩
      omega
theorem l_95 {H lim : Nat} {N0 : Nat → Nat → Nat} (hH : H ≤ 60) (hl1 : 1 ≤ lim) (hl : lim ≤ 9)
    (hQ : ∀ (N : Nat → Nat → Nat), qN N N0 → N 86 1 = N0 86 1 → Q (some (.int (nI (bwA lim H 0)))) (hp D N I J x)) :
    ∀ (j h : Nat) (N : Nat → Nat → Nat) (w4 w5 w6 : Value), h + j = H + 1 → bwK lim (10 * h) N0 N → aWp ko d 95 (aP.1 (Int.toNat 6083)) [.ref 86, .int (nI H), .int (nI lim), .int (nI h), w4, w5, w6] [] (hp D N I J x) (aL Q) := by
  intro j
  induction j with
  | zero =>
    intro h N w4 w5 w6 hj hk
    have e : h = H + 1 := by omega
    subst e
    have hrd := hk.2.2 H 0 (by omega) (by omega)
    rw [Nat.add_zero] at hrd
    have := hQ N hk.1 hk.2.1
    simp (disch := (first | omega | exact aCat_8 (by with_unfolding_all rfl) | exact rk_lt (by with_unfolding_all rfl) | exact aCat_16 (by with_unfolding_all rfl) | exact rk_eq (by with_unfolding_all rfl) | assumption | exact b2n_lt _ | exact id_b (by with_unfolding_all rfl) | (simp (disch := omega) only [u2_same, u2_ab, u2_aq]; done) | (simp (disch := omega) only [u2_same, u2_ab, u2_aq]; omega) | fail)) only [al_6080, wp_aloadr_0, wp_aloadk_0, wk_0, hp_86_0, wp_iload_1, wp_i2l, wl_0, wl_60, wc_4, t_4, lN_le, wz_eq_t, wz_eq_f, wb_eq_t, wb_eq_f, wm_eq_1, wm_eq_2, wp_iload_2, wl_1, wl_9, wz_ne_t, wz_ne_f, wb_ne_t, wb_ne_f, wm_ne_1, wm_ne_2, wp_jsr, al_6081, wk_m1, wp_ireturn, al_6082, wp_istore_3, al_6083, wp_iload_3, wn_gt_t, wn_gt_f, wp_istore_4, wp_iload_4, wk_10, wn_ge_t, wn_ge_f, wp_imul, wp_iadd, wp_istore_5, hg_86_54, ha_120l, ha_120s, wp_iload_5, wp_min, wp_istore_6, wp_iload_6, wz_le_t, wz_le_f, wm_le_1, wm_le_2, wn_eq_t, wn_eq_f, wp_isub, wp_goto, al_6086, al_6087, wp_idec_6_1, al_6088, wp_iinc_4_1, al_6089, wp_iinc_3_1, al_6090, nl_i, nl_r, nl_k, nl_j, nl_l, nI_add, pk_mul, pk_sub, tl_s, tl_n, aL_inl, u2_same, u2_ab, u2_aq, nI_l, lN_i, Nat.add_zero, Nat.zero_add, Nat.zero_le, true_and, and_true, b2n_10, b2n_T, b2n_F, b2n_0, Decidable.not_not, not_true_eq_false, not_false_eq_true, Nat.reduceAdd, Nat.reduceMul, Nat.reduceSub, hrd]
    exact this
  | succ j ih =>
    intro h N w4 w5 w6 hj hk
    have hx := fun w5 w6 => l_95m (ko := ko) (d := d) (D := D) (I := I) (J := J) (x := x) (Q := Q) (N0 := N0) (H := H) (lim := lim) (h := h) hH hl1 hl (by omega) (fun N w5 w6 hk => ih (h + 1) N _ w5 w6 (by omega) hk) 10 0 N w5 w6 (by omega) hk
    rw [al_6083]
    simp (disch := (first | omega | exact aCat_8 (by with_unfolding_all rfl) | exact rk_lt (by with_unfolding_all rfl) | exact aCat_16 (by with_unfolding_all rfl) | exact rk_eq (by with_unfolding_all rfl) | assumption | exact b2n_lt _ | exact id_b (by with_unfolding_all rfl) | (simp (disch := omega) only [u2_same, u2_ab, u2_aq]; done) | (simp (disch := omega) only [u2_same, u2_ab, u2_aq]; omega) | fail)) only [al_6080, wp_aloadr_0, wp_aloadk_0, wk_0, hp_86_0, wp_iload_1, wp_i2l, wl_0, wl_60, wc_4, t_4, lN_le, wz_eq_t, wz_eq_f, wb_eq_t, wb_eq_f, wm_eq_1, wm_eq_2, wp_iload_2, wl_1, wl_9, wz_ne_t, wz_ne_f, wb_ne_t, wb_ne_f, wm_ne_1, wm_ne_2, wp_jsr, al_6081, wk_m1, wp_ireturn, al_6082, wp_istore_3, wp_iload_3, wn_gt_t, wn_gt_f, wp_istore_4, wp_iload_4, wk_10, wn_ge_t, wn_ge_f, wp_imul, wp_iadd, wp_istore_5, hg_86_54, ha_120l, ha_120s, wp_iload_5, wp_min, wp_istore_6, wp_iload_6, wz_le_t, wz_le_f, wm_le_1, wm_le_2, wn_eq_t, wn_eq_f, wp_isub, wp_goto, al_6086, al_6087, wp_idec_6_1, al_6088, wp_iinc_4_1, al_6089, wp_iinc_3_1, al_6090, nl_i, nl_r, nl_k, nl_j, nl_l, nI_add, pk_mul, pk_sub, tl_s, tl_n, aL_inl, u2_same, u2_ab, u2_aq, nI_l, lN_i, Nat.add_zero, Nat.zero_add, Nat.zero_le, true_and, and_true, b2n_10, b2n_T, b2n_F, b2n_0, Decidable.not_not, not_true_eq_false, not_false_eq_true, Nat.reduceAdd, Nat.reduceMul, Nat.reduceSub]
    exact hx _ _
theorem bw_low {lim H : Nat} {v : Int32} (hl : lim ≤ 9) (hv : bwS lim H v) : (v = 0 ∧ bwA lim H 0 = 0) ∨ (¬ v = 0 ∧ ∃ m, v = nI m ∧ m < 1024 ∧ 1 ≤ bwA lim H 0 ∧ bwA lim H 0 < 10 ∧ lowB m (bwA lim H 0) = true) := by
  have hvm : v = nI v.toBitVec.toNat := by
    apply Int32.toBitVec_inj.mp
    show v.toBitVec = BitVec.ofNat 32 v.toBitVec.toNat
    apply BitVec.eq_of_toNat_eq
    rw [BitVec.toNat_ofNat, Nat.mod_eq_of_lt v.toBitVec.isLt]
  by_cases z : bwA lim H 0 = 0
  · refine Or.inl ⟨?_, z⟩
    have hall := (bwA_0 hl).mp z
    apply b_ext
    intro i hi
    rw [hv i hi, b_zero]
    by_cases e : i < 10
    · by_cases e0 : i = 0
      · subst e0
        rw [bw_0]
        simp
      · rw [hall i e e0]
        simp
    · simp [e]
  · have hb9 := bwA_le (lim := lim) (h := H) (l := 0) hl
    have hs : bwL lim H 0 10 = some (bwA lim H 0) := by
      unfold bwA at z ⊢
      cases hq : bwL lim H 0 10 with
      | none =>
        rw [hq] at z
        exact absurd rfl z
      | some a => rfl
    obtain ⟨a1, a2, a3, a4⟩ := bwL_some 10 hs
    have hbit : ∀ i, i < 32 → v.toBitVec.toNat.testBit i = (decide (i < 10) && bwn lim H i) := fun i hi => hv i hi
    refine Or.inr ⟨?_, v.toBitVec.toNat, hvm, ?_, by omega, by omega, ?_⟩
    · intro e
      have := hv (bwA lim H 0) (by omega)
      rw [e, b_zero, a3] at this
      simp at this
      omega
    · apply Nat.lt_pow_two_of_testBit (n := 10)
      intro i hi
      by_cases e : i < 32
      · rw [hbit i e]
        have : ¬ i < 10 := by omega
        simp [this]
      · apply Nat.testBit_lt_two_pow
        have h32 := v.toBitVec.isLt
        exact Nat.lt_of_lt_of_le h32 (Nat.pow_le_pow_right (by decide) (by omega))
    · unfold lowB
      rw [hbit _ (by omega), a3]
      simp only [Bool.and_true, Bool.and_eq_true, decide_eq_true_eq, List.all_eq_true, List.mem_range]
      refine ⟨by omega, fun i hi => ?_⟩
      rw [hbit i (by omega)]
      by_cases e0 : i = 0
      · subst e0
        rw [bw_0]
        simp
      · rw [a4 i hi e0]
        simp
theorem o_bar {a b : Int32} (h : inv D N I J t) : opO ko d 210 95 [.int a, .int b] D N I J x (t + 300) := by
  rcases rng3 a 0 (b := 60) (by decide) (by decide) with ⟨H, _, hH, rfl⟩ | hbad
  · rcases rng3 b 1 (b := 9) (by decide) (by decide) with ⟨lim, hl1, hl, rfl⟩ | hbad
    · refine op_same (v := .int (nI (bwA lim H 0))) h (by omega) ?_ ?_
      · intro Q hQ
        have hx := fun w4 w5 w6 => l_210 (ko := ko) (d := d) (D := D) (N := N) (J := J) (x := x) (Q := Q) (H := H) (lim := lim) (I0 := I) hH hl (by
          intro I2 h2 w4 w5 w6 hs hv
          have hq := hQ N I2 J sN_r hs sJ_r ⟨rfl, fun _ => rfl⟩ ⟨rfl, fun _ => rfl⟩
          rw [al_13450]
          rcases bw_low hl hv with ⟨v0, vA⟩ | ⟨v0, m, vm, hm, b1, b2, hlow⟩
          · rw [vA] at hq
            simp (disch := (first | omega | exact aCat_8 (by with_unfolding_all rfl) | exact rk_lt (by with_unfolding_all rfl) | exact aCat_16 (by with_unfolding_all rfl) | exact rk_eq (by with_unfolding_all rfl) | assumption | exact b2n_lt _ | exact id_b (by with_unfolding_all rfl) | (simp (disch := omega) only [u2_same, u2_ab, u2_aq]; done) | (simp (disch := omega) only [u2_same, u2_ab, u2_aq]; omega) | fail)) only [al_13440, wp_iload_1, wz_lt_t, wz_lt_f, wm_lt_1, wm_lt_2, wk_60, wn_gt_t, wn_gt_f, wp_iload_2, wk_1, wn_lt_t, wn_lt_f, wk_9, wn_le_t, wn_le_f, wp_jsr, al_13441, wk_m1, wp_ireturn, al_13442, wk_0, wp_istore_3, wp_iload_3, wp_istore_4, wp_istore_5, wp_iload_5, wp_aloadr_0, wp_aloadk_0, hg_0_18, ha_78l, ha_78s, wp_isub, wp_ishl, wp_ixor, wp_iand, wz_eq_t, wz_eq_f, wb_eq_t, wb_eq_f, wm_eq_1, wm_eq_2, wp_goto, al_13445, al_13446, wp_istore_6, wp_iload_4, wp_iload_6, al_13447, al_13448, wp_ior, wp_iinc_5_1, al_13449, wp_iinc_3_1, al_13450, wz_ne_t, wz_ne_f, wb_ne_t, wb_ne_f, wm_ne_1, wm_ne_2, al_13451, wc_120, al_13452, nl_i, nl_r, nl_k, nl_j, nl_l, nI_add, pk_mul, pk_sub, tl_s, tl_n, aL_inl, u2_same, u2_ab, u2_aq, nI_l, lN_i, Nat.add_zero, Nat.zero_add, Nat.zero_le, true_and, and_true, b2n_10, b2n_T, b2n_F, b2n_0, Decidable.not_not, not_true_eq_false, not_false_eq_true, Nat.reduceAdd, Nat.reduceMul, Nat.reduceSub, wy_ne_f (not_not_intro v0)]
            exact hq
          · have v1 : ¬ nI m = 0 := by
              rw [← vm]
              exact v0
            simp (disch := (first | omega | exact aCat_8 (by with_unfolding_all rfl) | exact rk_lt (by with_unfolding_all rfl) | exact aCat_16 (by with_unfolding_all rfl) | exact rk_eq (by with_unfolding_all rfl) | assumption | exact b2n_lt _ | exact id_b (by with_unfolding_all rfl) | (simp (disch := omega) only [u2_same, u2_ab, u2_aq]; done) | (simp (disch := omega) only [u2_same, u2_ab, u2_aq]; omega) | fail)) only [al_13440, wp_iload_1, wz_lt_t, wz_lt_f, wm_lt_1, wm_lt_2, wk_60, wn_gt_t, wn_gt_f, wp_iload_2, wk_1, wn_lt_t, wn_lt_f, wk_9, wn_le_t, wn_le_f, wp_jsr, al_13441, wk_m1, wp_ireturn, al_13442, wk_0, wp_istore_3, wp_iload_3, wp_istore_4, wp_istore_5, wp_iload_5, wp_aloadr_0, wp_aloadk_0, hg_0_18, ha_78l, ha_78s, wp_isub, wp_ishl, wp_ixor, wp_iand, wz_eq_t, wz_eq_f, wb_eq_t, wb_eq_f, wm_eq_1, wm_eq_2, wp_goto, al_13445, al_13446, wp_istore_6, wp_iload_4, wp_iload_6, al_13447, al_13448, wp_ior, wp_iinc_5_1, al_13449, wp_iinc_3_1, al_13450, wz_ne_t, wz_ne_f, wb_ne_t, wb_ne_f, wm_ne_1, wm_ne_2, al_13451, wc_120, al_13452, nl_i, nl_r, nl_k, nl_j, nl_l, nI_add, pk_mul, pk_sub, tl_s, tl_n, aL_inl, u2_same, u2_ab, u2_aq, nI_l, lN_i, Nat.add_zero, Nat.zero_add, Nat.zero_le, true_and, and_true, b2n_10, b2n_T, b2n_F, b2n_0, Decidable.not_not, not_true_eq_false, not_false_eq_true, Nat.reduceAdd, Nat.reduceMul, Nat.reduceSub, vm, wy_ne_t v1, t_120 hm b2 b1 hlow]
            exact hq) (H + 1) 0 I w4 w5 w6 (by omega) sI_r (fun a ha => absurd ha (Nat.not_lt_zero a))
        rw [me_210]
        simp (disch := (first | omega | exact aCat_8 (by with_unfolding_all rfl) | exact rk_lt (by with_unfolding_all rfl) | exact aCat_16 (by with_unfolding_all rfl) | exact rk_eq (by with_unfolding_all rfl) | assumption | exact b2n_lt _ | exact id_b (by with_unfolding_all rfl) | (simp (disch := omega) only [u2_same, u2_ab, u2_aq]; done) | (simp (disch := omega) only [u2_same, u2_ab, u2_aq]; omega) | fail)) only [al_13440, wp_iload_1, wz_lt_t, wz_lt_f, wm_lt_1, wm_lt_2, wk_60, wn_gt_t, wn_gt_f, wp_iload_2, wk_1, wn_lt_t, wn_lt_f, wk_9, wn_le_t, wn_le_f, wp_jsr, al_13441, wk_m1, wp_ireturn, al_13442, wk_0, wp_istore_3, wp_iload_3, wp_istore_4, wp_istore_5, wp_iload_5, wp_aloadr_0, wp_aloadk_0, hg_0_18, ha_78l, ha_78s, wp_isub, wp_ishl, wp_ixor, wp_iand, wz_eq_t, wz_eq_f, wb_eq_t, wb_eq_f, wm_eq_1, wm_eq_2, wp_goto, al_13445, al_13446, wp_istore_6, wp_iload_4, wp_iload_6, al_13447, al_13448, wp_ior, wp_iinc_5_1, al_13449, wp_iinc_3_1, al_13450, wz_ne_t, wz_ne_f, wb_ne_t, wb_ne_f, wm_ne_1, wm_ne_2, al_13451, wc_120, al_13452, nl_i, nl_r, nl_k, nl_j, nl_l, nI_add, pk_mul, pk_sub, tl_s, tl_n, aL_inl, u2_same, u2_ab, u2_aq, nI_l, lN_i, Nat.add_zero, Nat.zero_add, Nat.zero_le, true_and, and_true, b2n_10, b2n_T, b2n_F, b2n_0, Decidable.not_not, not_true_eq_false, not_false_eq_true, Nat.reduceAdd, Nat.reduceMul, Nat.reduceSub]
        exact hx _ _ _
      · intro N1 I1 J1 h1 hN hI hJ Q hQ
        have hx := fun w4 w5 w6 => l_95 (ko := ko) (d := d) (D := D) (I := I1) (J := J1) (x := x) (Q := Q) (H := H) (lim := lim) (N0 := N1) hH hl1 hl (fun N2 hq2 hm2 => hQ N2 I1 J1 hq2 sI_r qJ_r ⟨hm2, fun _ => rfl⟩) (H + 1) 0 (u2 N1 86 0 0) w4 w5 w6 (by omega) ⟨qN_u qN_r rfl, u2_aq (by decide), fun a b _ z => by omega⟩
        have hbb : 1 ≤ lim ∧ lim ≤ 9 := ⟨hl1, hl⟩
        rw [me_95]
        simp (disch := (first | omega | exact aCat_8 (by with_unfolding_all rfl) | exact rk_lt (by with_unfolding_all rfl) | exact aCat_16 (by with_unfolding_all rfl) | exact rk_eq (by with_unfolding_all rfl) | assumption | exact b2n_lt _ | exact id_b (by with_unfolding_all rfl) | (simp (disch := omega) only [u2_same, u2_ab, u2_aq]; done) | (simp (disch := omega) only [u2_same, u2_ab, u2_aq]; omega) | fail)) only [al_6080, wp_aloadr_0, wp_aloadk_0, wk_0, hp_86_0, wp_iload_1, wp_i2l, wl_0, wl_60, wc_4, t_4, lN_le, wz_eq_t, wz_eq_f, wb_eq_t, wb_eq_f, wm_eq_1, wm_eq_2, wp_iload_2, wl_1, wl_9, wz_ne_t, wz_ne_f, wb_ne_t, wb_ne_f, wm_ne_1, wm_ne_2, wp_jsr, al_6081, wk_m1, wp_ireturn, al_6082, wp_istore_3, wp_iload_3, wn_gt_t, wn_gt_f, wp_istore_4, wp_iload_4, wk_10, wn_ge_t, wn_ge_f, wp_imul, wp_iadd, wp_istore_5, hg_86_54, ha_120l, ha_120s, wp_iload_5, wp_min, wp_istore_6, wp_iload_6, wz_le_t, wz_le_f, wm_le_1, wm_le_2, wn_eq_t, wn_eq_f, wp_isub, wp_goto, al_6086, al_6087, wp_idec_6_1, al_6088, wp_iinc_4_1, al_6089, wp_iinc_3_1, al_6090, nl_i, nl_r, nl_k, nl_j, nl_l, nI_add, pk_mul, pk_sub, tl_s, tl_n, aL_inl, u2_same, u2_ab, u2_aq, nI_l, lN_i, Nat.add_zero, Nat.zero_add, Nat.zero_le, true_and, and_true, b2n_10, b2n_T, b2n_F, b2n_0, Decidable.not_not, not_true_eq_false, not_false_eq_true, Nat.reduceAdd, Nat.reduceMul, Nat.reduceSub, b2n_t hH, b2n_t hbb]
        exact hx _ _ _
    · have hin := in_f (a := 1) (b := 9) (by decide) (by decide) hbad
      refine op_q (v := .int (-1)) h ?_ ?_
      · intro Q
        rw [me_210]
        rcases hbad with hb | ⟨hb1, hb2⟩
        · simp (disch := (first | omega | exact aCat_8 (by with_unfolding_all rfl) | exact rk_lt (by with_unfolding_all rfl) | exact aCat_16 (by with_unfolding_all rfl) | exact rk_eq (by with_unfolding_all rfl) | assumption | exact b2n_lt _ | exact id_b (by with_unfolding_all rfl) | (simp (disch := omega) only [u2_same, u2_ab, u2_aq]; done) | (simp (disch := omega) only [u2_same, u2_ab, u2_aq]; omega) | fail)) only [al_13440, wp_iload_1, wz_lt_t, wz_lt_f, wm_lt_1, wm_lt_2, wk_60, wn_gt_t, wn_gt_f, wp_iload_2, wk_1, wn_lt_t, wn_lt_f, wk_9, wn_le_t, wn_le_f, wp_jsr, al_13441, wk_m1, wp_ireturn, al_13442, wk_0, wp_istore_3, wp_iload_3, wp_istore_4, wp_istore_5, wp_iload_5, wp_aloadr_0, wp_aloadk_0, hg_0_18, ha_78l, ha_78s, wp_isub, wp_ishl, wp_ixor, wp_iand, wz_eq_t, wz_eq_f, wb_eq_t, wb_eq_f, wm_eq_1, wm_eq_2, wp_goto, al_13445, al_13446, wp_istore_6, wp_iload_4, wp_iload_6, al_13447, al_13448, wp_ior, wp_iinc_5_1, al_13449, wp_iinc_3_1, al_13450, wz_ne_t, wz_ne_f, wb_ne_t, wb_ne_f, wm_ne_1, wm_ne_2, al_13451, wc_120, al_13452, nl_i, nl_r, nl_k, nl_j, nl_l, nI_add, pk_mul, pk_sub, tl_s, tl_n, aL_inl, u2_same, u2_ab, u2_aq, nI_l, lN_i, Nat.add_zero, Nat.zero_add, Nat.zero_le, true_and, and_true, b2n_10, b2n_T, b2n_F, b2n_0, Decidable.not_not, not_true_eq_false, not_false_eq_true, Nat.reduceAdd, Nat.reduceMul, Nat.reduceSub, wx_lt_t hb]
        · have hb3 : ¬ b ≤ nI 9 := fun z => (Int32.not_lt.mpr z) hb2
          simp (disch := (first | omega | exact aCat_8 (by with_unfolding_all rfl) | exact rk_lt (by with_unfolding_all rfl) | exact aCat_16 (by with_unfolding_all rfl) | exact rk_eq (by with_unfolding_all rfl) | assumption | exact b2n_lt _ | exact id_b (by with_unfolding_all rfl) | (simp (disch := omega) only [u2_same, u2_ab, u2_aq]; done) | (simp (disch := omega) only [u2_same, u2_ab, u2_aq]; omega) | fail)) only [al_13440, wp_iload_1, wz_lt_t, wz_lt_f, wm_lt_1, wm_lt_2, wk_60, wn_gt_t, wn_gt_f, wp_iload_2, wk_1, wn_lt_t, wn_lt_f, wk_9, wn_le_t, wn_le_f, wp_jsr, al_13441, wk_m1, wp_ireturn, al_13442, wk_0, wp_istore_3, wp_iload_3, wp_istore_4, wp_istore_5, wp_iload_5, wp_aloadr_0, wp_aloadk_0, hg_0_18, ha_78l, ha_78s, wp_isub, wp_ishl, wp_ixor, wp_iand, wz_eq_t, wz_eq_f, wb_eq_t, wb_eq_f, wm_eq_1, wm_eq_2, wp_goto, al_13445, al_13446, wp_istore_6, wp_iload_4, wp_iload_6, al_13447, al_13448, wp_ior, wp_iinc_5_1, al_13449, wp_iinc_3_1, al_13450, wz_ne_t, wz_ne_f, wb_ne_t, wb_ne_f, wm_ne_1, wm_ne_2, al_13451, wc_120, al_13452, nl_i, nl_r, nl_k, nl_j, nl_l, nI_add, pk_mul, pk_sub, tl_s, tl_n, aL_inl, u2_same, u2_ab, u2_aq, nI_l, lN_i, Nat.add_zero, Nat.zero_add, Nat.zero_le, true_and, and_true, b2n_10, b2n_T, b2n_F, b2n_0, Decidable.not_not, not_true_eq_false, not_false_eq_true, Nat.reduceAdd, Nat.reduceMul, Nat.reduceSub, wx_lt_f hb1, wx_le_f hb3]
      · intro Q
        rw [me_95]
        simp (disch := (first | omega | exact aCat_8 (by with_unfolding_all rfl) | exact rk_lt (by with_unfolding_all rfl) | exact aCat_16 (by with_unfolding_all rfl) | exact rk_eq (by with_unfolding_all rfl) | assumption | exact b2n_lt _ | exact id_b (by with_unfolding_all rfl) | (simp (disch := omega) only [u2_same, u2_ab, u2_aq]; done) | (simp (disch := omega) only [u2_same, u2_ab, u2_aq]; omega) | fail)) only [al_6080, wp_aloadr_0, wp_aloadk_0, wk_0, hp_86_0, wp_iload_1, wp_i2l, wl_0, wl_60, wc_4, t_4, lN_le, wz_eq_t, wz_eq_f, wb_eq_t, wb_eq_f, wm_eq_1, wm_eq_2, wp_iload_2, wl_1, wl_9, wz_ne_t, wz_ne_f, wb_ne_t, wb_ne_f, wm_ne_1, wm_ne_2, wp_jsr, al_6081, wk_m1, wp_ireturn, al_6082, wp_istore_3, wp_iload_3, wn_gt_t, wn_gt_f, wp_istore_4, wp_iload_4, wk_10, wn_ge_t, wn_ge_f, wp_imul, wp_iadd, wp_istore_5, hg_86_54, ha_120l, ha_120s, wp_iload_5, wp_min, wp_istore_6, wp_iload_6, wz_le_t, wz_le_f, wm_le_1, wm_le_2, wn_eq_t, wn_eq_f, wp_isub, wp_goto, al_6086, al_6087, wp_idec_6_1, al_6088, wp_iinc_4_1, al_6089, wp_iinc_3_1, al_6090, nl_i, nl_r, nl_k, nl_j, nl_l, nI_add, pk_mul, pk_sub, tl_s, tl_n, aL_inl, u2_same, u2_ab, u2_aq, nI_l, lN_i, Nat.add_zero, Nat.zero_add, Nat.zero_le, true_and, and_true, b2n_10, b2n_T, b2n_F, b2n_0, Decidable.not_not, not_true_eq_false, not_false_eq_true, Nat.reduceAdd, Nat.reduceMul, Nat.reduceSub, b2n_t hH, b2n_f hin]
  · have hin := in_f (a := 0) (b := 60) (by decide) (by decide) hbad
    refine op_q (v := .int (-1)) h ?_ ?_
    · intro Q
      rw [me_210]
      rcases hbad with hb | ⟨hb1, hb2⟩
      · have hb' : a < 0 := hb
        simp (disch := (first | omega | exact aCat_8 (by with_unfolding_all rfl) | exact rk_lt (by with_unfolding_all rfl) | exact aCat_16 (by with_unfolding_all rfl) | exact rk_eq (by with_unfolding_all rfl) | assumption | exact b2n_lt _ | exact id_b (by with_unfolding_all rfl) | (simp (disch := omega) only [u2_same, u2_ab, u2_aq]; done) | (simp (disch := omega) only [u2_same, u2_ab, u2_aq]; omega) | fail)) only [al_13440, wp_iload_1, wz_lt_t, wz_lt_f, wm_lt_1, wm_lt_2, wk_60, wn_gt_t, wn_gt_f, wp_iload_2, wk_1, wn_lt_t, wn_lt_f, wk_9, wn_le_t, wn_le_f, wp_jsr, al_13441, wk_m1, wp_ireturn, al_13442, wk_0, wp_istore_3, wp_iload_3, wp_istore_4, wp_istore_5, wp_iload_5, wp_aloadr_0, wp_aloadk_0, hg_0_18, ha_78l, ha_78s, wp_isub, wp_ishl, wp_ixor, wp_iand, wz_eq_t, wz_eq_f, wb_eq_t, wb_eq_f, wm_eq_1, wm_eq_2, wp_goto, al_13445, al_13446, wp_istore_6, wp_iload_4, wp_iload_6, al_13447, al_13448, wp_ior, wp_iinc_5_1, al_13449, wp_iinc_3_1, al_13450, wz_ne_t, wz_ne_f, wb_ne_t, wb_ne_f, wm_ne_1, wm_ne_2, al_13451, wc_120, al_13452, nl_i, nl_r, nl_k, nl_j, nl_l, nI_add, pk_mul, pk_sub, tl_s, tl_n, aL_inl, u2_same, u2_ab, u2_aq, nI_l, lN_i, Nat.add_zero, Nat.zero_add, Nat.zero_le, true_and, and_true, b2n_10, b2n_T, b2n_F, b2n_0, Decidable.not_not, not_true_eq_false, not_false_eq_true, Nat.reduceAdd, Nat.reduceMul, Nat.reduceSub, wy_lt_t hb']
      · have hb' : ¬ a < 0 := hb1
        simp (disch := (first | omega | exact aCat_8 (by with_unfolding_all rfl) | exact rk_lt (by with_unfolding_all rfl) | exact aCat_16 (by with_unfolding_all rfl) | exact rk_eq (by with_unfolding_all rfl) | assumption | exact b2n_lt _ | exact id_b (by with_unfolding_all rfl) | (simp (disch := omega) only [u2_same, u2_ab, u2_aq]; done) | (simp (disch := omega) only [u2_same, u2_ab, u2_aq]; omega) | fail)) only [al_13440, wp_iload_1, wz_lt_t, wz_lt_f, wm_lt_1, wm_lt_2, wk_60, wn_gt_t, wn_gt_f, wp_iload_2, wk_1, wn_lt_t, wn_lt_f, wk_9, wn_le_t, wn_le_f, wp_jsr, al_13441, wk_m1, wp_ireturn, al_13442, wk_0, wp_istore_3, wp_iload_3, wp_istore_4, wp_istore_5, wp_iload_5, wp_aloadr_0, wp_aloadk_0, hg_0_18, ha_78l, ha_78s, wp_isub, wp_ishl, wp_ixor, wp_iand, wz_eq_t, wz_eq_f, wb_eq_t, wb_eq_f, wm_eq_1, wm_eq_2, wp_goto, al_13445, al_13446, wp_istore_6, wp_iload_4, wp_iload_6, al_13447, al_13448, wp_ior, wp_iinc_5_1, al_13449, wp_iinc_3_1, al_13450, wz_ne_t, wz_ne_f, wb_ne_t, wb_ne_f, wm_ne_1, wm_ne_2, al_13451, wc_120, al_13452, nl_i, nl_r, nl_k, nl_j, nl_l, nI_add, pk_mul, pk_sub, tl_s, tl_n, aL_inl, u2_same, u2_ab, u2_aq, nI_l, lN_i, Nat.add_zero, Nat.zero_add, Nat.zero_le, true_and, and_true, b2n_10, b2n_T, b2n_F, b2n_0, Decidable.not_not, not_true_eq_false, not_false_eq_true, Nat.reduceAdd, Nat.reduceMul, Nat.reduceSub, wy_lt_f hb', wx_gt_t hb2]
    · intro Q
      rw [me_95]
      simp (disch := (first | omega | exact aCat_8 (by with_unfolding_all rfl) | exact rk_lt (by with_unfolding_all rfl) | exact aCat_16 (by with_unfolding_all rfl) | exact rk_eq (by with_unfolding_all rfl) | assumption | exact b2n_lt _ | exact id_b (by with_unfolding_all rfl) | (simp (disch := omega) only [u2_same, u2_ab, u2_aq]; done) | (simp (disch := omega) only [u2_same, u2_ab, u2_aq]; omega) | fail)) only [al_6080, wp_aloadr_0, wp_aloadk_0, wk_0, hp_86_0, wp_iload_1, wp_i2l, wl_0, wl_60, wc_4, t_4, lN_le, wz_eq_t, wz_eq_f, wb_eq_t, wb_eq_f, wm_eq_1, wm_eq_2, wp_iload_2, wl_1, wl_9, wz_ne_t, wz_ne_f, wb_ne_t, wb_ne_f, wm_ne_1, wm_ne_2, wp_jsr, al_6081, wk_m1, wp_ireturn, al_6082, wp_istore_3, wp_iload_3, wn_gt_t, wn_gt_f, wp_istore_4, wp_iload_4, wk_10, wn_ge_t, wn_ge_f, wp_imul, wp_iadd, wp_istore_5, hg_86_54, ha_120l, ha_120s, wp_iload_5, wp_min, wp_istore_6, wp_iload_6, wz_le_t, wz_le_f, wm_le_1, wm_le_2, wn_eq_t, wn_eq_f, wp_isub, wp_goto, al_6086, al_6087, wp_idec_6_1, al_6088, wp_iinc_4_1, al_6089, wp_iinc_3_1, al_6090, nl_i, nl_r, nl_k, nl_j, nl_l, nI_add, pk_mul, pk_sub, tl_s, tl_n, aL_inl, u2_same, u2_ab, u2_aq, nI_l, lN_i, Nat.add_zero, Nat.zero_add, Nat.zero_le, true_and, and_true, b2n_10, b2n_T, b2n_F, b2n_0, Decidable.not_not, not_true_eq_false, not_false_eq_true, Nat.reduceAdd, Nat.reduceMul, Nat.reduceSub, b2n_f hin]
end B5
