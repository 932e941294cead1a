/-! land: the pair. From wip/whole/src. -/
section D5
variable {ko : aKo} {d k : Nat} {is : List Instr} {ls st : List Value} {σ : aH} {D : Nat → Nat} {N : Nat → Nat → Nat} {I : Nat → Nat → Int32} {J : Nat → Nat → Int64} {x t : Nat} {Q : Option Value → aH → Prop} {P : (Option Value ⊕ Unit) → aH → Prop}
/-- a land that the reference takes -/
theorem r_5 {n : Nat} (h11 : N 86 11 = n) (hn : n ≤ 80) (hb : ∀ i, i < n → N 91 i < 256) (hw0 : d26 (N 91) n 0) (hw1 : d26 (N 91) n 1) (hwk : lnK (N 91) n (2 + (N 91 0 - 48) * (N 91 1 - 48)) (2 + (N 91 0 - 48) * (N 91 1 - 48))) (hle : n ≤ 2 + (N 91 0 - 48) * (N 91 1 - 48)) (h89 : ∀ q, 111 ≤ q → N 89 q = 0) (h5 : N 86 5 < 1000000000)
    (hQ : ∀ (N' : Nat → Nat → Nat) (I' : Nat → Nat → Int32), N' 86 11 = 0 → N' 89 = lnS (N 91) ((N 91 0 - 48) * (N 91 1 - 48)) → N' 86 26 = 0 → N' 86 5 = N 86 5 + 1 → N' 86 46 = 0 → N' 86 51 = 0 → (∀ b q, b ≠ 92 → b ≠ 89 → ¬ (b = 86 ∧ (q = 0 ∨ q = 11 ∨ q = 12 ∨ q = 13 ∨ q = 14 ∨ q = 26 ∨ q = 5 ∨ q = 46 ∨ q = 51)) → N' b q = N b q) → (∀ b q, b ≠ 92 → I' b q = I b q) → Q (some (.int (nI ((N 91 0 - 48) * (N 91 1 - 48))))) (hp (u1 (u1 D 0 (N 91 0 - 48)) 1 (N 91 1 - 48)) N' I' J x)) : aMm ko d 5 [.ref 86] (hp D N I J x) Q := by
  have e0 : ∀ b q, ¬ (b = 86 ∧ q = 0) → u2 N 86 0 0 b q = N b q := fun b q z => by rw [u2_rd, if_neg z]
  have e91 : u2 N 86 0 0 91 = N 91 := u2_nb (by decide)
  have hb' : ∀ i, i < n → u2 N 86 0 0 91 i < 256 := fun i hi => by rw [e91]; exact hb i hi
  have hd := hw0.2
  have hd1 := hw1.2
  have hm : (N 91 0 - 48) * (N 91 1 - 48) ≤ 6 * 6 := Nat.mul_le_mul (by omega) (by omega)
  have hc0 : 0 < N 91 1 - 48 := by omega
  rw [me_5]
  simp (disch := (first | omega | exact aCat_8 (by with_unfolding_all rfl) | exact rk_lt (by with_unfolding_all rfl) | exact aCat_16 (by with_unfolding_all rfl) | exact rk_eq (by with_unfolding_all rfl) | assumption | exact b2n_lt _ | exact id_b (by with_unfolding_all rfl) | (simp (disch := omega) only [u2_same, u2_ab, u2_aq]; done) | (simp (disch := omega) only [u2_same, u2_ab, u2_aq]; omega) | fail)) only [al_320, wp_aloadr_0, wp_aloadk_0, wk_0, hp_86_0, wk_80, wc_6, wp_pop, wk_2, wk_6, wc_7, wp_istore_1, wp_iload_1, wz_ge_t, wz_ge_f, wm_ge_1, wm_ge_2, wk_m1, wp_goto, al_321, wp_jsr, al_322, wp_istore_2, wp_iload_2, wz_le_t, wz_le_f, wm_le_1, wm_le_2, wk_1, al_323, al_324, wp_istore_3, wp_istore_4, wp_iload_3, wz_eq_t, wz_eq_f, wb_eq_t, wb_eq_f, wm_eq_1, wm_eq_2, wp_iload_4, wp_imul, wn_ge_t, wn_ge_f, hg_86_15, ha_92l, ha_92s, wc_8, wz_lt_t, wz_lt_f, wm_lt_1, wm_lt_2, al_326, al_327, wp_iinc_4_1, al_328, hg_86_12, hg_86_13, al_329, wp_isub, wp_ireturn, al_330, hp_86_3, hp_86_4, wk_36, hg_86_8, ha_89l, ha_89s, al_332, al_333, wp_iadd, wk_72, al_334, wk_108, wk_109, wk_110, hp_86_26, wp_dupi, wp_dupr, hg_86_5, hp_86_5, hp_86_46, hp_86_51, wc_10, t_10, nl_i, nl_r, nl_k, nl_j, nl_l, nI_add, pk_mul, pk_sub, tl_s, tl_n, aL_inl, u2_same, u2_ab, u2_aq, nI_l, lN_i, Nat.add_zero, Nat.zero_add, Nat.zero_le, true_and, and_true, b2n_10, b2n_T, b2n_F, b2n_0, Decidable.not_not, not_true_eq_false, not_false_eq_true, Nat.reduceAdd, Nat.reduceMul, Nat.reduceSub]
  refine t_6 (n := n) ((e0 86 11 (by omega)).trans h11) hn (by decide) hn ?_
  intro N2 hT2
  simp (disch := (first | omega | exact aCat_8 (by with_unfolding_all rfl) | exact rk_lt (by with_unfolding_all rfl) | exact aCat_16 (by with_unfolding_all rfl) | exact rk_eq (by with_unfolding_all rfl) | assumption | exact b2n_lt _ | exact id_b (by with_unfolding_all rfl) | (simp (disch := omega) only [u2_same, u2_ab, u2_aq]; done) | (simp (disch := omega) only [u2_same, u2_ab, u2_aq]; omega) | fail)) only [al_320, wp_aloadr_0, wp_aloadk_0, wk_0, hp_86_0, wk_80, wc_6, wp_pop, wk_2, wk_6, wc_7, wp_istore_1, wp_iload_1, wz_ge_t, wz_ge_f, wm_ge_1, wm_ge_2, wk_m1, wp_goto, al_321, wp_jsr, al_322, wp_istore_2, wp_iload_2, wz_le_t, wz_le_f, wm_le_1, wm_le_2, wk_1, al_323, al_324, wp_istore_3, wp_istore_4, wp_iload_3, wz_eq_t, wz_eq_f, wb_eq_t, wb_eq_f, wm_eq_1, wm_eq_2, wp_iload_4, wp_imul, wn_ge_t, wn_ge_f, hg_86_15, ha_92l, ha_92s, wc_8, wz_lt_t, wz_lt_f, wm_lt_1, wm_lt_2, al_326, al_327, wp_iinc_4_1, al_328, hg_86_12, hg_86_13, al_329, wp_isub, wp_ireturn, al_330, hp_86_3, hp_86_4, wk_36, hg_86_8, ha_89l, ha_89s, al_332, al_333, wp_iadd, wk_72, al_334, wk_108, wk_109, wk_110, hp_86_26, wp_dupi, wp_dupr, hg_86_5, hp_86_5, hp_86_46, hp_86_51, wc_10, t_10, nl_i, nl_r, nl_k, nl_j, nl_l, nI_add, pk_mul, pk_sub, tl_s, tl_n, aL_inl, u2_same, u2_ab, u2_aq, nI_l, lN_i, Nat.add_zero, Nat.zero_add, Nat.zero_le, true_and, and_true, b2n_10, b2n_T, b2n_F, b2n_0, Decidable.not_not, not_true_eq_false, not_false_eq_true, Nat.reduceAdd, Nat.reduceMul, Nat.reduceSub]
  refine t_7 hT2 hn (by rw [e91]; exact hw0) ?_
  intro N3 hT3
  rw [e91]
  simp (disch := (first | omega | exact aCat_8 (by with_unfolding_all rfl) | exact rk_lt (by with_unfolding_all rfl) | exact aCat_16 (by with_unfolding_all rfl) | exact rk_eq (by with_unfolding_all rfl) | assumption | exact b2n_lt _ | exact id_b (by with_unfolding_all rfl) | (simp (disch := omega) only [u2_same, u2_ab, u2_aq]; done) | (simp (disch := omega) only [u2_same, u2_ab, u2_aq]; omega) | fail)) only [al_320, wp_aloadr_0, wp_aloadk_0, wk_0, hp_86_0, wk_80, wc_6, wp_pop, wk_2, wk_6, wc_7, wp_istore_1, wp_iload_1, wz_ge_t, wz_ge_f, wm_ge_1, wm_ge_2, wk_m1, wp_goto, al_321, wp_jsr, al_322, wp_istore_2, wp_iload_2, wz_le_t, wz_le_f, wm_le_1, wm_le_2, wk_1, al_323, al_324, wp_istore_3, wp_istore_4, wp_iload_3, wz_eq_t, wz_eq_f, wb_eq_t, wb_eq_f, wm_eq_1, wm_eq_2, wp_iload_4, wp_imul, wn_ge_t, wn_ge_f, hg_86_15, ha_92l, ha_92s, wc_8, wz_lt_t, wz_lt_f, wm_lt_1, wm_lt_2, al_326, al_327, wp_iinc_4_1, al_328, hg_86_12, hg_86_13, al_329, wp_isub, wp_ireturn, al_330, hp_86_3, hp_86_4, wk_36, hg_86_8, ha_89l, ha_89s, al_332, al_333, wp_iadd, wk_72, al_334, wk_108, wk_109, wk_110, hp_86_26, wp_dupi, wp_dupr, hg_86_5, hp_86_5, hp_86_46, hp_86_51, wc_10, t_10, nl_i, nl_r, nl_k, nl_j, nl_l, nI_add, pk_mul, pk_sub, tl_s, tl_n, aL_inl, u2_same, u2_ab, u2_aq, nI_l, lN_i, Nat.add_zero, Nat.zero_add, Nat.zero_le, true_and, and_true, b2n_10, b2n_T, b2n_F, b2n_0, Decidable.not_not, not_true_eq_false, not_false_eq_true, Nat.reduceAdd, Nat.reduceMul, Nat.reduceSub]
  refine t_7 hT3 hn (by rw [e91]; exact hw1) ?_
  intro N4 hT4
  have ec : u2 N 86 0 0 91 (0 + 1) = N 91 1 := by rw [e91]
  rw [ec]
  simp (disch := (first | omega | exact aCat_8 (by with_unfolding_all rfl) | exact rk_lt (by with_unfolding_all rfl) | exact aCat_16 (by with_unfolding_all rfl) | exact rk_eq (by with_unfolding_all rfl) | assumption | exact b2n_lt _ | exact id_b (by with_unfolding_all rfl) | (simp (disch := omega) only [u2_same, u2_ab, u2_aq]; done) | (simp (disch := omega) only [u2_same, u2_ab, u2_aq]; omega) | fail)) only [al_320, wp_aloadr_0, wp_aloadk_0, wk_0, hp_86_0, wk_80, wc_6, wp_pop, wk_2, wk_6, wc_7, wp_istore_1, wp_iload_1, wz_ge_t, wz_ge_f, wm_ge_1, wm_ge_2, wk_m1, wp_goto, al_321, wp_jsr, al_322, wp_istore_2, wp_iload_2, wz_le_t, wz_le_f, wm_le_1, wm_le_2, wk_1, al_323, al_324, wp_istore_3, wp_istore_4, wp_iload_3, wz_eq_t, wz_eq_f, wb_eq_t, wb_eq_f, wm_eq_1, wm_eq_2, wp_iload_4, wp_imul, wn_ge_t, wn_ge_f, hg_86_15, ha_92l, ha_92s, wc_8, wz_lt_t, wz_lt_f, wm_lt_1, wm_lt_2, al_326, al_327, wp_iinc_4_1, al_328, hg_86_12, hg_86_13, al_329, wp_isub, wp_ireturn, al_330, hp_86_3, hp_86_4, wk_36, hg_86_8, ha_89l, ha_89s, al_332, al_333, wp_iadd, wk_72, al_334, wk_108, wk_109, wk_110, hp_86_26, wp_dupi, wp_dupr, hg_86_5, hp_86_5, hp_86_46, hp_86_51, wc_10, t_10, nl_i, nl_r, nl_k, nl_j, nl_l, nI_add, pk_mul, pk_sub, tl_s, tl_n, aL_inl, u2_same, u2_ab, u2_aq, nI_l, lN_i, Nat.add_zero, Nat.zero_add, Nat.zero_le, true_and, and_true, b2n_10, b2n_T, b2n_F, b2n_0, Decidable.not_not, not_true_eq_false, not_false_eq_true, Nat.reduceAdd, Nat.reduceMul, Nat.reduceSub]
  have hx := l_5a (ko := ko) (d := d) (D := D) (J := J) (x := x) (Q := Q) (N0 := u2 N 86 0 0) (I0 := I) (n := n) (r := N 91 0 - 48) (c := N 91 1 - 48) (k := 2 + (N 91 0 - 48) * (N 91 1 - 48)) hn (by have := hw1.1; omega) hb' (by omega) (by rw [e91]; exact hwk) (by
    intro N5 I5 i hT5 hI5 hv5
    rw [e91] at hv5
    obtain ⟨x1, x2, x3, x4⟩ := hT5
    have hv6 : ∀ a, a < (N 91 0 - 48) * (N 91 1 - 48) → I5 92 a = nI (N 91 (2 + a) - 48) ∧ N 91 (2 + a) - 48 ≤ 9 := by
      intro a ha
      refine ⟨hv5 a (by omega), ?_⟩
      have := isD_iff.mp (hwk.2.2.1 (2 + a) (by omega) (by omega)).2
      omega
    have e5 : N5 86 5 = N 86 5 := (x4 86 5 (by decide) (by omega)).trans (e0 86 5 (by omega))
    have e89 : N5 89 = N 89 := by funext q; exact (x4 89 q (by decide) (by omega)).trans (e0 89 q (by omega))
    generalize hr : N 91 0 - 48 = r at *
    generalize hcc : N 91 1 - 48 = c at *
    rw [al_328, b2n_t rfl]
    simp (disch := (first | omega | exact aCat_8 (by with_unfolding_all rfl) | exact rk_lt (by with_unfolding_all rfl) | exact aCat_16 (by with_unfolding_all rfl) | exact rk_eq (by with_unfolding_all rfl) | assumption | exact b2n_lt _ | exact id_b (by with_unfolding_all rfl) | (simp (disch := omega) only [u2_same, u2_ab, u2_aq]; done) | (simp (disch := omega) only [u2_same, u2_ab, u2_aq]; omega) | fail)) only [al_320, wp_aloadr_0, wp_aloadk_0, wk_0, hp_86_0, wk_80, wc_6, wp_pop, wk_2, wk_6, wc_7, wp_istore_1, wp_iload_1, wz_ge_t, wz_ge_f, wm_ge_1, wm_ge_2, wk_m1, wp_goto, al_321, wp_jsr, al_322, wp_istore_2, wp_iload_2, wz_le_t, wz_le_f, wm_le_1, wm_le_2, wk_1, al_323, al_324, wp_istore_3, wp_istore_4, wp_iload_3, wz_eq_t, wz_eq_f, wb_eq_t, wb_eq_f, wm_eq_1, wm_eq_2, wp_iload_4, wp_imul, wn_ge_t, wn_ge_f, hg_86_15, ha_92l, ha_92s, wc_8, wz_lt_t, wz_lt_f, wm_lt_1, wm_lt_2, al_326, al_327, wp_iinc_4_1, al_328, hg_86_12, hg_86_13, al_329, wp_isub, wp_ireturn, al_330, hp_86_3, hp_86_4, wk_36, hg_86_8, ha_89l, ha_89s, al_332, al_333, wp_iadd, wk_72, al_334, wk_108, wk_109, wk_110, hp_86_26, wp_dupi, wp_dupr, hg_86_5, hp_86_5, hp_86_46, hp_86_51, wc_10, t_10, nl_i, nl_r, nl_k, nl_j, nl_l, nI_add, pk_mul, pk_sub, tl_s, tl_n, aL_inl, u2_same, u2_ab, u2_aq, nI_l, lN_i, Nat.add_zero, Nat.zero_add, Nat.zero_le, true_and, and_true, b2n_10, b2n_T, b2n_F, b2n_0, Decidable.not_not, not_true_eq_false, not_false_eq_true, Nat.reduceAdd, Nat.reduceMul, Nat.reduceSub, x1, x2]
    refine l_5b (N0 := N5) (T := N 91) (r := r) (c := c) (by omega) hv6 ?_ 36 0 N5 rfl (fun _ _ _ => rfl) (by
      funext q
      unfold lnM
      rw [if_neg (by omega)])
    intro N6 hN6 hS6
    have e65 : N6 86 5 = N 86 5 := (hN6 86 5 (by decide)).trans e5
    have g0 : (u1 (u1 D 0 r) 1 c) 0 = r := rfl
    have g1 : (u1 (u1 D 0 r) 1 c) 1 = c := rfl
    rw [al_334]
    simp (disch := (first | omega | exact aCat_8 (by with_unfolding_all rfl) | exact rk_lt (by with_unfolding_all rfl) | exact aCat_16 (by with_unfolding_all rfl) | exact rk_eq (by with_unfolding_all rfl) | assumption | exact b2n_lt _ | exact id_b (by with_unfolding_all rfl) | (simp (disch := omega) only [u2_same, u2_ab, u2_aq]; done) | (simp (disch := omega) only [u2_same, u2_ab, u2_aq]; omega) | fail)) only [al_320, wp_aloadr_0, wp_aloadk_0, wk_0, hp_86_0, wk_80, wc_6, wp_pop, wk_2, wk_6, wc_7, wp_istore_1, wp_iload_1, wz_ge_t, wz_ge_f, wm_ge_1, wm_ge_2, wk_m1, wp_goto, al_321, wp_jsr, al_322, wp_istore_2, wp_iload_2, wz_le_t, wz_le_f, wm_le_1, wm_le_2, wk_1, al_323, al_324, wp_istore_3, wp_istore_4, wp_iload_3, wz_eq_t, wz_eq_f, wb_eq_t, wb_eq_f, wm_eq_1, wm_eq_2, wp_iload_4, wp_imul, wn_ge_t, wn_ge_f, hg_86_15, ha_92l, ha_92s, wc_8, wz_lt_t, wz_lt_f, wm_lt_1, wm_lt_2, al_326, al_327, wp_iinc_4_1, al_328, hg_86_12, hg_86_13, al_329, wp_isub, wp_ireturn, al_330, hp_86_3, hp_86_4, wk_36, hg_86_8, ha_89l, ha_89s, al_332, al_333, wp_iadd, wk_72, al_334, wk_108, wk_109, wk_110, hp_86_26, wp_dupi, wp_dupr, hg_86_5, hp_86_5, hp_86_46, hp_86_51, wc_10, t_10, nl_i, nl_r, nl_k, nl_j, nl_l, nI_add, pk_mul, pk_sub, tl_s, tl_n, aL_inl, u2_same, u2_ab, u2_aq, nI_l, lN_i, Nat.add_zero, Nat.zero_add, Nat.zero_le, true_and, and_true, b2n_10, b2n_T, b2n_F, b2n_0, Decidable.not_not, not_true_eq_false, not_false_eq_true, Nat.reduceAdd, Nat.reduceMul, Nat.reduceSub, e65, g0, g1]
    refine hQ _ I5 ?_ ?_ ?_ ?_ ?_ (u2_same _ _ _ _) ?_ hI5
    · simp only [u2_rd]
      simp
      exact (hN6 86 11 (by decide)).trans x3
    · have := ln_end (S0 := N 89) (T := N 91) (F := r * c) (by omega) h89
      rw [← this, ← e89, ← hS6]
      funext q
      simp only [u2_rd, upn]
      simp
    · simp only [u2_rd]; simp
    · simp only [u2_rd]; simp
    · simp only [u2_rd]; simp
    · intro b q z1 z2 z3
      have hb86 : b = 86 → ¬ q = 26 ∧ ¬ q = 5 ∧ ¬ q = 46 ∧ ¬ q = 51 := fun e => by omega
      rw [u2_rd, if_neg (by omega), u2_rd, if_neg (by omega), u2_rd, if_neg (by omega), u2_rd, if_neg (by omega), u2_ab z2, u2_ab z2, u2_ab z2, hN6 b q z2, x4 b q z1 (by omega)]
      exact e0 b q (by omega)) ((N 91 0 - 48) * (N 91 1 - 48)) 0 N4 I (by omega) hT4 (fun _ _ _ => rfl) (fun a ha => absurd ha (Nat.not_lt_zero a))
  exact hx
/-- a text that was wrong: both are empty then -/
theorem op_bad {kc kr : Nat} {v : Int32} (h : inv D N I J t) (hC : ∀ Q : Option Value → aH → Prop, aMm ko d kc [.ref 0] (hp D N I J x) Q = Q (some (.int v)) (hp D (u2 N 1 1 0) I J x))
    (hR : ∀ Q : Option Value → aH → Prop, (∀ (N' : Nat → Nat → Nat) (I' : Nat → Nat → Int32), N' 86 11 = 0 → (∀ b q, b ≠ 92 → ¬ (b = 86 ∧ (q = 0 ∨ q = 11 ∨ q = 12 ∨ q = 13 ∨ q = 14)) → N' b q = u2 N 1 1 0 b q) → (∀ b q, b ≠ 92 → I' b q = I b q) → Q (some (.int v)) (hp D N' I' J x)) → aMm ko d kr [.ref 86] (hp D (u2 N 1 1 0) I J x) Q) : opO ko d kc kr [] D N I J x (t + 300) := by
  show aMm ko d kc [.ref 0] (hp D N I J x) _
  rw [hC]
  refine hR _ ?_
  intro N2 I2 r11 rfr rI
  have hfr : ∀ b q, b ≠ 92 → ¬ (b = 1 ∧ q = 1) → ¬ (b = 86 ∧ (q = 0 ∨ q = 11 ∨ q = 12 ∨ q = 13 ∨ q = 14)) → N2 b q = N b q := by
    intro b q z1 z2 z3
    rw [rfr b q z1 z3, u2_rd, if_neg z2]
  refine ⟨rfl, rfl, D, N2, I2, J, rfl, ⟨?_, td_same h.2 (hfr 3 1 (by decide) (by omega) (by omega)) (hfr 86 1 (by decide) (by omega) (by omega)) (fun _ => rfl) (fun _ => rfl)⟩⟩
  refine invB_p (fun g => g == 1) rfl h.1 (by omega) ?_ ?_ (fun _ _ _ _ => rfl) (fun _ => ?_) (fun z => by cases z) (fun z => by cases z) (fun z => by cases z) (fun z => by cases z) (fun z => by cases z) (fun z => by cases z) (fun z => by cases z)
  · intro b q z y
    refine hfr b q (by rintro rfl; cases z) (by rintro ⟨rfl, rfl⟩; cases y) ?_
    rintro ⟨rfl, rfl | rfl | rfl | rfl | rfl⟩
    · cases z
    · cases y
    · cases z
    · cases z
    · cases z
  · intro b q z _
    exact rI b q (by rintro rfl; cases z)
  · unfold iTx
    rw [r11]
    refine ⟨?_, by decide, fun i hi => absurd hi (Nat.not_lt_zero i)⟩
    rw [rfr 1 1 (by decide) (by omega), u2_same]
end D5
