/-! course. From wip/whole/src. -/
section O1
variable {ko : aKo} {d k : Nat} {is : List Instr} {ls st : List Value} {σ : aH} {D : Nat → Nat} {N : Nat → Nat → Nat} {I : Nat → Nat → Int32} {J : Nat → Nat → Int64} {x t : Nat} {Q : Option Value → aH → Prop} {P : (Option Value ⊕ Unit) → aH → Prop}
theorem l_176 {N0 : Nat → Nat → Nat} {J0 : Nat → Nat → Int64} {c : Nat × (Nat → Nat) × Bool} {C : Nat} (hc : clC C N0 I J0 c) (hL : c.1 ≤ 36) (hp36 : ∀ k, k < c.1 → c.2.1 k < 36)
    (hQ : ∀ (N' : Nat → Nat → Nat) (J' : Nat → Nat → Int64), (∀ b q, b ≠ 3 → N' b q = N0 b q) → (∀ b q, b ≠ 4 → J' b q = J0 b q) → tdC N' J' c.1 (fun i => lN (c.2.1 i)) → Q (some (.int (mth C c))) (hp D N' I J' x)) :
    ∀ (j i : Nat) (N : Nat → Nat → Nat) (J : Nat → Nat → Int64), i + j = c.1 → (∀ b q, b ≠ 3 → N b q = N0 b q) → (∀ b q, b ≠ 4 → J b q = J0 b q) → tdC N J i (fun i => lN (c.2.1 i)) → aWp ko d 176 (aP.1 (Int.toNat 11265)) [.ref 0, .int (nI i)] [] (hp D N I J x) (aL Q) := by
  intro j
  induction j with
  | zero =>
    intro i N J hj fN0 fJ0 ht
    have e : i = c.1 := by omega
    subst e
    have e9 : N 26 9 = c.1 := (fN0 26 9 (by decide)).trans hc.1
    rw [al_11265]
    simp (disch := (first | omega | exact aCat_8 (by with_unfolding_all rfl) | exact rk_lt (by with_unfolding_all rfl) | exact aCat_16 (by with_unfolding_all rfl) | exact rk_eq (by with_unfolding_all rfl) | assumption | exact b2n_lt _ | exact id_b (by with_unfolding_all rfl) | (simp (disch := omega) only [u2_same, u2_ab, u2_aq]; done) | (simp (disch := omega) only [u2_same, u2_ab, u2_aq]; omega) | fail)) only [al_11264, wp_aloadr_0, wp_aloadk_0, hg_0_10, hg_0_7, hg_0_4, wc_260, hg_0_1, wc_292, t_292, wk_0, wp_istore_1, wp_jsr, wp_iload_1, hg_26_9, wn_ge_t, wn_ge_f, hg_26_8, ha_30l, ha_30s, wp_i2l, wc_293, t_293, wp_iinc_1_1, wp_goto, al_11266, hg_26_11, wp_ireturn, nl_i, nl_r, nl_k, nl_j, nl_l, nI_add, pk_mul, pk_sub, tl_s, tl_n, aL_inl, u2_same, u2_ab, u2_aq, nI_l, lN_i, Nat.add_zero, Nat.zero_add, Nat.zero_le, true_and, and_true, b2n_10, b2n_T, b2n_F, b2n_0, Decidable.not_not, not_true_eq_false, not_false_eq_true, Nat.reduceAdd, Nat.reduceMul, e9, hc.2.2.2.1]
    exact hQ N J fN0 fJ0 ht
  | succ j ih =>
    intro i N J hj fN0 fJ0 ht
    have e9 : N 26 9 = c.1 := (fN0 26 9 (by decide)).trans hc.1
    have e30 : N 30 i = c.2.1 i := (fN0 30 i (by decide)).trans (hc.2.1 i (by omega))
    have h36 := hp36 i (by omega)
    have e31 := ht.1
    rw [al_11265]
    simp (disch := (first | omega | exact aCat_8 (by with_unfolding_all rfl) | exact rk_lt (by with_unfolding_all rfl) | exact aCat_16 (by with_unfolding_all rfl) | exact rk_eq (by with_unfolding_all rfl) | assumption | exact b2n_lt _ | exact id_b (by with_unfolding_all rfl) | (simp (disch := omega) only [u2_same, u2_ab, u2_aq]; done) | (simp (disch := omega) only [u2_same, u2_ab, u2_aq]; omega) | fail)) only [al_11264, wp_aloadr_0, wp_aloadk_0, hg_0_10, hg_0_7, hg_0_4, wc_260, hg_0_1, wc_292, t_292, wk_0, wp_istore_1, wp_jsr, wp_iload_1, hg_26_9, wn_ge_t, wn_ge_f, hg_26_8, ha_30l, ha_30s, wp_i2l, wc_293, t_293, wp_iinc_1_1, wp_goto, al_11266, hg_26_11, wp_ireturn, nl_i, nl_r, nl_k, nl_j, nl_l, nI_add, pk_mul, pk_sub, tl_s, tl_n, aL_inl, u2_same, u2_ab, u2_aq, nI_l, lN_i, Nat.add_zero, Nat.zero_add, Nat.zero_le, true_and, and_true, b2n_10, b2n_T, b2n_F, b2n_0, Decidable.not_not, not_true_eq_false, not_false_eq_true, Nat.reduceAdd, Nat.reduceMul, e9, e30, e31]
    refine ih (i + 1) _ _ (by omega) ?_ ?_ ⟨by rw [u2_same], ?_⟩
    · intro b q hb
      rw [u2_ab hb]
      exact fN0 b q hb
    · intro b q hb
      rw [u2_ab hb]
      exact fJ0 b q hb
    · intro k hk
      rw [u2_rd]
      by_cases e : k = i
      · rw [if_pos ⟨rfl, e⟩, e]
      · rw [if_neg (fun z => e z.2)]
        exact ht.2 k (by omega)
theorem k_176 (h : invB D N I J t)
    (hQ : ∀ (N' : Nat → Nat → Nat) (I' : Nat → Nat → Int32) (J' : Nat → Nat → Int64), sN N' N → sI I' I → sJ J' J → tdC N' J' (crsS D N (N 89)).1 (fun i => lN ((crsS D N (N 89)).2.1 i)) → Q (some (.int (mth (D 1) (crsS D N (N 89))))) (hp D N' I' J' x)) :
    aMm ko d 176 [.ref 0] (hp D N I J x) Q := by
  have hA := inv_rv h
  have hF := dm_F h.1.1
  have hK := crsS_K (N := N) h.1.1 h.2.2.2.2.1.1
  have hG := inv_G h (N 89)
  rw [me_176]
  simp (disch := (first | omega | exact aCat_8 (by with_unfolding_all rfl) | exact rk_lt (by with_unfolding_all rfl) | exact aCat_16 (by with_unfolding_all rfl) | exact rk_eq (by with_unfolding_all rfl) | assumption | exact b2n_lt _ | exact id_b (by with_unfolding_all rfl) | (simp (disch := omega) only [u2_same, u2_ab, u2_aq]; done) | (simp (disch := omega) only [u2_same, u2_ab, u2_aq]; omega) | fail)) only [al_11264, wp_aloadr_0, wp_aloadk_0, hg_0_10, hg_0_7, hg_0_4, wc_260, hg_0_1, wc_292, t_292, wk_0, wp_istore_1, wp_jsr, wp_iload_1, hg_26_9, wn_ge_t, wn_ge_f, hg_26_8, ha_30l, ha_30s, wp_i2l, wc_293, t_293, wp_iinc_1_1, wp_goto, al_11266, hg_26_11, wp_ireturn, nl_i, nl_r, nl_k, nl_j, nl_l, nI_add, pk_mul, pk_sub, tl_s, tl_n, aL_inl, u2_same, u2_ab, u2_aq, nI_l, lN_i, Nat.add_zero, Nat.zero_add, Nat.zero_le, true_and, and_true, b2n_10, b2n_T, b2n_F, b2n_0, Decidable.not_not, not_true_eq_false, not_false_eq_true, Nat.reduceAdd, Nat.reduceMul]
  refine t_260 (c := N 93) (n := N 86 18) (S := N 89) rfl rfl hA (inv_s1 h) (inv_s2 h) ?_
  intro N1 I1 J1 hv hN hI hJ hc
  rw [hG, h.1.2.2.1] at hc
  simp (disch := (first | omega | exact aCat_8 (by with_unfolding_all rfl) | exact rk_lt (by with_unfolding_all rfl) | exact aCat_16 (by with_unfolding_all rfl) | exact rk_eq (by with_unfolding_all rfl) | assumption | exact b2n_lt _ | exact id_b (by with_unfolding_all rfl) | (simp (disch := omega) only [u2_same, u2_ab, u2_aq]; done) | (simp (disch := omega) only [u2_same, u2_ab, u2_aq]; omega) | fail)) only [al_11264, wp_aloadr_0, wp_aloadk_0, hg_0_10, hg_0_7, hg_0_4, wc_260, hg_0_1, wc_292, t_292, wk_0, wp_istore_1, wp_jsr, wp_iload_1, hg_26_9, wn_ge_t, wn_ge_f, hg_26_8, ha_30l, ha_30s, wp_i2l, wc_293, t_293, wp_iinc_1_1, wp_goto, al_11266, hg_26_11, wp_ireturn, nl_i, nl_r, nl_k, nl_j, nl_l, nI_add, pk_mul, pk_sub, tl_s, tl_n, aL_inl, u2_same, u2_ab, u2_aq, nI_l, lN_i, Nat.add_zero, Nat.zero_add, Nat.zero_le, true_and, and_true, b2n_10, b2n_T, b2n_F, b2n_0, Decidable.not_not, not_true_eq_false, not_false_eq_true, Nat.reduceAdd, Nat.reduceMul]
  refine l_176 (N0 := u2 N1 3 1 0) (J0 := J1) (c := crsS D N (N 89)) (C := D 1) ⟨by rw [u2_ab (by decide)]; exact hc.1, fun k hk => by rw [u2_ab (by decide)]; exact hc.2.1 k hk, hc.2.2.1, hc.2.2.2⟩ (by have := hK.1; omega) (fun k hk => by have := hK.2.1 k hk; omega) ?_ (crsS D N (N 89)).1 0 _ _ (by omega) (fun _ _ _ => rfl) (fun _ _ _ => rfl) ⟨by rw [u2_same], fun i hi => absurd hi (Nat.not_lt_zero _)⟩
  intro N2 J2 h2 h3 h4
  refine hQ N2 I1 J2 ?_ (fI_s hI) ?_ h4
  · intro b q z
    have z3 : b ≠ 3 := by rintro rfl; cases z
    rw [h2 b q z3, u2_ab z3]
    exact gN_s hN b q z
  · intro b q z
    rw [h3 b q (by rintro rfl; cases z)]
    exact fJ_s hJ b q z
theorem l_57 {N0 : Nat → Nat → Nat} {J0 : Nat → Nat → Int64} {c : Nat × (Nat → Nat) × Bool} (hd : dmO D) (hc : crO N0 c) (hK : crK (D 0) (D 1) c)
    (hQ : ∀ (N' : Nat → Nat → Nat) (J' : Nat → Nat → Int64), (∀ b q, ¬ (b = 86 ∧ q = 1) → N' b q = N0 b q) → (∀ b q, b ≠ 87 → J' b q = J0 b q) → tdR N' J' c.1 (fun i => lN (c.2.1 i)) → Q (some (.int (mth (D 1) c))) (hp D N' I J' x)) :
    ∀ (j i : Nat) (N : Nat → Nat → Nat) (J : Nat → Nat → Int64), i + j = c.1 → (∀ b q, ¬ (b = 86 ∧ q = 1) → N b q = N0 b q) → (∀ b q, b ≠ 87 → J b q = J0 b q) → tdR N J i (fun i => lN (c.2.1 i)) → aWp ko d 57 (aP.1 (Int.toNat 3649)) [.ref 86, .int (nI i)] [] (hp D N I J x) (aL Q) := by
  have hF := dm_F hd
  have hLF : c.1 ≤ D 0 * D 1 := hK.1
  intro j
  induction j with
  | zero =>
    intro i N J hj fN0 fJ0 ht
    have e : i = c.1 := by omega
    subst e
    have e24 : N 86 24 = c.1 := (fN0 86 24 (by omega)).trans hc.1
    have hc' : crO N c := ⟨e24, (fN0 86 25 (by omega)).trans hc.2.1, fun k hk => (fN0 97 k (by omega)).trans (hc.2.2.1 k hk), fun g hg => (fN0 98 g (by omega)).trans (hc.2.2.2 g hg)⟩
    rw [al_3649]
    simp (disch := (first | omega | exact aCat_8 (by with_unfolding_all rfl) | exact rk_lt (by with_unfolding_all rfl) | exact aCat_16 (by with_unfolding_all rfl) | exact rk_eq (by with_unfolding_all rfl) | assumption | exact b2n_lt _ | exact id_b (by with_unfolding_all rfl) | (simp (disch := omega) only [u2_same, u2_ab, u2_aq]; done) | (simp (disch := omega) only [u2_same, u2_ab, u2_aq]; omega) | fail)) only [al_3648, wp_aloadr_0, wp_aloadk_0, wk_0, hp_86_0, hg_86_8, ha_89l, ha_89s, wc_25, hp_86_1, wp_istore_1, wp_jsr, wp_iload_1, hg_86_24, wn_ge_t, wn_ge_f, hg_86_22, ha_97l, ha_97s, wp_i2l, wc_43, t_43, wp_iinc_1_1, wp_goto, al_3650, wc_58, wp_ireturn, nl_i, nl_r, nl_k, nl_j, nl_l, nI_add, pk_mul, pk_sub, tl_s, tl_n, aL_inl, u2_same, u2_ab, u2_aq, nI_l, lN_i, Nat.add_zero, Nat.zero_add, Nat.zero_le, true_and, and_true, b2n_10, b2n_T, b2n_F, b2n_0, Decidable.not_not, not_true_eq_false, not_false_eq_true, Nat.reduceAdd, Nat.reduceMul, e24, t_58 hd hc' hK]
    exact hQ N J fN0 fJ0 ht
  | succ j ih =>
    intro i N J hj fN0 fJ0 ht
    have e24 : N 86 24 = c.1 := (fN0 86 24 (by omega)).trans hc.1
    have e97 : N 97 i = c.2.1 i := (fN0 97 i (by omega)).trans (hc.2.2.1 i (by omega))
    have h36 := hK.2.1 i (by omega)
    have e1 := ht.1
    rw [al_3649]
    simp (disch := (first | omega | exact aCat_8 (by with_unfolding_all rfl) | exact rk_lt (by with_unfolding_all rfl) | exact aCat_16 (by with_unfolding_all rfl) | exact rk_eq (by with_unfolding_all rfl) | assumption | exact b2n_lt _ | exact id_b (by with_unfolding_all rfl) | (simp (disch := omega) only [u2_same, u2_ab, u2_aq]; done) | (simp (disch := omega) only [u2_same, u2_ab, u2_aq]; omega) | fail)) only [al_3648, wp_aloadr_0, wp_aloadk_0, wk_0, hp_86_0, hg_86_8, ha_89l, ha_89s, wc_25, hp_86_1, wp_istore_1, wp_jsr, wp_iload_1, hg_86_24, wn_ge_t, wn_ge_f, hg_86_22, ha_97l, ha_97s, wp_i2l, wc_43, t_43, wp_iinc_1_1, wp_goto, al_3650, wc_58, wp_ireturn, nl_i, nl_r, nl_k, nl_j, nl_l, nI_add, pk_mul, pk_sub, tl_s, tl_n, aL_inl, u2_same, u2_ab, u2_aq, nI_l, lN_i, Nat.add_zero, Nat.zero_add, Nat.zero_le, true_and, and_true, b2n_10, b2n_T, b2n_F, b2n_0, Decidable.not_not, not_true_eq_false, not_false_eq_true, Nat.reduceAdd, Nat.reduceMul, e24, e97, e1]
    refine ih (i + 1) _ _ (by omega) ?_ ?_ ⟨by rw [u2_same], ?_⟩
    · intro b q hb
      rw [u2_rd, if_neg hb]
      exact fN0 b q hb
    · intro b q hb
      rw [u2_ab hb]
      exact fJ0 b q hb
    · intro k hk
      rw [u2_rd]
      by_cases e : k = i
      · rw [if_pos ⟨rfl, e⟩, e]
      · rw [if_neg (fun z => e z.2)]
        exact ht.2 k (by omega)
theorem r_57 (h : invB D N I J t)
    (hQ : ∀ (N' : Nat → Nat → Nat) (I' : Nat → Nat → Int32) (J' : Nat → Nat → Int64), qN N' N → sI I' I → qJ J' J → tdR N' J' (crsS D N (N 89)).1 (fun i => lN ((crsS D N (N 89)).2.1 i)) → Q (some (.int (mth (D 1) (crsS D N (N 89))))) (hp D N' I' J' x)) :
    aMm ko d 57 [.ref 86] (hp D N I J x) Q := by
  have hd := h.1.1
  have hK := crsS_K (N := N) hd h.2.2.2.2.1.1
  have e89 : u2 N 86 0 0 89 = N 89 := u2_nb (by decide)
  have hs : smR (u2 N 86 0 0) N := ⟨u2_nb (by decide), u2_nb (by decide), u2_aq (by decide), u2_aq (by decide)⟩
  rw [me_57]
  simp (disch := (first | omega | exact aCat_8 (by with_unfolding_all rfl) | exact rk_lt (by with_unfolding_all rfl) | exact aCat_16 (by with_unfolding_all rfl) | exact rk_eq (by with_unfolding_all rfl) | assumption | exact b2n_lt _ | exact id_b (by with_unfolding_all rfl) | (simp (disch := omega) only [u2_same, u2_ab, u2_aq]; done) | (simp (disch := omega) only [u2_same, u2_ab, u2_aq]; omega) | fail)) only [al_3648, wp_aloadr_0, wp_aloadk_0, wk_0, hp_86_0, hg_86_8, ha_89l, ha_89s, wc_25, hp_86_1, wp_istore_1, wp_jsr, wp_iload_1, hg_86_24, wn_ge_t, wn_ge_f, hg_86_22, ha_97l, ha_97s, wp_i2l, wc_43, t_43, wp_iinc_1_1, wp_goto, al_3650, wc_58, wp_ireturn, nl_i, nl_r, nl_k, nl_j, nl_l, nI_add, pk_mul, pk_sub, tl_s, tl_n, aL_inl, u2_same, u2_ab, u2_aq, nI_l, lN_i, Nat.add_zero, Nat.zero_add, Nat.zero_le, true_and, and_true, b2n_10, b2n_T, b2n_F, b2n_0, Decidable.not_not, not_true_eq_false, not_false_eq_true, Nat.reduceAdd, Nat.reduceMul]
  refine t_25 (Or.inl rfl) hd (by rw [e89]; exact h.2.2.2.2.1.1) (smR_rl hs (inv_rl h)) ?_
  intro N1 I1 hc hN hI
  have hcc : crs0 (D 0) (D 1) (dsl (D 1) (u2 N 86 0 0) (u2 N 86 0 0 89)) (wlS (u2 N 86 0 0 89)) (u2 N 86 0 0 89 108) = crsS D N (N 89) := by
    rw [e89, smR_dsl hs]
    rfl
  rw [hcc] at hc
  simp (disch := (first | omega | exact aCat_8 (by with_unfolding_all rfl) | exact rk_lt (by with_unfolding_all rfl) | exact aCat_16 (by with_unfolding_all rfl) | exact rk_eq (by with_unfolding_all rfl) | assumption | exact b2n_lt _ | exact id_b (by with_unfolding_all rfl) | (simp (disch := omega) only [u2_same, u2_ab, u2_aq]; done) | (simp (disch := omega) only [u2_same, u2_ab, u2_aq]; omega) | fail)) only [al_3648, wp_aloadr_0, wp_aloadk_0, wk_0, hp_86_0, hg_86_8, ha_89l, ha_89s, wc_25, hp_86_1, wp_istore_1, wp_jsr, wp_iload_1, hg_86_24, wn_ge_t, wn_ge_f, hg_86_22, ha_97l, ha_97s, wp_i2l, wc_43, t_43, wp_iinc_1_1, wp_goto, al_3650, wc_58, wp_ireturn, nl_i, nl_r, nl_k, nl_j, nl_l, nI_add, pk_mul, pk_sub, tl_s, tl_n, aL_inl, u2_same, u2_ab, u2_aq, nI_l, lN_i, Nat.add_zero, Nat.zero_add, Nat.zero_le, true_and, and_true, b2n_10, b2n_T, b2n_F, b2n_0, Decidable.not_not, not_true_eq_false, not_false_eq_true, Nat.reduceAdd, Nat.reduceMul]
  refine l_57 (N0 := u2 N1 86 1 0) (J0 := J) hd ⟨by rw [u2_aq (by decide)]; exact hc.1, by rw [u2_aq (by decide)]; exact hc.2.1, fun k hk => by rw [u2_ab (by decide)]; exact hc.2.2.1 k hk, fun g hg => by rw [u2_ab (by decide)]; exact hc.2.2.2 g hg⟩ hK ?_ (crsS D N (N 89)).1 0 _ _ (by omega) (fun _ _ _ => rfl) (fun _ _ _ => rfl) ⟨by rw [u2_same], fun i hi => absurd hi (Nat.not_lt_zero _)⟩
  intro N2 J2 h2 h3 h4
  refine hQ N2 I1 J2 ?_ (rI_s hI) ?_ h4
  · intro b q z
    have z3 : ¬ (b = 86 ∧ q = 1) := by rintro ⟨rfl, rfl⟩; cases z
    rw [h2 b q z3, u2_rd, if_neg z3]
    exact (qN_t (rN_q hN) (qN_u qN_r rfl)) b q z
  · intro b q z
    exact h3 b q (by rintro rfl; cases z)
theorem o_course (h : inv D N I J t) : opO ko d 176 57 [] D N I J x (t + 300) := by
  have hK := crsS_K (N := N) h.1.1.1 h.1.2.2.2.2.1.1
  have hF := dm_F h.1.1.1
  refine k_176 h.1 ?_
  intro N1 I1 J1 hN hI hJ ht
  have h1 := invB_c h.1 (Nat.le_refl t) hN hI hJ
  have ec : crsS D N1 (N1 89) = crsS D N (N 89) := by
    rw [sN_89 hN]
    exact smR_crs (sN_sm hN) D (N 89)
  refine r_57 h1 ?_
  intro N2 I2 J2 hN2 hI2 hJ2 ht2
  rw [ec] at ht2 ⊢
  refine ⟨rfl, rfl, D, N2, I2, J2, rfl, invB_c h1 (by omega) (qN_s hN2) hI2 (qJ_s hJ2), td_O ⟨(hN2 3 1 rfl).trans ht.1, fun i hi => (hJ2 4 i rfl).trans (ht.2 i hi)⟩ ht2 (by have := hK.1; omega)⟩
end O1
