/-! The class: settle, pass. From wip/whole/src. -/
/-- nothing lies beyond the land -/
def rwZ (F : Nat) (S : Nat → Nat) : Prop := ∀ f, F ≤ f → f < 36 → S f = 0 ∧ S (36 + f) = 0 ∧ S (72 + f) = 0
theorem tdS_Z {R C : Nat} {c : Nat × (Nat → Nat) × Bool} {S : Nat → Nat} (hF : R * C ≤ 36) (hk : crK R C c) (h : rwZ (R * C) S) : rwZ (R * C) (tdS R C c S) := by
  intro f h1 h2
  have hp : ∀ q, R * C ≤ q → ¬ (c.2.2 = true ∧ 0 < c.1 ∧ q = c.2.1 (c.1 - 1)) := by
    rintro q hq ⟨_, h1, h2⟩
    have := hk.2.1 (c.1 - 1) (by omega)
    omega
  obtain ⟨a1, a2, a3⟩ := h f h1 h2
  refine ⟨?_, ?_, ?_⟩
  · unfold tdS
    rw [if_neg (by omega), if_neg (by omega), if_neg (hp _ (by omega))]
    unfold mixT
    rw [if_neg (by omega), if_neg (by omega)]
    exact a1
  · unfold tdS
    rw [if_neg (by omega), if_neg (by omega), if_neg (hp _ (by omega)), mixT_w hF h2]
    exact a2
  · unfold tdS
    rw [if_neg (by omega), if_neg (by omega), if_neg (hp _ (by omega))]
    unfold mixT
    rw [if_neg (by omega), if_neg (by omega)]
    exact a3
theorem mixN_at {g f : Nat → Nat} {i : Nat} : mixN g f i i = f i := by simp [mixN]
theorem mixN_eq {g f : Nat → Nat} {i : Nat} (h : g i = f i) : mixN g f (i + 1) = mixN g f i := by
  funext q
  unfold mixN
  by_cases h2 : q < i
  · rw [if_pos h2, if_pos (by omega)]
  · by_cases h3 : q = i
    · subst h3
      rw [if_pos (by omega), if_neg h2, h]
    · rw [if_neg h2, if_neg (by omega)]
theorem onP_lt {L : Nat} {p : Nat → Nat} {F g : Nat} (h : ∀ k, k < L → p k < F) (hg : onP L p g = true) : g < F := by
  obtain ⟨k, hk, he⟩ := onP_iff.mp hg
  have := h k hk
  omega
section K7
variable {ko : aKo} {d k : Nat} {is : List Instr} {ls st : List Value} {σ : aH} {D : Nat → Nat} {N : Nat → Nat → Nat} {I : Nat → Nat → Int32} {J : Nat → Nat → Int64} {x : Nat} {Q : Option Value → aH → Prop} {P : (Option Value ⊕ Unit) → aH → Prop}
theorem l_259 {s : Nat} {S : Nat → Nat} {c : Nat × (Nat → Nat) × Bool} {sl : Int64} (hs : stB s = true) (hL : ldO D N I J) (hS : clS N J s S) (hw : rwO (D 3) S) (h2 : N 26 2 = s) (hc : clC (D 3) N I J c) (hsl : ∀ i, i < D 2 * D 3 → tb sl i = (besW (D 2) (D 3) (onP c.1 c.2.1) i 4 && (!onP c.1 c.2.1 i && !wlS S i)))
    (hQ : aWp ko d 259 (aP.1 (Int.toNat 16580)) [.ref 26, .long sl, aJk, .int (nI (D 2 * D 3))] [] (hp D (setRow N (s + 1) (mixN (hiN (D 2) (D 3) (onP c.1 c.2.1) S) (N (s + 1)) (D 2 * D 3))) I J x) P) :
    ∀ (j i : Nat), i + j = D 2 * D 3 → aWp ko d 259 (aP.1 (Int.toNat 16577)) [.ref 26, .long sl, aJk, .int (nI i)] [] (hp D (setRow N (s + 1) (mixN (hiN (D 2) (D 3) (onP c.1 c.2.1) S) (N (s + 1)) i)) I J x) P := by
  have hF := ld_F hL
  have h4 := hL.2.1
  have hso := st_or hs
  have en26 : ∀ T : Nat → Nat, setRow N (s + 1) T 26 = N 26 := fun T => setRow_n (by omega)
  intro j
  induction j with
  | zero =>
    intro i hi
    have e : i = D 2 * D 3 := by omega
    subst e
    rw [al_16577]
    simp (disch := (first | omega | exact aCat_8 (by with_unfolding_all rfl) | exact rk_lt (by with_unfolding_all rfl) | exact aCat_16 (by with_unfolding_all rfl) | exact rk_eq (by with_unfolding_all rfl) | assumption | exact b2n_lt _ | exact id_b (by with_unfolding_all rfl) | (simp (disch := omega) only [u2_same, u2_ab, u2_aq]; done) | (simp (disch := omega) only [u2_same, u2_ab, u2_aq]; omega) | fail)) only [al_16576, wp_aloadr_0, wp_aloadk_0, hg_26_0, hg_26_10, wc_243, wl_m1, wp_lxor, wp_land, hg_26_2, hg_20_1, hg_22_1, hg_24_1, wp_lstore_1, wk_0, wp_istore_3, wp_jsr, wp_iload_3, hg_5_2, wn_ge_t, wn_ge_f, wc_161, t_161, wk_1, wn_ne_t, wn_ne_f, hg_20_0, ha_21l, ha_21s, hg_22_0, ha_23l, ha_23s, hg_24_0, ha_25l, ha_25s, wp_isub, wp_max, wp_goto, al_16578, wp_lload_1, wk_9, wp_iadd, wp_min, al_16579, wp_iinc_3_1, hg_26_12, wk_m1, wn_eq_t, wn_eq_f, wk_3, al_16581, hg_26_11, wk_m2, wk_9999, hg_20_5, hg_22_5, hg_24_5, hp_20_5, hp_22_5, hp_24_5, al_16582, hp_20_2, hp_22_2, hp_24_2, wp_dupi, wp_dupr, hg_20_4, hg_22_4, hg_24_4, hp_20_4, hp_22_4, hp_24_4, wp_return, nl_i, nl_r, nl_k, nl_j, nl_l, nI_add, pk_mul, pk_sub, tl_s, tl_n, aL_inl, u2_same, u2_ab, u2_aq, nI_l, lN_i, Nat.add_zero, Nat.zero_add, Nat.zero_le, true_and, and_true, b2n_10, b2n_T, b2n_F, b2n_0, Decidable.not_not, not_true_eq_false, not_false_eq_true, Nat.reduceAdd, Nat.reduceMul]
    exact hQ
  | succ j ih =>
    intro i hi
    have hiF : i < D 2 * D 3 := by omega
    have h9 := (hw.1 i (by omega)).1
    have hh := hS.1 i (by omega)
    have e10 := hc.2.2.1 i (by omega)
    have esl := hsl i hiF
    have hgo : ∀ v : Nat, v = hiN (D 2) (D 3) (onP c.1 c.2.1) S i → aWp ko d 259 (aP.1 (Int.toNat 16579)) [.ref 26, .long sl, aJk, .int (nI i)] [] (hp D (setRow N (s + 1) (upn (mixN (hiN (D 2) (D 3) (onP c.1 c.2.1) S) (N (s + 1)) i) i v)) I J x) P := by
      intro v hv
      rw [hv, mixN_un, al_16579]
      simp (disch := (first | omega | exact aCat_8 (by with_unfolding_all rfl) | exact rk_lt (by with_unfolding_all rfl) | exact aCat_16 (by with_unfolding_all rfl) | exact rk_eq (by with_unfolding_all rfl) | assumption | exact b2n_lt _ | exact id_b (by with_unfolding_all rfl) | (simp (disch := omega) only [u2_same, u2_ab, u2_aq]; done) | (simp (disch := omega) only [u2_same, u2_ab, u2_aq]; omega) | fail)) only [al_16576, wp_aloadr_0, wp_aloadk_0, hg_26_0, hg_26_10, wc_243, wl_m1, wp_lxor, wp_land, hg_26_2, hg_20_1, hg_22_1, hg_24_1, wp_lstore_1, wk_0, wp_istore_3, wp_jsr, wp_iload_3, hg_5_2, wn_ge_t, wn_ge_f, wc_161, t_161, wk_1, wn_ne_t, wn_ne_f, hg_20_0, ha_21l, ha_21s, hg_22_0, ha_23l, ha_23s, hg_24_0, ha_25l, ha_25s, wp_isub, wp_max, wp_goto, al_16578, wp_lload_1, wk_9, wp_iadd, wp_min, al_16579, wp_iinc_3_1, al_16580, hg_26_12, wk_m1, wn_eq_t, wn_eq_f, wk_3, al_16581, hg_26_11, wk_m2, wk_9999, hg_20_5, hg_22_5, hg_24_5, hp_20_5, hp_22_5, hp_24_5, al_16582, hp_20_2, hp_22_2, hp_24_2, wp_dupi, wp_dupr, hg_20_4, hg_22_4, hg_24_4, hp_20_4, hp_22_4, hp_24_4, wp_return, nl_i, nl_r, nl_k, nl_j, nl_l, nI_add, pk_mul, pk_sub, tl_s, tl_n, aL_inl, u2_same, u2_ab, u2_aq, nI_l, lN_i, Nat.add_zero, Nat.zero_add, Nat.zero_le, true_and, and_true, b2n_10, b2n_T, b2n_F, b2n_0, Decidable.not_not, not_true_eq_false, not_false_eq_true, Nat.reduceAdd, Nat.reduceMul]
      exact ih (i + 1) (by omega)
    have hno : S i = hiN (D 2) (D 3) (onP c.1 c.2.1) S i → aWp ko d 259 (aP.1 (Int.toNat 16579)) [.ref 26, .long sl, aJk, .int (nI i)] [] (hp D (setRow N (s + 1) (mixN (hiN (D 2) (D 3) (onP c.1 c.2.1) S) (N (s + 1)) i)) I J x) P := by
      intro hv
      rw [al_16579]
      simp (disch := (first | omega | exact aCat_8 (by with_unfolding_all rfl) | exact rk_lt (by with_unfolding_all rfl) | exact aCat_16 (by with_unfolding_all rfl) | exact rk_eq (by with_unfolding_all rfl) | assumption | exact b2n_lt _ | exact id_b (by with_unfolding_all rfl) | (simp (disch := omega) only [u2_same, u2_ab, u2_aq]; done) | (simp (disch := omega) only [u2_same, u2_ab, u2_aq]; omega) | fail)) only [al_16576, wp_aloadr_0, wp_aloadk_0, hg_26_0, hg_26_10, wc_243, wl_m1, wp_lxor, wp_land, hg_26_2, hg_20_1, hg_22_1, hg_24_1, wp_lstore_1, wk_0, wp_istore_3, wp_jsr, wp_iload_3, hg_5_2, wn_ge_t, wn_ge_f, wc_161, t_161, wk_1, wn_ne_t, wn_ne_f, hg_20_0, ha_21l, ha_21s, hg_22_0, ha_23l, ha_23s, hg_24_0, ha_25l, ha_25s, wp_isub, wp_max, wp_goto, al_16578, wp_lload_1, wk_9, wp_iadd, wp_min, al_16579, wp_iinc_3_1, al_16580, hg_26_12, wk_m1, wn_eq_t, wn_eq_f, wk_3, al_16581, hg_26_11, wk_m2, wk_9999, hg_20_5, hg_22_5, hg_24_5, hp_20_5, hp_22_5, hp_24_5, al_16582, hp_20_2, hp_22_2, hp_24_2, wp_dupi, wp_dupr, hg_20_4, hg_22_4, hg_24_4, hp_20_4, hp_22_4, hp_24_4, wp_return, nl_i, nl_r, nl_k, nl_j, nl_l, nI_add, pk_mul, pk_sub, tl_s, tl_n, aL_inl, u2_same, u2_ab, u2_aq, nI_l, lN_i, Nat.add_zero, Nat.zero_add, Nat.zero_le, true_and, and_true, b2n_10, b2n_T, b2n_F, b2n_0, Decidable.not_not, not_true_eq_false, not_false_eq_true, Nat.reduceAdd, Nat.reduceMul]
      have := ih (i + 1) (by omega)
      rw [mixN_eq (by rw [hh]; exact hv.symm)] at this
      exact this
    rw [al_16577]
    by_cases h1 : onP c.1 c.2.1 i = true
    · have q1 : tb (J 26 10) i = true := by rw [e10]; exact h1
      by_cases h0 : S i = 0
      · have e0 : nI 0 - nI 1 = -1 := by decide
        simp (disch := (first | omega | exact aCat_8 (by with_unfolding_all rfl) | exact rk_lt (by with_unfolding_all rfl) | exact aCat_16 (by with_unfolding_all rfl) | exact rk_eq (by with_unfolding_all rfl) | assumption | exact b2n_lt _ | exact id_b (by with_unfolding_all rfl) | (simp (disch := omega) only [u2_same, u2_ab, u2_aq]; done) | (simp (disch := omega) only [u2_same, u2_ab, u2_aq]; omega) | fail)) only [al_16576, wp_aloadr_0, wp_aloadk_0, hg_26_0, hg_26_10, wc_243, wl_m1, wp_lxor, wp_land, hg_26_2, hg_20_1, hg_22_1, hg_24_1, wp_lstore_1, wk_0, wp_istore_3, wp_jsr, wp_iload_3, hg_5_2, wn_ge_t, wn_ge_f, wc_161, t_161, wk_1, wn_ne_t, wn_ne_f, hg_20_0, ha_21l, ha_21s, hg_22_0, ha_23l, ha_23s, hg_24_0, ha_25l, ha_25s, wp_isub, wp_max, wp_goto, al_16578, wp_lload_1, wk_9, wp_iadd, wp_min, wp_iinc_3_1, al_16580, hg_26_12, wk_m1, wn_eq_t, wn_eq_f, wk_3, al_16581, hg_26_11, wk_m2, wk_9999, hg_20_5, hg_22_5, hg_24_5, hp_20_5, hp_22_5, hp_24_5, al_16582, hp_20_2, hp_22_2, hp_24_2, wp_dupi, wp_dupr, hg_20_4, hg_22_4, hg_24_4, hp_20_4, hp_22_4, hp_24_4, wp_return, nl_i, nl_r, nl_k, nl_j, nl_l, nI_add, pk_mul, pk_sub, tl_s, tl_n, aL_inl, u2_same, u2_ab, u2_aq, nI_l, lN_i, Nat.add_zero, Nat.zero_add, Nat.zero_le, true_and, and_true, b2n_10, b2n_T, b2n_F, b2n_0, Decidable.not_not, not_true_eq_false, not_false_eq_true, Nat.reduceAdd, Nat.reduceMul, en26, h2, st_g0 hs, st_hl hs, st_hs hs, setRow_s, mixN_at, hh, h0, b2n_t q1, e0, wp_max_m1, setRow_u]
        exact hgo _ (by simp [hiN, h1, h0])
      · simp (disch := (first | omega | exact aCat_8 (by with_unfolding_all rfl) | exact rk_lt (by with_unfolding_all rfl) | exact aCat_16 (by with_unfolding_all rfl) | exact rk_eq (by with_unfolding_all rfl) | assumption | exact b2n_lt _ | exact id_b (by with_unfolding_all rfl) | (simp (disch := omega) only [u2_same, u2_ab, u2_aq]; done) | (simp (disch := omega) only [u2_same, u2_ab, u2_aq]; omega) | fail)) only [al_16576, wp_aloadr_0, wp_aloadk_0, hg_26_0, hg_26_10, wc_243, wl_m1, wp_lxor, wp_land, hg_26_2, hg_20_1, hg_22_1, hg_24_1, wp_lstore_1, wk_0, wp_istore_3, wp_jsr, wp_iload_3, hg_5_2, wn_ge_t, wn_ge_f, wc_161, t_161, wk_1, wn_ne_t, wn_ne_f, hg_20_0, ha_21l, ha_21s, hg_22_0, ha_23l, ha_23s, hg_24_0, ha_25l, ha_25s, wp_isub, wp_max, wp_goto, al_16578, wp_lload_1, wk_9, wp_iadd, wp_min, wp_iinc_3_1, al_16580, hg_26_12, wk_m1, wn_eq_t, wn_eq_f, wk_3, al_16581, hg_26_11, wk_m2, wk_9999, hg_20_5, hg_22_5, hg_24_5, hp_20_5, hp_22_5, hp_24_5, al_16582, hp_20_2, hp_22_2, hp_24_2, wp_dupi, wp_dupr, hg_20_4, hg_22_4, hg_24_4, hp_20_4, hp_22_4, hp_24_4, wp_return, nl_i, nl_r, nl_k, nl_j, nl_l, nI_add, pk_mul, pk_sub, tl_s, tl_n, aL_inl, u2_same, u2_ab, u2_aq, nI_l, lN_i, Nat.add_zero, Nat.zero_add, Nat.zero_le, true_and, and_true, b2n_10, b2n_T, b2n_F, b2n_0, Decidable.not_not, not_true_eq_false, not_false_eq_true, Nat.reduceAdd, Nat.reduceMul, en26, h2, st_g0 hs, st_hl hs, st_hs hs, setRow_s, mixN_at, hh, b2n_t q1, setRow_u]
        exact hgo _ (by rw [hiN, if_pos h1]; omega)
    · have q1 : ¬ tb (J 26 10) i = true := by rw [e10]; exact h1
      by_cases h3 : S (36 + i) = 1
      · have q2 : ¬ tb sl i = true := by rw [esl]; simp [wlS, h3]
        simp (disch := (first | omega | exact aCat_8 (by with_unfolding_all rfl) | exact rk_lt (by with_unfolding_all rfl) | exact aCat_16 (by with_unfolding_all rfl) | exact rk_eq (by with_unfolding_all rfl) | assumption | exact b2n_lt _ | exact id_b (by with_unfolding_all rfl) | (simp (disch := omega) only [u2_same, u2_ab, u2_aq]; done) | (simp (disch := omega) only [u2_same, u2_ab, u2_aq]; omega) | fail)) only [al_16576, wp_aloadr_0, wp_aloadk_0, hg_26_0, hg_26_10, wc_243, wl_m1, wp_lxor, wp_land, hg_26_2, hg_20_1, hg_22_1, hg_24_1, wp_lstore_1, wk_0, wp_istore_3, wp_jsr, wp_iload_3, hg_5_2, wn_ge_t, wn_ge_f, wc_161, t_161, wk_1, wn_ne_t, wn_ne_f, hg_20_0, ha_21l, ha_21s, hg_22_0, ha_23l, ha_23s, hg_24_0, ha_25l, ha_25s, wp_isub, wp_max, wp_goto, al_16578, wp_lload_1, wk_9, wp_iadd, wp_min, wp_iinc_3_1, al_16580, hg_26_12, wk_m1, wn_eq_t, wn_eq_f, wk_3, al_16581, hg_26_11, wk_m2, wk_9999, hg_20_5, hg_22_5, hg_24_5, hp_20_5, hp_22_5, hp_24_5, al_16582, hp_20_2, hp_22_2, hp_24_2, wp_dupi, wp_dupr, hg_20_4, hg_22_4, hg_24_4, hp_20_4, hp_22_4, hp_24_4, wp_return, nl_i, nl_r, nl_k, nl_j, nl_l, nI_add, pk_mul, pk_sub, tl_s, tl_n, aL_inl, u2_same, u2_ab, u2_aq, nI_l, lN_i, Nat.add_zero, Nat.zero_add, Nat.zero_le, true_and, and_true, b2n_10, b2n_T, b2n_F, b2n_0, Decidable.not_not, not_true_eq_false, not_false_eq_true, Nat.reduceAdd, Nat.reduceMul, en26, h2, b2n_f q1, b2n_f q2]
        exact hno (by rw [hiN, if_neg h1, if_pos h3])
      · by_cases h5 : besW (D 2) (D 3) (onP c.1 c.2.1) i 4 = true
        · have q2 : tb sl i = true := by rw [esl]; simp [wlS, h3, h5, h1]
          simp (disch := (first | omega | exact aCat_8 (by with_unfolding_all rfl) | exact rk_lt (by with_unfolding_all rfl) | exact aCat_16 (by with_unfolding_all rfl) | exact rk_eq (by with_unfolding_all rfl) | assumption | exact b2n_lt _ | exact id_b (by with_unfolding_all rfl) | (simp (disch := omega) only [u2_same, u2_ab, u2_aq]; done) | (simp (disch := omega) only [u2_same, u2_ab, u2_aq]; omega) | fail)) only [al_16576, wp_aloadr_0, wp_aloadk_0, hg_26_0, hg_26_10, wc_243, wl_m1, wp_lxor, wp_land, hg_26_2, hg_20_1, hg_22_1, hg_24_1, wp_lstore_1, wk_0, wp_istore_3, wp_jsr, wp_iload_3, hg_5_2, wn_ge_t, wn_ge_f, wc_161, t_161, wk_1, wn_ne_t, wn_ne_f, hg_20_0, ha_21l, ha_21s, hg_22_0, ha_23l, ha_23s, hg_24_0, ha_25l, ha_25s, wp_isub, wp_max, wp_goto, al_16578, wp_lload_1, wk_9, wp_iadd, wp_min, wp_iinc_3_1, al_16580, hg_26_12, wk_m1, wn_eq_t, wn_eq_f, wk_3, al_16581, hg_26_11, wk_m2, wk_9999, hg_20_5, hg_22_5, hg_24_5, hp_20_5, hp_22_5, hp_24_5, al_16582, hp_20_2, hp_22_2, hp_24_2, wp_dupi, wp_dupr, hg_20_4, hg_22_4, hg_24_4, hp_20_4, hp_22_4, hp_24_4, wp_return, nl_i, nl_r, nl_k, nl_j, nl_l, nI_add, pk_mul, pk_sub, tl_s, tl_n, aL_inl, u2_same, u2_ab, u2_aq, nI_l, lN_i, Nat.add_zero, Nat.zero_add, Nat.zero_le, true_and, and_true, b2n_10, b2n_T, b2n_F, b2n_0, Decidable.not_not, not_true_eq_false, not_false_eq_true, Nat.reduceAdd, Nat.reduceMul, en26, h2, st_g0 hs, st_hl hs, st_hs hs, setRow_s, mixN_at, hh, b2n_f q1, b2n_t q2, setRow_u]
          exact hgo _ (by rw [hiN, if_neg h1, if_neg h3, if_pos h5])
        · have q2 : ¬ tb sl i = true := by rw [esl]; simp [h5]
          simp (disch := (first | omega | exact aCat_8 (by with_unfolding_all rfl) | exact rk_lt (by with_unfolding_all rfl) | exact aCat_16 (by with_unfolding_all rfl) | exact rk_eq (by with_unfolding_all rfl) | assumption | exact b2n_lt _ | exact id_b (by with_unfolding_all rfl) | (simp (disch := omega) only [u2_same, u2_ab, u2_aq]; done) | (simp (disch := omega) only [u2_same, u2_ab, u2_aq]; omega) | fail)) only [al_16576, wp_aloadr_0, wp_aloadk_0, hg_26_0, hg_26_10, wc_243, wl_m1, wp_lxor, wp_land, hg_26_2, hg_20_1, hg_22_1, hg_24_1, wp_lstore_1, wk_0, wp_istore_3, wp_jsr, wp_iload_3, hg_5_2, wn_ge_t, wn_ge_f, wc_161, t_161, wk_1, wn_ne_t, wn_ne_f, hg_20_0, ha_21l, ha_21s, hg_22_0, ha_23l, ha_23s, hg_24_0, ha_25l, ha_25s, wp_isub, wp_max, wp_goto, al_16578, wp_lload_1, wk_9, wp_iadd, wp_min, wp_iinc_3_1, al_16580, hg_26_12, wk_m1, wn_eq_t, wn_eq_f, wk_3, al_16581, hg_26_11, wk_m2, wk_9999, hg_20_5, hg_22_5, hg_24_5, hp_20_5, hp_22_5, hp_24_5, al_16582, hp_20_2, hp_22_2, hp_24_2, wp_dupi, wp_dupr, hg_20_4, hg_22_4, hg_24_4, hp_20_4, hp_22_4, hp_24_4, wp_return, nl_i, nl_r, nl_k, nl_j, nl_l, nI_add, pk_mul, pk_sub, tl_s, tl_n, aL_inl, u2_same, u2_ab, u2_aq, nI_l, lN_i, Nat.add_zero, Nat.zero_add, Nat.zero_le, true_and, and_true, b2n_10, b2n_T, b2n_F, b2n_0, Decidable.not_not, not_true_eq_false, not_false_eq_true, Nat.reduceAdd, Nat.reduceMul, en26, h2, b2n_f q1, b2n_f q2]
          exact hno (by rw [hiN, if_neg h1, if_neg h3, if_neg h5])
theorem t_259 {s : Nat} {S : Nat → Nat} {c : Nat × (Nat → Nat) × Bool} (hs : stB s = true) (hL : ldO D N I J) (hS : clS N J s S) (hw : rwO (D 3) S) (hz : rwZ (D 2 * D 3) S) (h2 : N 26 2 = s) (hc : clC (D 3) N I J c) (hK : crK (D 2) (D 3) c)
    (hQ : ∀ (N' : Nat → Nat → Nat) (J' : Nat → Nat → Int64), clS N' J' s (tdS (D 2) (D 3) c S) → (∀ b q, b ≠ s → b ≠ s + 1 → N' b q = N b q) → (∀ b q, b ≠ s → J' b q = J b q) → Q none (hp D N' I J' x)) :
    aMm ko d 259 [.ref 26] (hp D N I J x) Q := by
  have hF := ld_F hL
  have h4 := hL.2.1
  have hso := st_or hs
  have hd := hL.1
  have en26 : ∀ T : Nat → Nat, setRow N (s + 1) T 26 = N 26 := fun T => setRow_n (by omega)
  have ens : ∀ T : Nat → Nat, setRow N (s + 1) T s = N s := fun T => setRow_n (by omega)
  obtain ⟨L, p, lk⟩ := c
  have hLF : L ≤ D 2 * D 3 := hK.1
  have hpF : ∀ k, k < L → p k < D 2 * D 3 := hK.2.1
  rw [me_259]
  simp (disch := (first | omega | exact aCat_8 (by with_unfolding_all rfl) | exact rk_lt (by with_unfolding_all rfl) | exact aCat_16 (by with_unfolding_all rfl) | exact rk_eq (by with_unfolding_all rfl) | assumption | exact b2n_lt _ | exact id_b (by with_unfolding_all rfl) | (simp (disch := omega) only [u2_same, u2_ab, u2_aq]; done) | (simp (disch := omega) only [u2_same, u2_ab, u2_aq]; omega) | fail)) only [al_16576, wp_aloadr_0, wp_aloadk_0, hg_26_0, hg_26_10, wc_243, wl_m1, wp_lxor, wp_land, hg_26_2, hg_20_1, hg_22_1, hg_24_1, wp_lstore_1, wk_0, wp_istore_3, wp_jsr, wp_iload_3, hg_5_2, wn_ge_t, wn_ge_f, wc_161, t_161, wk_1, wn_ne_t, wn_ne_f, hg_20_0, ha_21l, ha_21s, hg_22_0, ha_23l, ha_23s, hg_24_0, ha_25l, ha_25s, wp_isub, wp_max, wp_goto, al_16578, wp_lload_1, wk_9, wp_iadd, wp_min, al_16579, wp_iinc_3_1, al_16580, hg_26_12, wk_m1, wn_eq_t, wn_eq_f, wk_3, al_16581, hg_26_11, wk_m2, wk_9999, hg_20_5, hg_22_5, hg_24_5, hp_20_5, hp_22_5, hp_24_5, al_16582, hp_20_2, hp_22_2, hp_24_2, wp_dupi, wp_dupr, hg_20_4, hg_22_4, hg_24_4, hp_20_4, hp_22_4, hp_24_4, wp_return, nl_i, nl_r, nl_k, nl_j, nl_l, nI_add, pk_mul, pk_sub, tl_s, tl_n, aL_inl, u2_same, u2_ab, u2_aq, nI_l, lN_i, Nat.add_zero, Nat.zero_add, Nat.zero_le, true_and, and_true, b2n_10, b2n_T, b2n_F, b2n_0, Decidable.not_not, not_true_eq_false, not_false_eq_true, Nat.reduceAdd, Nat.reduceMul, h2, t_243, st_g1 hs]
  have hsl : ∀ i, i < D 2 * D 3 → tb (arJ D J (J 26 10) &&& (J 26 10 ^^^ -1) &&& (J s 1 ^^^ -1)) i = (besW (D 2) (D 3) (onP L p) i 4 && (!onP L p i && !wlS S i)) := by
    intro i hi
    rw [tb_and, tb_and, tb_not (by omega), tb_not (by omega), tb_around hL (by
      intro i h5 h6
      rw [hc.2.2.1 i h5]
      apply Bool.eq_false_iff.mpr
      intro z
      have := onP_lt hpF z
      omega) (by omega), hc.2.2.1 i (by omega), wl_tb hS hF.1 i hi, besW_congr (o' := onP L p) (by omega) hi (fun g hg => hc.2.2.1 g (by omega)) 4]
    simp [hi, Bool.and_assoc]
  have h0 := l_259 (ko := ko) (d := d) (D := D) (N := N) (I := I) (J := J) (x := x) (P := aL Q) (c := (L, p, lk)) hs hL hS hw h2 hc hsl ?_ (D 2 * D 3) 0 (by omega)
  · rw [mixN_0, setRow_id] at h0
    exact h0
  have h11 : I 26 11 = mth (D 3) (L, p, lk) := hc.2.2.2.1
  have h12 : I 26 12 = if lk = true ∧ 0 < L then nI (p (L - 1)) else -1 := hc.2.2.2.2
  have e4 : N s 4 = S 109 := hS.2.2.2.1
  have e5 : N s 5 = S 110 := hS.2.2.2.2
  have e3 : N s 3 = S 108 := hS.2.2.1
  have hl9 := hw.2.2.1
  have hmx : ∀ f, f < 36 → mixN (hiN (D 2) (D 3) (onP L p) S) (N (s + 1)) (D 2 * D 3) f = mixT (D 2) (D 3) (onP L p) S (D 2 * D 3) f := by
    intro f hf
    unfold mixN mixT
    split
    · rfl
    · rw [if_neg (by omega), hS.1 f hf]
  have hfin : ∀ (T : Nat → Nat) (v5 : Nat), (∀ f, f < 36 → T f = tdS (D 2) (D 3) (L, p, lk) S f) → v5 = tdS (D 2) (D 3) (L, p, lk) S 110 → ∀ M : Nat → Nat → Nat, (M (s + 1) = T) → (∀ q, M s q = if q = 5 then v5 else N s q) → (∀ b q, b ≠ s → b ≠ s + 1 → M b q = N b q) → Q none (hp D (u2 M s 4 (S 109 + 1)) I (u2 J s 2 (J 26 10)) x) := by
    intro T v5 hT hv5 M hM1 hM2 hM3
    have hp' : ∀ q, D 2 * D 3 ≤ q → ¬ (lk = true ∧ 0 < L ∧ q = p (L - 1)) := by
      rintro q hq ⟨_, z1, z2⟩
      have := hpF (L - 1) (by omega)
      omega
    refine hQ _ _ ⟨?_, ?_, ?_, ?_, ?_⟩ ?_ ?_
    · intro f hf
      rw [u2_ab (by omega), hM1]
      exact hT f hf
    · intro f hf
      constructor
      · rw [u2_aq (by decide), (hS.2.1 f hf).1]
        by_cases q : f < 36
        · have : tdS (D 2) (D 3) (L, p, lk) S (36 + f) = S (36 + f) := by
            unfold tdS
            rw [if_neg (by omega), if_neg (by omega), if_neg (hp' _ (by omega)), mixT_w hF.1 q]
          rw [this]
        · simp [q]
      · rw [u2_same, hc.2.2.1 f hf]
        show onP L p f = _
        by_cases q : f < 36
        · have : tdS (D 2) (D 3) (L, p, lk) S (72 + f) = mixT (D 2) (D 3) (onP L p) S (D 2 * D 3) (72 + f) := by
            unfold tdS
            rw [if_neg (by omega), if_neg (by omega), if_neg (hp' _ (by omega))]
          rw [this]
          unfold mixT
          rw [if_neg (by omega)]
          by_cases q2 : f < D 2 * D 3
          · rw [if_pos (by omega)]
            simp only [Nat.add_sub_cancel_left, b2n_1]
            simp [q]
          · rw [if_neg (by omega), (hz f (by omega) q).2.2]
            have : onP L p f = false := by
              apply Bool.eq_false_iff.mpr
              intro z
              exact q2 (onP_lt hpF z)
            simp [this]
        · have : onP L p f = false := by
            apply Bool.eq_false_iff.mpr
            intro z
            have := onP_lt hpF z
            omega
          simp [this, q]
    · rw [u2_aq (by decide), hM2, if_neg (by decide), e3]
      unfold tdS
      rw [if_neg (by omega), if_neg (by omega), if_neg (hp' _ (by omega))]
      unfold mixT
      rw [if_neg (by omega), if_neg (by omega)]
    · rw [u2_same]
      unfold tdS
      rw [if_pos rfl]
    · rw [u2_aq (by decide), hM2, if_pos rfl]
      exact hv5
    · intro b q z1 z2
      rw [u2_ab z1]
      exact hM3 b q z1 z2
    · intro b q z1
      rw [u2_ab z1]
  rw [al_16580]
  cases lk with
  | false =>
    have h12' : I 26 12 = -1 := by rw [h12]; simp
    have h11' : I 26 11 = nI (p (L - 1) % D 3) := by rw [h11]; simp [mth]
    have hm : p (L - 1) % D 3 < D 3 := Nat.mod_lt _ (by omega)
    simp (disch := (first | omega | exact aCat_8 (by with_unfolding_all rfl) | exact rk_lt (by with_unfolding_all rfl) | exact aCat_16 (by with_unfolding_all rfl) | exact rk_eq (by with_unfolding_all rfl) | assumption | exact b2n_lt _ | exact id_b (by with_unfolding_all rfl) | (simp (disch := omega) only [u2_same, u2_ab, u2_aq]; done) | (simp (disch := omega) only [u2_same, u2_ab, u2_aq]; omega) | fail)) only [al_16576, wp_aloadr_0, wp_aloadk_0, hg_26_0, hg_26_10, wc_243, wl_m1, wp_lxor, wp_land, hg_26_2, hg_20_1, hg_22_1, hg_24_1, wp_lstore_1, wk_0, wp_istore_3, wp_jsr, wp_iload_3, hg_5_2, wn_ge_t, wn_ge_f, wc_161, t_161, wk_1, wn_ne_t, wn_ne_f, hg_20_0, ha_21l, ha_21s, hg_22_0, ha_23l, ha_23s, hg_24_0, ha_25l, ha_25s, wp_isub, wp_max, wp_goto, al_16578, wp_lload_1, wk_9, wp_iadd, wp_min, al_16579, wp_iinc_3_1, al_16580, hg_26_12, wk_m1, wn_eq_t, wn_eq_f, wk_3, al_16581, hg_26_11, wk_m2, wk_9999, hg_20_5, hg_22_5, hg_24_5, hp_20_5, hp_22_5, hp_24_5, al_16582, hp_20_2, hp_22_2, hp_24_2, wp_dupi, wp_dupr, hg_20_4, hg_22_4, hg_24_4, hp_20_4, hp_22_4, hp_24_4, wp_return, nl_i, nl_r, nl_k, nl_j, nl_l, nI_add, pk_mul, pk_sub, tl_s, tl_n, aL_inl, u2_same, u2_ab, u2_aq, nI_l, lN_i, Nat.add_zero, Nat.zero_add, Nat.zero_le, true_and, and_true, b2n_10, b2n_T, b2n_F, b2n_0, Decidable.not_not, not_true_eq_false, not_false_eq_true, Nat.reduceAdd, Nat.reduceMul, en26, ens, h2, h11', h12', e4, e5, st_g0 hs, st_g4 hs, st_g5 hs, st_p2 hs, st_p4 hs, st_p5 hs, st_hl hs, st_hs hs, setRow_s, setRow_u, qe_n1, qe_m1, qn_n1, qn_m1, qe_n2, qe_m2, qn_n2, qn_m2]
    refine hfin (mixN (hiN (D 2) (D 3) (onP L p) S) (N (s + 1)) (D 2 * D 3)) (S 110) ?_ ?_ _ setRow_s ?_ ?_
    · intro f hf
      rw [hmx f hf]
      unfold tdS
      rw [if_neg (by omega), if_neg (by omega), if_neg (by simp)]
    · unfold tdS
      rw [if_neg (by omega), if_pos rfl, if_neg (by simp)]
    · intro q
      rw [ens]
      split
      · rename_i z; rw [z, e5]
      · rfl
    · intro b q z1 z2
      rw [setRow_n z2]
  | true =>
    have h11' : I 26 11 = -2 := by rw [h11]; simp [mth]
    have et110 : min 9999 (S 110 + 1) = tdS (D 2) (D 3) (L, p, true) S 110 := by
      unfold tdS
      rw [if_neg (by omega), if_pos rfl, if_pos rfl]
    by_cases hL0 : 0 < L
    · have h12' : I 26 12 = nI (p (L - 1)) := by rw [h12]; simp [hL0]
      have hp1 := hpF (L - 1) (by omega)
      have h9 : mixN (hiN (D 2) (D 3) (onP L p) S) (N (s + 1)) (D 2 * D 3) (p (L - 1)) ≤ 9 := by
        unfold mixN
        rw [if_pos hp1]
        exact hiN_le (hw.1 _ (by omega)).1
      simp (disch := (first | omega | exact aCat_8 (by with_unfolding_all rfl) | exact rk_lt (by with_unfolding_all rfl) | exact aCat_16 (by with_unfolding_all rfl) | exact rk_eq (by with_unfolding_all rfl) | assumption | exact b2n_lt _ | exact id_b (by with_unfolding_all rfl) | (simp (disch := omega) only [u2_same, u2_ab, u2_aq]; done) | (simp (disch := omega) only [u2_same, u2_ab, u2_aq]; omega) | fail)) only [al_16576, wp_aloadr_0, wp_aloadk_0, hg_26_0, hg_26_10, wc_243, wl_m1, wp_lxor, wp_land, hg_26_2, hg_20_1, hg_22_1, hg_24_1, wp_lstore_1, wk_0, wp_istore_3, wp_jsr, wp_iload_3, hg_5_2, wn_ge_t, wn_ge_f, wc_161, t_161, wk_1, wn_ne_t, wn_ne_f, hg_20_0, ha_21l, ha_21s, hg_22_0, ha_23l, ha_23s, hg_24_0, ha_25l, ha_25s, wp_isub, wp_max, wp_goto, al_16578, wp_lload_1, wk_9, wp_iadd, wp_min, al_16579, wp_iinc_3_1, al_16580, hg_26_12, wk_m1, wn_eq_t, wn_eq_f, wk_3, al_16581, hg_26_11, wk_m2, wk_9999, hg_20_5, hg_22_5, hg_24_5, hp_20_5, hp_22_5, hp_24_5, al_16582, hp_20_2, hp_22_2, hp_24_2, wp_dupi, wp_dupr, hg_20_4, hg_22_4, hg_24_4, hp_20_4, hp_22_4, hp_24_4, wp_return, nl_i, nl_r, nl_k, nl_j, nl_l, nI_add, pk_mul, pk_sub, tl_s, tl_n, aL_inl, u2_same, u2_ab, u2_aq, nI_l, lN_i, Nat.add_zero, Nat.zero_add, Nat.zero_le, true_and, and_true, b2n_10, b2n_T, b2n_F, b2n_0, Decidable.not_not, not_true_eq_false, not_false_eq_true, Nat.reduceAdd, Nat.reduceMul, en26, ens, h2, h11', h12', e4, e5, st_g0 hs, st_g4 hs, st_g5 hs, st_p2 hs, st_p4 hs, st_p5 hs, st_hl hs, st_hs hs, setRow_s, setRow_u, qe_n1, qe_m1, qn_n1, qn_m1, qe_n2, qe_m2, qn_n2, qn_m2]
      refine hfin (upn (mixN (hiN (D 2) (D 3) (onP L p) S) (N (s + 1)) (D 2 * D 3)) (p (L - 1)) (min 9 (mixN (hiN (D 2) (D 3) (onP L p) S) (N (s + 1)) (D 2 * D 3) (p (L - 1)) + 3))) (min 9999 (S 110 + 1)) ?_ et110 _ ?_ ?_ ?_
      · intro f hf
        unfold upn tdS
        rw [if_neg (by omega : ¬ f = 109), if_neg (by omega : ¬ f = 110)]
        by_cases q : f = p (L - 1)
        · rw [if_pos q, if_pos ⟨rfl, hL0, q⟩, q, hmx _ (by omega)]
        · rw [if_neg q, if_neg (fun z => q z.2.2), hmx f hf]
      · funext q
        rw [u2_ab (by omega), setRow_s]
      · intro q
        rw [u2_rd, ens]
        simp
      · intro b q z1 z2
        rw [u2_ab z1, setRow_n z2]
    · have h12' : I 26 12 = -1 := by rw [h12]; simp [hL0]
      simp (disch := (first | omega | exact aCat_8 (by with_unfolding_all rfl) | exact rk_lt (by with_unfolding_all rfl) | exact aCat_16 (by with_unfolding_all rfl) | exact rk_eq (by with_unfolding_all rfl) | assumption | exact b2n_lt _ | exact id_b (by with_unfolding_all rfl) | (simp (disch := omega) only [u2_same, u2_ab, u2_aq]; done) | (simp (disch := omega) only [u2_same, u2_ab, u2_aq]; omega) | fail)) only [al_16576, wp_aloadr_0, wp_aloadk_0, hg_26_0, hg_26_10, wc_243, wl_m1, wp_lxor, wp_land, hg_26_2, hg_20_1, hg_22_1, hg_24_1, wp_lstore_1, wk_0, wp_istore_3, wp_jsr, wp_iload_3, hg_5_2, wn_ge_t, wn_ge_f, wc_161, t_161, wk_1, wn_ne_t, wn_ne_f, hg_20_0, ha_21l, ha_21s, hg_22_0, ha_23l, ha_23s, hg_24_0, ha_25l, ha_25s, wp_isub, wp_max, wp_goto, al_16578, wp_lload_1, wk_9, wp_iadd, wp_min, al_16579, wp_iinc_3_1, al_16580, hg_26_12, wk_m1, wn_eq_t, wn_eq_f, wk_3, al_16581, hg_26_11, wk_m2, wk_9999, hg_20_5, hg_22_5, hg_24_5, hp_20_5, hp_22_5, hp_24_5, al_16582, hp_20_2, hp_22_2, hp_24_2, wp_dupi, wp_dupr, hg_20_4, hg_22_4, hg_24_4, hp_20_4, hp_22_4, hp_24_4, wp_return, nl_i, nl_r, nl_k, nl_j, nl_l, nI_add, pk_mul, pk_sub, tl_s, tl_n, aL_inl, u2_same, u2_ab, u2_aq, nI_l, lN_i, Nat.add_zero, Nat.zero_add, Nat.zero_le, true_and, and_true, b2n_10, b2n_T, b2n_F, b2n_0, Decidable.not_not, not_true_eq_false, not_false_eq_true, Nat.reduceAdd, Nat.reduceMul, en26, ens, h2, h11', h12', e4, e5, st_g0 hs, st_g4 hs, st_g5 hs, st_p2 hs, st_p4 hs, st_p5 hs, st_hl hs, st_hs hs, setRow_s, setRow_u, qe_n1, qe_m1, qn_n1, qn_m1, qe_n2, qe_m2, qn_n2, qn_m2]
      refine hfin (mixN (hiN (D 2) (D 3) (onP L p) S) (N (s + 1)) (D 2 * D 3)) (min 9999 (S 110 + 1)) ?_ et110 _ ?_ ?_ ?_
      · intro f hf
        rw [hmx f hf]
        unfold tdS
        rw [if_neg (by omega), if_neg (by omega), if_neg (fun z => hL0 z.2.1)]
      · funext q
        rw [u2_ab (by omega), setRow_s]
      · intro q
        rw [u2_rd, ens]
        simp
      · intro b q z1 z2
        rw [u2_ab z1, setRow_n z2]
end K7
