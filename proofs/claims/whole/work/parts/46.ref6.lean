/-! The reference: tideGoes, tidesGo, copies. From wip/whole/src. -/
def crsS (D : Nat → Nat) (N : Nat → Nat → Nat) (S : Nat → Nat) : Nat × (Nat → Nat) × Bool := crs0 (D 0) (D 1) (dsl (D 1) N S) (wlS S) (S 108)
def tdN (D : Nat → Nat) (N : Nat → Nat → Nat) (S : Nat → Nat) : Nat → Nat := tdS (D 0) (D 1) (crsS D N S) S
def itS (D : Nat → Nat) (N : Nat → Nat → Nat) (S : Nat → Nat) : Nat → Nat → Nat
  | 0 => S
  | n + 1 => tdN D N (itS D N S n)
/-- in how many of n tides it comes to the sea -/
def cmS (D : Nat → Nat) (N : Nat → Nat → Nat) (S : Nat → Nat) : Nat → Nat
  | 0 => 0
  | n + 1 => cmS D N S n + b2n ((crsS D N (itS D N S n)).2.2 = false)
/-- the same rule and tides -/
def smR (M N : Nat → Nat → Nat) : Prop := M 93 = N 93 ∧ M 88 = N 88 ∧ M 86 18 = N 86 18 ∧ M 86 6 = N 86 6
theorem smR_dsl {M N : Nat → Nat → Nat} (h : smR M N) (C : Nat) (S : Nat → Nat) : dsl C M S = dsl C N S := by
  unfold dsl skR
  rw [h.1, h.2.1, h.2.2.1, h.2.2.2]
theorem smR_crs {M N : Nat → Nat → Nat} (h : smR M N) (D : Nat → Nat) (S : Nat → Nat) : crsS D M S = crsS D N S := by
  unfold crsS
  rw [smR_dsl h]
theorem smR_td {M N : Nat → Nat → Nat} (h : smR M N) (D : Nat → Nat) (S : Nat → Nat) : tdN D M S = tdN D N S := by
  unfold tdN
  rw [smR_crs h]
theorem smR_it {M N : Nat → Nat → Nat} (h : smR M N) (D : Nat → Nat) (S : Nat → Nat) : ∀ n, itS D M S n = itS D N S n
  | 0 => rfl
  | n + 1 => by rw [itS, itS, smR_it h D S n, smR_td h]
theorem smR_cm {M N : Nat → Nat → Nat} (h : smR M N) (D : Nat → Nat) (S : Nat → Nat) : ∀ n, cmS D M S n = cmS D N S n
  | 0 => rfl
  | n + 1 => by rw [cmS, cmS, smR_cm h D S n, smR_it h, smR_crs h]
theorem smR_rl {M N : Nat → Nat → Nat} (h : smR M N) (hl : rlO N) : rlO M := by
  unfold rlO
  rw [h.1, h.2.2.1, h.2.2.2]
  exact hl
theorem crsS_K {D : Nat → Nat} {N : Nat → Nat → Nat} {S : Nat → Nat} (hd : dmO D) (hw : rwO (D 1) S) : crK (D 0) (D 1) (crsS D N S) := by
  have hF := dm_F hd
  have := hw.2.1
  exact crs0_K (by have := hd.2.2.1; omega) (by omega)
theorem hiN_le {R C : Nat} {on : Nat → Bool} {S : Nat → Nat} {f : Nat} (h : S f ≤ 9) : hiN R C on S f ≤ 9 := by
  unfold hiN
  split
  · omega
  · split
    · exact h
    · split
      · omega
      · exact h
theorem mixT_w {R C : Nat} {on : Nat → Bool} {S : Nat → Nat} {i f : Nat} (hi : i ≤ 36) (hf : f < 36) : mixT R C on S i (36 + f) = S (36 + f) := by
  unfold mixT
  rw [if_neg (by omega), if_neg (by omega)]
theorem mixT_h {R C : Nat} {on : Nat → Bool} {S : Nat → Nat} {i : Nat} (hi : i < 36) : mixT R C on S i i = S i := by
  unfold mixT
  rw [if_neg (by omega), if_neg (by omega)]
theorem tdS_O {R C : Nat} {c : Nat × (Nat → Nat) × Bool} {S : Nat → Nat} (hF : R * C ≤ 36) (hk : crK R C c) (h : rwO C S) (ht : S 109 + 1 < 1000000000) : rwO C (tdS R C c S) := by
  have hm : ∀ q, q < 36 → mixT R C (onP c.1 c.2.1) S (R * C) q ≤ 9 := by
    intro q hq
    unfold mixT
    split
    · exact hiN_le (h.1 q hq).1
    · rw [if_neg (by omega)]
      exact (h.1 q hq).1
  have hb : ∀ q, q < 36 → mixT R C (onP c.1 c.2.1) S (R * C) (72 + q) ≤ 1 := by
    intro q hq
    unfold mixT
    rw [if_neg (by omega)]
    split
    · exact b2n_le _
    · exact (h.1 q hq).2.2
  have hp : ∀ q, 36 ≤ q → ¬ (c.2.2 = true ∧ 0 < c.1 ∧ q = c.2.1 (c.1 - 1)) := by
    rintro q hq ⟨_, h1, h2⟩
    have := hk.2.1 (c.1 - 1) (by omega)
    omega
  refine ⟨?_, ?_, ?_, ?_, ?_⟩
  · intro f hf
    refine ⟨?_, ?_, ?_⟩
    · unfold tdS
      rw [if_neg (by omega), if_neg (by omega)]
      have := hm f hf
      split <;> omega
    · unfold tdS
      rw [if_neg (by omega), if_neg (by omega), if_neg (hp _ (by omega)), mixT_w hF hf]
      exact (h.1 f hf).2.1
    · unfold tdS
      rw [if_neg (by omega), if_neg (by omega), if_neg (hp _ (by omega))]
      exact hb f hf
  · unfold tdS
    rw [if_neg (by omega), if_neg (by omega), if_neg (hp _ (by omega))]
    unfold mixT
    rw [if_neg (by omega), if_neg (by omega)]
    exact h.2.1
  · unfold tdS
    rw [if_neg (by omega), if_pos rfl]
    have := h.2.2.1
    split <;> omega
  · unfold tdS
    rw [if_pos rfl]
    exact ht
  · intro q hq
    unfold tdS
    rw [if_neg (by omega), if_neg (by omega), if_neg (hp _ (by omega))]
    unfold mixT
    rw [if_neg (by omega), if_neg (by omega)]
    exact h.2.2.2.2 q hq
theorem tdN_O {D : Nat → Nat} {N : Nat → Nat → Nat} {S : Nat → Nat} (hd : dmO D) (h : rwO (D 1) S) (ht : S 109 + 1 < 1000000000) : rwO (D 1) (tdN D N S) := tdS_O (dm_F hd).1 (crsS_K hd h) h ht
theorem tdN_t {D : Nat → Nat} {N : Nat → Nat → Nat} {S : Nat → Nat} : tdN D N S 109 = S 109 + 1 := by
  unfold tdN tdS
  rw [if_pos rfl]
theorem itS_t {D : Nat → Nat} {N : Nat → Nat → Nat} {S : Nat → Nat} : ∀ n, itS D N S n 109 = S 109 + n
  | 0 => rfl
  | n + 1 => by rw [itS, tdN_t, itS_t n]; omega
theorem itS_O {D : Nat → Nat} {N : Nat → Nat → Nat} {S : Nat → Nat} (hd : dmO D) (h : rwO (D 1) S) : ∀ n, S 109 + n < 1000000000 → rwO (D 1) (itS D N S n)
  | 0, _ => h
  | n + 1, ht => by
    rw [itS]
    exact tdN_O hd (itS_O hd h n (by omega)) (by rw [itS_t]; omega)
section R6
variable {ko : aKo} {d k : Nat} {is : List Instr} {ls st : List Value} {σ : aH} {D : Nat → Nat} {N : Nat → Nat → Nat} {I : Nat → Nat → Int32} {J : Nat → Nat → Int64} {x : Nat} {Q : Option Value → aH → Prop} {P : (Option Value ⊕ Unit) → aH → Prop}
theorem wp_min_m1 (h : aCat (.int (-1) :: .int (nI 9) :: st) ≤ 16) : aWp ko d k (.invokedynamic 5 :: is) ls (.int (-1) :: .int (nI 9) :: st) σ P = aWp ko d k is ls (.int (-1) :: st) σ P := wp_minx h
theorem wp_max_m1 (h : aCat (.int (-1) :: .int (nI 0) :: st) ≤ 16) : aWp ko d k (.invokedynamic 6 :: is) ls (.int (-1) :: .int (nI 0) :: st) σ P = aWp ko d k is ls (.int (nI 0) :: st) σ P := wp_maxx h
theorem l_41 {c : Nat × (Nat → Nat) × Bool} {S : Nat → Nat} {r : Nat} (hr : r = 89 ∨ r = 90) (hd : dmO D) (hc : crO N c) (hw : rwO (D 1) S)
    (hQ : ∀ v3 : Value, aWp ko d 41 (aP.1 (Int.toNat 2630)) [.ref 86, .ref r, .int (nI (D 0 * D 1)), v3] [] (hp D (setRow N r (mixT (D 0) (D 1) (onP c.1 c.2.1) S (D 0 * D 1))) I J x) P) :
    ∀ (j i : Nat) (v3 : Value), i + j = D 0 * D 1 → aWp ko d 41 (aP.1 (Int.toNat 2625)) [.ref 86, .ref r, .int (nI i), v3] [] (hp D (setRow N r (mixT (D 0) (D 1) (onP c.1 c.2.1) S i)) I J x) P := by
  obtain ⟨hd0, hd1, hd2, hd3⟩ := id hd
  have hF := dm_F hd
  intro j
  induction j with
  | zero =>
    intro i v3 hj
    have e : i = D 0 * D 1 := by omega
    subst e
    simp (disch := (first | omega | exact aCat_8 (by with_unfolding_all rfl) | exact rk_lt (by with_unfolding_all rfl) | exact aCat_16 (by with_unfolding_all rfl) | exact rk_eq (by with_unfolding_all rfl) | assumption | exact b2n_lt _ | exact id_b (by with_unfolding_all rfl) | (simp (disch := omega) only [u2_same, u2_ab, u2_aq]; done) | (simp (disch := omega) only [u2_same, u2_ab, u2_aq]; omega) | fail)) only [al_2624, wp_aloadr_0, wp_aloadk_0, wp_aloadr_1, wp_aloadk_1, wc_25, wk_0, wp_istore_2, wp_jsr, al_2625, wp_iload_2, wc_10, t_10, wn_ge_t, wn_ge_f, hg_86_23, ha_98l, ha_98s, wz_eq_t, wz_eq_f, wb_eq_t, wb_eq_f, wm_eq_1, wm_eq_2, wk_m1, wp_goto, al_2626, wc_26, wz_ne_t, wz_ne_f, wb_ne_t, wb_ne_f, wm_ne_1, wm_ne_2, wc_42, wk_1, al_2627, al_2628, wc_17, t_17, al_2629, wp_istore_3, wk_9, wp_iload_3, wp_iadd, wp_min, wp_max, wk_72, wp_iinc_2_1, hg_86_25, wk_110, wk_9999, hg_86_24, wz_le_t, wz_le_f, wm_le_1, wm_le_2, hg_86_22, ha_97l, ha_97s, wp_isub, wk_3, al_2631, wk_109, wp_dup2, wp_return, nl_i, nl_r, nl_k, nl_j, nl_l, nI_add, pk_mul, pk_sub, tl_s, tl_n, aL_inl, u2_same, u2_ab, u2_aq, nI_l, lN_i, Nat.add_zero, Nat.zero_add, Nat.zero_le, true_and, and_true, b2n_10, b2n_T, b2n_F, b2n_0, Decidable.not_not, not_true_eq_false, not_false_eq_true, Nat.reduceAdd, Nat.reduceMul]
    exact hQ v3
  | succ j ih =>
    intro i v3 hj
    have h9 := (hw.1 i (by omega)).1
    have hw1 := (hw.1 i (by omega)).2.1
    have e98 := hc.2.2.2 i (by omega)
    have en98 : ∀ T : Nat → Nat, setRow N r T 98 = N 98 := fun T => setRow_n (by omega)
    have em1 : mixT (D 0) (D 1) (onP c.1 c.2.1) S i i = S i := mixT_h (by omega)
    have em2 : mixT (D 0) (D 1) (onP c.1 c.2.1) S i (36 + i) = S (36 + i) := mixT_w (by omega) (by omega)
    have ewall : setRow N r (mixT (D 0) (D 1) (onP c.1 c.2.1) S i) r (36 + i) = S (36 + i) := by rw [setRow_s, em2]
    have hgo : ∀ (v3 : Value) (v w : Nat), v = hiN (D 0) (D 1) (onP c.1 c.2.1) S i → w = b2n (onP c.1 c.2.1 i = true) → aWp ko d 41 (aP.1 (Int.toNat 2625)) [.ref 86, .ref r, .int (nI (i + 1)), v3] [] (hp D (setRow N r (upn (upn (mixT (D 0) (D 1) (onP c.1 c.2.1) S i) i v) (72 + i) w)) I J x) P := by
      intro v3 v w hv hw
      rw [hv, hw, mixT_u (by omega)]
      exact ih (i + 1) v3 (by omega)
    rw [al_2625]
    by_cases h1 : onP c.1 c.2.1 i = true
    · rw [b2n_t h1] at e98
      by_cases h0 : S i = 0
      · simp (disch := (first | omega | exact aCat_8 (by with_unfolding_all rfl) | exact rk_lt (by with_unfolding_all rfl) | exact aCat_16 (by with_unfolding_all rfl) | exact rk_eq (by with_unfolding_all rfl) | assumption | exact b2n_lt _ | exact id_b (by with_unfolding_all rfl) | (simp (disch := omega) only [u2_same, u2_ab, u2_aq]; done) | (simp (disch := omega) only [u2_same, u2_ab, u2_aq]; omega) | fail)) only [al_2624, wp_aloadr_0, wp_aloadk_0, wp_aloadr_1, wp_aloadk_1, wc_25, wk_0, wp_istore_2, wp_jsr, wp_iload_2, wc_10, t_10, wn_ge_t, wn_ge_f, hg_86_23, ha_98l, ha_98s, wz_eq_t, wz_eq_f, wb_eq_t, wb_eq_f, wm_eq_1, wm_eq_2, wk_m1, wp_goto, al_2626, wc_26, wz_ne_t, wz_ne_f, wb_ne_t, wb_ne_f, wm_ne_1, wm_ne_2, wc_42, wk_1, al_2627, al_2628, wc_17, t_17, al_2629, wp_istore_3, wk_9, wp_iload_3, wp_iadd, wp_min, wp_max, wk_72, wp_iinc_2_1, hg_86_25, wk_110, wk_9999, hg_86_24, wz_le_t, wz_le_f, wm_le_1, wm_le_2, hg_86_22, ha_97l, ha_97s, wp_isub, wk_3, al_2631, wk_109, wp_dup2, wp_return, nl_i, nl_r, nl_k, nl_j, nl_l, nI_add, pk_mul, pk_sub, tl_s, tl_n, aL_inl, u2_same, u2_ab, u2_aq, nI_l, lN_i, Nat.add_zero, Nat.zero_add, Nat.zero_le, true_and, and_true, b2n_10, b2n_T, b2n_F, b2n_0, Decidable.not_not, not_true_eq_false, not_false_eq_true, Nat.reduceAdd, Nat.reduceMul, en98, e98, ra_l hr, ra_s hr, setRow_s, em1, h0, n0_m1, wp_min_m1, wp_max_m1, setRow_u]
        exact hgo _ _ _ (by simp [hiN, h1, h0]) (by rw [b2n_t h1])
      · simp (disch := (first | omega | exact aCat_8 (by with_unfolding_all rfl) | exact rk_lt (by with_unfolding_all rfl) | exact aCat_16 (by with_unfolding_all rfl) | exact rk_eq (by with_unfolding_all rfl) | assumption | exact b2n_lt _ | exact id_b (by with_unfolding_all rfl) | (simp (disch := omega) only [u2_same, u2_ab, u2_aq]; done) | (simp (disch := omega) only [u2_same, u2_ab, u2_aq]; omega) | fail)) only [al_2624, wp_aloadr_0, wp_aloadk_0, wp_aloadr_1, wp_aloadk_1, wc_25, wk_0, wp_istore_2, wp_jsr, wp_iload_2, wc_10, t_10, wn_ge_t, wn_ge_f, hg_86_23, ha_98l, ha_98s, wz_eq_t, wz_eq_f, wb_eq_t, wb_eq_f, wm_eq_1, wm_eq_2, wk_m1, wp_goto, al_2626, wc_26, wz_ne_t, wz_ne_f, wb_ne_t, wb_ne_f, wm_ne_1, wm_ne_2, wc_42, wk_1, al_2627, al_2628, wc_17, t_17, al_2629, wp_istore_3, wk_9, wp_iload_3, wp_iadd, wp_min, wp_max, wk_72, wp_iinc_2_1, hg_86_25, wk_110, wk_9999, hg_86_24, wz_le_t, wz_le_f, wm_le_1, wm_le_2, hg_86_22, ha_97l, ha_97s, wp_isub, wk_3, al_2631, wk_109, wp_dup2, wp_return, nl_i, nl_r, nl_k, nl_j, nl_l, nI_add, pk_mul, pk_sub, tl_s, tl_n, aL_inl, u2_same, u2_ab, u2_aq, nI_l, lN_i, Nat.add_zero, Nat.zero_add, Nat.zero_le, true_and, and_true, b2n_10, b2n_T, b2n_F, b2n_0, Decidable.not_not, not_true_eq_false, not_false_eq_true, Nat.reduceAdd, Nat.reduceMul, en98, e98, ra_l hr, ra_s hr, setRow_s, em1, sb_m1, setRow_u]
        exact hgo _ _ _ (by simp only [hiN, h1, if_true]; omega) (by rw [b2n_t h1])
    · rw [b2n_f h1] at e98
      by_cases h2 : S (36 + i) = 1
      · simp (disch := (first | omega | exact aCat_8 (by with_unfolding_all rfl) | exact rk_lt (by with_unfolding_all rfl) | exact aCat_16 (by with_unfolding_all rfl) | exact rk_eq (by with_unfolding_all rfl) | assumption | exact b2n_lt _ | exact id_b (by with_unfolding_all rfl) | (simp (disch := omega) only [u2_same, u2_ab, u2_aq]; done) | (simp (disch := omega) only [u2_same, u2_ab, u2_aq]; omega) | fail)) only [al_2624, wp_aloadr_0, wp_aloadk_0, wp_aloadr_1, wp_aloadk_1, wc_25, wk_0, wp_istore_2, wp_jsr, wp_iload_2, wc_10, t_10, wn_ge_t, wn_ge_f, hg_86_23, ha_98l, ha_98s, wz_eq_t, wz_eq_f, wb_eq_t, wb_eq_f, wm_eq_1, wm_eq_2, wk_m1, wp_goto, al_2626, wc_26, wz_ne_t, wz_ne_f, wb_ne_t, wb_ne_f, wm_ne_1, wm_ne_2, wc_42, wk_1, al_2627, al_2628, wc_17, t_17, al_2629, wp_istore_3, wk_9, wp_iload_3, wp_iadd, wp_min, wp_max, wk_72, wp_iinc_2_1, hg_86_25, wk_110, wk_9999, hg_86_24, wz_le_t, wz_le_f, wm_le_1, wm_le_2, hg_86_22, ha_97l, ha_97s, wp_isub, wk_3, al_2631, wk_109, wp_dup2, wp_return, nl_i, nl_r, nl_k, nl_j, nl_l, nI_add, pk_mul, pk_sub, tl_s, tl_n, aL_inl, u2_same, u2_ab, u2_aq, nI_l, lN_i, Nat.add_zero, Nat.zero_add, Nat.zero_le, true_and, and_true, b2n_10, b2n_T, b2n_F, b2n_0, Decidable.not_not, not_true_eq_false, not_false_eq_true, Nat.reduceAdd, Nat.reduceMul, en98, e98, ra_l hr, ra_s hr, t_26 hr, ewall, setRow_s, em1, setRow_u]
        exact hgo _ _ _ (by rw [hiN, if_neg h1, if_pos h2]; omega) (by rw [b2n_f h1])
      · have hb42 : ∀ Q : Option Value → aH → Prop, aMm ko d 42 [.ref 86, .int (nI i)] (hp D (setRow N r (mixT (D 0) (D 1) (onP c.1 c.2.1) S i)) I J x) Q = Q (some (.int (nI (b2n (besW (D 0) (D 1) (onP c.1 c.2.1) i 4 = true))))) (hp D (setRow N r (mixT (D 0) (D 1) (onP c.1 c.2.1) S i)) I J x) := fun Q => t_42 hd (by omega) (by rw [en98]; exact hc.2.2.2)
        by_cases h3 : besW (D 0) (D 1) (onP c.1 c.2.1) i 4 = true
        · simp (disch := (first | omega | exact aCat_8 (by with_unfolding_all rfl) | exact rk_lt (by with_unfolding_all rfl) | exact aCat_16 (by with_unfolding_all rfl) | exact rk_eq (by with_unfolding_all rfl) | assumption | exact b2n_lt _ | exact id_b (by with_unfolding_all rfl) | (simp (disch := omega) only [u2_same, u2_ab, u2_aq]; done) | (simp (disch := omega) only [u2_same, u2_ab, u2_aq]; omega) | fail)) only [al_2624, wp_aloadr_0, wp_aloadk_0, wp_aloadr_1, wp_aloadk_1, wc_25, wk_0, wp_istore_2, wp_jsr, wp_iload_2, wc_10, t_10, wn_ge_t, wn_ge_f, hg_86_23, ha_98l, ha_98s, wz_eq_t, wz_eq_f, wb_eq_t, wb_eq_f, wm_eq_1, wm_eq_2, wk_m1, wp_goto, al_2626, wc_26, wz_ne_t, wz_ne_f, wb_ne_t, wb_ne_f, wm_ne_1, wm_ne_2, wc_42, wk_1, al_2627, al_2628, wc_17, t_17, al_2629, wp_istore_3, wk_9, wp_iload_3, wp_iadd, wp_min, wp_max, wk_72, wp_iinc_2_1, hg_86_25, wk_110, wk_9999, hg_86_24, wz_le_t, wz_le_f, wm_le_1, wm_le_2, hg_86_22, ha_97l, ha_97s, wp_isub, wk_3, al_2631, wk_109, wp_dup2, wp_return, nl_i, nl_r, nl_k, nl_j, nl_l, nI_add, pk_mul, pk_sub, tl_s, tl_n, aL_inl, u2_same, u2_ab, u2_aq, nI_l, lN_i, Nat.add_zero, Nat.zero_add, Nat.zero_le, true_and, and_true, b2n_10, b2n_T, b2n_F, b2n_0, Decidable.not_not, not_true_eq_false, not_false_eq_true, Nat.reduceAdd, Nat.reduceMul, en98, e98, ra_l hr, ra_s hr, t_26 hr, ewall, hb42, setRow_s, em1, setRow_u]
          exact hgo _ _ _ (by rw [hiN, if_neg h1, if_neg h2, if_pos h3]; omega) (by rw [b2n_f h1])
        · simp (disch := (first | omega | exact aCat_8 (by with_unfolding_all rfl) | exact rk_lt (by with_unfolding_all rfl) | exact aCat_16 (by with_unfolding_all rfl) | exact rk_eq (by with_unfolding_all rfl) | assumption | exact b2n_lt _ | exact id_b (by with_unfolding_all rfl) | (simp (disch := omega) only [u2_same, u2_ab, u2_aq]; done) | (simp (disch := omega) only [u2_same, u2_ab, u2_aq]; omega) | fail)) only [al_2624, wp_aloadr_0, wp_aloadk_0, wp_aloadr_1, wp_aloadk_1, wc_25, wk_0, wp_istore_2, wp_jsr, wp_iload_2, wc_10, t_10, wn_ge_t, wn_ge_f, hg_86_23, ha_98l, ha_98s, wz_eq_t, wz_eq_f, wb_eq_t, wb_eq_f, wm_eq_1, wm_eq_2, wk_m1, wp_goto, al_2626, wc_26, wz_ne_t, wz_ne_f, wb_ne_t, wb_ne_f, wm_ne_1, wm_ne_2, wc_42, wk_1, al_2627, al_2628, wc_17, t_17, al_2629, wp_istore_3, wk_9, wp_iload_3, wp_iadd, wp_min, wp_max, wk_72, wp_iinc_2_1, hg_86_25, wk_110, wk_9999, hg_86_24, wz_le_t, wz_le_f, wm_le_1, wm_le_2, hg_86_22, ha_97l, ha_97s, wp_isub, wk_3, al_2631, wk_109, wp_dup2, wp_return, nl_i, nl_r, nl_k, nl_j, nl_l, nI_add, pk_mul, pk_sub, tl_s, tl_n, aL_inl, u2_same, u2_ab, u2_aq, nI_l, lN_i, Nat.add_zero, Nat.zero_add, Nat.zero_le, true_and, and_true, b2n_10, b2n_T, b2n_F, b2n_0, Decidable.not_not, not_true_eq_false, not_false_eq_true, Nat.reduceAdd, Nat.reduceMul, en98, e98, ra_l hr, ra_s hr, t_26 hr, ewall, hb42, setRow_s, em1, setRow_u]
          exact hgo _ _ _ (by rw [hiN, if_neg h1, if_neg h2, if_neg h3]; omega) (by rw [b2n_f h1])
theorem t_41 {r : Nat} (hr : r = 89 ∨ r = 90) (hd : dmO D) (hw : rwO (D 1) (N r)) (hl : rlO N)
    (hQ : ∀ (N' : Nat → Nat → Nat) (I' : Nat → Nat → Int32), crO N' (crsS D N (N r)) → N' r = tdN D N (N r) → (∀ b q, frC b q = false → b ≠ r → N' b q = N b q) → (∀ b q, b ≠ 95 → b ≠ 96 → I' b q = I b q) → Q none (hp D N' I' J x)) :
    aMm ko d 41 [.ref 86, .ref r] (hp D N I J x) Q := by
  obtain ⟨hd0, hd1, hd2, hd3⟩ := id hd
  have hF := dm_F hd
  rw [me_41]
  simp (disch := (first | omega | exact aCat_8 (by with_unfolding_all rfl) | exact rk_lt (by with_unfolding_all rfl) | exact aCat_16 (by with_unfolding_all rfl) | exact rk_eq (by with_unfolding_all rfl) | assumption | exact b2n_lt _ | exact id_b (by with_unfolding_all rfl) | (simp (disch := omega) only [u2_same, u2_ab, u2_aq]; done) | (simp (disch := omega) only [u2_same, u2_ab, u2_aq]; omega) | fail)) only [al_2624, wp_aloadr_0, wp_aloadk_0, wp_aloadr_1, wp_aloadk_1, wc_25, wk_0, wp_istore_2, wp_jsr, wp_iload_2, wc_10, t_10, wn_ge_t, wn_ge_f, hg_86_23, ha_98l, ha_98s, wz_eq_t, wz_eq_f, wb_eq_t, wb_eq_f, wm_eq_1, wm_eq_2, wk_m1, wp_goto, al_2626, wc_26, wz_ne_t, wz_ne_f, wb_ne_t, wb_ne_f, wm_ne_1, wm_ne_2, wc_42, wk_1, al_2627, al_2628, wc_17, t_17, al_2629, wp_istore_3, wk_9, wp_iload_3, wp_iadd, wp_min, wp_max, wk_72, wp_iinc_2_1, al_2630, hg_86_25, wk_110, wk_9999, hg_86_24, wz_le_t, wz_le_f, wm_le_1, wm_le_2, hg_86_22, ha_97l, ha_97s, wp_isub, wk_3, al_2631, wk_109, wp_dup2, wp_return, nl_i, nl_r, nl_k, nl_j, nl_l, nI_add, pk_mul, pk_sub, tl_s, tl_n, aL_inl, u2_same, u2_ab, u2_aq, nI_l, lN_i, Nat.add_zero, Nat.zero_add, Nat.zero_le, true_and, and_true, b2n_10, b2n_T, b2n_F, b2n_0, Decidable.not_not, not_true_eq_false, not_false_eq_true, Nat.reduceAdd, Nat.reduceMul]
  refine t_25 hr hd hw hl ?_
  intro N1 I1 hc hfN hfI
  have hK := crsS_K (N := N) hd hw
  have eS : N1 r = N r := by funext q; exact hfN r q (by rcases hr with rfl | rfl <;> rfl)
  have hcD : crs0 (D 0) (D 1) (dsl (D 1) N (N r)) (wlS (N r)) (N r 108) = crsS D N (N r) := rfl
  rw [hcD] at hc
  unfold tdN at hQ
  generalize crsS D N (N r) = c at hc hQ hK
  obtain ⟨L, p, lk⟩ := c
  simp (disch := (first | omega | exact aCat_8 (by with_unfolding_all rfl) | exact rk_lt (by with_unfolding_all rfl) | exact aCat_16 (by with_unfolding_all rfl) | exact rk_eq (by with_unfolding_all rfl) | assumption | exact b2n_lt _ | exact id_b (by with_unfolding_all rfl) | (simp (disch := omega) only [u2_same, u2_ab, u2_aq]; done) | (simp (disch := omega) only [u2_same, u2_ab, u2_aq]; omega) | fail)) only [al_2624, wp_aloadr_0, wp_aloadk_0, wp_aloadr_1, wp_aloadk_1, wc_25, wk_0, wp_istore_2, wp_jsr, wp_iload_2, wc_10, t_10, wn_ge_t, wn_ge_f, hg_86_23, ha_98l, ha_98s, wz_eq_t, wz_eq_f, wb_eq_t, wb_eq_f, wm_eq_1, wm_eq_2, wk_m1, wp_goto, al_2626, wc_26, wz_ne_t, wz_ne_f, wb_ne_t, wb_ne_f, wm_ne_1, wm_ne_2, wc_42, wk_1, al_2627, al_2628, wc_17, t_17, al_2629, wp_istore_3, wk_9, wp_iload_3, wp_iadd, wp_min, wp_max, wk_72, wp_iinc_2_1, al_2630, hg_86_25, wk_110, wk_9999, hg_86_24, wz_le_t, wz_le_f, wm_le_1, wm_le_2, hg_86_22, ha_97l, ha_97s, wp_isub, wk_3, al_2631, wk_109, wp_dup2, wp_return, nl_i, nl_r, nl_k, nl_j, nl_l, nI_add, pk_mul, pk_sub, tl_s, tl_n, aL_inl, u2_same, u2_ab, u2_aq, nI_l, lN_i, Nat.add_zero, Nat.zero_add, Nat.zero_le, true_and, and_true, b2n_10, b2n_T, b2n_F, b2n_0, Decidable.not_not, not_true_eq_false, not_false_eq_true, Nat.reduceAdd, Nat.reduceMul]
  have hl41 := l_41 (ko := ko) (d := d) (D := D) (N := N1) (I := I1) (J := J) (x := x) (P := aL Q) (c := (L, p, lk)) (S := N r) hr hd hc hw ?_ (D 0 * D 1) 0 aJk (by omega)
  · rw [mixT_0, ← eS, setRow_id] at hl41
    exact hl41
  intro v3
  have h24 : N1 86 24 = L := hc.1
  have h25 : N1 86 25 = b2n (lk = true) := hc.2.1
  have hLF : L ≤ D 0 * D 1 := hK.1
  have en : ∀ (T : Nat → Nat) (b : Nat), b ≠ 89 → b ≠ 90 → setRow N1 r T b = N1 b := fun T b h1 h2 => setRow_n (by omega)
  have e109 : mixT (D 0) (D 1) (onP L p) (N r) (D 0 * D 1) 109 = N r 109 := by
    unfold mixT
    rw [if_neg (by omega), if_neg (by omega)]
  have e110 : mixT (D 0) (D 1) (onP L p) (N r) (D 0 * D 1) 110 = N r 110 := by
    unfold mixT
    rw [if_neg (by omega), if_neg (by omega)]
  have h9999 := hw.2.2.1
  have hfin : ∀ T : Nat → Nat, T = tdS (D 0) (D 1) (L, p, lk) (N r) → Q none (hp D (setRow N1 r T) I1 J x) := by
    intro T hT
    refine hQ _ I1 ?_ ?_ ?_ hfI
    · refine ⟨?_, ?_, ?_, ?_⟩
      · rw [en _ _ (by decide) (by decide)]; exact hc.1
      · rw [en _ _ (by decide) (by decide)]; exact hc.2.1
      · rw [en _ _ (by decide) (by decide)]; exact hc.2.2.1
      · rw [en _ _ (by decide) (by decide)]; exact hc.2.2.2
    · rw [setRow_s, hT]
    · intro b q h1 h2
      rw [setRow_n h2]
      exact hfN b q h1
  rw [al_2630]
  cases lk with
  | false =>
    rw [b2n_f (by simp)] at h25
    simp (disch := (first | omega | exact aCat_8 (by with_unfolding_all rfl) | exact rk_lt (by with_unfolding_all rfl) | exact aCat_16 (by with_unfolding_all rfl) | exact rk_eq (by with_unfolding_all rfl) | assumption | exact b2n_lt _ | exact id_b (by with_unfolding_all rfl) | (simp (disch := omega) only [u2_same, u2_ab, u2_aq]; done) | (simp (disch := omega) only [u2_same, u2_ab, u2_aq]; omega) | fail)) only [al_2624, wp_aloadr_0, wp_aloadk_0, wp_aloadr_1, wp_aloadk_1, wc_25, wk_0, wp_istore_2, wp_jsr, wp_iload_2, wc_10, t_10, wn_ge_t, wn_ge_f, hg_86_23, ha_98l, ha_98s, wz_eq_t, wz_eq_f, wb_eq_t, wb_eq_f, wm_eq_1, wm_eq_2, wk_m1, wp_goto, al_2626, wc_26, wz_ne_t, wz_ne_f, wb_ne_t, wb_ne_f, wm_ne_1, wm_ne_2, wc_42, wk_1, al_2627, al_2628, wc_17, t_17, al_2629, wp_istore_3, wk_9, wp_iload_3, wp_iadd, wp_min, wp_max, wk_72, wp_iinc_2_1, al_2630, hg_86_25, wk_110, wk_9999, hg_86_24, wz_le_t, wz_le_f, wm_le_1, wm_le_2, hg_86_22, ha_97l, ha_97s, wp_isub, wk_3, al_2631, wk_109, wp_dup2, wp_return, nl_i, nl_r, nl_k, nl_j, nl_l, nI_add, pk_mul, pk_sub, tl_s, tl_n, aL_inl, u2_same, u2_ab, u2_aq, nI_l, lN_i, Nat.add_zero, Nat.zero_add, Nat.zero_le, true_and, and_true, b2n_10, b2n_T, b2n_F, b2n_0, Decidable.not_not, not_true_eq_false, not_false_eq_true, Nat.reduceAdd, Nat.reduceMul, en, h25, ra_l hr, ra_s hr, setRow_s, setRow_u, e109]
    refine hfin _ ?_
    funext q
    unfold upn tdS
    simp only [Bool.false_eq_true, if_false, false_and]
    split
    · rfl
    · split
      · rename_i h; rw [h, e110]
      · rfl
  | true =>
    rw [b2n_t rfl] at h25
    by_cases hL : L = 0
    · subst hL
      simp (disch := (first | omega | exact aCat_8 (by with_unfolding_all rfl) | exact rk_lt (by with_unfolding_all rfl) | exact aCat_16 (by with_unfolding_all rfl) | exact rk_eq (by with_unfolding_all rfl) | assumption | exact b2n_lt _ | exact id_b (by with_unfolding_all rfl) | (simp (disch := omega) only [u2_same, u2_ab, u2_aq]; done) | (simp (disch := omega) only [u2_same, u2_ab, u2_aq]; omega) | fail)) only [al_2624, wp_aloadr_0, wp_aloadk_0, wp_aloadr_1, wp_aloadk_1, wc_25, wk_0, wp_istore_2, wp_jsr, wp_iload_2, wc_10, t_10, wn_ge_t, wn_ge_f, hg_86_23, ha_98l, ha_98s, wz_eq_t, wz_eq_f, wb_eq_t, wb_eq_f, wm_eq_1, wm_eq_2, wk_m1, wp_goto, al_2626, wc_26, wz_ne_t, wz_ne_f, wb_ne_t, wb_ne_f, wm_ne_1, wm_ne_2, wc_42, wk_1, al_2627, al_2628, wc_17, t_17, al_2629, wp_istore_3, wk_9, wp_iload_3, wp_iadd, wp_min, wp_max, wk_72, wp_iinc_2_1, al_2630, hg_86_25, wk_110, wk_9999, hg_86_24, wz_le_t, wz_le_f, wm_le_1, wm_le_2, hg_86_22, ha_97l, ha_97s, wp_isub, wk_3, al_2631, wk_109, wp_dup2, wp_return, nl_i, nl_r, nl_k, nl_j, nl_l, nI_add, pk_mul, pk_sub, tl_s, tl_n, aL_inl, u2_same, u2_ab, u2_aq, nI_l, lN_i, Nat.add_zero, Nat.zero_add, Nat.zero_le, true_and, and_true, b2n_10, b2n_T, b2n_F, b2n_0, Decidable.not_not, not_true_eq_false, not_false_eq_true, Nat.reduceAdd, Nat.reduceMul, en, h24, h25, ra_l hr, ra_s hr, setRow_s, setRow_u, e109, e110, upn]
      refine hfin _ ?_
      funext q
      unfold upn tdS
      simp [e109]
    · have hp1 : p (L - 1) < D 0 * D 1 := hK.2.1 (L - 1) (show L - 1 < L by omega)
      have h97 : N1 97 (L - 1) = p (L - 1) := hc.2.2.1 (L - 1) (show L - 1 < L by omega)
      have h9 : mixT (D 0) (D 1) (onP L p) (N r) (D 0 * D 1) (p (L - 1)) ≤ 9 := by
        unfold mixT
        rw [if_pos hp1]
        exact hiN_le (hw.1 _ (by omega)).1
      have eu : upn (mixT (D 0) (D 1) (onP L p) (N r) (D 0 * D 1)) 110 (min 9999 (N r 110 + 1)) (p (L - 1)) = mixT (D 0) (D 1) (onP L p) (N r) (D 0 * D 1) (p (L - 1)) := by
        unfold upn
        rw [if_neg (by omega)]
      have eu2 : upn (upn (mixT (D 0) (D 1) (onP L p) (N r) (D 0 * D 1)) 110 (min 9999 (N r 110 + 1))) (p (L - 1)) (min 9 (mixT (D 0) (D 1) (onP L p) (N r) (D 0 * D 1) (p (L - 1)) + 3)) 109 = N r 109 := by
        unfold upn
        rw [if_neg (by omega), if_neg (by omega), e109]
      simp (disch := (first | omega | exact aCat_8 (by with_unfolding_all rfl) | exact rk_lt (by with_unfolding_all rfl) | exact aCat_16 (by with_unfolding_all rfl) | exact rk_eq (by with_unfolding_all rfl) | assumption | exact b2n_lt _ | exact id_b (by with_unfolding_all rfl) | (simp (disch := omega) only [u2_same, u2_ab, u2_aq]; done) | (simp (disch := omega) only [u2_same, u2_ab, u2_aq]; omega) | fail)) only [al_2624, wp_aloadr_0, wp_aloadk_0, wp_aloadr_1, wp_aloadk_1, wc_25, wk_0, wp_istore_2, wp_jsr, wp_iload_2, wc_10, t_10, wn_ge_t, wn_ge_f, hg_86_23, ha_98l, ha_98s, wz_eq_t, wz_eq_f, wb_eq_t, wb_eq_f, wm_eq_1, wm_eq_2, wk_m1, wp_goto, al_2626, wc_26, wz_ne_t, wz_ne_f, wb_ne_t, wb_ne_f, wm_ne_1, wm_ne_2, wc_42, wk_1, al_2627, al_2628, wc_17, t_17, al_2629, wp_istore_3, wk_9, wp_iload_3, wp_iadd, wp_min, wp_max, wk_72, wp_iinc_2_1, al_2630, hg_86_25, wk_110, wk_9999, hg_86_24, wz_le_t, wz_le_f, wm_le_1, wm_le_2, hg_86_22, ha_97l, ha_97s, wp_isub, wk_3, al_2631, wk_109, wp_dup2, wp_return, nl_i, nl_r, nl_k, nl_j, nl_l, nI_add, pk_mul, pk_sub, tl_s, tl_n, aL_inl, u2_same, u2_ab, u2_aq, nI_l, lN_i, Nat.add_zero, Nat.zero_add, Nat.zero_le, true_and, and_true, b2n_10, b2n_T, b2n_F, b2n_0, Decidable.not_not, not_true_eq_false, not_false_eq_true, Nat.reduceAdd, Nat.reduceMul, en, h24, h25, h97, ra_l hr, ra_s hr, setRow_s, setRow_u, e110, eu, eu2]
      refine hfin _ ?_
      funext q
      unfold upn tdS
      have hL0 : 0 < L := by omega
      by_cases q1 : q = 109
      · simp [q1]
      · rw [if_neg q1, if_neg q1]
        by_cases q2 : q = 110
        · rw [if_neg (by omega), if_pos q2, if_pos q2]
          simp
        · rw [if_neg q2, if_neg q2]
          by_cases q3 : q = p (L - 1)
          · rw [if_pos q3, if_pos ⟨rfl, hL0, q3⟩, q3]
          · rw [if_neg q3, if_neg (fun z => q3 z.2.2)]
theorem l_40 {N0 : Nat → Nat → Nat} {I0 : Nat → Nat → Int32} {r n : Nat} (hr : r = 89 ∨ r = 90) (hd : dmO D) (hw : rwO (D 1) (N0 r)) (hl : rlO N0) (hn : n ≤ 1000) (ht : N0 r 109 + n < 1000000000)
    (hQ : ∀ (N' : Nat → Nat → Nat) (I' : Nat → Nat → Int32), N' r = itS D N0 (N0 r) n → (∀ b q, frC b q = false → b ≠ r → N' b q = N0 b q) → (∀ b q, b ≠ 95 → b ≠ 96 → I' b q = I0 b q) → Q (some (.int (nI (cmS D N0 (N0 r) n)))) (hp D N' I' J x)) :
    ∀ (j k : Nat) (N : Nat → Nat → Nat) (I : Nat → Nat → Int32), k + j = n → N r = itS D N0 (N0 r) k → (∀ b q, frC b q = false → b ≠ r → N b q = N0 b q) → (∀ b q, b ≠ 95 → b ≠ 96 → I b q = I0 b q) → aWp ko d 40 (aP.1 (Int.toNat 2561)) [.ref 86, .ref r, .int (nI n), .int (nI (cmS D N0 (N0 r) k)), .int (nI k)] [] (hp D N I J x) (aL Q) := by
  intro j
  induction j with
  | zero =>
    intro k N I hj hS hfN hfI
    have e : k = n := by omega
    subst e
    rw [al_2561]
    simp (disch := (first | omega | exact aCat_8 (by with_unfolding_all rfl) | exact rk_lt (by with_unfolding_all rfl) | exact aCat_16 (by with_unfolding_all rfl) | exact rk_eq (by with_unfolding_all rfl) | assumption | exact b2n_lt _ | exact id_b (by with_unfolding_all rfl) | (simp (disch := omega) only [u2_same, u2_ab, u2_aq]; done) | (simp (disch := omega) only [u2_same, u2_ab, u2_aq]; omega) | fail)) only [al_2560, wk_0, wp_istore_3, wp_istore_4, wp_jsr, wp_iload_4, wp_iload_2, wn_ge_t, wn_ge_f, wp_aloadr_0, wp_aloadk_0, wp_aloadr_1, wp_aloadk_1, wc_41, wp_iload_3, hg_86_25, wz_ne_t, wz_ne_f, wb_ne_t, wb_ne_f, wm_ne_1, wm_ne_2, wk_1, wp_goto, al_2562, al_2563, wc_17, t_17, wp_iadd, wp_iinc_4_1, al_2564, wp_ireturn, nl_i, nl_r, nl_k, nl_j, nl_l, nI_add, pk_mul, pk_sub, tl_s, tl_n, aL_inl, u2_same, u2_ab, u2_aq, nI_l, lN_i, Nat.add_zero, Nat.zero_add, Nat.zero_le, true_and, and_true, b2n_10, b2n_T, b2n_F, b2n_0, Decidable.not_not, not_true_eq_false, not_false_eq_true, Nat.reduceAdd, Nat.reduceMul]
    exact hQ N I hS hfN hfI
  | succ j ih =>
    intro k N I hj hS hfN hfI
    have hs : smR N N0 := ⟨by funext q; exact hfN 93 q rfl (by omega), by funext q; exact hfN 88 q rfl (by omega), hfN 86 18 rfl (by omega), hfN 86 6 rfl (by omega)⟩
    rw [al_2561]
    simp (disch := (first | omega | exact aCat_8 (by with_unfolding_all rfl) | exact rk_lt (by with_unfolding_all rfl) | exact aCat_16 (by with_unfolding_all rfl) | exact rk_eq (by with_unfolding_all rfl) | assumption | exact b2n_lt _ | exact id_b (by with_unfolding_all rfl) | (simp (disch := omega) only [u2_same, u2_ab, u2_aq]; done) | (simp (disch := omega) only [u2_same, u2_ab, u2_aq]; omega) | fail)) only [al_2560, wk_0, wp_istore_3, wp_istore_4, wp_jsr, wp_iload_4, wp_iload_2, wn_ge_t, wn_ge_f, wp_aloadr_0, wp_aloadk_0, wp_aloadr_1, wp_aloadk_1, wc_41, wp_iload_3, hg_86_25, wz_ne_t, wz_ne_f, wb_ne_t, wb_ne_f, wm_ne_1, wm_ne_2, wk_1, wp_goto, al_2562, al_2563, wc_17, t_17, wp_iadd, wp_iinc_4_1, al_2564, wp_ireturn, nl_i, nl_r, nl_k, nl_j, nl_l, nI_add, pk_mul, pk_sub, tl_s, tl_n, aL_inl, u2_same, u2_ab, u2_aq, nI_l, lN_i, Nat.add_zero, Nat.zero_add, Nat.zero_le, true_and, and_true, b2n_10, b2n_T, b2n_F, b2n_0, Decidable.not_not, not_true_eq_false, not_false_eq_true, Nat.reduceAdd, Nat.reduceMul]
    refine t_41 hr hd ?_ (smR_rl hs hl) ?_
    · rw [hS]
      exact itS_O hd hw k (by omega)
    intro N1 I1 hc hS1 hf1 hI1
    rw [smR_crs hs, hS] at hc
    rw [smR_td hs, hS] at hS1
    have h25 := hc.2.1
    have hgo : ∀ z, z = cmS D N0 (N0 r) (k + 1) → aWp ko d 40 (aP.1 (Int.toNat 2561)) [.ref 86, .ref r, .int (nI n), .int (nI z), .int (nI (k + 1))] [] (hp D N1 I1 J x) (aL Q) := by
      intro z hz
      rw [hz]
      exact ih (k + 1) N1 I1 (by omega) hS1 (fun b q h1 h2 => (hf1 b q h1 h2).trans (hfN b q h1 h2)) (fun b q h1 h2 => (hI1 b q h1 h2).trans (hfI b q h1 h2))
    by_cases hlk : (crsS D N0 (itS D N0 (N0 r) k)).2.2 = true
    · rw [b2n_t hlk] at h25
      simp (disch := (first | omega | exact aCat_8 (by with_unfolding_all rfl) | exact rk_lt (by with_unfolding_all rfl) | exact aCat_16 (by with_unfolding_all rfl) | exact rk_eq (by with_unfolding_all rfl) | assumption | exact b2n_lt _ | exact id_b (by with_unfolding_all rfl) | (simp (disch := omega) only [u2_same, u2_ab, u2_aq]; done) | (simp (disch := omega) only [u2_same, u2_ab, u2_aq]; omega) | fail)) only [al_2560, wk_0, wp_istore_3, wp_istore_4, wp_jsr, wp_iload_4, wp_iload_2, wn_ge_t, wn_ge_f, wp_aloadr_0, wp_aloadk_0, wp_aloadr_1, wp_aloadk_1, wc_41, wp_iload_3, hg_86_25, wz_ne_t, wz_ne_f, wb_ne_t, wb_ne_f, wm_ne_1, wm_ne_2, wk_1, wp_goto, al_2562, al_2563, wc_17, t_17, wp_iadd, wp_iinc_4_1, al_2564, wp_ireturn, nl_i, nl_r, nl_k, nl_j, nl_l, nI_add, pk_mul, pk_sub, tl_s, tl_n, aL_inl, u2_same, u2_ab, u2_aq, nI_l, lN_i, Nat.add_zero, Nat.zero_add, Nat.zero_le, true_and, and_true, b2n_10, b2n_T, b2n_F, b2n_0, Decidable.not_not, not_true_eq_false, not_false_eq_true, Nat.reduceAdd, Nat.reduceMul]
      exact hgo _ (by rw [cmS, b2n_f (by simp [hlk]), Nat.add_zero])
    · rw [b2n_f hlk] at h25
      simp (disch := (first | omega | exact aCat_8 (by with_unfolding_all rfl) | exact rk_lt (by with_unfolding_all rfl) | exact aCat_16 (by with_unfolding_all rfl) | exact rk_eq (by with_unfolding_all rfl) | assumption | exact b2n_lt _ | exact id_b (by with_unfolding_all rfl) | (simp (disch := omega) only [u2_same, u2_ab, u2_aq]; done) | (simp (disch := omega) only [u2_same, u2_ab, u2_aq]; omega) | fail)) only [al_2560, wk_0, wp_istore_3, wp_istore_4, wp_jsr, wp_iload_4, wp_iload_2, wn_ge_t, wn_ge_f, wp_aloadr_0, wp_aloadk_0, wp_aloadr_1, wp_aloadk_1, wc_41, wp_iload_3, hg_86_25, wz_ne_t, wz_ne_f, wb_ne_t, wb_ne_f, wm_ne_1, wm_ne_2, wk_1, wp_goto, al_2562, al_2563, wc_17, t_17, wp_iadd, wp_iinc_4_1, al_2564, wp_ireturn, nl_i, nl_r, nl_k, nl_j, nl_l, nI_add, pk_mul, pk_sub, tl_s, tl_n, aL_inl, u2_same, u2_ab, u2_aq, nI_l, lN_i, Nat.add_zero, Nat.zero_add, Nat.zero_le, true_and, and_true, b2n_10, b2n_T, b2n_F, b2n_0, Decidable.not_not, not_true_eq_false, not_false_eq_true, Nat.reduceAdd, Nat.reduceMul]
      exact hgo _ (by rw [cmS, b2n_t (by simpa using hlk)])
theorem t_40 {r n : Nat} (hr : r = 89 ∨ r = 90) (hd : dmO D) (hw : rwO (D 1) (N r)) (hl : rlO N) (hn : n ≤ 1000) (ht : N r 109 + n < 1000000000)
    (hQ : ∀ (N' : Nat → Nat → Nat) (I' : Nat → Nat → Int32), N' r = itS D N (N r) n → (∀ b q, frC b q = false → b ≠ r → N' b q = N b q) → (∀ b q, b ≠ 95 → b ≠ 96 → I' b q = I b q) → Q (some (.int (nI (cmS D N (N r) n)))) (hp D N' I' J x)) :
    aMm ko d 40 [.ref 86, .ref r, .int (nI n)] (hp D N I J x) Q := by
  rw [me_40]
  simp (disch := (first | omega | exact aCat_8 (by with_unfolding_all rfl) | exact rk_lt (by with_unfolding_all rfl) | exact aCat_16 (by with_unfolding_all rfl) | exact rk_eq (by with_unfolding_all rfl) | assumption | exact b2n_lt _ | exact id_b (by with_unfolding_all rfl) | (simp (disch := omega) only [u2_same, u2_ab, u2_aq]; done) | (simp (disch := omega) only [u2_same, u2_ab, u2_aq]; omega) | fail)) only [al_2560, wk_0, wp_istore_3, wp_istore_4, wp_jsr, wp_iload_4, wp_iload_2, wn_ge_t, wn_ge_f, wp_aloadr_0, wp_aloadk_0, wp_aloadr_1, wp_aloadk_1, wc_41, wp_iload_3, hg_86_25, wz_ne_t, wz_ne_f, wb_ne_t, wb_ne_f, wm_ne_1, wm_ne_2, wk_1, wp_goto, al_2562, al_2563, wc_17, t_17, wp_iadd, wp_iinc_4_1, al_2564, wp_ireturn, nl_i, nl_r, nl_k, nl_j, nl_l, nI_add, pk_mul, pk_sub, tl_s, tl_n, aL_inl, u2_same, u2_ab, u2_aq, nI_l, lN_i, Nat.add_zero, Nat.zero_add, Nat.zero_le, true_and, and_true, b2n_10, b2n_T, b2n_F, b2n_0, Decidable.not_not, not_true_eq_false, not_false_eq_true, Nat.reduceAdd, Nat.reduceMul]
  exact l_40 hr hd hw hl hn ht hQ n 0 N I (by omega) rfl (fun _ _ _ _ => rfl) (fun _ _ _ _ => rfl)
theorem mixN_un {g f : Nat → Nat} {i : Nat} : upn (mixN g f i) i (g i) = mixN g f (i + 1) := by
  funext q
  unfold upn mixN
  by_cases h : q = i
  · subst h; simp
  · rw [if_neg h]
    by_cases h2 : q < i
    · rw [if_pos h2, if_pos (by omega)]
    · rw [if_neg h2, if_neg (by omega)]
theorem l_60 {T : Nat → Nat} : ∀ j i : Nat, i + j = 111 → aWp ko d 60 (aP.1 (Int.toNat 3841)) [.ref 86, .int (nI i)] [] (hp D (setRow N 90 (mixN (N 89) T i)) I J x) (aL Q) = Q none (hp D (setRow N 90 (mixN (N 89) T 111)) I J x) := by
  intro j
  induction j with
  | zero =>
    intro i hi
    have e : i = 111 := by omega
    subst e
    simp (disch := (first | omega | exact aCat_8 (by with_unfolding_all rfl) | exact rk_lt (by with_unfolding_all rfl) | exact aCat_16 (by with_unfolding_all rfl) | exact rk_eq (by with_unfolding_all rfl) | assumption | exact b2n_lt _ | exact id_b (by with_unfolding_all rfl) | (simp (disch := omega) only [u2_same, u2_ab, u2_aq]; done) | (simp (disch := omega) only [u2_same, u2_ab, u2_aq]; omega) | fail)) only [al_3840, wk_0, wp_istore_1, wp_jsr, al_3841, wp_iload_1, wk_111, wn_ge_t, wn_ge_f, wp_aloadr_0, wp_aloadk_0, hg_86_9, ha_90l, ha_90s, hg_86_8, ha_89l, ha_89s, wp_iinc_1_1, wp_goto, al_3842, wp_return, nl_i, nl_r, nl_k, nl_j, nl_l, nI_add, pk_mul, pk_sub, tl_s, tl_n, aL_inl, u2_same, u2_ab, u2_aq, nI_l, lN_i, Nat.add_zero, Nat.zero_add, Nat.zero_le, true_and, and_true, b2n_10, b2n_T, b2n_F, b2n_0, Decidable.not_not, not_true_eq_false, not_false_eq_true, Nat.reduceAdd, Nat.reduceMul]
  | succ j ih =>
    intro i hi
    have en : ∀ T : Nat → Nat, setRow N 90 T 89 = N 89 := fun T => setRow_n (by decide)
    rw [al_3841]
    simp (disch := (first | omega | exact aCat_8 (by with_unfolding_all rfl) | exact rk_lt (by with_unfolding_all rfl) | exact aCat_16 (by with_unfolding_all rfl) | exact rk_eq (by with_unfolding_all rfl) | assumption | exact b2n_lt _ | exact id_b (by with_unfolding_all rfl) | (simp (disch := omega) only [u2_same, u2_ab, u2_aq]; done) | (simp (disch := omega) only [u2_same, u2_ab, u2_aq]; omega) | fail)) only [al_3840, wk_0, wp_istore_1, wp_jsr, wp_iload_1, wk_111, wn_ge_t, wn_ge_f, wp_aloadr_0, wp_aloadk_0, hg_86_9, ha_90l, ha_90s, hg_86_8, ha_89l, ha_89s, wp_iinc_1_1, wp_goto, al_3842, wp_return, nl_i, nl_r, nl_k, nl_j, nl_l, nI_add, pk_mul, pk_sub, tl_s, tl_n, aL_inl, u2_same, u2_ab, u2_aq, nI_l, lN_i, Nat.add_zero, Nat.zero_add, Nat.zero_le, true_and, and_true, b2n_10, b2n_T, b2n_F, b2n_0, Decidable.not_not, not_true_eq_false, not_false_eq_true, Nat.reduceAdd, Nat.reduceMul, en, setRow_s, setRow_u, mixN_un]
    exact ih (i + 1) (by omega)
theorem t_60 (hz : ∀ q, 111 ≤ q → N 89 q = 0) (hz2 : ∀ q, 111 ≤ q → N 90 q = 0) : aMm ko d 60 [.ref 86] (hp D N I J x) Q = Q none (hp D (setRow N 90 (N 89)) I J x) := by
  have e : mixN (N 89) (N 90) 111 = N 89 := by
    funext q
    unfold mixN
    split
    · rfl
    · rw [hz q (by omega), hz2 q (by omega)]
  have h := @l_60 ko d D N I J x Q (N 90) 111 0 rfl
  rw [mixN_0, setRow_id, e] at h
  rw [me_60]
  simp (disch := (first | omega | exact aCat_8 (by with_unfolding_all rfl) | exact rk_lt (by with_unfolding_all rfl) | exact aCat_16 (by with_unfolding_all rfl) | exact rk_eq (by with_unfolding_all rfl) | assumption | exact b2n_lt _ | exact id_b (by with_unfolding_all rfl) | (simp (disch := omega) only [u2_same, u2_ab, u2_aq]; done) | (simp (disch := omega) only [u2_same, u2_ab, u2_aq]; omega) | fail)) only [al_3840, wk_0, wp_istore_1, wp_jsr, wp_iload_1, wk_111, wn_ge_t, wn_ge_f, wp_aloadr_0, wp_aloadk_0, hg_86_9, ha_90l, ha_90s, hg_86_8, ha_89l, ha_89s, wp_iinc_1_1, wp_goto, al_3842, wp_return, nl_i, nl_r, nl_k, nl_j, nl_l, nI_add, pk_mul, pk_sub, tl_s, tl_n, aL_inl, u2_same, u2_ab, u2_aq, nI_l, lN_i, Nat.add_zero, Nat.zero_add, Nat.zero_le, true_and, and_true, b2n_10, b2n_T, b2n_F, b2n_0, Decidable.not_not, not_true_eq_false, not_false_eq_true, Nat.reduceAdd, Nat.reduceMul]
  exact h
end R6
