/-! land: its tables. From wip/whole/src. -/
section D1
variable {ko : aKo} {d k : Nat} {is : List Instr} {ls st : List Value} {σ : aH} {D : Nat → Nat} {N : Nat → Nat → Nat} {I : Nat → Nat → Int32} {J : Nat → Nat → Int64} {x t : Nat} {Q : Option Value → aH → Prop} {P : (Option Value ⊕ Unit) → aH → Prop}
theorem bt_last : ∀ R, R < 7 → ∀ C, C < 7 → 2 ≤ R → 2 ≤ C → ∀ i, i < 64 → (decide (C - 1 ≤ i) && decide (i - (C - 1) < R * C ∧ (i - (C - 1)) % C = 0)) = decide (i < R * C ∧ i % C + 1 = C) := by decide +kernel
def mO (D : Nat → Nat) (N0 N : Nat → Nat → Nat) (I0 I : Nat → Nat → Int32) (J0 J : Nat → Nat → Int64) (i : Nat) : Prop := (∀ b q, b ≠ 6 → b ≠ 7 → N b q = N0 b q) ∧ (∀ b q, b ≠ 8 → I b q = I0 b q) ∧ (∀ b q, ¬ (b = 5 ∧ q = 5) → J b q = J0 b q) ∧ (∀ k, k < i → N 6 k = k / D 3 ∧ N 7 k = k % D 3 ∧ ∀ w, w < 3 → I 8 (k * 3 + w) = oI (bsd (D 2) (D 3) k w)) ∧ ∀ g, g < 64 → tb (J 5 5) g = decide (g < i ∧ g % D 3 = 0)
theorem mO_s {N0 : Nat → Nat → Nat} {I0 : Nat → Nat → Int32} {J0 : Nat → Nat → Int64} {i : Nat} {a0 a1 a2 : Int32} {z : Int64} (h : mO D N0 N I0 I J0 J i) (hi : i < 36) (h0 : a0 = oI (bsd (D 2) (D 3) i 0)) (h1 : a1 = oI (bsd (D 2) (D 3) i 1)) (h2 : a2 = oI (bsd (D 2) (D 3) i 2)) (hz : z = J 5 5 ||| (if i % D 3 = 0 then lN 1 <<< (lN i &&& 63) else lN 0)) :
    mO D N0 (u2 (u2 N 6 i (i / D 3)) 7 i (i % D 3)) I0 (u2 (u2 (u2 I 8 (i * 3) a0) 8 (i * 3 + 1) a1) 8 (i * 3 + 2) a2) J0 (u2 J 5 5 z) (i + 1) := by
  obtain ⟨m1, m2, m3, m4, m5⟩ := h
  refine ⟨fun b q z1 z2 => by rw [u2_ab z2, u2_ab z1]; exact m1 b q z1 z2, fun b q z1 => by rw [u2_ab z1, u2_ab z1, u2_ab z1]; exact m2 b q z1, fun b q z1 => by rw [u2_rd, if_neg z1]; exact m3 b q z1, ?_, ?_⟩
  · intro k hk
    by_cases e : k = i
    · subst e
      refine ⟨by rw [u2_ab (by decide), u2_same], u2_same _ _ _ _, fun w hw => ?_⟩
      have hc : w = 0 ∨ w = 1 ∨ w = 2 := by omega
      rcases hc with rfl | rfl | rfl
      · rw [u2_aq (by omega), u2_aq (by omega), Nat.add_zero, u2_same]; exact h0
      · rw [u2_aq (by omega), u2_same]; exact h1
      · rw [u2_same]; exact h2
    · obtain ⟨n1, n2, n3⟩ := m4 k (by omega)
      refine ⟨by rw [u2_ab (by decide), u2_aq e]; exact n1, by rw [u2_aq e, u2_ab (by decide)]; exact n2, fun w hw => ?_⟩
      rw [u2_aq (by omega), u2_aq (by omega), u2_aq (by omega)]
      exact n3 w hw
  · intro g hg
    rw [u2_same, hz, tb_or, m5 g hg]
    by_cases e : i % D 3 = 0
    · rw [if_pos e, tb_p2 (by omega) hg]
      by_cases eg : g = i
      · subst eg; simp [e]
      · by_cases lt : g < i
        · have : g < i + 1 := by omega
          simp [lt, this, eg]
        · have : ¬ g < i + 1 := by omega
          simp [lt, this, eg]
    · rw [if_neg e, tb_0, Bool.or_false]
      by_cases eg : g = i
      · subst eg; simp [e]
      · by_cases lt : g < i
        · have : g < i + 1 := by omega
          simp [lt, this]
        · have : ¬ g < i + 1 := by omega
          simp [lt, this]
theorem l_240 {N0 : Nat → Nat → Nat} {I0 : Nat → Nat → Int32} {J0 : Nat → Nat → Int64} {w1 w2 : Int32} (hR : 2 ≤ D 2 ∧ D 2 ≤ 6) (hC : 2 ≤ D 3 ∧ D 3 ≤ 6) (h4 : D 4 = D 2 * D 3) (hF : D 4 ≤ 36)
    (hQ : ∀ (N : Nat → Nat → Nat) (I : Nat → Nat → Int32) (J : Nat → Nat → Int64), mO D N0 N I0 I J0 J (D 4) → Q none (hp D N I (u2 J 5 6 (J 5 5 <<< (lN (D 3 - 1) &&& 63))) x)) :
    ∀ (j i : Nat) (N : Nat → Nat → Nat) (I : Nat → Nat → Int32) (J : Nat → Nat → Int64), i + j = D 4 → mO D N0 N I0 I J0 J i → aWp ko d 240 (aP.1 (Int.toNat 15361)) [.ref 5, .int w1, .int w2, .int (nI i)] [] (hp D N I J x) (aL Q) := by
  intro j
  induction j with
  | zero =>
    intro i N I J hj hm
    have e : i = D 4 := by omega
    subst e
    rw [al_15361]
    simp (disch := (first | omega | exact aCat_8 (by with_unfolding_all rfl) | exact rk_lt (by with_unfolding_all rfl) | exact aCat_16 (by with_unfolding_all rfl) | exact rk_eq (by with_unfolding_all rfl) | assumption | exact b2n_lt _ | exact id_b (by with_unfolding_all rfl) | (simp (disch := omega) only [u2_same, u2_ab, u2_aq]; done) | (simp (disch := omega) only [u2_same, u2_ab, u2_aq]; omega) | fail)) only [al_15360, wp_aloadr_0, wp_aloadk_0, wk_2, wk_6, wp_iload_1, wp_min, wp_max, hp_5_0, wp_iload_2, hp_5_1, hg_5_0, hg_5_1, wp_imul, hp_5_2, wl_1, hg_5_2, wp_lshl, wp_lsub, hp_5_3, hg_5_3, wp_isub, wl_m1, wp_lxor, wp_land, hp_5_4, wl_0, hp_5_5, wk_0, wp_istore_3, wp_jsr, wp_iload_3, wn_ge_t, wn_ge_f, hg_5_7, ha_6l, ha_6s, wp_idivn, hg_5_8, ha_7l, ha_7s, wp_iremn, wp_dupi, wp_dupr, hg_5_5, wz_ne_t, wz_ne_f, wb_ne_t, wb_ne_f, wm_ne_1, wm_ne_2, wp_goto, al_15362, al_15363, wp_lor, hg_5_9, ha_8l, ha_8s, wk_3, wp_iadd, wk_1, al_15364, wk_m1, al_15365, wz_le_t, wz_le_f, wm_le_1, wm_le_2, al_15366, al_15367, al_15368, al_15369, wp_iinc_3_1, al_15370, hp_5_6, wp_return, nl_i, nl_r, nl_k, nl_j, nl_l, nI_add, pk_mul, pk_sub, tl_s, tl_n, aL_inl, u2_same, u2_ab, u2_aq, nI_l, lN_i, Nat.add_zero, Nat.zero_add, Nat.zero_le, true_and, and_true, b2n_10, b2n_T, b2n_F, b2n_0, Decidable.not_not, not_true_eq_false, not_false_eq_true, Nat.reduceAdd, Nat.reduceMul, Nat.reduceSub]
    exact hQ N I J hm
  | succ j ih =>
    intro i N I J hj hm
    have hiF : i < D 2 * D 3 := by omega
    have hdv := dv_lt hiF
    have hmd : i % D 3 < D 3 := Nat.mod_lt _ (by omega)
    have ih1 := fun a0 a1 a2 z h0 h1 h2 hz => ih (i + 1) _ _ _ (by omega) (mO_s (a0 := a0) (a1 := a1) (a2 := a2) (z := z) hm (by omega) h0 h1 h2 hz)
    have b0 : oI (bsd (D 2) (D 3) i 0) = if i / D 3 + 1 < D 2 then nI (i + D 3) else -1 := by
      show oI (if i / D 3 + 1 < D 2 then some (i + D 3) else none) = _
      split <;> rfl
    have b1 : oI (bsd (D 2) (D 3) i 1) = if 0 < i % D 3 then nI (i - 1) else -1 := by
      show oI (if 0 < i % D 3 then some (i - 1) else none) = _
      split <;> rfl
    have b2 : oI (bsd (D 2) (D 3) i 2) = if i % D 3 + 1 < D 3 then nI (i + 1) else -1 := by
      show oI (if i % D 3 + 1 < D 3 then some (i + 1) else none) = _
      split <;> rfl
    rw [b0, b1, b2] at ih1
    rw [al_15361]
    by_cases c1 : i % D 3 = 0
    · have c1' : ¬ 0 < i % D 3 := by omega
      have c2 : i % D 3 + 1 < D 3 := by omega
      have c2' : ¬ i % D 3 ≥ D 3 - 1 := by omega
      rw [if_neg c1', if_pos c2, if_pos c1, c1] at ih1
      by_cases c0 : i / D 3 + 1 < D 2
      · rw [if_pos c0] at ih1
        have c0' : ¬ i / D 3 ≥ D 2 - 1 := by omega
        simp (disch := (first | omega | exact aCat_8 (by with_unfolding_all rfl) | exact rk_lt (by with_unfolding_all rfl) | exact aCat_16 (by with_unfolding_all rfl) | exact rk_eq (by with_unfolding_all rfl) | assumption | exact b2n_lt _ | exact id_b (by with_unfolding_all rfl) | (simp (disch := omega) only [u2_same, u2_ab, u2_aq]; done) | (simp (disch := omega) only [u2_same, u2_ab, u2_aq]; omega) | fail)) only [al_15360, wp_aloadr_0, wp_aloadk_0, wk_2, wk_6, wp_iload_1, wp_min, wp_max, hp_5_0, wp_iload_2, hp_5_1, hg_5_0, hg_5_1, wp_imul, hp_5_2, wl_1, hg_5_2, wp_lshl, wp_lsub, hp_5_3, hg_5_3, wp_isub, wl_m1, wp_lxor, wp_land, hp_5_4, wl_0, hp_5_5, wk_0, wp_istore_3, wp_jsr, wp_iload_3, wn_ge_t, wn_ge_f, hg_5_7, ha_6l, ha_6s, wp_idivn, hg_5_8, ha_7l, ha_7s, wp_iremn, wp_dupi, wp_dupr, hg_5_5, wz_ne_t, wz_ne_f, wb_ne_t, wb_ne_f, wm_ne_1, wm_ne_2, wp_goto, al_15362, al_15363, wp_lor, hg_5_9, ha_8l, ha_8s, wk_3, wp_iadd, wk_1, al_15364, wk_m1, al_15365, wz_le_t, wz_le_f, wm_le_1, wm_le_2, al_15366, al_15367, al_15368, al_15369, wp_iinc_3_1, al_15370, hp_5_6, wp_return, nl_i, nl_r, nl_k, nl_j, nl_l, nI_add, pk_mul, pk_sub, tl_s, tl_n, aL_inl, u2_same, u2_ab, u2_aq, nI_l, lN_i, Nat.add_zero, Nat.zero_add, Nat.zero_le, true_and, and_true, b2n_10, b2n_T, b2n_F, b2n_0, Decidable.not_not, not_true_eq_false, not_false_eq_true, Nat.reduceAdd, Nat.reduceMul, Nat.reduceSub, c1]
        exact ih1 _ _ _ _ rfl rfl rfl rfl
      · rw [if_neg c0] at ih1
        simp (disch := (first | omega | exact aCat_8 (by with_unfolding_all rfl) | exact rk_lt (by with_unfolding_all rfl) | exact aCat_16 (by with_unfolding_all rfl) | exact rk_eq (by with_unfolding_all rfl) | assumption | exact b2n_lt _ | exact id_b (by with_unfolding_all rfl) | (simp (disch := omega) only [u2_same, u2_ab, u2_aq]; done) | (simp (disch := omega) only [u2_same, u2_ab, u2_aq]; omega) | fail)) only [al_15360, wp_aloadr_0, wp_aloadk_0, wk_2, wk_6, wp_iload_1, wp_min, wp_max, hp_5_0, wp_iload_2, hp_5_1, hg_5_0, hg_5_1, wp_imul, hp_5_2, wl_1, hg_5_2, wp_lshl, wp_lsub, hp_5_3, hg_5_3, wp_isub, wl_m1, wp_lxor, wp_land, hp_5_4, wl_0, hp_5_5, wk_0, wp_istore_3, wp_jsr, wp_iload_3, wn_ge_t, wn_ge_f, hg_5_7, ha_6l, ha_6s, wp_idivn, hg_5_8, ha_7l, ha_7s, wp_iremn, wp_dupi, wp_dupr, hg_5_5, wz_ne_t, wz_ne_f, wb_ne_t, wb_ne_f, wm_ne_1, wm_ne_2, wp_goto, al_15362, al_15363, wp_lor, hg_5_9, ha_8l, ha_8s, wk_3, wp_iadd, wk_1, al_15364, wk_m1, al_15365, wz_le_t, wz_le_f, wm_le_1, wm_le_2, al_15366, al_15367, al_15368, al_15369, wp_iinc_3_1, al_15370, hp_5_6, wp_return, nl_i, nl_r, nl_k, nl_j, nl_l, nI_add, pk_mul, pk_sub, tl_s, tl_n, aL_inl, u2_same, u2_ab, u2_aq, nI_l, lN_i, Nat.add_zero, Nat.zero_add, Nat.zero_le, true_and, and_true, b2n_10, b2n_T, b2n_F, b2n_0, Decidable.not_not, not_true_eq_false, not_false_eq_true, Nat.reduceAdd, Nat.reduceMul, Nat.reduceSub, c1]
        exact ih1 _ _ _ _ rfl rfl rfl rfl
    · have c1' : 0 < i % D 3 := by omega
      have hi1 : 1 ≤ i := by
        cases i with
        | zero => rw [Nat.zero_mod] at c1'; omega
        | succ i => omega
      rw [if_pos c1', if_neg c1] at ih1
      by_cases c2 : i % D 3 + 1 < D 3
      · rw [if_pos c2] at ih1
        by_cases c0 : i / D 3 + 1 < D 2
        · rw [if_pos c0] at ih1
          simp (disch := (first | omega | exact aCat_8 (by with_unfolding_all rfl) | exact rk_lt (by with_unfolding_all rfl) | exact aCat_16 (by with_unfolding_all rfl) | exact rk_eq (by with_unfolding_all rfl) | assumption | exact b2n_lt _ | exact id_b (by with_unfolding_all rfl) | (simp (disch := omega) only [u2_same, u2_ab, u2_aq]; done) | (simp (disch := omega) only [u2_same, u2_ab, u2_aq]; omega) | fail)) only [al_15360, wp_aloadr_0, wp_aloadk_0, wk_2, wk_6, wp_iload_1, wp_min, wp_max, hp_5_0, wp_iload_2, hp_5_1, hg_5_0, hg_5_1, wp_imul, hp_5_2, wl_1, hg_5_2, wp_lshl, wp_lsub, hp_5_3, hg_5_3, wp_isub, wl_m1, wp_lxor, wp_land, hp_5_4, wl_0, hp_5_5, wk_0, wp_istore_3, wp_jsr, wp_iload_3, wn_ge_t, wn_ge_f, hg_5_7, ha_6l, ha_6s, wp_idivn, hg_5_8, ha_7l, ha_7s, wp_iremn, wp_dupi, wp_dupr, hg_5_5, wz_ne_t, wz_ne_f, wb_ne_t, wb_ne_f, wm_ne_1, wm_ne_2, wp_goto, al_15362, al_15363, wp_lor, hg_5_9, ha_8l, ha_8s, wk_3, wp_iadd, wk_1, al_15364, wk_m1, al_15365, wz_le_t, wz_le_f, wm_le_1, wm_le_2, al_15366, al_15367, al_15368, al_15369, wp_iinc_3_1, al_15370, hp_5_6, wp_return, nl_i, nl_r, nl_k, nl_j, nl_l, nI_add, pk_mul, pk_sub, tl_s, tl_n, aL_inl, u2_same, u2_ab, u2_aq, nI_l, lN_i, Nat.add_zero, Nat.zero_add, Nat.zero_le, true_and, and_true, b2n_10, b2n_T, b2n_F, b2n_0, Decidable.not_not, not_true_eq_false, not_false_eq_true, Nat.reduceAdd, Nat.reduceMul, Nat.reduceSub]
          exact ih1 _ _ _ _ rfl rfl rfl rfl
        · rw [if_neg c0] at ih1
          simp (disch := (first | omega | exact aCat_8 (by with_unfolding_all rfl) | exact rk_lt (by with_unfolding_all rfl) | exact aCat_16 (by with_unfolding_all rfl) | exact rk_eq (by with_unfolding_all rfl) | assumption | exact b2n_lt _ | exact id_b (by with_unfolding_all rfl) | (simp (disch := omega) only [u2_same, u2_ab, u2_aq]; done) | (simp (disch := omega) only [u2_same, u2_ab, u2_aq]; omega) | fail)) only [al_15360, wp_aloadr_0, wp_aloadk_0, wk_2, wk_6, wp_iload_1, wp_min, wp_max, hp_5_0, wp_iload_2, hp_5_1, hg_5_0, hg_5_1, wp_imul, hp_5_2, wl_1, hg_5_2, wp_lshl, wp_lsub, hp_5_3, hg_5_3, wp_isub, wl_m1, wp_lxor, wp_land, hp_5_4, wl_0, hp_5_5, wk_0, wp_istore_3, wp_jsr, wp_iload_3, wn_ge_t, wn_ge_f, hg_5_7, ha_6l, ha_6s, wp_idivn, hg_5_8, ha_7l, ha_7s, wp_iremn, wp_dupi, wp_dupr, hg_5_5, wz_ne_t, wz_ne_f, wb_ne_t, wb_ne_f, wm_ne_1, wm_ne_2, wp_goto, al_15362, al_15363, wp_lor, hg_5_9, ha_8l, ha_8s, wk_3, wp_iadd, wk_1, al_15364, wk_m1, al_15365, wz_le_t, wz_le_f, wm_le_1, wm_le_2, al_15366, al_15367, al_15368, al_15369, wp_iinc_3_1, al_15370, hp_5_6, wp_return, nl_i, nl_r, nl_k, nl_j, nl_l, nI_add, pk_mul, pk_sub, tl_s, tl_n, aL_inl, u2_same, u2_ab, u2_aq, nI_l, lN_i, Nat.add_zero, Nat.zero_add, Nat.zero_le, true_and, and_true, b2n_10, b2n_T, b2n_F, b2n_0, Decidable.not_not, not_true_eq_false, not_false_eq_true, Nat.reduceAdd, Nat.reduceMul, Nat.reduceSub]
          exact ih1 _ _ _ _ rfl rfl rfl rfl
      · rw [if_neg c2] at ih1
        by_cases c0 : i / D 3 + 1 < D 2
        · rw [if_pos c0] at ih1
          simp (disch := (first | omega | exact aCat_8 (by with_unfolding_all rfl) | exact rk_lt (by with_unfolding_all rfl) | exact aCat_16 (by with_unfolding_all rfl) | exact rk_eq (by with_unfolding_all rfl) | assumption | exact b2n_lt _ | exact id_b (by with_unfolding_all rfl) | (simp (disch := omega) only [u2_same, u2_ab, u2_aq]; done) | (simp (disch := omega) only [u2_same, u2_ab, u2_aq]; omega) | fail)) only [al_15360, wp_aloadr_0, wp_aloadk_0, wk_2, wk_6, wp_iload_1, wp_min, wp_max, hp_5_0, wp_iload_2, hp_5_1, hg_5_0, hg_5_1, wp_imul, hp_5_2, wl_1, hg_5_2, wp_lshl, wp_lsub, hp_5_3, hg_5_3, wp_isub, wl_m1, wp_lxor, wp_land, hp_5_4, wl_0, hp_5_5, wk_0, wp_istore_3, wp_jsr, wp_iload_3, wn_ge_t, wn_ge_f, hg_5_7, ha_6l, ha_6s, wp_idivn, hg_5_8, ha_7l, ha_7s, wp_iremn, wp_dupi, wp_dupr, hg_5_5, wz_ne_t, wz_ne_f, wb_ne_t, wb_ne_f, wm_ne_1, wm_ne_2, wp_goto, al_15362, al_15363, wp_lor, hg_5_9, ha_8l, ha_8s, wk_3, wp_iadd, wk_1, al_15364, wk_m1, al_15365, wz_le_t, wz_le_f, wm_le_1, wm_le_2, al_15366, al_15367, al_15368, al_15369, wp_iinc_3_1, al_15370, hp_5_6, wp_return, nl_i, nl_r, nl_k, nl_j, nl_l, nI_add, pk_mul, pk_sub, tl_s, tl_n, aL_inl, u2_same, u2_ab, u2_aq, nI_l, lN_i, Nat.add_zero, Nat.zero_add, Nat.zero_le, true_and, and_true, b2n_10, b2n_T, b2n_F, b2n_0, Decidable.not_not, not_true_eq_false, not_false_eq_true, Nat.reduceAdd, Nat.reduceMul, Nat.reduceSub]
          exact ih1 _ _ _ _ rfl rfl rfl rfl
        · rw [if_neg c0] at ih1
          simp (disch := (first | omega | exact aCat_8 (by with_unfolding_all rfl) | exact rk_lt (by with_unfolding_all rfl) | exact aCat_16 (by with_unfolding_all rfl) | exact rk_eq (by with_unfolding_all rfl) | assumption | exact b2n_lt _ | exact id_b (by with_unfolding_all rfl) | (simp (disch := omega) only [u2_same, u2_ab, u2_aq]; done) | (simp (disch := omega) only [u2_same, u2_ab, u2_aq]; omega) | fail)) only [al_15360, wp_aloadr_0, wp_aloadk_0, wk_2, wk_6, wp_iload_1, wp_min, wp_max, hp_5_0, wp_iload_2, hp_5_1, hg_5_0, hg_5_1, wp_imul, hp_5_2, wl_1, hg_5_2, wp_lshl, wp_lsub, hp_5_3, hg_5_3, wp_isub, wl_m1, wp_lxor, wp_land, hp_5_4, wl_0, hp_5_5, wk_0, wp_istore_3, wp_jsr, wp_iload_3, wn_ge_t, wn_ge_f, hg_5_7, ha_6l, ha_6s, wp_idivn, hg_5_8, ha_7l, ha_7s, wp_iremn, wp_dupi, wp_dupr, hg_5_5, wz_ne_t, wz_ne_f, wb_ne_t, wb_ne_f, wm_ne_1, wm_ne_2, wp_goto, al_15362, al_15363, wp_lor, hg_5_9, ha_8l, ha_8s, wk_3, wp_iadd, wk_1, al_15364, wk_m1, al_15365, wz_le_t, wz_le_f, wm_le_1, wm_le_2, al_15366, al_15367, al_15368, al_15369, wp_iinc_3_1, al_15370, hp_5_6, wp_return, nl_i, nl_r, nl_k, nl_j, nl_l, nI_add, pk_mul, pk_sub, tl_s, tl_n, aL_inl, u2_same, u2_ab, u2_aq, nI_l, lN_i, Nat.add_zero, Nat.zero_add, Nat.zero_le, true_and, and_true, b2n_10, b2n_T, b2n_F, b2n_0, Decidable.not_not, not_true_eq_false, not_false_eq_true, Nat.reduceAdd, Nat.reduceMul, Nat.reduceSub]
          exact ih1 _ _ _ _ rfl rfl rfl rfl
theorem t_240 {r c : Nat} (hr : 2 ≤ r ∧ r ≤ 6) (hc : 2 ≤ c ∧ c ≤ 6)
    (hQ : ∀ (N' : Nat → Nat → Nat) (I' : Nat → Nat → Int32) (J' : Nat → Nat → Int64), ldO (u1 (u1 (u1 D 2 r) 3 c) 4 (r * c)) N' I' J' → (∀ b q, b ≠ 6 → b ≠ 7 → N' b q = N b q) → (∀ b q, b ≠ 8 → I' b q = I b q) → (∀ b q, b ≠ 5 → J' b q = J b q) → Q none (hp (u1 (u1 (u1 D 2 r) 3 c) 4 (r * c)) N' I' J' x)) : aMm ko d 240 [.ref 5, .int (nI r), .int (nI c)] (hp D N I J x) Q := by
  have hrc : r * c ≤ 6 * 6 := Nat.mul_le_mul hr.2 hc.2
  have hcr : c ≤ r * c := by
    have := Nat.mul_le_mul hr.1 (Nat.le_refl c)
    omega
  have hmr : max 2 (min 6 r) = r := by omega
  have hmc : max 2 (min 6 c) = c := by omega
  have d2 : (u1 (u1 (u1 D 2 r) 3 c) 4 (r * c)) 2 = r := rfl
  have d3 : (u1 (u1 (u1 D 2 r) 3 c) 4 (r * c)) 3 = c := rfl
  have d4 : (u1 (u1 (u1 D 2 r) 3 c) 4 (r * c)) 4 = r * c := rfl
  have g2 : (u1 (u1 D 2 r) 3 c) 2 = r := rfl
  have g3 : (u1 (u1 D 2 r) 3 c) 3 = c := rfl
  rw [me_240]
  simp (disch := (first | omega | exact aCat_8 (by with_unfolding_all rfl) | exact rk_lt (by with_unfolding_all rfl) | exact aCat_16 (by with_unfolding_all rfl) | exact rk_eq (by with_unfolding_all rfl) | assumption | exact b2n_lt _ | exact id_b (by with_unfolding_all rfl) | (simp (disch := omega) only [u2_same, u2_ab, u2_aq]; done) | (simp (disch := omega) only [u2_same, u2_ab, u2_aq]; omega) | fail)) only [al_15360, wp_aloadr_0, wp_aloadk_0, wk_2, wk_6, wp_iload_1, wp_min, wp_max, hp_5_0, wp_iload_2, hp_5_1, hg_5_0, hg_5_1, wp_imul, hp_5_2, wl_1, hg_5_2, wp_lshl, wp_lsub, hp_5_3, hg_5_3, wp_isub, wl_m1, wp_lxor, wp_land, hp_5_4, wl_0, hp_5_5, wk_0, wp_istore_3, wp_jsr, wp_iload_3, wn_ge_t, wn_ge_f, hg_5_7, ha_6l, ha_6s, wp_idivn, hg_5_8, ha_7l, ha_7s, wp_iremn, wp_dupi, wp_dupr, hg_5_5, wz_ne_t, wz_ne_f, wb_ne_t, wb_ne_f, wm_ne_1, wm_ne_2, wp_goto, al_15362, al_15363, wp_lor, hg_5_9, ha_8l, ha_8s, wk_3, wp_iadd, wk_1, al_15364, wk_m1, al_15365, wz_le_t, wz_le_f, wm_le_1, wm_le_2, al_15366, al_15367, al_15368, al_15369, wp_iinc_3_1, al_15370, hp_5_6, wp_return, nl_i, nl_r, nl_k, nl_j, nl_l, nI_add, pk_mul, pk_sub, tl_s, tl_n, aL_inl, u2_same, u2_ab, u2_aq, nI_l, lN_i, Nat.add_zero, Nat.zero_add, Nat.zero_le, true_and, and_true, b2n_10, b2n_T, b2n_F, b2n_0, Decidable.not_not, not_true_eq_false, not_false_eq_true, Nat.reduceAdd, Nat.reduceMul, Nat.reduceSub, hmr, hmc, g2, g3, d2, d3, d4]
  refine l_240 (by rw [d2]; exact hr) (by rw [d3]; exact hc) (by rw [d2, d3, d4]) (by rw [d4]; omega) ?_ (r * c) 0 _ _ _ (by rw [d4]; omega) ⟨fun _ _ _ _ => rfl, fun _ _ _ => rfl, fun _ _ _ => rfl, fun k hk => absurd hk (Nat.not_lt_zero k), ?_⟩
  · intro N' I' J' hm
    obtain ⟨m1, m2, m3, m4, m5⟩ := hm
    rw [d4] at m4 m5
    rw [d3] at m5
    refine hQ _ _ _ ⟨⟨hr.1, hr.2, hc.1, hc.2⟩, rfl, fun i hi => m4 i hi, fun i hi => ⟨?_, ?_, ?_, ?_⟩⟩ m1 m2 ?_
    · rw [d2, d3, u2_aq (by decide), m3 5 3 (by omega), u2_aq (by decide), u2_aq (by decide), u2_same, tb_all (by omega)]
    · rw [d2, d3, u2_aq (by decide), m3 5 4 (by omega), u2_aq (by decide), u2_same, tb_and, tb_all (by omega), tb_not hi, tb_all (by omega)]
      by_cases z1 : i < r * c
      · by_cases z2 : i < r * c - c
        · have : ¬ r * c - c ≤ i := by omega
          simp [z1, z2, this]
        · have : r * c - c ≤ i := by omega
          simp [z1, z2, this]
      · simp [z1]
    · rw [d2, d3, u2_aq (by decide), m5 i hi]
    · rw [d2, d3, u2_same, tb_shl (by omega) hi]
      have h1 : i - (c - 1) < 64 := by omega
      rw [m5 _ h1]
      exact bt_last r (by omega) c (by omega) hr.1 hc.1 i hi
    · intro b q z
      rw [u2_ab z, m3 b q (by omega), u2_ab z, u2_ab z, u2_ab z]
  · intro g hg
    rw [u2_same, tb_0]
    simp
end D1
