/-! The reference: laysCourse. From wip/whole/src. -/
def dmO (D : Nat → Nat) : Prop := 2 ≤ D 0 ∧ D 0 ≤ 6 ∧ 2 ≤ D 1 ∧ D 1 ≤ 6
theorem dm_F {D : Nat → Nat} (h : dmO D) : D 0 * D 1 ≤ 36 ∧ D 1 ≤ D 0 * D 1 ∧ 4 ≤ D 0 * D 1 ∧ 2 * D 1 ≤ D 0 * D 1 := by
  obtain ⟨h1, h2, h3, h4⟩ := h
  have a : D 0 * D 1 ≤ 6 * 6 := Nat.mul_le_mul h2 h4
  have b : 2 * D 1 ≤ D 0 * D 1 := Nat.mul_le_mul_right _ h1
  omega
/-- a row of the reference, as it may be -/
def rwO (C : Nat) (S : Nat → Nat) : Prop := (∀ f, f < 36 → S f ≤ 9 ∧ S (36 + f) ≤ 1 ∧ S (72 + f) ≤ 1) ∧ S 108 < C ∧ S 110 ≤ 9999 ∧ S 109 < 1000000000 ∧ ∀ q, 111 ≤ q → S q = 0
/-- rule and tides of the reference, as they may be -/
def rlO (N : Nat → Nat → Nat) : Prop := okc (N 93) (N 86 18) ∧ 0 < N 86 6 ∧ N 86 6 ≤ 20
def skR (N : Nat → Nat → Nat) : Nat → Nat := fun t => N 88 (t % N 86 6)
/-- how little a field is liked, in a row, by rule and tides -/
def dsl (C : Nat) (N : Nat → Nat → Nat) (S : Nat → Nat) : Nat → Nat → Int32 := fun g b => rlv (N 93) (N 86 18) (asks C (skR N) S g b)
def wlS (S : Nat → Nat) : Nat → Bool := fun g => decide (S (36 + g) = 1)
def fillN (N : Nat → Nat → Nat) (a i v : Nat) : Nat → Nat → Nat := fun b q => if b = a ∧ q < i then v else N b q
theorem fillN_0 {N : Nat → Nat → Nat} {a v : Nat} : fillN N a 0 v = N := by
  funext b q
  simp [fillN]
theorem fillN_u {N : Nat → Nat → Nat} {a i v : Nat} : u2 (fillN N a i v) a i v = fillN N a (i + 1) v := by
  funext b q
  unfold u2 fillN
  by_cases h : b = a
  · subst h
    by_cases h2 : q = i
    · subst h2; simp
    · simp [h2]
      by_cases h3 : q < i
      · rw [if_pos h3, if_pos (by omega)]
      · rw [if_neg h3, if_neg (by omega)]
  · simp [h]
theorem fillN_ab {N : Nat → Nat → Nat} {a i v b q : Nat} (h : b ≠ a) : fillN N a i v b q = N b q := by simp [fillN, h]
section R3
variable {ko : aKo} {d k : Nat} {is : List Instr} {ls st : List Value} {σ : aH} {D : Nat → Nat} {N : Nat → Nat → Nat} {I : Nat → Nat → Int32} {J : Nat → Nat → Int64} {x : Nat} {Q : Option Value → aH → Prop} {P : (Option Value ⊕ Unit) → aH → Prop}
theorem l_25a {r : Nat} {v3 v4 v5 v6 v7 : Value} : ∀ j i : Nat, i + j = 36 → aWp ko d 25 (aP.1 (Int.toNat 1601)) [.ref 86, .ref r, .int (nI i), v3, v4, v5, v6, v7] [] (hp D (fillN N 98 i 0) I J x) P = aWp ko d 25 (aP.1 (Int.toNat 1602)) [.ref 86, .ref r, .int (nI 36), v3, v4, v5, v6, v7] [] (hp D (fillN N 98 36 0) I J x) P := by
  intro j
  induction j with
  | zero =>
    intro i hi
    have e : i = 36 := by omega
    subst e
    simp (disch := (first | omega | (with_unfolding_all exact Nat.le_of_ble_eq_true rfl) | assumption | exact b2n_lt _ | (with_unfolding_all exact rfl) | (simp (disch := omega) only [u2_same, u2_ab, u2_aq]; done) | (simp (disch := omega) only [u2_same, u2_ab, u2_aq]; omega) | fail)) only [al_1600, wp_aloadr_0, wp_aloadk_0, wk_0, hp_86_24, wp_istore_2, wp_jsr, al_1601, wp_iload_2, wk_36, wn_ge_t, wn_ge_f, hg_86_23, ha_98l, ha_98s, wp_iinc_2_1, wp_goto, wp_aloadr_1, wp_aloadk_1, wk_108, wc_26, hp_86_25, hg_86_25, wz_eq_t, wz_eq_f, wb_eq_t, wb_eq_f, wm_eq_1, wm_eq_2, wp_return, al_1603, wc_27, wz_ne_t, wz_ne_f, wb_ne_t, wb_ne_f, wm_ne_1, wm_ne_2, wc_28, wk_m1, wp_istore_3, wp_istore_4, wp_istore_5, wp_iload_5, wk_3, wc_29, wp_istore_6, wp_iload_6, wz_lt_t, wz_lt_f, wm_lt_1, wm_lt_2, wz_le_t, wz_le_f, wm_le_1, wm_le_2, wk_1, al_1606, al_1607, wc_17, t_17, wc_30, wp_istore_7, wp_iload_3, wp_iload_7, wp_iload_4, al_1608, al_1609, al_1610, wn_ne_t, wn_ne_f, al_1611, al_1612, al_1613, wp_iinc_5_1, al_1614, wz_ge_t, wz_ge_f, wm_ge_1, wm_ge_2, al_1615, al_1616, al_1617, al_1618, nl_i, nl_r, nl_k, nl_j, nl_l, nI_add, pk_mul, pk_sub, tl_s, tl_n, aL_inl, u2_same, u2_ab, u2_aq, nI_l, lN_i, Nat.add_zero, Nat.zero_add, Nat.zero_le, true_and, and_true, b2n_10, b2n_T, b2n_F, b2n_0, Decidable.not_not, not_true_eq_false, not_false_eq_true]
  | succ j ih =>
    intro i hi
    rw [al_1601]
    simp (disch := (first | omega | (with_unfolding_all exact Nat.le_of_ble_eq_true rfl) | assumption | exact b2n_lt _ | (with_unfolding_all exact rfl) | (simp (disch := omega) only [u2_same, u2_ab, u2_aq]; done) | (simp (disch := omega) only [u2_same, u2_ab, u2_aq]; omega) | fail)) only [al_1600, wp_aloadr_0, wp_aloadk_0, wk_0, hp_86_24, wp_istore_2, wp_jsr, wp_iload_2, wk_36, wn_ge_t, wn_ge_f, hg_86_23, ha_98l, ha_98s, wp_iinc_2_1, wp_goto, wp_aloadr_1, wp_aloadk_1, wk_108, wc_26, hp_86_25, hg_86_25, wz_eq_t, wz_eq_f, wb_eq_t, wb_eq_f, wm_eq_1, wm_eq_2, wp_return, al_1603, wc_27, wz_ne_t, wz_ne_f, wb_ne_t, wb_ne_f, wm_ne_1, wm_ne_2, wc_28, wk_m1, wp_istore_3, wp_istore_4, wp_istore_5, wp_iload_5, wk_3, wc_29, wp_istore_6, wp_iload_6, wz_lt_t, wz_lt_f, wm_lt_1, wm_lt_2, wz_le_t, wz_le_f, wm_le_1, wm_le_2, wk_1, al_1606, al_1607, wc_17, t_17, wc_30, wp_istore_7, wp_iload_3, wp_iload_7, wp_iload_4, al_1608, al_1609, al_1610, wn_ne_t, wn_ne_f, al_1611, al_1612, al_1613, wp_iinc_5_1, al_1614, wz_ge_t, wz_ge_f, wm_ge_1, wm_ge_2, al_1615, al_1616, al_1617, al_1618, nl_i, nl_r, nl_k, nl_j, nl_l, nI_add, pk_mul, pk_sub, tl_s, tl_n, aL_inl, u2_same, u2_ab, u2_aq, nI_l, lN_i, Nat.add_zero, Nat.zero_add, Nat.zero_le, true_and, and_true, b2n_10, b2n_T, b2n_F, b2n_0, Decidable.not_not, not_true_eq_false, not_false_eq_true, fillN_u]
    exact ih (i + 1) (by omega)
def bB (o : Option (Nat × Int32)) : Int32 := match o with
  | none => -1
  | some p => nI p.1
def bL (o : Option (Nat × Int32)) : Int32 := match o with
  | none => nI 0
  | some p => p.2
theorem l_25w {r f L : Nat} {p : Nat → Nat} {I0 : Nat → Nat → Int32} (hr : r = 89 ∨ r = 90) (hd : dmO D) (hw : rwO (D 1) (N r)) (hl : rlO N) (hf : f < D 0 * D 1) (hon : ∀ g, g < 36 → N 98 g = b2n (onP L p g = true))
    (hQ : ∀ (I' : Nat → Nat → Int32) (v6 v7 : Value), (∀ b q, b ≠ 95 → b ≠ 96 → I' b q = I0 b q) → aWp ko d 25 (aP.1 (Int.toNat 1614)) [.ref 86, .ref r, .int (nI f), .int (bB (bst (D 0) (D 1) (dsl (D 1) N (N r)) (fun g => wlS (N r) g || onP L p g) f 3)), .int (bL (bst (D 0) (D 1) (dsl (D 1) N (N r)) (fun g => wlS (N r) g || onP L p g) f 3)), .int (nI 3), v6, v7] [] (hp D N I' J x) P) :
    ∀ (j w : Nat) (I : Nat → Nat → Int32) (v6 v7 : Value), w + j = 3 → (∀ b q, b ≠ 95 → b ≠ 96 → I b q = I0 b q) → aWp ko d 25 (aP.1 (Int.toNat 1605)) [.ref 86, .ref r, .int (nI f), .int (bB (bst (D 0) (D 1) (dsl (D 1) N (N r)) (fun g => wlS (N r) g || onP L p g) f w)), .int (bL (bst (D 0) (D 1) (dsl (D 1) N (N r)) (fun g => wlS (N r) g || onP L p g) f w)), .int (nI w), v6, v7] [] (hp D N I J x) P := by
  obtain ⟨hd0, hd1, hd2, hd3⟩ := id hd
  have hF := dm_F hd
  intro j
  induction j with
  | zero =>
    intro w I v6 v7 hj hI
    have e : w = 3 := by omega
    subst e
    rw [al_1605]
    simp (disch := (first | omega | (with_unfolding_all exact Nat.le_of_ble_eq_true rfl) | assumption | exact b2n_lt _ | (with_unfolding_all exact rfl) | (simp (disch := omega) only [u2_same, u2_ab, u2_aq]; done) | (simp (disch := omega) only [u2_same, u2_ab, u2_aq]; omega) | fail)) only [al_1600, wp_aloadr_0, wp_aloadk_0, wk_0, hp_86_24, wp_istore_2, wp_jsr, wp_iload_2, wk_36, wn_ge_t, wn_ge_f, hg_86_23, ha_98l, ha_98s, wp_iinc_2_1, wp_goto, al_1602, wp_aloadr_1, wp_aloadk_1, wk_108, wc_26, hp_86_25, hg_86_25, wz_eq_t, wz_eq_f, wb_eq_t, wb_eq_f, wm_eq_1, wm_eq_2, wp_return, al_1603, wc_27, wz_ne_t, wz_ne_f, wb_ne_t, wb_ne_f, wm_ne_1, wm_ne_2, wc_28, wk_m1, wp_istore_3, wp_istore_4, wp_istore_5, wp_iload_5, wk_3, wc_29, wp_istore_6, wp_iload_6, wz_lt_t, wz_lt_f, wm_lt_1, wm_lt_2, wz_le_t, wz_le_f, wm_le_1, wm_le_2, wk_1, al_1606, al_1607, wc_17, t_17, wc_30, wp_istore_7, wp_iload_3, wp_iload_7, wp_iload_4, al_1608, al_1609, al_1610, wn_ne_t, wn_ne_f, al_1611, al_1612, al_1613, wp_iinc_5_1, wz_ge_t, wz_ge_f, wm_ge_1, wm_ge_2, al_1615, al_1616, al_1617, al_1618, nl_i, nl_r, nl_k, nl_j, nl_l, nI_add, pk_mul, pk_sub, tl_s, tl_n, aL_inl, u2_same, u2_ab, u2_aq, nI_l, lN_i, Nat.add_zero, Nat.zero_add, Nat.zero_le, true_and, and_true, b2n_10, b2n_T, b2n_F, b2n_0, Decidable.not_not, not_true_eq_false, not_false_eq_true]
    exact hQ I v6 v7 hI
  | succ j ih =>
    intro w I v6 v7 hj hI
    rw [al_1605]
    have hgo : ∀ (I' : Nat → Nat → Int32) (v6 v7 : Value) (o : Option (Nat × Int32)), bst (D 0) (D 1) (dsl (D 1) N (N r)) (fun g => wlS (N r) g || onP L p g) f (w + 1) = o → (∀ b q, b ≠ 95 → b ≠ 96 → I' b q = I0 b q) → aWp ko d 25 (aP.1 (Int.toNat 1613)) [.ref 86, .ref r, .int (nI f), .int (bB o), .int (bL o), .int (nI w), v6, v7] [] (hp D N I' J x) P := by
      intro I' v6 v7 o ho hI'
      subst ho
      rw [al_1613]
      simp (disch := (first | omega | (with_unfolding_all exact Nat.le_of_ble_eq_true rfl) | assumption | exact b2n_lt _ | (with_unfolding_all exact rfl) | (simp (disch := omega) only [u2_same, u2_ab, u2_aq]; done) | (simp (disch := omega) only [u2_same, u2_ab, u2_aq]; omega) | fail)) only [al_1600, wp_aloadr_0, wp_aloadk_0, wk_0, hp_86_24, wp_istore_2, wp_jsr, wp_iload_2, wk_36, wn_ge_t, wn_ge_f, hg_86_23, ha_98l, ha_98s, wp_iinc_2_1, wp_goto, al_1602, wp_aloadr_1, wp_aloadk_1, wk_108, wc_26, hp_86_25, hg_86_25, wz_eq_t, wz_eq_f, wb_eq_t, wb_eq_f, wm_eq_1, wm_eq_2, wp_return, al_1603, wc_27, wz_ne_t, wz_ne_f, wb_ne_t, wb_ne_f, wm_ne_1, wm_ne_2, wc_28, wk_m1, wp_istore_3, wp_istore_4, wp_istore_5, wp_iload_5, wk_3, wc_29, wp_istore_6, wp_iload_6, wz_lt_t, wz_lt_f, wm_lt_1, wm_lt_2, wz_le_t, wz_le_f, wm_le_1, wm_le_2, wk_1, al_1606, al_1607, wc_17, t_17, wc_30, wp_istore_7, wp_iload_3, wp_iload_7, wp_iload_4, al_1608, al_1609, al_1610, wn_ne_t, wn_ne_f, al_1611, al_1612, al_1613, wp_iinc_5_1, al_1614, wz_ge_t, wz_ge_f, wm_ge_1, wm_ge_2, al_1615, al_1616, al_1617, al_1618, nl_i, nl_r, nl_k, nl_j, nl_l, nI_add, pk_mul, pk_sub, tl_s, tl_n, aL_inl, u2_same, u2_ab, u2_aq, nI_l, lN_i, Nat.add_zero, Nat.zero_add, Nat.zero_le, true_and, and_true, b2n_10, b2n_T, b2n_F, b2n_0, Decidable.not_not, not_true_eq_false, not_false_eq_true]
      exact ih (w + 1) I' v6 v7 (by omega) hI'
    cases hb : bsd (D 0) (D 1) f w with
    | none =>
      simp (disch := (first | omega | (with_unfolding_all exact Nat.le_of_ble_eq_true rfl) | assumption | exact b2n_lt _ | (with_unfolding_all exact rfl) | (simp (disch := omega) only [u2_same, u2_ab, u2_aq]; done) | (simp (disch := omega) only [u2_same, u2_ab, u2_aq]; omega) | fail)) only [al_1600, wp_aloadr_0, wp_aloadk_0, wk_0, hp_86_24, wp_istore_2, wp_jsr, wp_iload_2, wk_36, wn_ge_t, wn_ge_f, hg_86_23, ha_98l, ha_98s, wp_iinc_2_1, wp_goto, al_1602, wp_aloadr_1, wp_aloadk_1, wk_108, wc_26, hp_86_25, hg_86_25, wz_eq_t, wz_eq_f, wb_eq_t, wb_eq_f, wm_eq_1, wm_eq_2, wp_return, al_1603, wc_27, wz_ne_t, wz_ne_f, wb_ne_t, wb_ne_f, wm_ne_1, wm_ne_2, wc_28, wk_m1, wp_istore_3, wp_istore_4, wp_istore_5, wp_iload_5, wk_3, wc_29, wp_istore_6, wp_iload_6, wz_lt_t, wz_lt_f, wm_lt_1, wm_lt_2, wz_le_t, wz_le_f, wm_le_1, wm_le_2, wk_1, al_1606, al_1607, wc_17, t_17, wc_30, wp_istore_7, wp_iload_3, wp_iload_7, wp_iload_4, al_1608, al_1609, al_1610, wn_ne_t, wn_ne_f, al_1611, al_1612, wp_iinc_5_1, al_1614, wz_ge_t, wz_ge_f, wm_ge_1, wm_ge_2, al_1615, al_1616, al_1617, al_1618, nl_i, nl_r, nl_k, nl_j, nl_l, nI_add, pk_mul, pk_sub, tl_s, tl_n, aL_inl, u2_same, u2_ab, u2_aq, nI_l, lN_i, Nat.add_zero, Nat.zero_add, Nat.zero_le, true_and, and_true, b2n_10, b2n_T, b2n_F, b2n_0, Decidable.not_not, not_true_eq_false, not_false_eq_true, t_29, hb, oI_n]
      exact hgo I _ v7 _ (by simp only [bst, hb]) hI
    | some g =>
      have hg : g < D 0 * D 1 := bsd_lt (by omega) hf hb
      have hw1 := (hw.1 g (by omega)).2.1
      by_cases h1 : N r (36 + g) = 1
      · simp (disch := (first | omega | (with_unfolding_all exact Nat.le_of_ble_eq_true rfl) | assumption | exact b2n_lt _ | (with_unfolding_all exact rfl) | (simp (disch := omega) only [u2_same, u2_ab, u2_aq]; done) | (simp (disch := omega) only [u2_same, u2_ab, u2_aq]; omega) | fail)) only [al_1600, wp_aloadr_0, wp_aloadk_0, wk_0, hp_86_24, wp_istore_2, wp_jsr, wp_iload_2, wk_36, wn_ge_t, wn_ge_f, hg_86_23, ha_98l, ha_98s, wp_iinc_2_1, wp_goto, al_1602, wp_aloadr_1, wp_aloadk_1, wk_108, wc_26, hp_86_25, hg_86_25, wz_eq_t, wz_eq_f, wb_eq_t, wb_eq_f, wm_eq_1, wm_eq_2, wp_return, al_1603, wc_27, wz_ne_t, wz_ne_f, wb_ne_t, wb_ne_f, wm_ne_1, wm_ne_2, wc_28, wk_m1, wp_istore_3, wp_istore_4, wp_istore_5, wp_iload_5, wk_3, wc_29, wp_istore_6, wp_iload_6, wz_lt_t, wz_lt_f, wm_lt_1, wm_lt_2, wz_le_t, wz_le_f, wm_le_1, wm_le_2, wk_1, al_1606, al_1607, wc_17, t_17, wc_30, wp_istore_7, wp_iload_3, wp_iload_7, wp_iload_4, al_1608, al_1609, al_1610, wn_ne_t, wn_ne_f, al_1611, al_1612, wp_iinc_5_1, al_1614, wz_ge_t, wz_ge_f, wm_ge_1, wm_ge_2, al_1615, al_1616, al_1617, al_1618, nl_i, nl_r, nl_k, nl_j, nl_l, nI_add, pk_mul, pk_sub, tl_s, tl_n, aL_inl, u2_same, u2_ab, u2_aq, nI_l, lN_i, Nat.add_zero, Nat.zero_add, Nat.zero_le, true_and, and_true, b2n_10, b2n_T, b2n_F, b2n_0, Decidable.not_not, not_true_eq_false, not_false_eq_true, t_29, hb, oI_s, t_26 hr]
        exact hgo I _ v7 _ (by simp only [bst, hb]; rw [if_pos (by simp [wlS, h1])]) hI
      · have hon1 := hon g (by omega)
        by_cases h2 : onP L p g = true
        · simp (disch := (first | omega | (with_unfolding_all exact Nat.le_of_ble_eq_true rfl) | assumption | exact b2n_lt _ | (with_unfolding_all exact rfl) | (simp (disch := omega) only [u2_same, u2_ab, u2_aq]; done) | (simp (disch := omega) only [u2_same, u2_ab, u2_aq]; omega) | fail)) only [al_1600, wp_aloadr_0, wp_aloadk_0, wk_0, hp_86_24, wp_istore_2, wp_jsr, wp_iload_2, wk_36, wn_ge_t, wn_ge_f, hg_86_23, ha_98l, ha_98s, wp_iinc_2_1, wp_goto, al_1602, wp_aloadr_1, wp_aloadk_1, wk_108, wc_26, hp_86_25, hg_86_25, wz_eq_t, wz_eq_f, wb_eq_t, wb_eq_f, wm_eq_1, wm_eq_2, wp_return, al_1603, wc_27, wz_ne_t, wz_ne_f, wb_ne_t, wb_ne_f, wm_ne_1, wm_ne_2, wc_28, wk_m1, wp_istore_3, wp_istore_4, wp_istore_5, wp_iload_5, wk_3, wc_29, wp_istore_6, wp_iload_6, wz_lt_t, wz_lt_f, wm_lt_1, wm_lt_2, wz_le_t, wz_le_f, wm_le_1, wm_le_2, wk_1, al_1606, al_1607, wc_17, t_17, wc_30, wp_istore_7, wp_iload_3, wp_iload_7, wp_iload_4, al_1608, al_1609, al_1610, wn_ne_t, wn_ne_f, al_1611, al_1612, wp_iinc_5_1, al_1614, wz_ge_t, wz_ge_f, wm_ge_1, wm_ge_2, al_1615, al_1616, al_1617, al_1618, nl_i, nl_r, nl_k, nl_j, nl_l, nI_add, pk_mul, pk_sub, tl_s, tl_n, aL_inl, u2_same, u2_ab, u2_aq, nI_l, lN_i, Nat.add_zero, Nat.zero_add, Nat.zero_le, true_and, and_true, b2n_10, b2n_T, b2n_F, b2n_0, Decidable.not_not, not_true_eq_false, not_false_eq_true, t_29, hb, oI_s, t_26 hr, hon1]
          exact hgo I _ v7 _ (by simp only [bst, hb]; rw [if_pos (by simp [h2])]) hI
        · have hsh : ¬ (wlS (N r) g || onP L p g) = true := by simp [wlS, h1, h2]
          have hcall : ∀ (st : List Value) (bs : Nat), bs = b2n (0 < w) → True := fun _ _ _ => trivial
          have hmain : ∀ (bs : Nat) (v6 v7 : Value), bs = b2n (0 < w) → aMm ko d 30 [.ref 86, .ref r, .int (nI g), .int (nI bs)] (hp D N I J x) (fun v σ1 => aWp ko d 25 [.istore 7, .iload 3, .ifCond .lt 1608, .iload 7, .iload 4, .if_icmp .ge 1609, .jsr 1608] [.ref 86, .ref r, .int (nI f), .int (bB (bst (D 0) (D 1) (dsl (D 1) N (N r)) (fun g => wlS (N r) g || onP L p g) f w)), .int (bL (bst (D 0) (D 1) (dsl (D 1) N (N r)) (fun g => wlS (N r) g || onP L p g) f w)), .int (nI w), .int (nI g), v7] (v.toList ++ []) σ1 P) := by
            intro bs v6 v7 hbs
            refine t_30 hr (by omega) hd2 hd3 hl.2.1 hl.2.2 (by have := hw.2.2.2.1; omega) hl.1 ?_
            intro I' hI'
            have hI2 : ∀ b q, b ≠ 95 → b ≠ 96 → I' b q = I0 b q := fun b q h5 h6 => (hI' b q h5 h6).trans (hI b q h5 h6)
            have hdis : rlv (N 93) (N 86 18) (asks (D 1) (fun t => N 88 (t % N 86 6)) (N r) g bs) = dsl (D 1) N (N r) g (b2n (0 < w)) := by rw [hbs]; rfl
            rw [hdis]
            cases hq : bst (D 0) (D 1) (dsl (D 1) N (N r)) (fun g => wlS (N r) g || onP L p g) f w with
            | none =>
              simp only [bB, bL]
              simp (disch := (first | omega | (with_unfolding_all exact Nat.le_of_ble_eq_true rfl) | assumption | exact b2n_lt _ | (with_unfolding_all exact rfl) | (simp (disch := omega) only [u2_same, u2_ab, u2_aq]; done) | (simp (disch := omega) only [u2_same, u2_ab, u2_aq]; omega) | fail)) only [al_1600, wp_aloadr_0, wp_aloadk_0, wk_0, hp_86_24, wp_istore_2, wp_jsr, wp_iload_2, wk_36, wn_ge_t, wn_ge_f, hg_86_23, ha_98l, ha_98s, wp_iinc_2_1, wp_goto, al_1602, wp_aloadr_1, wp_aloadk_1, wk_108, wc_26, hp_86_25, hg_86_25, wz_eq_t, wz_eq_f, wb_eq_t, wb_eq_f, wm_eq_1, wm_eq_2, wp_return, al_1603, wc_27, wz_ne_t, wz_ne_f, wb_ne_t, wb_ne_f, wm_ne_1, wm_ne_2, wc_28, wk_m1, wp_istore_3, wp_istore_4, wp_istore_5, wp_iload_5, wk_3, wc_29, wp_istore_6, wp_iload_6, wz_lt_t, wz_lt_f, wm_lt_1, wm_lt_2, wz_le_t, wz_le_f, wm_le_1, wm_le_2, wk_1, al_1606, al_1607, wc_17, t_17, wc_30, wp_istore_7, wp_iload_3, wp_iload_7, wp_iload_4, al_1608, al_1609, al_1610, wn_ne_t, wn_ne_f, al_1611, al_1612, wp_iinc_5_1, al_1614, wz_ge_t, wz_ge_f, wm_ge_1, wm_ge_2, al_1615, al_1616, al_1617, al_1618, nl_i, nl_r, nl_k, nl_j, nl_l, nI_add, pk_mul, pk_sub, tl_s, tl_n, aL_inl, u2_same, u2_ab, u2_aq, nI_l, lN_i, Nat.add_zero, Nat.zero_add, Nat.zero_le, true_and, and_true, b2n_10, b2n_T, b2n_F, b2n_0, Decidable.not_not, not_true_eq_false, not_false_eq_true]
              exact hgo I' _ _ (some (g, dsl (D 1) N (N r) g (b2n (0 < w)))) (by simp only [bst, hb]; rw [if_neg hsh, hq]) hI2
            | some bl =>
              obtain ⟨b, l⟩ := bl
              obtain ⟨⟨v, hv1, hv2⟩, hv3⟩ := bst_some hq
              have hbF : b < D 0 * D 1 := bsd_lt (by omega) hf hv2
              have hne : ¬ b = g := fun e => bsd_ne (by omega) hv1 (by omega) (e ▸ hv2) hb
              simp only [bB, bL]
              by_cases hc : dsl (D 1) N (N r) g (b2n (0 < w)) < l
              · have hc2 : ¬ l ≤ dsl (D 1) N (N r) g (b2n (0 < w)) := fun z => (Int32.not_lt.mpr z) hc
                simp (disch := (first | omega | (with_unfolding_all exact Nat.le_of_ble_eq_true rfl) | assumption | exact b2n_lt _ | (with_unfolding_all exact rfl) | (simp (disch := omega) only [u2_same, u2_ab, u2_aq]; done) | (simp (disch := omega) only [u2_same, u2_ab, u2_aq]; omega) | fail)) only [al_1600, wp_aloadr_0, wp_aloadk_0, wk_0, hp_86_24, wp_istore_2, wp_jsr, wp_iload_2, wk_36, wn_ge_t, wn_ge_f, hg_86_23, ha_98l, ha_98s, wp_iinc_2_1, wp_goto, al_1602, wp_aloadr_1, wp_aloadk_1, wk_108, wc_26, hp_86_25, hg_86_25, wz_eq_t, wz_eq_f, wb_eq_t, wb_eq_f, wm_eq_1, wm_eq_2, wp_return, al_1603, wc_27, wz_ne_t, wz_ne_f, wb_ne_t, wb_ne_f, wm_ne_1, wm_ne_2, wc_28, wk_m1, wp_istore_3, wp_istore_4, wp_istore_5, wp_iload_5, wk_3, wc_29, wp_istore_6, wp_iload_6, wz_lt_t, wz_lt_f, wm_lt_1, wm_lt_2, wz_le_t, wz_le_f, wm_le_1, wm_le_2, wk_1, al_1606, al_1607, wc_17, t_17, wc_30, wp_istore_7, wp_iload_3, wp_iload_7, wp_iload_4, al_1608, al_1609, al_1610, wn_ne_t, wn_ne_f, al_1611, al_1612, wp_iinc_5_1, al_1614, wz_ge_t, wz_ge_f, wm_ge_1, wm_ge_2, al_1615, al_1616, al_1617, al_1618, nl_i, nl_r, nl_k, nl_j, nl_l, nI_add, pk_mul, pk_sub, tl_s, tl_n, aL_inl, u2_same, u2_ab, u2_aq, nI_l, lN_i, Nat.add_zero, Nat.zero_add, Nat.zero_le, true_and, and_true, b2n_10, b2n_T, b2n_F, b2n_0, Decidable.not_not, not_true_eq_false, not_false_eq_true, wx_ge_f hc2]
                exact hgo I' _ _ (some (g, dsl (D 1) N (N r) g (b2n (0 < w)))) (by simp only [bst, hb]; rw [if_neg hsh, hq]; simp only [if_pos hc]) hI2
              · have hc2 : l ≤ dsl (D 1) N (N r) g (b2n (0 < w)) := Int32.not_lt.mp hc
                simp (disch := (first | omega | (with_unfolding_all exact Nat.le_of_ble_eq_true rfl) | assumption | exact b2n_lt _ | (with_unfolding_all exact rfl) | (simp (disch := omega) only [u2_same, u2_ab, u2_aq]; done) | (simp (disch := omega) only [u2_same, u2_ab, u2_aq]; omega) | fail)) only [al_1600, wp_aloadr_0, wp_aloadk_0, wk_0, hp_86_24, wp_istore_2, wp_jsr, wp_iload_2, wk_36, wn_ge_t, wn_ge_f, hg_86_23, ha_98l, ha_98s, wp_iinc_2_1, wp_goto, al_1602, wp_aloadr_1, wp_aloadk_1, wk_108, wc_26, hp_86_25, hg_86_25, wz_eq_t, wz_eq_f, wb_eq_t, wb_eq_f, wm_eq_1, wm_eq_2, wp_return, al_1603, wc_27, wz_ne_t, wz_ne_f, wb_ne_t, wb_ne_f, wm_ne_1, wm_ne_2, wc_28, wk_m1, wp_istore_3, wp_istore_4, wp_istore_5, wp_iload_5, wk_3, wc_29, wp_istore_6, wp_iload_6, wz_lt_t, wz_lt_f, wm_lt_1, wm_lt_2, wz_le_t, wz_le_f, wm_le_1, wm_le_2, wk_1, al_1606, al_1607, wc_17, t_17, wc_30, wp_istore_7, wp_iload_3, wp_iload_7, wp_iload_4, al_1608, al_1609, al_1610, wn_ne_t, wn_ne_f, al_1611, al_1612, wp_iinc_5_1, al_1614, wz_ge_t, wz_ge_f, wm_ge_1, wm_ge_2, al_1615, al_1616, al_1617, al_1618, nl_i, nl_r, nl_k, nl_j, nl_l, nI_add, pk_mul, pk_sub, tl_s, tl_n, aL_inl, u2_same, u2_ab, u2_aq, nI_l, lN_i, Nat.add_zero, Nat.zero_add, Nat.zero_le, true_and, and_true, b2n_10, b2n_T, b2n_F, b2n_0, Decidable.not_not, not_true_eq_false, not_false_eq_true, wx_ge_t hc2]
                exact hgo I' _ _ (some (b, l)) (by simp only [bst, hb]; rw [if_neg hsh, hq]; simp only [if_neg hc]) hI2
          by_cases hw0 : w = 0
          · simp (disch := (first | omega | (with_unfolding_all exact Nat.le_of_ble_eq_true rfl) | assumption | exact b2n_lt _ | (with_unfolding_all exact rfl) | (simp (disch := omega) only [u2_same, u2_ab, u2_aq]; done) | (simp (disch := omega) only [u2_same, u2_ab, u2_aq]; omega) | fail)) only [al_1600, wp_aloadr_0, wp_aloadk_0, wk_0, hp_86_24, wp_istore_2, wp_jsr, wp_iload_2, wk_36, wn_ge_t, wn_ge_f, hg_86_23, ha_98l, ha_98s, wp_iinc_2_1, wp_goto, al_1602, wp_aloadr_1, wp_aloadk_1, wk_108, wc_26, hp_86_25, hg_86_25, wz_eq_t, wz_eq_f, wb_eq_t, wb_eq_f, wm_eq_1, wm_eq_2, wp_return, al_1603, wc_27, wz_ne_t, wz_ne_f, wb_ne_t, wb_ne_f, wm_ne_1, wm_ne_2, wc_28, wk_m1, wp_istore_3, wp_istore_4, wp_istore_5, wp_iload_5, wk_3, wc_29, wp_istore_6, wp_iload_6, wz_lt_t, wz_lt_f, wm_lt_1, wm_lt_2, wz_le_t, wz_le_f, wm_le_1, wm_le_2, wk_1, al_1606, al_1607, wc_17, t_17, wc_30, wp_istore_7, wp_iload_3, wp_iload_7, wp_iload_4, al_1608, al_1609, al_1610, wn_ne_t, wn_ne_f, al_1611, al_1612, wp_iinc_5_1, al_1614, wz_ge_t, wz_ge_f, wm_ge_1, wm_ge_2, al_1615, al_1616, al_1617, al_1618, nl_i, nl_r, nl_k, nl_j, nl_l, nI_add, pk_mul, pk_sub, tl_s, tl_n, aL_inl, u2_same, u2_ab, u2_aq, nI_l, lN_i, Nat.add_zero, Nat.zero_add, Nat.zero_le, true_and, and_true, b2n_10, b2n_T, b2n_F, b2n_0, Decidable.not_not, not_true_eq_false, not_false_eq_true, t_29, hb, oI_s, t_26 hr, hon1]
            exact hmain 0 (.int (nI g)) v7 (by rw [b2n_f (by omega)])
          · simp (disch := (first | omega | (with_unfolding_all exact Nat.le_of_ble_eq_true rfl) | assumption | exact b2n_lt _ | (with_unfolding_all exact rfl) | (simp (disch := omega) only [u2_same, u2_ab, u2_aq]; done) | (simp (disch := omega) only [u2_same, u2_ab, u2_aq]; omega) | fail)) only [al_1600, wp_aloadr_0, wp_aloadk_0, wk_0, hp_86_24, wp_istore_2, wp_jsr, wp_iload_2, wk_36, wn_ge_t, wn_ge_f, hg_86_23, ha_98l, ha_98s, wp_iinc_2_1, wp_goto, al_1602, wp_aloadr_1, wp_aloadk_1, wk_108, wc_26, hp_86_25, hg_86_25, wz_eq_t, wz_eq_f, wb_eq_t, wb_eq_f, wm_eq_1, wm_eq_2, wp_return, al_1603, wc_27, wz_ne_t, wz_ne_f, wb_ne_t, wb_ne_f, wm_ne_1, wm_ne_2, wc_28, wk_m1, wp_istore_3, wp_istore_4, wp_istore_5, wp_iload_5, wk_3, wc_29, wp_istore_6, wp_iload_6, wz_lt_t, wz_lt_f, wm_lt_1, wm_lt_2, wz_le_t, wz_le_f, wm_le_1, wm_le_2, wk_1, al_1606, al_1607, wc_17, t_17, wc_30, wp_istore_7, wp_iload_3, wp_iload_7, wp_iload_4, al_1608, al_1609, al_1610, wn_ne_t, wn_ne_f, al_1611, al_1612, wp_iinc_5_1, al_1614, wz_ge_t, wz_ge_f, wm_ge_1, wm_ge_2, al_1615, al_1616, al_1617, al_1618, nl_i, nl_r, nl_k, nl_j, nl_l, nI_add, pk_mul, pk_sub, tl_s, tl_n, aL_inl, u2_same, u2_ab, u2_aq, nI_l, lN_i, Nat.add_zero, Nat.zero_add, Nat.zero_le, true_and, and_true, b2n_10, b2n_T, b2n_F, b2n_0, Decidable.not_not, not_true_eq_false, not_false_eq_true, t_29, hb, oI_s, t_26 hr, hon1]
            exact hmain 1 (.int (nI g)) v7 (by rw [b2n_t (by omega)])
end R3
