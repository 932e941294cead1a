/-! sheet. From wip/whole/src. -/
/-- a height out of a number -/
def clp (v : Int32) : Nat := min 9 v.toInt.toNat
theorem clp_le {v : Int32} : clp v ≤ 9 := Nat.min_le_left _ _
theorem clp_eq {v : Int32} : (if nI 0 < (if v < nI 9 then v else nI 9) then (if v < nI 9 then v else nI 9) else nI 0) = nI (clp v) := by
  apply Int32.toInt_inj.mp
  have h9 := clp_le (v := v)
  have e9 : (nI 9).toInt = 9 := rfl
  have e0 : (nI 0).toInt = 0 := rfl
  rw [nI_toInt (by omega)]
  unfold clp
  by_cases h : v < nI 9
  · rw [if_pos h]
    rw [Int32.lt_iff_toInt_lt, e9] at h
    by_cases z : nI 0 < v
    · rw [if_pos z]
      rw [Int32.lt_iff_toInt_lt, e0] at z
      omega
    · rw [if_neg z]
      rw [Int32.lt_iff_toInt_lt, e0] at z
      omega
  · rw [if_neg h, if_pos (by decide)]
    rw [Int32.lt_iff_toInt_lt, e9] at h
    omega
def cvK (kd : Nat) (v : Int32) : Int32 := if kd = 0 then v.toInt8.toInt32 else if kd = 1 then v.toInt16.toInt32 else v
def vIt (c e : Int32) : Nat → Int32
  | 0 => c
  | i + 1 => vIt c e i + e
def shH (kd lim : Nat) (c e : Int32) (i : Nat) : Nat := if i < lim then clp (cvK kd (vIt c e i)) else 0
theorem sh_le {kd lim : Nat} {c e : Int32} {i : Nat} : shH kd lim c e i ≤ 9 := by
  unfold shH
  split
  · exact clp_le
  · omega
section S1
variable {ko : aKo} {d k : Nat} {is : List Instr} {ls st : List Value} {σ : aH} {D : Nat → Nat} {N : Nat → Nat → Nat} {I : Nat → Nat → Int32} {J : Nat → Nat → Int64} {x t : Nat} {Q : Option Value → aH → Prop} {P : (Option Value ⊕ Unit) → aH → Prop}
theorem t_159 {kd : Nat} {v : Int32} (hk : kd < 3) : aMm ko d 159 [.int (nI kd), .int v] σ Q = Q (some (.int (nI (clp (cvK kd v))))) σ := by
  have : kd = 0 ∨ kd = 1 ∨ kd = 2 := by omega
  rw [me_159]
  rcases this with rfl | rfl | rfl
  · have e : cvK 0 v = v.toInt8.toInt32 := rfl
    rw [e]
    simp (disch := (first | omega | exact aCat_8 (by with_unfolding_all rfl) | exact rk_lt (by with_unfolding_all rfl) | exact aCat_16 (by with_unfolding_all rfl) | exact rk_eq (by with_unfolding_all rfl) | assumption | exact b2n_lt _ | exact id_b (by with_unfolding_all rfl) | (simp (disch := omega) only [u2_same, u2_ab, u2_aq]; done) | (simp (disch := omega) only [u2_same, u2_ab, u2_aq]; omega) | fail)) only [al_10176, wp_iload_0, wz_ne_t, wz_ne_f, wb_ne_t, wb_ne_f, wm_ne_1, wm_ne_2, wp_iload_1, wp_i2b, wp_goto, al_10177, wk_1, wn_ne_t, wn_ne_f, wp_i2s, al_10178, wp_jsr, al_10179, wp_istore_2, wk_0, wk_9, wp_iload_2, wp_min, wp_max, wp_ireturn, nl_i, nl_r, nl_k, nl_j, nl_l, nI_add, pk_mul, pk_sub, tl_s, tl_n, aL_inl, u2_same, u2_ab, u2_aq, nI_l, lN_i, Nat.add_zero, Nat.zero_add, Nat.zero_le, true_and, and_true, b2n_10, b2n_T, b2n_F, b2n_0, Decidable.not_not, not_true_eq_false, not_false_eq_true, Nat.reduceAdd, Nat.reduceMul, Nat.reduceSub, wp_minx, wp_maxx, clp_eq]
  · have e : cvK 1 v = v.toInt16.toInt32 := rfl
    rw [e]
    simp (disch := (first | omega | exact aCat_8 (by with_unfolding_all rfl) | exact rk_lt (by with_unfolding_all rfl) | exact aCat_16 (by with_unfolding_all rfl) | exact rk_eq (by with_unfolding_all rfl) | assumption | exact b2n_lt _ | exact id_b (by with_unfolding_all rfl) | (simp (disch := omega) only [u2_same, u2_ab, u2_aq]; done) | (simp (disch := omega) only [u2_same, u2_ab, u2_aq]; omega) | fail)) only [al_10176, wp_iload_0, wz_ne_t, wz_ne_f, wb_ne_t, wb_ne_f, wm_ne_1, wm_ne_2, wp_iload_1, wp_i2b, wp_goto, al_10177, wk_1, wn_ne_t, wn_ne_f, wp_i2s, al_10178, wp_jsr, al_10179, wp_istore_2, wk_0, wk_9, wp_iload_2, wp_min, wp_max, wp_ireturn, nl_i, nl_r, nl_k, nl_j, nl_l, nI_add, pk_mul, pk_sub, tl_s, tl_n, aL_inl, u2_same, u2_ab, u2_aq, nI_l, lN_i, Nat.add_zero, Nat.zero_add, Nat.zero_le, true_and, and_true, b2n_10, b2n_T, b2n_F, b2n_0, Decidable.not_not, not_true_eq_false, not_false_eq_true, Nat.reduceAdd, Nat.reduceMul, Nat.reduceSub, wp_minx, wp_maxx, clp_eq]
  · have e : cvK 2 v = v := rfl
    rw [e]
    simp (disch := (first | omega | exact aCat_8 (by with_unfolding_all rfl) | exact rk_lt (by with_unfolding_all rfl) | exact aCat_16 (by with_unfolding_all rfl) | exact rk_eq (by with_unfolding_all rfl) | assumption | exact b2n_lt _ | exact id_b (by with_unfolding_all rfl) | (simp (disch := omega) only [u2_same, u2_ab, u2_aq]; done) | (simp (disch := omega) only [u2_same, u2_ab, u2_aq]; omega) | fail)) only [al_10176, wp_iload_0, wz_ne_t, wz_ne_f, wb_ne_t, wb_ne_f, wm_ne_1, wm_ne_2, wp_iload_1, wp_i2b, wp_goto, al_10177, wk_1, wn_ne_t, wn_ne_f, wp_i2s, al_10178, wp_jsr, al_10179, wp_istore_2, wk_0, wk_9, wp_iload_2, wp_min, wp_max, wp_ireturn, nl_i, nl_r, nl_k, nl_j, nl_l, nI_add, pk_mul, pk_sub, tl_s, tl_n, aL_inl, u2_same, u2_ab, u2_aq, nI_l, lN_i, Nat.add_zero, Nat.zero_add, Nat.zero_le, true_and, and_true, b2n_10, b2n_T, b2n_F, b2n_0, Decidable.not_not, not_true_eq_false, not_false_eq_true, Nat.reduceAdd, Nat.reduceMul, Nat.reduceSub, wp_minx, wp_maxx, clp_eq]
theorem l_158 {kd lim : Nat} {b c e : Int32} (hk : kd ≤ 3) (hl : lim ≤ 36) (h3 : kd = 3 → lim = 0) (h4 : D 4 ≤ 36) : ∀ j i : Nat, i + j = D 4 → aWp ko d 158 (aP.1 (Int.toNat 10118)) [.ref 0, .int (nI kd), .int b, .int c, .int e, .int (nI lim), .int (vIt c e i), .int (nI i)] [] (hp D (setRow N 21 (mixN (shH kd lim c e) (N 21) i)) I J x) (aL Q) = aWp ko d 158 (aP.1 (Int.toNat 10121)) [.ref 0, .int (nI kd), .int b, .int c, .int e, .int (nI lim), .int (vIt c e (D 4)), .int (nI (D 4))] [] (hp D (setRow N 21 (mixN (shH kd lim c e) (N 21) (D 4))) I J x) (aL Q) := by
  have en : ∀ (T : Nat → Nat) (b : Nat), b ≠ 21 → setRow N 21 T b = N b := fun T b hb => setRow_n hb
  intro j
  induction j with
  | zero =>
    intro i hi
    have e : i = D 4 := by omega
    subst e
    simp (disch := (first | omega | exact aCat_8 (by with_unfolding_all rfl) | exact rk_lt (by with_unfolding_all rfl) | exact aCat_16 (by with_unfolding_all rfl) | exact rk_eq (by with_unfolding_all rfl) | assumption | exact b2n_lt _ | exact id_b (by with_unfolding_all rfl) | (simp (disch := omega) only [u2_same, u2_ab, u2_aq]; done) | (simp (disch := omega) only [u2_same, u2_ab, u2_aq]; omega) | fail)) only [al_10112, wp_iload_1, wz_lt_t, wz_lt_f, wm_lt_1, wm_lt_2, wk_3, wn_gt_t, wn_gt_f, wp_iload_2, wk_36, wn_le_t, wn_le_f, wp_jsr, al_10113, wk_m1, wp_ireturn, al_10114, wn_ge_t, wn_ge_f, wz_ge_t, wz_ge_f, wm_ge_1, wm_ge_2, wk_m2, al_10115, wn_ne_t, wn_ne_f, wk_0, wp_goto, al_10116, al_10117, wp_istore_5, wp_iload_3, wp_istore_6, wp_istore_7, al_10118, wp_iload_7, wp_aloadr_0, wp_aloadk_0, hg_0_2, hg_5_2, hg_0_7, hg_20_0, ha_21l, ha_21s, hg_22_0, ha_23l, ha_23s, hg_24_0, ha_25l, ha_25s, wp_iload_5, wp_iload_6, wc_159, al_10119, al_10120, wp_iload_4, wp_iadd, wp_iinc_7_1, wk_m3, al_10122, al_10123, nl_i, nl_r, nl_k, nl_j, nl_l, nI_add, pk_mul, pk_sub, tl_s, tl_n, aL_inl, u2_same, u2_ab, u2_aq, nI_l, lN_i, Nat.add_zero, Nat.zero_add, Nat.zero_le, true_and, and_true, b2n_10, b2n_T, b2n_F, b2n_0, Decidable.not_not, not_true_eq_false, not_false_eq_true, Nat.reduceAdd, Nat.reduceMul, Nat.reduceSub, en]
  | succ j ih =>
    intro i hi
    have hx := ih (i + 1) (by omega)
    have ev : vIt c e i + e = vIt c e (i + 1) := rfl
    have em : upn (mixN (shH kd lim c e) (N 21) i) i (shH kd lim c e i) = mixN (shH kd lim c e) (N 21) (i + 1) := mixN_un
    rw [al_10118]
    by_cases hlt : i < lim
    · have e1 : shH kd lim c e i = clp (cvK kd (vIt c e i)) := if_pos hlt
      rw [e1] at em
      have hk3 : kd < 3 := by
        rcases Nat.lt_or_ge kd 3 with z | z
        · exact z
        · have := h3 (by omega)
          omega
      simp (disch := (first | omega | exact aCat_8 (by with_unfolding_all rfl) | exact rk_lt (by with_unfolding_all rfl) | exact aCat_16 (by with_unfolding_all rfl) | exact rk_eq (by with_unfolding_all rfl) | assumption | exact b2n_lt _ | exact id_b (by with_unfolding_all rfl) | (simp (disch := omega) only [u2_same, u2_ab, u2_aq]; done) | (simp (disch := omega) only [u2_same, u2_ab, u2_aq]; omega) | fail)) only [al_10112, wp_iload_1, wz_lt_t, wz_lt_f, wm_lt_1, wm_lt_2, wk_3, wn_gt_t, wn_gt_f, wp_iload_2, wk_36, wn_le_t, wn_le_f, wp_jsr, al_10113, wk_m1, wp_ireturn, al_10114, wn_ge_t, wn_ge_f, wz_ge_t, wz_ge_f, wm_ge_1, wm_ge_2, wk_m2, al_10115, wn_ne_t, wn_ne_f, wk_0, wp_goto, al_10116, al_10117, wp_istore_5, wp_iload_3, wp_istore_6, wp_istore_7, wp_iload_7, wp_aloadr_0, wp_aloadk_0, hg_0_2, hg_5_2, hg_0_7, hg_20_0, ha_21l, ha_21s, hg_22_0, ha_23l, ha_23s, hg_24_0, ha_25l, ha_25s, wp_iload_5, wp_iload_6, wc_159, al_10119, al_10120, wp_iload_4, wp_iadd, wp_iinc_7_1, wk_m3, al_10122, al_10123, nl_i, nl_r, nl_k, nl_j, nl_l, nI_add, pk_mul, pk_sub, tl_s, tl_n, aL_inl, u2_same, u2_ab, u2_aq, nI_l, lN_i, Nat.add_zero, Nat.zero_add, Nat.zero_le, true_and, and_true, b2n_10, b2n_T, b2n_F, b2n_0, Decidable.not_not, not_true_eq_false, not_false_eq_true, Nat.reduceAdd, Nat.reduceMul, Nat.reduceSub, en, t_159 hk3, setRow_u, em, ev]
      exact hx
    · have e1 : shH kd lim c e i = 0 := if_neg hlt
      rw [e1] at em
      simp (disch := (first | omega | exact aCat_8 (by with_unfolding_all rfl) | exact rk_lt (by with_unfolding_all rfl) | exact aCat_16 (by with_unfolding_all rfl) | exact rk_eq (by with_unfolding_all rfl) | assumption | exact b2n_lt _ | exact id_b (by with_unfolding_all rfl) | (simp (disch := omega) only [u2_same, u2_ab, u2_aq]; done) | (simp (disch := omega) only [u2_same, u2_ab, u2_aq]; omega) | fail)) only [al_10112, wp_iload_1, wz_lt_t, wz_lt_f, wm_lt_1, wm_lt_2, wk_3, wn_gt_t, wn_gt_f, wp_iload_2, wk_36, wn_le_t, wn_le_f, wp_jsr, al_10113, wk_m1, wp_ireturn, al_10114, wn_ge_t, wn_ge_f, wz_ge_t, wz_ge_f, wm_ge_1, wm_ge_2, wk_m2, al_10115, wn_ne_t, wn_ne_f, wk_0, wp_goto, al_10116, al_10117, wp_istore_5, wp_iload_3, wp_istore_6, wp_istore_7, wp_iload_7, wp_aloadr_0, wp_aloadk_0, hg_0_2, hg_5_2, hg_0_7, hg_20_0, ha_21l, ha_21s, hg_22_0, ha_23l, ha_23s, hg_24_0, ha_25l, ha_25s, wp_iload_5, wp_iload_6, wc_159, al_10119, al_10120, wp_iload_4, wp_iadd, wp_iinc_7_1, wk_m3, al_10122, al_10123, nl_i, nl_r, nl_k, nl_j, nl_l, nI_add, pk_mul, pk_sub, tl_s, tl_n, aL_inl, u2_same, u2_ab, u2_aq, nI_l, lN_i, Nat.add_zero, Nat.zero_add, Nat.zero_le, true_and, and_true, b2n_10, b2n_T, b2n_F, b2n_0, Decidable.not_not, not_true_eq_false, not_false_eq_true, Nat.reduceAdd, Nat.reduceMul, Nat.reduceSub, en, setRow_u, em, ev]
      exact hx
theorem l_35 {kd lim : Nat} {b c e : Int32} {w : Value} (hw : ∃ y, w = .int y ∨ w = aJk) (hk : kd ≤ 3) (hl : lim ≤ 36) (h3 : kd = 3 → lim = 0) (hb : kd < 3 → b = nI lim) (hF : D 0 * D 1 ≤ 36) : ∀ (j i : Nat) (w : Value), i + j = D 0 * D 1 → ∃ w', aWp ko d 35 (aP.1 (Int.toNat 2244)) [.ref 86, .int (nI kd), .int b, .int c, .int e, .int (vIt c e i), .int (nI i), w] [] (hp D (setRow N 89 (mixN (shH kd lim c e) (N 89) i)) I J x) (aL Q) = aWp ko d 35 (aP.1 (Int.toNat 2251)) [.ref 86, .int (nI kd), .int b, .int c, .int e, .int (vIt c e (D 0 * D 1)), .int (nI (D 0 * D 1)), w'] [] (hp D (setRow N 89 (mixN (shH kd lim c e) (N 89) (D 0 * D 1))) I J x) (aL Q) := by
  have en : ∀ (T : Nat → Nat) (b : Nat), b ≠ 89 → setRow N 89 T b = N b := fun T b hb => setRow_n hb
  intro j
  induction j with
  | zero =>
    intro i w hi
    have e : i = D 0 * D 1 := by omega
    subst e
    refine ⟨w, ?_⟩
    simp (disch := (first | omega | exact aCat_8 (by with_unfolding_all rfl) | exact rk_lt (by with_unfolding_all rfl) | exact aCat_16 (by with_unfolding_all rfl) | exact rk_eq (by with_unfolding_all rfl) | assumption | exact b2n_lt _ | exact id_b (by with_unfolding_all rfl) | (simp (disch := omega) only [u2_same, u2_ab, u2_aq]; done) | (simp (disch := omega) only [u2_same, u2_ab, u2_aq]; omega) | fail)) only [al_2240, wp_aloadr_0, wp_aloadk_0, wk_0, hp_86_0, wp_iload_1, wp_i2l, wl_0, wl_3, wc_4, t_4, lN_le, wz_eq_t, wz_eq_f, wb_eq_t, wb_eq_f, wm_eq_1, wm_eq_2, wp_iload_2, wk_36, wn_le_t, wn_le_f, wp_jsr, al_2241, wk_m1, wp_ireturn, al_2242, wk_3, wn_eq_t, wn_eq_f, wz_ge_t, wz_ge_f, wm_ge_1, wm_ge_2, wk_m2, al_2243, wp_iload_3, wp_istore_5, wp_istore_6, al_2244, wp_iload_6, wc_10, t_10, wn_ge_t, wn_ge_f, wz_ne_t, wz_ne_f, wb_ne_t, wb_ne_f, wm_ne_1, wm_ne_2, wp_iload_5, wp_i2b, wp_goto, al_2245, wk_1, wn_ne_t, wn_ne_f, wp_i2s, al_2246, al_2247, wp_istore_7, hg_86_8, ha_89l, ha_89s, wn_lt_t, wn_lt_f, al_2248, al_2249, wk_9, wp_iload_7, wp_min, wp_max, al_2250, wp_iload_4, wp_iadd, wp_iinc_6_1, wk_m3, al_2252, wc_36, al_2253, nl_i, nl_r, nl_k, nl_j, nl_l, nI_add, pk_mul, pk_sub, tl_s, tl_n, aL_inl, u2_same, u2_ab, u2_aq, nI_l, lN_i, Nat.add_zero, Nat.zero_add, Nat.zero_le, true_and, and_true, b2n_10, b2n_T, b2n_F, b2n_0, Decidable.not_not, not_true_eq_false, not_false_eq_true, Nat.reduceAdd, Nat.reduceMul, Nat.reduceSub, en]
  | succ j ih =>
    intro i w hi
    have ev : vIt c e i + e = vIt c e (i + 1) := rfl
    have em : upn (mixN (shH kd lim c e) (N 89) i) i (shH kd lim c e i) = mixN (shH kd lim c e) (N 89) (i + 1) := mixN_un
    have h4 : kd = 0 ∨ kd = 1 ∨ kd = 2 ∨ kd = 3 := by omega
    rw [al_2244]
    rcases h4 with rfl | rfl | rfl | rfl
    · have hb' := hb (by decide)
      subst hb'
      obtain ⟨w', hx⟩ := ih (i + 1) (.int ((vIt c e i).toInt8.toInt32)) (by omega)
      refine ⟨w', ?_⟩
      rw [← hx]
      by_cases hlt : i < lim
      · have e1 : shH 0 lim c e i = clp ((vIt c e i).toInt8.toInt32) := if_pos hlt
        rw [e1] at em
        simp (disch := (first | omega | exact aCat_8 (by with_unfolding_all rfl) | exact rk_lt (by with_unfolding_all rfl) | exact aCat_16 (by with_unfolding_all rfl) | exact rk_eq (by with_unfolding_all rfl) | assumption | exact b2n_lt _ | exact id_b (by with_unfolding_all rfl) | (simp (disch := omega) only [u2_same, u2_ab, u2_aq]; done) | (simp (disch := omega) only [u2_same, u2_ab, u2_aq]; omega) | fail)) only [al_2240, wp_aloadr_0, wp_aloadk_0, wk_0, hp_86_0, wp_iload_1, wp_i2l, wl_0, wl_3, wc_4, t_4, lN_le, wz_eq_t, wz_eq_f, wb_eq_t, wb_eq_f, wm_eq_1, wm_eq_2, wp_iload_2, wk_36, wn_le_t, wn_le_f, wp_jsr, al_2241, wk_m1, wp_ireturn, al_2242, wk_3, wn_eq_t, wn_eq_f, wz_ge_t, wz_ge_f, wm_ge_1, wm_ge_2, wk_m2, al_2243, wp_iload_3, wp_istore_5, wp_istore_6, wp_iload_6, wc_10, t_10, wn_ge_t, wn_ge_f, wz_ne_t, wz_ne_f, wb_ne_t, wb_ne_f, wm_ne_1, wm_ne_2, wp_iload_5, wp_i2b, wp_goto, al_2245, wk_1, wn_ne_t, wn_ne_f, wp_i2s, al_2246, al_2247, wp_istore_7, hg_86_8, ha_89l, ha_89s, wn_lt_t, wn_lt_f, al_2248, al_2249, wk_9, wp_iload_7, wp_min, wp_max, al_2250, wp_iload_4, wp_iadd, wp_iinc_6_1, wk_m3, al_2252, wc_36, al_2253, nl_i, nl_r, nl_k, nl_j, nl_l, nI_add, pk_mul, pk_sub, tl_s, tl_n, aL_inl, u2_same, u2_ab, u2_aq, nI_l, lN_i, Nat.add_zero, Nat.zero_add, Nat.zero_le, true_and, and_true, b2n_10, b2n_T, b2n_F, b2n_0, Decidable.not_not, not_true_eq_false, not_false_eq_true, Nat.reduceAdd, Nat.reduceMul, Nat.reduceSub, en, wp_minx, wp_maxx, clp_eq, setRow_u, em, ev]
      · have e1 : shH 0 lim c e i = 0 := if_neg hlt
        rw [e1] at em
        simp (disch := (first | omega | exact aCat_8 (by with_unfolding_all rfl) | exact rk_lt (by with_unfolding_all rfl) | exact aCat_16 (by with_unfolding_all rfl) | exact rk_eq (by with_unfolding_all rfl) | assumption | exact b2n_lt _ | exact id_b (by with_unfolding_all rfl) | (simp (disch := omega) only [u2_same, u2_ab, u2_aq]; done) | (simp (disch := omega) only [u2_same, u2_ab, u2_aq]; omega) | fail)) only [al_2240, wp_aloadr_0, wp_aloadk_0, wk_0, hp_86_0, wp_iload_1, wp_i2l, wl_0, wl_3, wc_4, t_4, lN_le, wz_eq_t, wz_eq_f, wb_eq_t, wb_eq_f, wm_eq_1, wm_eq_2, wp_iload_2, wk_36, wn_le_t, wn_le_f, wp_jsr, al_2241, wk_m1, wp_ireturn, al_2242, wk_3, wn_eq_t, wn_eq_f, wz_ge_t, wz_ge_f, wm_ge_1, wm_ge_2, wk_m2, al_2243, wp_iload_3, wp_istore_5, wp_istore_6, wp_iload_6, wc_10, t_10, wn_ge_t, wn_ge_f, wz_ne_t, wz_ne_f, wb_ne_t, wb_ne_f, wm_ne_1, wm_ne_2, wp_iload_5, wp_i2b, wp_goto, al_2245, wk_1, wn_ne_t, wn_ne_f, wp_i2s, al_2246, al_2247, wp_istore_7, hg_86_8, ha_89l, ha_89s, wn_lt_t, wn_lt_f, al_2248, al_2249, wk_9, wp_iload_7, wp_min, wp_max, al_2250, wp_iload_4, wp_iadd, wp_iinc_6_1, wk_m3, al_2252, wc_36, al_2253, nl_i, nl_r, nl_k, nl_j, nl_l, nI_add, pk_mul, pk_sub, tl_s, tl_n, aL_inl, u2_same, u2_ab, u2_aq, nI_l, lN_i, Nat.add_zero, Nat.zero_add, Nat.zero_le, true_and, and_true, b2n_10, b2n_T, b2n_F, b2n_0, Decidable.not_not, not_true_eq_false, not_false_eq_true, Nat.reduceAdd, Nat.reduceMul, Nat.reduceSub, en, wp_minx, wp_maxx, clp_eq, setRow_u, em, ev]
    · have hb' := hb (by decide)
      subst hb'
      obtain ⟨w', hx⟩ := ih (i + 1) (.int ((vIt c e i).toInt16.toInt32)) (by omega)
      refine ⟨w', ?_⟩
      rw [← hx]
      by_cases hlt : i < lim
      · have e1 : shH 1 lim c e i = clp ((vIt c e i).toInt16.toInt32) := if_pos hlt
        rw [e1] at em
        simp (disch := (first | omega | exact aCat_8 (by with_unfolding_all rfl) | exact rk_lt (by with_unfolding_all rfl) | exact aCat_16 (by with_unfolding_all rfl) | exact rk_eq (by with_unfolding_all rfl) | assumption | exact b2n_lt _ | exact id_b (by with_unfolding_all rfl) | (simp (disch := omega) only [u2_same, u2_ab, u2_aq]; done) | (simp (disch := omega) only [u2_same, u2_ab, u2_aq]; omega) | fail)) only [al_2240, wp_aloadr_0, wp_aloadk_0, wk_0, hp_86_0, wp_iload_1, wp_i2l, wl_0, wl_3, wc_4, t_4, lN_le, wz_eq_t, wz_eq_f, wb_eq_t, wb_eq_f, wm_eq_1, wm_eq_2, wp_iload_2, wk_36, wn_le_t, wn_le_f, wp_jsr, al_2241, wk_m1, wp_ireturn, al_2242, wk_3, wn_eq_t, wn_eq_f, wz_ge_t, wz_ge_f, wm_ge_1, wm_ge_2, wk_m2, al_2243, wp_iload_3, wp_istore_5, wp_istore_6, wp_iload_6, wc_10, t_10, wn_ge_t, wn_ge_f, wz_ne_t, wz_ne_f, wb_ne_t, wb_ne_f, wm_ne_1, wm_ne_2, wp_iload_5, wp_i2b, wp_goto, al_2245, wk_1, wn_ne_t, wn_ne_f, wp_i2s, al_2246, al_2247, wp_istore_7, hg_86_8, ha_89l, ha_89s, wn_lt_t, wn_lt_f, al_2248, al_2249, wk_9, wp_iload_7, wp_min, wp_max, al_2250, wp_iload_4, wp_iadd, wp_iinc_6_1, wk_m3, al_2252, wc_36, al_2253, nl_i, nl_r, nl_k, nl_j, nl_l, nI_add, pk_mul, pk_sub, tl_s, tl_n, aL_inl, u2_same, u2_ab, u2_aq, nI_l, lN_i, Nat.add_zero, Nat.zero_add, Nat.zero_le, true_and, and_true, b2n_10, b2n_T, b2n_F, b2n_0, Decidable.not_not, not_true_eq_false, not_false_eq_true, Nat.reduceAdd, Nat.reduceMul, Nat.reduceSub, en, wp_minx, wp_maxx, clp_eq, setRow_u, em, ev]
      · have e1 : shH 1 lim c e i = 0 := if_neg hlt
        rw [e1] at em
        simp (disch := (first | omega | exact aCat_8 (by with_unfolding_all rfl) | exact rk_lt (by with_unfolding_all rfl) | exact aCat_16 (by with_unfolding_all rfl) | exact rk_eq (by with_unfolding_all rfl) | assumption | exact b2n_lt _ | exact id_b (by with_unfolding_all rfl) | (simp (disch := omega) only [u2_same, u2_ab, u2_aq]; done) | (simp (disch := omega) only [u2_same, u2_ab, u2_aq]; omega) | fail)) only [al_2240, wp_aloadr_0, wp_aloadk_0, wk_0, hp_86_0, wp_iload_1, wp_i2l, wl_0, wl_3, wc_4, t_4, lN_le, wz_eq_t, wz_eq_f, wb_eq_t, wb_eq_f, wm_eq_1, wm_eq_2, wp_iload_2, wk_36, wn_le_t, wn_le_f, wp_jsr, al_2241, wk_m1, wp_ireturn, al_2242, wk_3, wn_eq_t, wn_eq_f, wz_ge_t, wz_ge_f, wm_ge_1, wm_ge_2, wk_m2, al_2243, wp_iload_3, wp_istore_5, wp_istore_6, wp_iload_6, wc_10, t_10, wn_ge_t, wn_ge_f, wz_ne_t, wz_ne_f, wb_ne_t, wb_ne_f, wm_ne_1, wm_ne_2, wp_iload_5, wp_i2b, wp_goto, al_2245, wk_1, wn_ne_t, wn_ne_f, wp_i2s, al_2246, al_2247, wp_istore_7, hg_86_8, ha_89l, ha_89s, wn_lt_t, wn_lt_f, al_2248, al_2249, wk_9, wp_iload_7, wp_min, wp_max, al_2250, wp_iload_4, wp_iadd, wp_iinc_6_1, wk_m3, al_2252, wc_36, al_2253, nl_i, nl_r, nl_k, nl_j, nl_l, nI_add, pk_mul, pk_sub, tl_s, tl_n, aL_inl, u2_same, u2_ab, u2_aq, nI_l, lN_i, Nat.add_zero, Nat.zero_add, Nat.zero_le, true_and, and_true, b2n_10, b2n_T, b2n_F, b2n_0, Decidable.not_not, not_true_eq_false, not_false_eq_true, Nat.reduceAdd, Nat.reduceMul, Nat.reduceSub, en, wp_minx, wp_maxx, clp_eq, setRow_u, em, ev]
    · have hb' := hb (by decide)
      subst hb'
      obtain ⟨w', hx⟩ := ih (i + 1) (.int (vIt c e i)) (by omega)
      refine ⟨w', ?_⟩
      rw [← hx]
      by_cases hlt : i < lim
      · have e1 : shH 2 lim c e i = clp (vIt c e i) := if_pos hlt
        rw [e1] at em
        simp (disch := (first | omega | exact aCat_8 (by with_unfolding_all rfl) | exact rk_lt (by with_unfolding_all rfl) | exact aCat_16 (by with_unfolding_all rfl) | exact rk_eq (by with_unfolding_all rfl) | assumption | exact b2n_lt _ | exact id_b (by with_unfolding_all rfl) | (simp (disch := omega) only [u2_same, u2_ab, u2_aq]; done) | (simp (disch := omega) only [u2_same, u2_ab, u2_aq]; omega) | fail)) only [al_2240, wp_aloadr_0, wp_aloadk_0, wk_0, hp_86_0, wp_iload_1, wp_i2l, wl_0, wl_3, wc_4, t_4, lN_le, wz_eq_t, wz_eq_f, wb_eq_t, wb_eq_f, wm_eq_1, wm_eq_2, wp_iload_2, wk_36, wn_le_t, wn_le_f, wp_jsr, al_2241, wk_m1, wp_ireturn, al_2242, wk_3, wn_eq_t, wn_eq_f, wz_ge_t, wz_ge_f, wm_ge_1, wm_ge_2, wk_m2, al_2243, wp_iload_3, wp_istore_5, wp_istore_6, wp_iload_6, wc_10, t_10, wn_ge_t, wn_ge_f, wz_ne_t, wz_ne_f, wb_ne_t, wb_ne_f, wm_ne_1, wm_ne_2, wp_iload_5, wp_i2b, wp_goto, al_2245, wk_1, wn_ne_t, wn_ne_f, wp_i2s, al_2246, al_2247, wp_istore_7, hg_86_8, ha_89l, ha_89s, wn_lt_t, wn_lt_f, al_2248, al_2249, wk_9, wp_iload_7, wp_min, wp_max, al_2250, wp_iload_4, wp_iadd, wp_iinc_6_1, wk_m3, al_2252, wc_36, al_2253, nl_i, nl_r, nl_k, nl_j, nl_l, nI_add, pk_mul, pk_sub, tl_s, tl_n, aL_inl, u2_same, u2_ab, u2_aq, nI_l, lN_i, Nat.add_zero, Nat.zero_add, Nat.zero_le, true_and, and_true, b2n_10, b2n_T, b2n_F, b2n_0, Decidable.not_not, not_true_eq_false, not_false_eq_true, Nat.reduceAdd, Nat.reduceMul, Nat.reduceSub, en, wp_minx, wp_maxx, clp_eq, setRow_u, em, ev]
      · have e1 : shH 2 lim c e i = 0 := if_neg hlt
        rw [e1] at em
        simp (disch := (first | omega | exact aCat_8 (by with_unfolding_all rfl) | exact rk_lt (by with_unfolding_all rfl) | exact aCat_16 (by with_unfolding_all rfl) | exact rk_eq (by with_unfolding_all rfl) | assumption | exact b2n_lt _ | exact id_b (by with_unfolding_all rfl) | (simp (disch := omega) only [u2_same, u2_ab, u2_aq]; done) | (simp (disch := omega) only [u2_same, u2_ab, u2_aq]; omega) | fail)) only [al_2240, wp_aloadr_0, wp_aloadk_0, wk_0, hp_86_0, wp_iload_1, wp_i2l, wl_0, wl_3, wc_4, t_4, lN_le, wz_eq_t, wz_eq_f, wb_eq_t, wb_eq_f, wm_eq_1, wm_eq_2, wp_iload_2, wk_36, wn_le_t, wn_le_f, wp_jsr, al_2241, wk_m1, wp_ireturn, al_2242, wk_3, wn_eq_t, wn_eq_f, wz_ge_t, wz_ge_f, wm_ge_1, wm_ge_2, wk_m2, al_2243, wp_iload_3, wp_istore_5, wp_istore_6, wp_iload_6, wc_10, t_10, wn_ge_t, wn_ge_f, wz_ne_t, wz_ne_f, wb_ne_t, wb_ne_f, wm_ne_1, wm_ne_2, wp_iload_5, wp_i2b, wp_goto, al_2245, wk_1, wn_ne_t, wn_ne_f, wp_i2s, al_2246, al_2247, wp_istore_7, hg_86_8, ha_89l, ha_89s, wn_lt_t, wn_lt_f, al_2248, al_2249, wk_9, wp_iload_7, wp_min, wp_max, al_2250, wp_iload_4, wp_iadd, wp_iinc_6_1, wk_m3, al_2252, wc_36, al_2253, nl_i, nl_r, nl_k, nl_j, nl_l, nI_add, pk_mul, pk_sub, tl_s, tl_n, aL_inl, u2_same, u2_ab, u2_aq, nI_l, lN_i, Nat.add_zero, Nat.zero_add, Nat.zero_le, true_and, and_true, b2n_10, b2n_T, b2n_F, b2n_0, Decidable.not_not, not_true_eq_false, not_false_eq_true, Nat.reduceAdd, Nat.reduceMul, Nat.reduceSub, en, wp_minx, wp_maxx, clp_eq, setRow_u, em, ev]
    · have hl0 := h3 rfl
      subst hl0
      obtain ⟨w', hx⟩ := ih (i + 1) (.int (vIt c e i)) (by omega)
      refine ⟨w', ?_⟩
      rw [← hx]
      have e1 : shH 3 0 c e i = 0 := if_neg (by omega)
      rw [e1] at em
      simp (disch := (first | omega | exact aCat_8 (by with_unfolding_all rfl) | exact rk_lt (by with_unfolding_all rfl) | exact aCat_16 (by with_unfolding_all rfl) | exact rk_eq (by with_unfolding_all rfl) | assumption | exact b2n_lt _ | exact id_b (by with_unfolding_all rfl) | (simp (disch := omega) only [u2_same, u2_ab, u2_aq]; done) | (simp (disch := omega) only [u2_same, u2_ab, u2_aq]; omega) | fail)) only [al_2240, wp_aloadr_0, wp_aloadk_0, wk_0, hp_86_0, wp_iload_1, wp_i2l, wl_0, wl_3, wc_4, t_4, lN_le, wz_eq_t, wz_eq_f, wb_eq_t, wb_eq_f, wm_eq_1, wm_eq_2, wp_iload_2, wk_36, wn_le_t, wn_le_f, wp_jsr, al_2241, wk_m1, wp_ireturn, al_2242, wk_3, wn_eq_t, wn_eq_f, wz_ge_t, wz_ge_f, wm_ge_1, wm_ge_2, wk_m2, al_2243, wp_iload_3, wp_istore_5, wp_istore_6, wp_iload_6, wc_10, t_10, wn_ge_t, wn_ge_f, wz_ne_t, wz_ne_f, wb_ne_t, wb_ne_f, wm_ne_1, wm_ne_2, wp_iload_5, wp_i2b, wp_goto, al_2245, wk_1, wn_ne_t, wn_ne_f, wp_i2s, al_2246, al_2247, wp_istore_7, hg_86_8, ha_89l, ha_89s, wn_lt_t, wn_lt_f, al_2248, al_2249, wk_9, wp_iload_7, wp_min, wp_max, al_2250, wp_iload_4, wp_iadd, wp_iinc_6_1, wk_m3, al_2252, wc_36, al_2253, nl_i, nl_r, nl_k, nl_j, nl_l, nI_add, pk_mul, pk_sub, tl_s, tl_n, aL_inl, u2_same, u2_ab, u2_aq, nI_l, lN_i, Nat.add_zero, Nat.zero_add, Nat.zero_le, true_and, and_true, b2n_10, b2n_T, b2n_F, b2n_0, Decidable.not_not, not_true_eq_false, not_false_eq_true, Nat.reduceAdd, Nat.reduceMul, Nat.reduceSub, en, wp_minx, wp_maxx, clp_eq, setRow_u, em, ev]
end S1
