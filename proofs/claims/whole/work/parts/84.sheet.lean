/-! sheet. From wip/whole/src. -/
/-- a height out of a number -/
def clp (v : Int32) : Nat := min 9 v.toInt.toNat
theorem clp_le {v : Int32} : clp v ≤ 9 := Nat.min_le_left _ _
theorem clp_eq {v : Int32} : (if nI 0 < (if v < nI 9 then v else nI 9) then (if v < nI 9 then v else nI 9) else nI 0) = nI (clp v) := by
  apply Int32.toInt_inj.mp
  have h9 := clp_le (v := v)
  have e9 : (nI 9).toInt = 9 := rfl
  have e0 : (nI 0).toInt = 0 := rfl
  rw [nI_toInt (by omega)]
  unfold clp
  by_cases h : v < nI 9
  · rw [if_pos h]
    rw [Int32.lt_iff_toInt_lt, e9] at h
    by_cases z : nI 0 < v
    · rw [if_pos z]
      rw [Int32.lt_iff_toInt_lt, e0] at z
      omega
    · rw [if_neg z]
      rw [Int32.lt_iff_toInt_lt, e0] at z
      omega
  · rw [if_neg h, if_pos (by decide)]
    rw [Int32.lt_iff_toInt_lt, e9] at h
    omega
def cvK (kd : Nat) (v : Int32) : Int32 := if kd = 0 then v.toInt8.toInt32 else if kd = 1 then v.toInt16.toInt32 else v
def vIt (c e : Int32) : Nat → Int32
  | 0 => c
  | i + 1 => vIt c e i + e
def shH (kd lim : Nat) (c e : Int32) (i : Nat) : Nat := if i < lim then clp (cvK kd (vIt c e i)) else 0
theorem sh_le {kd lim : Nat} {c e : Int32} {i : Nat} : shH kd lim c e i ≤ 9 := by
  unfold shH
  split
  · exact clp_le
  · omega
section S1
variable {ko : aKo} {d k : Nat} {is : List Instr} {ls st : List Value} {σ : aH} {D : Nat → Nat} {N : Nat → Nat → Nat} {I : Nat → Nat → Int32} {J : Nat → Nat → Int64} {x t : Nat} {Q : Option Value → aH → Prop} {P : (Option Value ⊕ Unit) → aH → Prop}
theorem t_159 {kd : Nat} {v : Int32} (hk : kd < 3) : aMm ko d 159 [.int (nI kd), .int v] σ Q = Q (some (.int (nI (clp (cvK kd v))))) σ := by
  have : kd = 0 ∨ kd = 1 ∨ kd = 2 := by omega
  rw [me_159]
  rcases this with rfl | rfl | rfl
  · have e : cvK 0 v = v.toInt8.toInt32 := rfl
    rw [e]
    simp (disch := (first | omega | exact aCat_8 (by with_unfolding_all rfl) | exact rk_lt (by with_unfolding_all rfl) | exact aCat_16 (by with_unfolding_all rfl) | exact rk_eq (by with_unfolding_all rfl) | assumption | exact b2n_lt _ | exact id_b (by with_unfolding_all rfl) | (simp (disch := omega) only [u2_same, u2_ab, u2_aq]; done) | (simp (disch := omega) only [u2_same, u2_ab, u2_aq]; omega) | fail)) only [al_10176, wp_iload_0, wz_ne_t, wz_ne_f, wb_ne_t, wb_ne_f, wm_ne_1, wm_ne_2, wp_iload_1, wp_i2b, wp_goto, al_10177, wk_1, wn_ne_t, wn_ne_f, wp_i2s, al_10178, wp_jsr, al_10179, wp_istore_2, wk_0, wk_9, wp_iload_2, wp_min, wp_max, wp_ireturn, nl_i, nl_r, nl_k, nl_j, nl_l, nI_add, pk_mul, pk_sub, tl_s, tl_n, aL_inl, u2_same, u2_ab, u2_aq, nI_l, lN_i, Nat.add_zero, Nat.zero_add, Nat.zero_le, true_and, and_true, b2n_10, b2n_T, b2n_F, b2n_0, Decidable.not_not, not_true_eq_false, not_false_eq_true, Nat.reduceAdd, Nat.reduceMul, Nat.reduceSub, wp_minx, wp_maxx, clp_eq]
  · have e : cvK 1 v = v.toInt16.toInt32 := rfl
    rw [e]
    simp (disch := (first | omega | exact aCat_8 (by with_unfolding_all rfl) | exact rk_lt (by with_unfolding_all rfl) | exact aCat_16 (by with_unfolding_all rfl) | exact rk_eq (by with_unfolding_all rfl) | assumption | exact b2n_lt _ | exact id_b (by with_unfolding_all rfl) | (simp (disch := omega) only [u2_same, u2_ab, u2_aq]; done) | (simp (disch := omega) only [u2_same, u2_ab, u2_aq]; omega) | fail)) only [al_10176, wp_iload_0, wz_ne_t, wz_ne_f, wb_ne_t, wb_ne_f, wm_ne_1, wm_ne_2, wp_iload_1, wp_i2b, wp_goto, al_10177, wk_1, wn_ne_t, wn_ne_f, wp_i2s, al_10178, wp_jsr, al_10179, wp_istore_2, wk_0, wk_9, wp_iload_2, wp_min, wp_max, wp_ireturn, nl_i, nl_r, nl_k, nl_j, nl_l, nI_add, pk_mul, pk_sub, tl_s, tl_n, aL_inl, u2_same, u2_ab, u2_aq, nI_l, lN_i, Nat.add_zero, Nat.zero_add, Nat.zero_le, true_and, and_true, b2n_10, b2n_T, b2n_F, b2n_0, Decidable.not_not, not_true_eq_false, not_false_eq_true, Nat.reduceAdd, Nat.reduceMul, Nat.reduceSub, wp_minx, wp_maxx, clp_eq]
  · have e : cvK 2 v = v := rfl
    rw [e]
    simp (disch := (first | omega | exact aCat_8 (by with_unfolding_all rfl) | exact rk_lt (by with_unfolding_all rfl) | exact aCat_16 (by with_unfolding_all rfl) | exact rk_eq (by with_unfolding_all rfl) | assumption | exact b2n_lt _ | exact id_b (by with_unfolding_all rfl) | (simp (disch := omega) only [u2_same, u2_ab, u2_aq]; done) | (simp (disch := omega) only [u2_same, u2_ab, u2_aq]; omega) | fail)) only [al_10176, wp_iload_0, wz_ne_t, wz_ne_f, wb_ne_t, wb_ne_f, wm_ne_1, wm_ne_2, wp_iload_1, wp_i2b, wp_goto, al_10177, wk_1, wn_ne_t, wn_ne_f, wp_i2s, al_10178, wp_jsr, al_10179, wp_istore_2, wk_0, wk_9, wp_iload_2, wp_min, wp_max, wp_ireturn, nl_i, nl_r, nl_k, nl_j, nl_l, nI_add, pk_mul, pk_sub, tl_s, tl_n, aL_inl, u2_same, u2_ab, u2_aq, nI_l, lN_i, Nat.add_zero, Nat.zero_add, Nat.zero_le, true_and, and_true, b2n_10, b2n_T, b2n_F, b2n_0, Decidable.not_not, not_true_eq_false, not_false_eq_true, Nat.reduceAdd, Nat.reduceMul, Nat.reduceSub, wp_minx, wp_maxx, clp_eq]
theorem l_158 {kd lim : Nat} {b c e : Int32} (hk : kd ≤ 3) (hl : lim ≤ 36) (h3 : kd = 3 → lim = 0) (h4 : D 4 ≤ 36) : ∀ j i : Nat, i + j = D 4 → aWp ko d 158 (aP.1 (Int.toNat 10118)) [.ref 0, .int (nI kd), .int b, .int c, .int e, .int (nI lim), .int (vIt c e i), .int (nI i)] [] (hp D (setRow N 21 (mixN (shH kd lim c e) (N 21) i)) I J x) (aL Q) = aWp ko d 158 (aP.1 (Int.toNat 10121)) [.ref 0, .int (nI kd), .int b, .int c, .int e, .int (nI lim), .int (vIt c e (D 4)), .int (nI (D 4))] [] (hp D (setRow N 21 (mixN (shH kd lim c e) (N 21) (D 4))) I J x) (aL Q) := by
  have en : ∀ (T : Nat → Nat) (b : Nat), b ≠ 21 → setRow N 21 T b = N b := fun T b hb => setRow_n hb
  intro j
  induction j with
  | zero =>
    intro i hi
    have e : i = D 4 := by omega
    subst e
    simp (disch := (first | omega | exact aCat_8 (by with_unfolding_all rfl) | exact rk_lt (by with_unfolding_all rfl) | exact aCat_16 (by with_unfolding_all rfl) | exact rk_eq (by with_unfolding_all rfl) | assumption | exact b2n_lt _ | exact id_b (by with_unfolding_all rfl) | (simp (disch := omega) only [u2_same, u2_ab, u2_aq]; done) | (simp (disch := omega) only [u2_same, u2_ab, u2_aq]; omega) | fail)) only [al_10112, wp_iload_1, wz_lt_t, wz_lt_f, wm_lt_1, wm_lt_2, wk_3, wn_gt_t, wn_gt_f, wp_iload_2, wk_36, wn_le_t, wn_le_f, wp_jsr, al_10113, wk_m1, wp_ireturn, al_10114, wn_ge_t, wn_ge_f, wz_ge_t, wz_ge_f, wm_ge_1, wm_ge_2, wk_m2, al_10115, wn_ne_t, wn_ne_f, wk_0, wp_goto, al_10116, al_10117, wp_istore_5, wp_iload_3, wp_istore_6, wp_istore_7, al_10118, wp_iload_7, wp_aloadr_0, wp_aloadk_0, hg_0_2, hg_5_2, hg_0_7, hg_20_0, ha_21l, ha_21s, hg_22_0, ha_23l, ha_23s, hg_24_0, ha_25l, ha_25s, wp_iload_5, wp_iload_6, wc_159, al_10119, al_10120, wp_iload_4, wp_iadd, wp_iinc_7_1, wk_m3, al_10122, al_10123, nl_i, nl_r, nl_k, nl_j, nl_l, nI_add, pk_mul, pk_sub, tl_s, tl_n, aL_inl, u2_same, u2_ab, u2_aq, nI_l, lN_i, Nat.add_zero, Nat.zero_add, Nat.zero_le, true_and, and_true, b2n_10, b2n_T, b2n_F, b2n_0, Decidable.not_not, not_true_eq_false, not_false_eq_true, Nat.reduceAdd, Nat.reduceMul, Nat.reduceSub, en]
  | succ j ih =>
    intro i hi
    have hx := ih (i + 1) (by omega)
    have ev : vIt c e i + e = vIt c e (i + 1) := rfl
    have em : upn (mixN (shH kd lim c e) (N 21) i) i (shH kd lim c e i) = mixN (shH kd lim c e) (N 21) (i + 1) := mixN_un
    rw [al_10118]
    by_cases hlt : i < lim
    · have e1 : shH kd lim c e i = clp (cvK kd (vIt c e i)) := if_pos hlt
      rw [e1] at em
      have hk3 : kd < 3 := by
        rcases Nat.lt_or_ge kd 3 with z | z
        · exact z
        · have := h3 (by omega)
          omega
      simp (disch := (first | omega | exact aCat_8 (by with_unfolding_all rfl) | exact rk_lt (by with_unfolding_all rfl) | exact aCat_16 (by with_unfolding_all rfl) | exact rk_eq (by with_unfolding_all rfl) | assumption | exact b2n_lt _ | exact id_b (by with_unfolding_all rfl) | (simp (disch := omega) only [u2_same, u2_ab, u2_aq]; done) | (simp (disch := omega) only [u2_same, u2_ab, u2_aq]; omega) | fail)) only [al_10112, wp_iload_1, wz_lt_t, wz_lt_f, wm_lt_1, wm_lt_2, wk_3, wn_gt_t, wn_gt_f, wp_iload_2, wk_36, wn_le_t, wn_le_f, wp_jsr, al_10113, wk_m1, wp_ireturn, al_10114, wn_ge_t, wn_ge_f, wz_ge_t, wz_ge_f, wm_ge_1, wm_ge_2, wk_m2, al_10115, wn_ne_t, wn_ne_f, wk_0, wp_goto, al_10116, al_10117, wp_istore_5, wp_iload_3, wp_istore_6, wp_istore_7, wp_iload_7, wp_aloadr_0, wp_aloadk_0, hg_0_2, hg_5_2, hg_0_7, hg_20_0, ha_21l, ha_21s, hg_22_0, ha_23l, ha_23s, hg_24_0, ha_25l, ha_25s, wp_iload_5, wp_iload_6, wc_159, al_10119, al_10120, wp_iload_4, wp_iadd, wp_iinc_7_1, wk_m3, al_10122, al_10123, nl_i, nl_r, nl_k, nl_j, nl_l, nI_add, pk_mul, pk_sub, tl_s, tl_n, aL_inl, u2_same, u2_ab, u2_aq, nI_l, lN_i, Nat.add_zero, Nat.zero_add, Nat.zero_le, true_and, and_true, b2n_10, b2n_T, b2n_F, b2n_0, Decidable.not_not, not_true_eq_false, not_false_eq_true, Nat.reduceAdd, Nat.reduceMul, Nat.reduceSub, en, t_159 hk3, setRow_u, em, ev]
      exact hx
    · have e1 : shH kd lim c e i = 0 := if_neg hlt
      rw [e1] at em
      simp (disch := (first | omega | exact aCat_8 (by with_unfolding_all rfl) | exact rk_lt (by with_unfolding_all rfl) | exact aCat_16 (by with_unfolding_all rfl) | exact rk_eq (by with_unfolding_all rfl) | assumption | exact b2n_lt _ | exact id_b (by with_unfolding_all rfl) | (simp (disch := omega) only [u2_same, u2_ab, u2_aq]; done) | (simp (disch := omega) only [u2_same, u2_ab, u2_aq]; omega) | fail)) only [al_10112, wp_iload_1, wz_lt_t, wz_lt_f, wm_lt_1, wm_lt_2, wk_3, wn_gt_t, wn_gt_f, wp_iload_2, wk_36, wn_le_t, wn_le_f, wp_jsr, al_10113, wk_m1, wp_ireturn, al_10114, wn_ge_t, wn_ge_f, wz_ge_t, wz_ge_f, wm_ge_1, wm_ge_2, wk_m2, al_10115, wn_ne_t, wn_ne_f, wk_0, wp_goto, al_10116, al_10117, wp_istore_5, wp_iload_3, wp_istore_6, wp_istore_7, wp_iload_7, wp_aloadr_0, wp_aloadk_0, hg_0_2, hg_5_2, hg_0_7, hg_20_0, ha_21l, ha_21s, hg_22_0, ha_23l, ha_23s, hg_24_0, ha_25l, ha_25s, wp_iload_5, wp_iload_6, wc_159, al_10119, al_10120, wp_iload_4, wp_iadd, wp_iinc_7_1, wk_m3, al_10122, al_10123, nl_i, nl_r, nl_k, nl_j, nl_l, nI_add, pk_mul, pk_sub, tl_s, tl_n, aL_inl, u2_same, u2_ab, u2_aq, nI_l, lN_i, Nat.add_zero, Nat.zero_add, Nat.zero_le, true_and, and_true, b2n_10, b2n_T, b2n_F, b2n_0, Decidable.not_not, not_true_eq_false, not_false_eq_true, Nat.reduceAdd, Nat.reduceMul, Nat.reduceSub, en, setRow_u, em, ev]
      exact hx
theorem l_35 {kd lim : Nat} {b c e : Int32} (hk : kd ≤ 3) (hl : lim ≤ 36) (h3 : kd = 3 → lim = 0) (hb : kd < 3 → b = nI lim) (hF : D 0 * D 1 ≤ 36) : ∀ (j i : Nat) (w : Value), i + j = D 0 * D 1 → ∃ w', aWp ko d 35 (aP.1 (Int.toNat 2244)) [.ref 86, .int (nI kd), .int b, .int c, .int e, .int (vIt c e i), .int (nI i), w] [] (hp D (setRow N 89 (mixN (shH kd lim c e) (N 89) i)) I J x) (aL Q) = aWp ko d 35 (aP.1 (Int.toNat 2251)) [.ref 86, .int (nI kd), .int b, .int c, .int e, .int (vIt c e (D 0 * D 1)), .int (nI (D 0 * D 1)), w'] [] (hp D (setRow N 89 (mixN (shH kd lim c e) (N 89) (D 0 * D 1))) I J x) (aL Q) := by
  have en : ∀ (T : Nat → Nat) (b : Nat), b ≠ 89 → setRow N 89 T b = N b := fun T b hb => setRow_n hb
  intro j
  induction j with
  | zero =>
    intro i w hi
    have e : i = D 0 * D 1 := by omega
    subst e
    refine ⟨w, ?_⟩
    simp (disch := (first | omega | exact aCat_8 (by with_unfolding_all rfl) | exact rk_lt (by with_unfolding_all rfl) | exact aCat_16 (by with_unfolding_all rfl) | exact rk_eq (by with_unfolding_all rfl) | assumption | exact b2n_lt _ | exact id_b (by with_unfolding_all rfl) | (simp (disch := omega) only [u2_same, u2_ab, u2_aq]; done) | (simp (disch := omega) only [u2_same, u2_ab, u2_aq]; omega) | fail)) only [al_2240, wp_aloadr_0, wp_aloadk_0, wk_0, hp_86_0, wp_iload_1, wp_i2l, wl_0, wl_3, wc_4, t_4, lN_le, wz_eq_t, wz_eq_f, wb_eq_t, wb_eq_f, wm_eq_1, wm_eq_2, wp_iload_2, wk_36, wn_le_t, wn_le_f, wp_jsr, al_2241, wk_m1, wp_ireturn, al_2242, wk_3, wn_eq_t, wn_eq_f, wz_ge_t, wz_ge_f, wm_ge_1, wm_ge_2, wk_m2, al_2243, wp_iload_3, wp_istore_5, wp_istore_6, al_2244, wp_iload_6, wc_10, t_10, wn_ge_t, wn_ge_f, wz_ne_t, wz_ne_f, wb_ne_t, wb_ne_f, wm_ne_1, wm_ne_2, wp_iload_5, wp_i2b, wp_goto, al_2245, wk_1, wn_ne_t, wn_ne_f, wp_i2s, al_2246, al_2247, wp_istore_7, hg_86_8, ha_89l, ha_89s, wn_lt_t, wn_lt_f, al_2248, al_2249, wk_9, wp_iload_7, wp_min, wp_max, al_2250, wp_iload_4, wp_iadd, wp_iinc_6_1, wk_m3, al_2252, wc_36, al_2253, nl_i, nl_r, nl_k, nl_j, nl_l, nI_add, pk_mul, pk_sub, tl_s, tl_n, aL_inl, u2_same, u2_ab, u2_aq, nI_l, lN_i, Nat.add_zero, Nat.zero_add, Nat.zero_le, true_and, and_true, b2n_10, b2n_T, b2n_F, b2n_0, Decidable.not_not, not_true_eq_false, not_false_eq_true, Nat.reduceAdd, Nat.reduceMul, Nat.reduceSub, en]
  | succ j ih =>
    intro i w hi
    have ev : vIt c e i + e = vIt c e (i + 1) := rfl
    have em : upn (mixN (shH kd lim c e) (N 89) i) i (shH kd lim c e i) = mixN (shH kd lim c e) (N 89) (i + 1) := mixN_un
    have h4 : kd = 0 ∨ kd = 1 ∨ kd = 2 ∨ kd = 3 := by omega
    rw [al_2244]
    rcases h4 with rfl | rfl | rfl | rfl
    · have hb' := hb (by decide)
      subst hb'
      obtain ⟨w', hx⟩ := ih (i + 1) (.int ((vIt c e i).toInt8.toInt32)) (by omega)
      refine ⟨w', ?_⟩
      rw [← hx]
      by_cases hlt : i < lim
      · have e1 : shH 0 lim c e i = clp ((vIt c e i).toInt8.toInt32) := if_pos hlt
        rw [e1] at em
        simp (disch := (first | omega | exact aCat_8 (by with_unfolding_all rfl) | exact rk_lt (by with_unfolding_all rfl) | exact aCat_16 (by with_unfolding_all rfl) | exact rk_eq (by with_unfolding_all rfl) | assumption | exact b2n_lt _ | exact id_b (by with_unfolding_all rfl) | (simp (disch := omega) only [u2_same, u2_ab, u2_aq]; done) | (simp (disch := omega) only [u2_same, u2_ab, u2_aq]; omega) | fail)) only [al_2240, wp_aloadr_0, wp_aloadk_0, wk_0, hp_86_0, wp_iload_1, wp_i2l, wl_0, wl_3, wc_4, t_4, lN_le, wz_eq_t, wz_eq_f, wb_eq_t, wb_eq_f, wm_eq_1, wm_eq_2, wp_iload_2, wk_36, wn_le_t, wn_le_f, wp_jsr, al_2241, wk_m1, wp_ireturn, al_2242, wk_3, wn_eq_t, wn_eq_f, wz_ge_t, wz_ge_f, wm_ge_1, wm_ge_2, wk_m2, al_2243, wp_iload_3, wp_istore_5, wp_istore_6, wp_iload_6, wc_10, t_10, wn_ge_t, wn_ge_f, wz_ne_t, wz_ne_f, wb_ne_t, wb_ne_f, wm_ne_1, wm_ne_2, wp_iload_5, wp_i2b, wp_goto, al_2245, wk_1, wn_ne_t, wn_ne_f, wp_i2s, al_2246, al_2247, wp_istore_7, hg_86_8, ha_89l, ha_89s, wn_lt_t, wn_lt_f, al_2248, al_2249, wk_9, wp_iload_7, wp_min, wp_max, al_2250, wp_iload_4, wp_iadd, wp_iinc_6_1, wk_m3, al_2252, wc_36, al_2253, nl_i, nl_r, nl_k, nl_j, nl_l, nI_add, pk_mul, pk_sub, tl_s, tl_n, aL_inl, u2_same, u2_ab, u2_aq, nI_l, lN_i, Nat.add_zero, Nat.zero_add, Nat.zero_le, true_and, and_true, b2n_10, b2n_T, b2n_F, b2n_0, Decidable.not_not, not_true_eq_false, not_false_eq_true, Nat.reduceAdd, Nat.reduceMul, Nat.reduceSub, en, wp_minx, wp_maxx, clp_eq, setRow_u, em, ev]
      · have e1 : shH 0 lim c e i = 0 := if_neg hlt
        rw [e1] at em
        simp (disch := (first | omega | exact aCat_8 (by with_unfolding_all rfl) | exact rk_lt (by with_unfolding_all rfl) | exact aCat_16 (by with_unfolding_all rfl) | exact rk_eq (by with_unfolding_all rfl) | assumption | exact b2n_lt _ | exact id_b (by with_unfolding_all rfl) | (simp (disch := omega) only [u2_same, u2_ab, u2_aq]; done) | (simp (disch := omega) only [u2_same, u2_ab, u2_aq]; omega) | fail)) only [al_2240, wp_aloadr_0, wp_aloadk_0, wk_0, hp_86_0, wp_iload_1, wp_i2l, wl_0, wl_3, wc_4, t_4, lN_le, wz_eq_t, wz_eq_f, wb_eq_t, wb_eq_f, wm_eq_1, wm_eq_2, wp_iload_2, wk_36, wn_le_t, wn_le_f, wp_jsr, al_2241, wk_m1, wp_ireturn, al_2242, wk_3, wn_eq_t, wn_eq_f, wz_ge_t, wz_ge_f, wm_ge_1, wm_ge_2, wk_m2, al_2243, wp_iload_3, wp_istore_5, wp_istore_6, wp_iload_6, wc_10, t_10, wn_ge_t, wn_ge_f, wz_ne_t, wz_ne_f, wb_ne_t, wb_ne_f, wm_ne_1, wm_ne_2, wp_iload_5, wp_i2b, wp_goto, al_2245, wk_1, wn_ne_t, wn_ne_f, wp_i2s, al_2246, al_2247, wp_istore_7, hg_86_8, ha_89l, ha_89s, wn_lt_t, wn_lt_f, al_2248, al_2249, wk_9, wp_iload_7, wp_min, wp_max, al_2250, wp_iload_4, wp_iadd, wp_iinc_6_1, wk_m3, al_2252, wc_36, al_2253, nl_i, nl_r, nl_k, nl_j, nl_l, nI_add, pk_mul, pk_sub, tl_s, tl_n, aL_inl, u2_same, u2_ab, u2_aq, nI_l, lN_i, Nat.add_zero, Nat.zero_add, Nat.zero_le, true_and, and_true, b2n_10, b2n_T, b2n_F, b2n_0, Decidable.not_not, not_true_eq_false, not_false_eq_true, Nat.reduceAdd, Nat.reduceMul, Nat.reduceSub, en, wp_minx, wp_maxx, clp_eq, setRow_u, em, ev]
    · have hb' := hb (by decide)
      subst hb'
      obtain ⟨w', hx⟩ := ih (i + 1) (.int ((vIt c e i).toInt16.toInt32)) (by omega)
      refine ⟨w', ?_⟩
      rw [← hx]
      by_cases hlt : i < lim
      · have e1 : shH 1 lim c e i = clp ((vIt c e i).toInt16.toInt32) := if_pos hlt
        rw [e1] at em
        simp (disch := (first | omega | exact aCat_8 (by with_unfolding_all rfl) | exact rk_lt (by with_unfolding_all rfl) | exact aCat_16 (by with_unfolding_all rfl) | exact rk_eq (by with_unfolding_all rfl) | assumption | exact b2n_lt _ | exact id_b (by with_unfolding_all rfl) | (simp (disch := omega) only [u2_same, u2_ab, u2_aq]; done) | (simp (disch := omega) only [u2_same, u2_ab, u2_aq]; omega) | fail)) only [al_2240, wp_aloadr_0, wp_aloadk_0, wk_0, hp_86_0, wp_iload_1, wp_i2l, wl_0, wl_3, wc_4, t_4, lN_le, wz_eq_t, wz_eq_f, wb_eq_t, wb_eq_f, wm_eq_1, wm_eq_2, wp_iload_2, wk_36, wn_le_t, wn_le_f, wp_jsr, al_2241, wk_m1, wp_ireturn, al_2242, wk_3, wn_eq_t, wn_eq_f, wz_ge_t, wz_ge_f, wm_ge_1, wm_ge_2, wk_m2, al_2243, wp_iload_3, wp_istore_5, wp_istore_6, wp_iload_6, wc_10, t_10, wn_ge_t, wn_ge_f, wz_ne_t, wz_ne_f, wb_ne_t, wb_ne_f, wm_ne_1, wm_ne_2, wp_iload_5, wp_i2b, wp_goto, al_2245, wk_1, wn_ne_t, wn_ne_f, wp_i2s, al_2246, al_2247, wp_istore_7, hg_86_8, ha_89l, ha_89s, wn_lt_t, wn_lt_f, al_2248, al_2249, wk_9, wp_iload_7, wp_min, wp_max, al_2250, wp_iload_4, wp_iadd, wp_iinc_6_1, wk_m3, al_2252, wc_36, al_2253, nl_i, nl_r, nl_k, nl_j, nl_l, nI_add, pk_mul, pk_sub, tl_s, tl_n, aL_inl, u2_same, u2_ab, u2_aq, nI_l, lN_i, Nat.add_zero, Nat.zero_add, Nat.zero_le, true_and, and_true, b2n_10, b2n_T, b2n_F, b2n_0, Decidable.not_not, not_true_eq_false, not_false_eq_true, Nat.reduceAdd, Nat.reduceMul, Nat.reduceSub, en, wp_minx, wp_maxx, clp_eq, setRow_u, em, ev]
      · have e1 : shH 1 lim c e i = 0 := if_neg hlt
        rw [e1] at em
        simp (disch := (first | omega | exact aCat_8 (by with_unfolding_all rfl) | exact rk_lt (by with_unfolding_all rfl) | exact aCat_16 (by with_unfolding_all rfl) | exact rk_eq (by with_unfolding_all rfl) | assumption | exact b2n_lt _ | exact id_b (by with_unfolding_all rfl) | (simp (disch := omega) only [u2_same, u2_ab, u2_aq]; done) | (simp (disch := omega) only [u2_same, u2_ab, u2_aq]; omega) | fail)) only [al_2240, wp_aloadr_0, wp_aloadk_0, wk_0, hp_86_0, wp_iload_1, wp_i2l, wl_0, wl_3, wc_4, t_4, lN_le, wz_eq_t, wz_eq_f, wb_eq_t, wb_eq_f, wm_eq_1, wm_eq_2, wp_iload_2, wk_36, wn_le_t, wn_le_f, wp_jsr, al_2241, wk_m1, wp_ireturn, al_2242, wk_3, wn_eq_t, wn_eq_f, wz_ge_t, wz_ge_f, wm_ge_1, wm_ge_2, wk_m2, al_2243, wp_iload_3, wp_istore_5, wp_istore_6, wp_iload_6, wc_10, t_10, wn_ge_t, wn_ge_f, wz_ne_t, wz_ne_f, wb_ne_t, wb_ne_f, wm_ne_1, wm_ne_2, wp_iload_5, wp_i2b, wp_goto, al_2245, wk_1, wn_ne_t, wn_ne_f, wp_i2s, al_2246, al_2247, wp_istore_7, hg_86_8, ha_89l, ha_89s, wn_lt_t, wn_lt_f, al_2248, al_2249, wk_9, wp_iload_7, wp_min, wp_max, al_2250, wp_iload_4, wp_iadd, wp_iinc_6_1, wk_m3, al_2252, wc_36, al_2253, nl_i, nl_r, nl_k, nl_j, nl_l, nI_add, pk_mul, pk_sub, tl_s, tl_n, aL_inl, u2_same, u2_ab, u2_aq, nI_l, lN_i, Nat.add_zero, Nat.zero_add, Nat.zero_le, true_and, and_true, b2n_10, b2n_T, b2n_F, b2n_0, Decidable.not_not, not_true_eq_false, not_false_eq_true, Nat.reduceAdd, Nat.reduceMul, Nat.reduceSub, en, wp_minx, wp_maxx, clp_eq, setRow_u, em, ev]
    · have hb' := hb (by decide)
      subst hb'
      obtain ⟨w', hx⟩ := ih (i + 1) (.int (vIt c e i)) (by omega)
      refine ⟨w', ?_⟩
      rw [← hx]
      by_cases hlt : i < lim
      · have e1 : shH 2 lim c e i = clp (vIt c e i) := if_pos hlt
        rw [e1] at em
        simp (disch := (first | omega | exact aCat_8 (by with_unfolding_all rfl) | exact rk_lt (by with_unfolding_all rfl) | exact aCat_16 (by with_unfolding_all rfl) | exact rk_eq (by with_unfolding_all rfl) | assumption | exact b2n_lt _ | exact id_b (by with_unfolding_all rfl) | (simp (disch := omega) only [u2_same, u2_ab, u2_aq]; done) | (simp (disch := omega) only [u2_same, u2_ab, u2_aq]; omega) | fail)) only [al_2240, wp_aloadr_0, wp_aloadk_0, wk_0, hp_86_0, wp_iload_1, wp_i2l, wl_0, wl_3, wc_4, t_4, lN_le, wz_eq_t, wz_eq_f, wb_eq_t, wb_eq_f, wm_eq_1, wm_eq_2, wp_iload_2, wk_36, wn_le_t, wn_le_f, wp_jsr, al_2241, wk_m1, wp_ireturn, al_2242, wk_3, wn_eq_t, wn_eq_f, wz_ge_t, wz_ge_f, wm_ge_1, wm_ge_2, wk_m2, al_2243, wp_iload_3, wp_istore_5, wp_istore_6, wp_iload_6, wc_10, t_10, wn_ge_t, wn_ge_f, wz_ne_t, wz_ne_f, wb_ne_t, wb_ne_f, wm_ne_1, wm_ne_2, wp_iload_5, wp_i2b, wp_goto, al_2245, wk_1, wn_ne_t, wn_ne_f, wp_i2s, al_2246, al_2247, wp_istore_7, hg_86_8, ha_89l, ha_89s, wn_lt_t, wn_lt_f, al_2248, al_2249, wk_9, wp_iload_7, wp_min, wp_max, al_2250, wp_iload_4, wp_iadd, wp_iinc_6_1, wk_m3, al_2252, wc_36, al_2253, nl_i, nl_r, nl_k, nl_j, nl_l, nI_add, pk_mul, pk_sub, tl_s, tl_n, aL_inl, u2_same, u2_ab, u2_aq, nI_l, lN_i, Nat.add_zero, Nat.zero_add, Nat.zero_le, true_and, and_true, b2n_10, b2n_T, b2n_F, b2n_0, Decidable.not_not, not_true_eq_false, not_false_eq_true, Nat.reduceAdd, Nat.reduceMul, Nat.reduceSub, en, wp_minx, wp_maxx, clp_eq, setRow_u, em, ev]
      · have e1 : shH 2 lim c e i = 0 := if_neg hlt
        rw [e1] at em
        simp (disch := (first | omega | exact aCat_8 (by with_unfolding_all rfl) | exact rk_lt (by with_unfolding_all rfl) | exact aCat_16 (by with_unfolding_all rfl) | exact rk_eq (by with_unfolding_all rfl) | assumption | exact b2n_lt _ | exact id_b (by with_unfolding_all rfl) | (simp (disch := omega) only [u2_same, u2_ab, u2_aq]; done) | (simp (disch := omega) only [u2_same, u2_ab, u2_aq]; omega) | fail)) only [al_2240, wp_aloadr_0, wp_aloadk_0, wk_0, hp_86_0, wp_iload_1, wp_i2l, wl_0, wl_3, wc_4, t_4, lN_le, wz_eq_t, wz_eq_f, wb_eq_t, wb_eq_f, wm_eq_1, wm_eq_2, wp_iload_2, wk_36, wn_le_t, wn_le_f, wp_jsr, al_2241, wk_m1, wp_ireturn, al_2242, wk_3, wn_eq_t, wn_eq_f, wz_ge_t, wz_ge_f, wm_ge_1, wm_ge_2, wk_m2, al_2243, wp_iload_3, wp_istore_5, wp_istore_6, wp_iload_6, wc_10, t_10, wn_ge_t, wn_ge_f, wz_ne_t, wz_ne_f, wb_ne_t, wb_ne_f, wm_ne_1, wm_ne_2, wp_iload_5, wp_i2b, wp_goto, al_2245, wk_1, wn_ne_t, wn_ne_f, wp_i2s, al_2246, al_2247, wp_istore_7, hg_86_8, ha_89l, ha_89s, wn_lt_t, wn_lt_f, al_2248, al_2249, wk_9, wp_iload_7, wp_min, wp_max, al_2250, wp_iload_4, wp_iadd, wp_iinc_6_1, wk_m3, al_2252, wc_36, al_2253, nl_i, nl_r, nl_k, nl_j, nl_l, nI_add, pk_mul, pk_sub, tl_s, tl_n, aL_inl, u2_same, u2_ab, u2_aq, nI_l, lN_i, Nat.add_zero, Nat.zero_add, Nat.zero_le, true_and, and_true, b2n_10, b2n_T, b2n_F, b2n_0, Decidable.not_not, not_true_eq_false, not_false_eq_true, Nat.reduceAdd, Nat.reduceMul, Nat.reduceSub, en, wp_minx, wp_maxx, clp_eq, setRow_u, em, ev]
    · have hl0 := h3 rfl
      subst hl0
      obtain ⟨w', hx⟩ := ih (i + 1) (.int (vIt c e i)) (by omega)
      refine ⟨w', ?_⟩
      rw [← hx]
      have e1 : shH 3 0 c e i = 0 := if_neg (by omega)
      rw [e1] at em
      simp (disch := (first | omega | exact aCat_8 (by with_unfolding_all rfl) | exact rk_lt (by with_unfolding_all rfl) | exact aCat_16 (by with_unfolding_all rfl) | exact rk_eq (by with_unfolding_all rfl) | assumption | exact b2n_lt _ | exact id_b (by with_unfolding_all rfl) | (simp (disch := omega) only [u2_same, u2_ab, u2_aq]; done) | (simp (disch := omega) only [u2_same, u2_ab, u2_aq]; omega) | fail)) only [al_2240, wp_aloadr_0, wp_aloadk_0, wk_0, hp_86_0, wp_iload_1, wp_i2l, wl_0, wl_3, wc_4, t_4, lN_le, wz_eq_t, wz_eq_f, wb_eq_t, wb_eq_f, wm_eq_1, wm_eq_2, wp_iload_2, wk_36, wn_le_t, wn_le_f, wp_jsr, al_2241, wk_m1, wp_ireturn, al_2242, wk_3, wn_eq_t, wn_eq_f, wz_ge_t, wz_ge_f, wm_ge_1, wm_ge_2, wk_m2, al_2243, wp_iload_3, wp_istore_5, wp_istore_6, wp_iload_6, wc_10, t_10, wn_ge_t, wn_ge_f, wz_ne_t, wz_ne_f, wb_ne_t, wb_ne_f, wm_ne_1, wm_ne_2, wp_iload_5, wp_i2b, wp_goto, al_2245, wk_1, wn_ne_t, wn_ne_f, wp_i2s, al_2246, al_2247, wp_istore_7, hg_86_8, ha_89l, ha_89s, wn_lt_t, wn_lt_f, al_2248, al_2249, wk_9, wp_iload_7, wp_min, wp_max, al_2250, wp_iload_4, wp_iadd, wp_iinc_6_1, wk_m3, al_2252, wc_36, al_2253, nl_i, nl_r, nl_k, nl_j, nl_l, nI_add, pk_mul, pk_sub, tl_s, tl_n, aL_inl, u2_same, u2_ab, u2_aq, nI_l, lN_i, Nat.add_zero, Nat.zero_add, Nat.zero_le, true_and, and_true, b2n_10, b2n_T, b2n_F, b2n_0, Decidable.not_not, not_true_eq_false, not_false_eq_true, Nat.reduceAdd, Nat.reduceMul, Nat.reduceSub, en, wp_minx, wp_maxx, clp_eq, setRow_u, em, ev]
theorem mix_rw {C F : Nat} {g S : Nat → Nat} (hg : ∀ q, g q ≤ 9) (h : rwO C S) (hz : rwZ F S) (hF : F ≤ 36) : rwO C (mixN g S F) ∧ rwZ F (mixN g S F) ∧ (∀ q, 36 ≤ q → mixN g S F q = S q) := by
  have e : ∀ q, F ≤ q → mixN g S F q = S q := fun q hq => by unfold mixN; rw [if_neg (by omega)]
  refine ⟨⟨?_, ?_, ?_, ?_, ?_⟩, ?_, fun q hq => e q (by omega)⟩
  · intro f hf
    rw [e (36 + f) (by omega), e (72 + f) (by omega)]
    refine ⟨?_, (h.1 f hf).2⟩
    unfold mixN
    split
    · exact hg f
    · exact (h.1 f hf).1
  · rw [e 108 (by omega)]; exact h.2.1
  · rw [e 110 (by omega)]; exact h.2.2.1
  · rw [e 109 (by omega)]; exact h.2.2.2.1
  · intro q hq
    rw [e q (by omega)]; exact h.2.2.2.2 q hq
  · intro f h1 h2
    rw [e f h1, e (36 + f) (by omega), e (72 + f) (by omega)]
    exact hz f h1 h2
theorem o_sheetG {kd lim : Nat} {b c e : Int32} (h : inv D N I J t) (hk : kd ≤ 3) (hl : lim ≤ 36) (h3 : kd = 3 → lim = 0 ∧ b ≤ nI 36) (hb : kd < 3 → b = nI lim) : opO ko d 158 35 [.int (nI kd), .int b, .int c, .int e] D N I J x (t + 300) := by
  have hF := dm_F h.1.1.1
  have h4 := inv_d4 h.1
  have h89 := h.1.2.2.2.2.1
  obtain ⟨m1, m2, m3⟩ := mix_rw (g := shH kd lim c e) (fun q => sh_le) h89.1 h89.2.1 hF.1
  obtain ⟨s1, s2, s3, s4, s5⟩ := id h89.2.2.2
  have hcl : ∀ N' : Nat → Nat → Nat, N' 21 = mixN (shH kd lim c e) (N 21) (D 4) → (∀ q, N' 20 q = N 20 q) → clS N' J 20 (mixN (shH kd lim c e) (N 89) (D 0 * D 1)) := by
    intro N' e1 e2
    refine ⟨?_, ?_, ?_, ?_, ?_⟩
    · intro f hf
      show N' 21 f = _
      rw [e1, h4]
      unfold mixN
      split
      · rfl
      · exact s1 f hf
    · intro f hf
      rw [m3 (36 + f) (by omega), m3 (72 + f) (by omega)]
      exact s2 f hf
    · rw [e2, m3 108 (by omega)]; exact s3
    · rw [e2, m3 109 (by omega)]; exact s4
    · rw [e2, m3 110 (by omega)]; exact s5
  have hsm := sum_lt m1 hF.1
  have hX := hcl (setRow N 21 (mixN (shH kd lim c e) (N 21) (D 4))) setRow_s (fun q => by rw [setRow_n (by decide)])
  -- the end of both, alike
  have hfin : ∀ v : Value, (some v).isSome = true ∧ ∃ D' N' I' J', hp D (setRow (u2 (setRow N 21 (mixN (shH kd lim c e) (N 21) (D 4))) 86 0 0) 89 (mixN (shH kd lim c e) (N 89) (D 0 * D 1))) I J x = hp D' N' I' J' x ∧ inv D' N' I' J' (t + 300) := by
    intro v
    have hfr : ∀ b q, b ≠ 21 → b ≠ 89 → ¬ (b = 86 ∧ q = 0) → setRow (u2 (setRow N 21 (mixN (shH kd lim c e) (N 21) (D 4))) 86 0 0) 89 (mixN (shH kd lim c e) (N 89) (D 0 * D 1)) b q = N b q := by
      intro b q z1 z2 z3
      rw [setRow_n z2, u2_rd, if_neg z3, setRow_n z1]
    refine ⟨rfl, D, _, I, J, rfl, ?_, td_same h.2 (hfr 3 1 (by decide) (by decide) (by omega)) (hfr 86 1 (by decide) (by decide) (by omega)) (fun _ => rfl) (fun _ => rfl)⟩
    refine invB_p (fun g => g == 4) rfl h.1 (by omega) ?_ (fun _ _ _ _ => rfl) (fun _ _ _ _ => rfl) (fun z => by cases z) (fun z => by cases z) (fun z => by cases z) (fun _ => ?_) (fun z => by cases z) (fun z => by cases z) (fun z => by cases z) (fun z => by cases z)
    · intro b q z y
      exact hfr b q (by rintro rfl; cases y) (by rintro rfl; cases y) (by rintro ⟨rfl, rfl⟩; cases z)
    · rw [setRow_s]
      refine ⟨m1, m2, ⟨by rw [m3 109 (by omega)]; have := h89.2.2.1; omega, ?_⟩, hcl _ ?_ ?_⟩
      · rw [sumR_congr 36 (g := fun q => N 89 (36 + q)) (fun q hq => m3 (36 + q) (by omega))]
        exact h89.2.2.1.2
      · rw [setRow_n (by decide), u2_nb (by decide), setRow_s]
      · intro q
        exact hfr 20 q (by decide) (by decide) (by omega)
  have e89 : u2 (setRow N 21 (mixN (shH kd lim c e) (N 21) (D 4))) 86 0 0 89 = N 89 := by rw [u2_nb (by decide), setRow_n (by decide)]
  have l158 := fun Q => @l_158 ko d D N I J x Q kd lim b c e hk hl (fun z => (h3 z).1) (by omega) (D 4) 0 (by omega)
  have l35 := fun Q => @l_35 ko d D (u2 (setRow N 21 (mixN (shH kd lim c e) (N 21) (D 4))) 86 0 0) I J x Q kd lim b c e hk hl (fun z => (h3 z).1) hb hF.1 (D 0 * D 1) 0
  simp only [mixN_0, setRow_id, e89, vIt] at l158 l35
  have eid : setRow (u2 (setRow N 21 (mixN (shH kd lim c e) (N 21) (D 4))) 86 0 0) 89 (N 89) = u2 (setRow N 21 (mixN (shH kd lim c e) (N 21) (D 4))) 86 0 0 := by rw [← e89, setRow_id]
  simp only [eid] at l35
  have hbb : b ≤ nI 36 := by
    rcases Nat.lt_or_ge kd 3 with z | z
    · rw [hb z, Int32.le_iff_toInt_le, nI_toInt (by omega), nI_toInt (by omega)]
      omega
    · exact (h3 (by omega)).2
  show aMm ko d 158 [.ref 0, .int (nI kd), .int b, .int c, .int e] (hp D N I J x) _
  rw [me_158]
  by_cases hk3 : kd = 3
  · subst hk3
    have hl0 := (h3 rfl).1
    subst hl0
    simp (disch := (first | omega | exact aCat_8 (by with_unfolding_all rfl) | exact rk_lt (by with_unfolding_all rfl) | exact aCat_16 (by with_unfolding_all rfl) | exact rk_eq (by with_unfolding_all rfl) | assumption | exact b2n_lt _ | exact id_b (by with_unfolding_all rfl) | (simp (disch := omega) only [u2_same, u2_ab, u2_aq]; done) | (simp (disch := omega) only [u2_same, u2_ab, u2_aq]; omega) | fail)) only [al_10112, wp_iload_1, wz_lt_t, wz_lt_f, wm_lt_1, wm_lt_2, wk_3, wn_gt_t, wn_gt_f, wp_iload_2, wk_36, wn_le_t, wn_le_f, wp_jsr, al_10113, wk_m1, wp_ireturn, al_10114, wn_ge_t, wn_ge_f, wz_ge_t, wz_ge_f, wm_ge_1, wm_ge_2, wk_m2, al_10115, wn_ne_t, wn_ne_f, wk_0, wp_goto, al_10116, al_10117, wp_istore_5, wp_iload_3, wp_istore_6, wp_istore_7, wp_iload_7, wp_aloadr_0, wp_aloadk_0, hg_0_2, hg_5_2, hg_0_7, hg_20_0, ha_21l, ha_21s, hg_22_0, ha_23l, ha_23s, hg_24_0, ha_25l, ha_25s, wp_iload_5, wp_iload_6, wc_159, al_10119, al_10120, wp_iload_4, wp_iadd, wp_iinc_7_1, al_10121, wk_m3, al_10122, al_10123, nl_i, nl_r, nl_k, nl_j, nl_l, nI_add, pk_mul, pk_sub, tl_s, tl_n, aL_inl, u2_same, u2_ab, u2_aq, nI_l, lN_i, Nat.add_zero, Nat.zero_add, Nat.zero_le, true_and, and_true, b2n_10, b2n_T, b2n_F, b2n_0, Decidable.not_not, not_true_eq_false, not_false_eq_true, Nat.reduceAdd, Nat.reduceMul, Nat.reduceSub, wx_le_t hbb]
    rw [l158, al_10121]
    simp (disch := (first | omega | exact aCat_8 (by with_unfolding_all rfl) | exact rk_lt (by with_unfolding_all rfl) | exact aCat_16 (by with_unfolding_all rfl) | exact rk_eq (by with_unfolding_all rfl) | assumption | exact b2n_lt _ | exact id_b (by with_unfolding_all rfl) | (simp (disch := omega) only [u2_same, u2_ab, u2_aq]; done) | (simp (disch := omega) only [u2_same, u2_ab, u2_aq]; omega) | fail)) only [al_10112, wp_iload_1, wz_lt_t, wz_lt_f, wm_lt_1, wm_lt_2, wk_3, wn_gt_t, wn_gt_f, wp_iload_2, wk_36, wn_le_t, wn_le_f, wp_jsr, al_10113, wk_m1, wp_ireturn, al_10114, wn_ge_t, wn_ge_f, wz_ge_t, wz_ge_f, wm_ge_1, wm_ge_2, wk_m2, al_10115, wn_ne_t, wn_ne_f, wk_0, wp_goto, al_10116, al_10117, wp_istore_5, wp_iload_3, wp_istore_6, wp_istore_7, wp_iload_7, wp_aloadr_0, wp_aloadk_0, hg_0_2, hg_5_2, hg_0_7, hg_20_0, ha_21l, ha_21s, hg_22_0, ha_23l, ha_23s, hg_24_0, ha_25l, ha_25s, wp_iload_5, wp_iload_6, wc_159, al_10119, al_10120, wp_iload_4, wp_iadd, wp_iinc_7_1, al_10121, wk_m3, al_10122, al_10123, nl_i, nl_r, nl_k, nl_j, nl_l, nI_add, pk_mul, pk_sub, tl_s, tl_n, aL_inl, u2_same, u2_ab, u2_aq, nI_l, lN_i, Nat.add_zero, Nat.zero_add, Nat.zero_le, true_and, and_true, b2n_10, b2n_T, b2n_F, b2n_0, Decidable.not_not, not_true_eq_false, not_false_eq_true, Nat.reduceAdd, Nat.reduceMul, Nat.reduceSub]
    rw [me_35]
    simp (disch := (first | omega | exact aCat_8 (by with_unfolding_all rfl) | exact rk_lt (by with_unfolding_all rfl) | exact aCat_16 (by with_unfolding_all rfl) | exact rk_eq (by with_unfolding_all rfl) | assumption | exact b2n_lt _ | exact id_b (by with_unfolding_all rfl) | (simp (disch := omega) only [u2_same, u2_ab, u2_aq]; done) | (simp (disch := omega) only [u2_same, u2_ab, u2_aq]; omega) | fail)) only [al_2240, wp_aloadr_0, wp_aloadk_0, wk_0, hp_86_0, wp_iload_1, wp_i2l, wl_0, wl_3, wc_4, t_4, lN_le, wz_eq_t, wz_eq_f, wb_eq_t, wb_eq_f, wm_eq_1, wm_eq_2, wp_iload_2, wk_36, wn_le_t, wn_le_f, wp_jsr, al_2241, wk_m1, wp_ireturn, al_2242, wk_3, wn_eq_t, wn_eq_f, wz_ge_t, wz_ge_f, wm_ge_1, wm_ge_2, wk_m2, al_2243, wp_iload_3, wp_istore_5, wp_istore_6, wp_iload_6, wc_10, t_10, wn_ge_t, wn_ge_f, wz_ne_t, wz_ne_f, wb_ne_t, wb_ne_f, wm_ne_1, wm_ne_2, wp_iload_5, wp_i2b, wp_goto, al_2245, wk_1, wn_ne_t, wn_ne_f, wp_i2s, al_2246, al_2247, wp_istore_7, hg_86_8, ha_89l, ha_89s, wn_lt_t, wn_lt_f, al_2248, al_2249, wk_9, wp_iload_7, wp_min, wp_max, al_2250, wp_iload_4, wp_iadd, wp_iinc_6_1, al_2251, wk_m3, al_2252, wc_36, al_2253, nl_i, nl_r, nl_k, nl_j, nl_l, nI_add, pk_mul, pk_sub, tl_s, tl_n, aL_inl, u2_same, u2_ab, u2_aq, nI_l, lN_i, Nat.add_zero, Nat.zero_add, Nat.zero_le, true_and, and_true, b2n_10, b2n_T, b2n_F, b2n_0, Decidable.not_not, not_true_eq_false, not_false_eq_true, Nat.reduceAdd, Nat.reduceMul, Nat.reduceSub, wx_le_t hbb, b2n_t (Nat.le_refl 3)]
    obtain ⟨w', hx⟩ := l35 _ aJk (by omega)
    rw [hx, al_2251]
    simp (disch := (first | omega | exact aCat_8 (by with_unfolding_all rfl) | exact rk_lt (by with_unfolding_all rfl) | exact aCat_16 (by with_unfolding_all rfl) | exact rk_eq (by with_unfolding_all rfl) | assumption | exact b2n_lt _ | exact id_b (by with_unfolding_all rfl) | (simp (disch := omega) only [u2_same, u2_ab, u2_aq]; done) | (simp (disch := omega) only [u2_same, u2_ab, u2_aq]; omega) | fail)) only [al_2240, wp_aloadr_0, wp_aloadk_0, wk_0, hp_86_0, wp_iload_1, wp_i2l, wl_0, wl_3, wc_4, t_4, lN_le, wz_eq_t, wz_eq_f, wb_eq_t, wb_eq_f, wm_eq_1, wm_eq_2, wp_iload_2, wk_36, wn_le_t, wn_le_f, wp_jsr, al_2241, wk_m1, wp_ireturn, al_2242, wk_3, wn_eq_t, wn_eq_f, wz_ge_t, wz_ge_f, wm_ge_1, wm_ge_2, wk_m2, al_2243, wp_iload_3, wp_istore_5, wp_istore_6, wp_iload_6, wc_10, t_10, wn_ge_t, wn_ge_f, wz_ne_t, wz_ne_f, wb_ne_t, wb_ne_f, wm_ne_1, wm_ne_2, wp_iload_5, wp_i2b, wp_goto, al_2245, wk_1, wn_ne_t, wn_ne_f, wp_i2s, al_2246, al_2247, wp_istore_7, hg_86_8, ha_89l, ha_89s, wn_lt_t, wn_lt_f, al_2248, al_2249, wk_9, wp_iload_7, wp_min, wp_max, al_2250, wp_iload_4, wp_iadd, wp_iinc_6_1, al_2251, wk_m3, al_2252, wc_36, al_2253, nl_i, nl_r, nl_k, nl_j, nl_l, nI_add, pk_mul, pk_sub, tl_s, tl_n, aL_inl, u2_same, u2_ab, u2_aq, nI_l, lN_i, Nat.add_zero, Nat.zero_add, Nat.zero_le, true_and, and_true, b2n_10, b2n_T, b2n_F, b2n_0, Decidable.not_not, not_true_eq_false, not_false_eq_true, Nat.reduceAdd, Nat.reduceMul, Nat.reduceSub]
    exact hfin (.int (-3))
  · have hk' : kd < 3 := by omega
    have hb' := hb hk'
    subst hb'
    have hk2 : kd ≤ 3 := hk
    have h9 : ∀ q, q < 36 → setRow N 21 (mixN (shH kd lim c e) (N 21) (D 4)) (20 + 1) q ≤ 9 := by
      intro q hq
      rw [hX.1 q hq]
      exact (m1.1 q hq).1
    have es : sumR (setRow N 21 (mixN (shH kd lim c e) (N 21) (D 4)) (20 + 1)) 36 = sumR (mixN (shH kd lim c e) (N 89) (D 0 * D 1)) (D 0 * D 1) := sum_eq hX m2 hF.1
    have t36 := fun Q => @t_36 ko d D (setRow (u2 (setRow N 21 (mixN (shH kd lim c e) (N 21) (D 4))) 86 0 0) 89 (mixN (shH kd lim c e) (N 89) (D 0 * D 1))) I J x Q 89 0 (Or.inl rfl) hF.1 (by omega)
    have e0 : (fun q => mixN (shH kd lim c e) (N 89) (D 0 * D 1) (0 + q)) = mixN (shH kd lim c e) (N 89) (D 0 * D 1) := by funext q; rw [Nat.zero_add]
    rw [setRow_s, e0] at t36
    simp (disch := (first | omega | exact aCat_8 (by with_unfolding_all rfl) | exact rk_lt (by with_unfolding_all rfl) | exact aCat_16 (by with_unfolding_all rfl) | exact rk_eq (by with_unfolding_all rfl) | assumption | exact b2n_lt _ | exact id_b (by with_unfolding_all rfl) | (simp (disch := omega) only [u2_same, u2_ab, u2_aq]; done) | (simp (disch := omega) only [u2_same, u2_ab, u2_aq]; omega) | fail)) only [al_10112, wp_iload_1, wz_lt_t, wz_lt_f, wm_lt_1, wm_lt_2, wk_3, wn_gt_t, wn_gt_f, wp_iload_2, wk_36, wn_le_t, wn_le_f, wp_jsr, al_10113, wk_m1, wp_ireturn, al_10114, wn_ge_t, wn_ge_f, wz_ge_t, wz_ge_f, wm_ge_1, wm_ge_2, wk_m2, al_10115, wn_ne_t, wn_ne_f, wk_0, wp_goto, al_10116, al_10117, wp_istore_5, wp_iload_3, wp_istore_6, wp_istore_7, wp_iload_7, wp_aloadr_0, wp_aloadk_0, hg_0_2, hg_5_2, hg_0_7, hg_20_0, ha_21l, ha_21s, hg_22_0, ha_23l, ha_23s, hg_24_0, ha_25l, ha_25s, wp_iload_5, wp_iload_6, wc_159, al_10119, al_10120, wp_iload_4, wp_iadd, wp_iinc_7_1, al_10121, wk_m3, al_10122, al_10123, nl_i, nl_r, nl_k, nl_j, nl_l, nI_add, pk_mul, pk_sub, tl_s, tl_n, aL_inl, u2_same, u2_ab, u2_aq, nI_l, lN_i, Nat.add_zero, Nat.zero_add, Nat.zero_le, true_and, and_true, b2n_10, b2n_T, b2n_F, b2n_0, Decidable.not_not, not_true_eq_false, not_false_eq_true, Nat.reduceAdd, Nat.reduceMul, Nat.reduceSub]
    rw [l158, al_10121]
    simp (disch := (first | omega | exact aCat_8 (by with_unfolding_all rfl) | exact rk_lt (by with_unfolding_all rfl) | exact aCat_16 (by with_unfolding_all rfl) | exact rk_eq (by with_unfolding_all rfl) | assumption | exact b2n_lt _ | exact id_b (by with_unfolding_all rfl) | (simp (disch := omega) only [u2_same, u2_ab, u2_aq]; done) | (simp (disch := omega) only [u2_same, u2_ab, u2_aq]; omega) | fail)) only [al_10112, wp_iload_1, wz_lt_t, wz_lt_f, wm_lt_1, wm_lt_2, wk_3, wn_gt_t, wn_gt_f, wp_iload_2, wk_36, wn_le_t, wn_le_f, wp_jsr, al_10113, wk_m1, wp_ireturn, al_10114, wn_ge_t, wn_ge_f, wz_ge_t, wz_ge_f, wm_ge_1, wm_ge_2, wk_m2, al_10115, wn_ne_t, wn_ne_f, wk_0, wp_goto, al_10116, al_10117, wp_istore_5, wp_iload_3, wp_istore_6, wp_istore_7, wp_iload_7, wp_aloadr_0, wp_aloadk_0, hg_0_2, hg_5_2, hg_0_7, hg_20_0, ha_21l, ha_21s, hg_22_0, ha_23l, ha_23s, hg_24_0, ha_25l, ha_25s, wp_iload_5, wp_iload_6, wc_159, al_10119, al_10120, wp_iload_4, wp_iadd, wp_iinc_7_1, al_10121, wk_m3, al_10122, al_10123, nl_i, nl_r, nl_k, nl_j, nl_l, nI_add, pk_mul, pk_sub, tl_s, tl_n, aL_inl, u2_same, u2_ab, u2_aq, nI_l, lN_i, Nat.add_zero, Nat.zero_add, Nat.zero_le, true_and, and_true, b2n_10, b2n_T, b2n_F, b2n_0, Decidable.not_not, not_true_eq_false, not_false_eq_true, Nat.reduceAdd, Nat.reduceMul, Nat.reduceSub, wc_282 (m := 20) rfl, t_282 (s := 20) rfl h9, es]
    rw [me_35]
    simp (disch := (first | omega | exact aCat_8 (by with_unfolding_all rfl) | exact rk_lt (by with_unfolding_all rfl) | exact aCat_16 (by with_unfolding_all rfl) | exact rk_eq (by with_unfolding_all rfl) | assumption | exact b2n_lt _ | exact id_b (by with_unfolding_all rfl) | (simp (disch := omega) only [u2_same, u2_ab, u2_aq]; done) | (simp (disch := omega) only [u2_same, u2_ab, u2_aq]; omega) | fail)) only [al_2240, wp_aloadr_0, wp_aloadk_0, wk_0, hp_86_0, wp_iload_1, wp_i2l, wl_0, wl_3, wc_4, t_4, lN_le, wz_eq_t, wz_eq_f, wb_eq_t, wb_eq_f, wm_eq_1, wm_eq_2, wp_iload_2, wk_36, wn_le_t, wn_le_f, wp_jsr, al_2241, wk_m1, wp_ireturn, al_2242, wk_3, wn_eq_t, wn_eq_f, wz_ge_t, wz_ge_f, wm_ge_1, wm_ge_2, wk_m2, al_2243, wp_iload_3, wp_istore_5, wp_istore_6, wp_iload_6, wc_10, t_10, wn_ge_t, wn_ge_f, wz_ne_t, wz_ne_f, wb_ne_t, wb_ne_f, wm_ne_1, wm_ne_2, wp_iload_5, wp_i2b, wp_goto, al_2245, wk_1, wn_ne_t, wn_ne_f, wp_i2s, al_2246, al_2247, wp_istore_7, hg_86_8, ha_89l, ha_89s, wn_lt_t, wn_lt_f, al_2248, al_2249, wk_9, wp_iload_7, wp_min, wp_max, al_2250, wp_iload_4, wp_iadd, wp_iinc_6_1, al_2251, wk_m3, al_2252, wc_36, al_2253, nl_i, nl_r, nl_k, nl_j, nl_l, nI_add, pk_mul, pk_sub, tl_s, tl_n, aL_inl, u2_same, u2_ab, u2_aq, nI_l, lN_i, Nat.add_zero, Nat.zero_add, Nat.zero_le, true_and, and_true, b2n_10, b2n_T, b2n_F, b2n_0, Decidable.not_not, not_true_eq_false, not_false_eq_true, Nat.reduceAdd, Nat.reduceMul, Nat.reduceSub, b2n_t hk2]
    obtain ⟨w', hx⟩ := l35 _ aJk (by omega)
    rw [hx, al_2251]
    simp (disch := (first | omega | exact aCat_8 (by with_unfolding_all rfl) | exact rk_lt (by with_unfolding_all rfl) | exact aCat_16 (by with_unfolding_all rfl) | exact rk_eq (by with_unfolding_all rfl) | assumption | exact b2n_lt _ | exact id_b (by with_unfolding_all rfl) | (simp (disch := omega) only [u2_same, u2_ab, u2_aq]; done) | (simp (disch := omega) only [u2_same, u2_ab, u2_aq]; omega) | fail)) only [al_2240, wp_aloadr_0, wp_aloadk_0, wk_0, hp_86_0, wp_iload_1, wp_i2l, wl_0, wl_3, wc_4, t_4, lN_le, wz_eq_t, wz_eq_f, wb_eq_t, wb_eq_f, wm_eq_1, wm_eq_2, wp_iload_2, wk_36, wn_le_t, wn_le_f, wp_jsr, al_2241, wk_m1, wp_ireturn, al_2242, wk_3, wn_eq_t, wn_eq_f, wz_ge_t, wz_ge_f, wm_ge_1, wm_ge_2, wk_m2, al_2243, wp_iload_3, wp_istore_5, wp_istore_6, wp_iload_6, wc_10, t_10, wn_ge_t, wn_ge_f, wz_ne_t, wz_ne_f, wb_ne_t, wb_ne_f, wm_ne_1, wm_ne_2, wp_iload_5, wp_i2b, wp_goto, al_2245, wk_1, wn_ne_t, wn_ne_f, wp_i2s, al_2246, al_2247, wp_istore_7, hg_86_8, ha_89l, ha_89s, wn_lt_t, wn_lt_f, al_2248, al_2249, wk_9, wp_iload_7, wp_min, wp_max, al_2250, wp_iload_4, wp_iadd, wp_iinc_6_1, al_2251, wk_m3, al_2252, wc_36, al_2253, nl_i, nl_r, nl_k, nl_j, nl_l, nI_add, pk_mul, pk_sub, tl_s, tl_n, aL_inl, u2_same, u2_ab, u2_aq, nI_l, lN_i, Nat.add_zero, Nat.zero_add, Nat.zero_le, true_and, and_true, b2n_10, b2n_T, b2n_F, b2n_0, Decidable.not_not, not_true_eq_false, not_false_eq_true, Nat.reduceAdd, Nat.reduceMul, Nat.reduceSub, t36]
    exact hfin (.int (nI (sumR (mixN (shH kd lim c e) (N 89) (D 0 * D 1)) (D 0 * D 1))))
theorem o_sheet {a b c e : Int32} (h : inv D N I J t) : opO ko d 158 35 [.int a, .int b, .int c, .int e] D N I J x (t + 300) := by
  rcases rng3 a 0 (b := 3) (by decide) (by decide) with ⟨kd, _, hk, rfl⟩ | hbad
  · by_cases h36 : b ≤ nI 36
    · by_cases hk3 : kd = 3
      · exact o_sheetG (lim := 0) h hk (by decide) (fun _ => ⟨rfl, h36⟩) (fun z => absurd z (by omega))
      · rcases rng3 b 0 (b := 36) (by decide) (by decide) with ⟨lim, _, hl, rfl⟩ | hbad
        · exact o_sheetG (lim := lim) h hk hl (fun z => absurd z hk3) (fun _ => rfl)
        · have hb0 : b < 0 := by
            rcases hbad with z | ⟨_, z⟩
            · exact z
            · exact absurd z (Int32.not_lt.mpr h36)
          have hb1 : ¬ 0 ≤ b := Int32.not_le.mpr hb0
          refine op_q (v := .int (-2)) h ?_ ?_
          · intro Q
            rw [me_158]
            simp (disch := (first | omega | exact aCat_8 (by with_unfolding_all rfl) | exact rk_lt (by with_unfolding_all rfl) | exact aCat_16 (by with_unfolding_all rfl) | exact rk_eq (by with_unfolding_all rfl) | assumption | exact b2n_lt _ | exact id_b (by with_unfolding_all rfl) | (simp (disch := omega) only [u2_same, u2_ab, u2_aq]; done) | (simp (disch := omega) only [u2_same, u2_ab, u2_aq]; omega) | fail)) only [al_10112, wp_iload_1, wz_lt_t, wz_lt_f, wm_lt_1, wm_lt_2, wk_3, wn_gt_t, wn_gt_f, wp_iload_2, wk_36, wn_le_t, wn_le_f, wp_jsr, al_10113, wk_m1, wp_ireturn, al_10114, wn_ge_t, wn_ge_f, wz_ge_t, wz_ge_f, wm_ge_1, wm_ge_2, wk_m2, al_10115, wn_ne_t, wn_ne_f, wk_0, wp_goto, al_10116, al_10117, wp_istore_5, wp_iload_3, wp_istore_6, wp_istore_7, wp_iload_7, wp_aloadr_0, wp_aloadk_0, hg_0_2, hg_5_2, hg_0_7, hg_20_0, ha_21l, ha_21s, hg_22_0, ha_23l, ha_23s, hg_24_0, ha_25l, ha_25s, wp_iload_5, wp_iload_6, wc_159, al_10119, al_10120, wp_iload_4, wp_iadd, wp_iinc_7_1, al_10121, wk_m3, al_10122, al_10123, nl_i, nl_r, nl_k, nl_j, nl_l, nI_add, pk_mul, pk_sub, tl_s, tl_n, aL_inl, u2_same, u2_ab, u2_aq, nI_l, lN_i, Nat.add_zero, Nat.zero_add, Nat.zero_le, true_and, and_true, b2n_10, b2n_T, b2n_F, b2n_0, Decidable.not_not, not_true_eq_false, not_false_eq_true, Nat.reduceAdd, Nat.reduceMul, Nat.reduceSub, wx_le_t h36, wy_ge_f hb1]
          · intro Q
            rw [me_35]
            simp (disch := (first | omega | exact aCat_8 (by with_unfolding_all rfl) | exact rk_lt (by with_unfolding_all rfl) | exact aCat_16 (by with_unfolding_all rfl) | exact rk_eq (by with_unfolding_all rfl) | assumption | exact b2n_lt _ | exact id_b (by with_unfolding_all rfl) | (simp (disch := omega) only [u2_same, u2_ab, u2_aq]; done) | (simp (disch := omega) only [u2_same, u2_ab, u2_aq]; omega) | fail)) only [al_2240, wp_aloadr_0, wp_aloadk_0, wk_0, hp_86_0, wp_iload_1, wp_i2l, wl_0, wl_3, wc_4, t_4, lN_le, wz_eq_t, wz_eq_f, wb_eq_t, wb_eq_f, wm_eq_1, wm_eq_2, wp_iload_2, wk_36, wn_le_t, wn_le_f, wp_jsr, al_2241, wk_m1, wp_ireturn, al_2242, wk_3, wn_eq_t, wn_eq_f, wz_ge_t, wz_ge_f, wm_ge_1, wm_ge_2, wk_m2, al_2243, wp_iload_3, wp_istore_5, wp_istore_6, wp_iload_6, wc_10, t_10, wn_ge_t, wn_ge_f, wz_ne_t, wz_ne_f, wb_ne_t, wb_ne_f, wm_ne_1, wm_ne_2, wp_iload_5, wp_i2b, wp_goto, al_2245, wk_1, wn_ne_t, wn_ne_f, wp_i2s, al_2246, al_2247, wp_istore_7, hg_86_8, ha_89l, ha_89s, wn_lt_t, wn_lt_f, al_2248, al_2249, wk_9, wp_iload_7, wp_min, wp_max, al_2250, wp_iload_4, wp_iadd, wp_iinc_6_1, al_2251, wk_m3, al_2252, wc_36, al_2253, nl_i, nl_r, nl_k, nl_j, nl_l, nI_add, pk_mul, pk_sub, tl_s, tl_n, aL_inl, u2_same, u2_ab, u2_aq, nI_l, lN_i, Nat.add_zero, Nat.zero_add, Nat.zero_le, true_and, and_true, b2n_10, b2n_T, b2n_F, b2n_0, Decidable.not_not, not_true_eq_false, not_false_eq_true, Nat.reduceAdd, Nat.reduceMul, Nat.reduceSub, wx_le_t h36, b2n_t hk, wy_ge_f hb1]
    · refine op_q (v := .int (-1)) h ?_ ?_
      · intro Q
        rw [me_158]
        simp (disch := (first | omega | exact aCat_8 (by with_unfolding_all rfl) | exact rk_lt (by with_unfolding_all rfl) | exact aCat_16 (by with_unfolding_all rfl) | exact rk_eq (by with_unfolding_all rfl) | assumption | exact b2n_lt _ | exact id_b (by with_unfolding_all rfl) | (simp (disch := omega) only [u2_same, u2_ab, u2_aq]; done) | (simp (disch := omega) only [u2_same, u2_ab, u2_aq]; omega) | fail)) only [al_10112, wp_iload_1, wz_lt_t, wz_lt_f, wm_lt_1, wm_lt_2, wk_3, wn_gt_t, wn_gt_f, wp_iload_2, wk_36, wn_le_t, wn_le_f, wp_jsr, al_10113, wk_m1, wp_ireturn, al_10114, wn_ge_t, wn_ge_f, wz_ge_t, wz_ge_f, wm_ge_1, wm_ge_2, wk_m2, al_10115, wn_ne_t, wn_ne_f, wk_0, wp_goto, al_10116, al_10117, wp_istore_5, wp_iload_3, wp_istore_6, wp_istore_7, wp_iload_7, wp_aloadr_0, wp_aloadk_0, hg_0_2, hg_5_2, hg_0_7, hg_20_0, ha_21l, ha_21s, hg_22_0, ha_23l, ha_23s, hg_24_0, ha_25l, ha_25s, wp_iload_5, wp_iload_6, wc_159, al_10119, al_10120, wp_iload_4, wp_iadd, wp_iinc_7_1, al_10121, wk_m3, al_10122, al_10123, nl_i, nl_r, nl_k, nl_j, nl_l, nI_add, pk_mul, pk_sub, tl_s, tl_n, aL_inl, u2_same, u2_ab, u2_aq, nI_l, lN_i, Nat.add_zero, Nat.zero_add, Nat.zero_le, true_and, and_true, b2n_10, b2n_T, b2n_F, b2n_0, Decidable.not_not, not_true_eq_false, not_false_eq_true, Nat.reduceAdd, Nat.reduceMul, Nat.reduceSub, wx_le_f h36]
      · intro Q
        rw [me_35]
        simp (disch := (first | omega | exact aCat_8 (by with_unfolding_all rfl) | exact rk_lt (by with_unfolding_all rfl) | exact aCat_16 (by with_unfolding_all rfl) | exact rk_eq (by with_unfolding_all rfl) | assumption | exact b2n_lt _ | exact id_b (by with_unfolding_all rfl) | (simp (disch := omega) only [u2_same, u2_ab, u2_aq]; done) | (simp (disch := omega) only [u2_same, u2_ab, u2_aq]; omega) | fail)) only [al_2240, wp_aloadr_0, wp_aloadk_0, wk_0, hp_86_0, wp_iload_1, wp_i2l, wl_0, wl_3, wc_4, t_4, lN_le, wz_eq_t, wz_eq_f, wb_eq_t, wb_eq_f, wm_eq_1, wm_eq_2, wp_iload_2, wk_36, wn_le_t, wn_le_f, wp_jsr, al_2241, wk_m1, wp_ireturn, al_2242, wk_3, wn_eq_t, wn_eq_f, wz_ge_t, wz_ge_f, wm_ge_1, wm_ge_2, wk_m2, al_2243, wp_iload_3, wp_istore_5, wp_istore_6, wp_iload_6, wc_10, t_10, wn_ge_t, wn_ge_f, wz_ne_t, wz_ne_f, wb_ne_t, wb_ne_f, wm_ne_1, wm_ne_2, wp_iload_5, wp_i2b, wp_goto, al_2245, wk_1, wn_ne_t, wn_ne_f, wp_i2s, al_2246, al_2247, wp_istore_7, hg_86_8, ha_89l, ha_89s, wn_lt_t, wn_lt_f, al_2248, al_2249, wk_9, wp_iload_7, wp_min, wp_max, al_2250, wp_iload_4, wp_iadd, wp_iinc_6_1, al_2251, wk_m3, al_2252, wc_36, al_2253, nl_i, nl_r, nl_k, nl_j, nl_l, nI_add, pk_mul, pk_sub, tl_s, tl_n, aL_inl, u2_same, u2_ab, u2_aq, nI_l, lN_i, Nat.add_zero, Nat.zero_add, Nat.zero_le, true_and, and_true, b2n_10, b2n_T, b2n_F, b2n_0, Decidable.not_not, not_true_eq_false, not_false_eq_true, Nat.reduceAdd, Nat.reduceMul, Nat.reduceSub, wx_le_f h36, b2n_t hk]
  · refine op_q (v := .int (-1)) h ?_ ?_
    · intro Q
      rw [me_158]
      rcases hbad with hb | ⟨hb1, hb2⟩
      · have hb' : a < 0 := hb
        simp (disch := (first | omega | exact aCat_8 (by with_unfolding_all rfl) | exact rk_lt (by with_unfolding_all rfl) | exact aCat_16 (by with_unfolding_all rfl) | exact rk_eq (by with_unfolding_all rfl) | assumption | exact b2n_lt _ | exact id_b (by with_unfolding_all rfl) | (simp (disch := omega) only [u2_same, u2_ab, u2_aq]; done) | (simp (disch := omega) only [u2_same, u2_ab, u2_aq]; omega) | fail)) only [al_10112, wp_iload_1, wz_lt_t, wz_lt_f, wm_lt_1, wm_lt_2, wk_3, wn_gt_t, wn_gt_f, wp_iload_2, wk_36, wn_le_t, wn_le_f, wp_jsr, al_10113, wk_m1, wp_ireturn, al_10114, wn_ge_t, wn_ge_f, wz_ge_t, wz_ge_f, wm_ge_1, wm_ge_2, wk_m2, al_10115, wn_ne_t, wn_ne_f, wk_0, wp_goto, al_10116, al_10117, wp_istore_5, wp_iload_3, wp_istore_6, wp_istore_7, wp_iload_7, wp_aloadr_0, wp_aloadk_0, hg_0_2, hg_5_2, hg_0_7, hg_20_0, ha_21l, ha_21s, hg_22_0, ha_23l, ha_23s, hg_24_0, ha_25l, ha_25s, wp_iload_5, wp_iload_6, wc_159, al_10119, al_10120, wp_iload_4, wp_iadd, wp_iinc_7_1, al_10121, wk_m3, al_10122, al_10123, nl_i, nl_r, nl_k, nl_j, nl_l, nI_add, pk_mul, pk_sub, tl_s, tl_n, aL_inl, u2_same, u2_ab, u2_aq, nI_l, lN_i, Nat.add_zero, Nat.zero_add, Nat.zero_le, true_and, and_true, b2n_10, b2n_T, b2n_F, b2n_0, Decidable.not_not, not_true_eq_false, not_false_eq_true, Nat.reduceAdd, Nat.reduceMul, Nat.reduceSub, wy_lt_t hb']
      · have hb' : ¬ a < 0 := hb1
        simp (disch := (first | omega | exact aCat_8 (by with_unfolding_all rfl) | exact rk_lt (by with_unfolding_all rfl) | exact aCat_16 (by with_unfolding_all rfl) | exact rk_eq (by with_unfolding_all rfl) | assumption | exact b2n_lt _ | exact id_b (by with_unfolding_all rfl) | (simp (disch := omega) only [u2_same, u2_ab, u2_aq]; done) | (simp (disch := omega) only [u2_same, u2_ab, u2_aq]; omega) | fail)) only [al_10112, wp_iload_1, wz_lt_t, wz_lt_f, wm_lt_1, wm_lt_2, wk_3, wn_gt_t, wn_gt_f, wp_iload_2, wk_36, wn_le_t, wn_le_f, wp_jsr, al_10113, wk_m1, wp_ireturn, al_10114, wn_ge_t, wn_ge_f, wz_ge_t, wz_ge_f, wm_ge_1, wm_ge_2, wk_m2, al_10115, wn_ne_t, wn_ne_f, wk_0, wp_goto, al_10116, al_10117, wp_istore_5, wp_iload_3, wp_istore_6, wp_istore_7, wp_iload_7, wp_aloadr_0, wp_aloadk_0, hg_0_2, hg_5_2, hg_0_7, hg_20_0, ha_21l, ha_21s, hg_22_0, ha_23l, ha_23s, hg_24_0, ha_25l, ha_25s, wp_iload_5, wp_iload_6, wc_159, al_10119, al_10120, wp_iload_4, wp_iadd, wp_iinc_7_1, al_10121, wk_m3, al_10122, al_10123, nl_i, nl_r, nl_k, nl_j, nl_l, nI_add, pk_mul, pk_sub, tl_s, tl_n, aL_inl, u2_same, u2_ab, u2_aq, nI_l, lN_i, Nat.add_zero, Nat.zero_add, Nat.zero_le, true_and, and_true, b2n_10, b2n_T, b2n_F, b2n_0, Decidable.not_not, not_true_eq_false, not_false_eq_true, Nat.reduceAdd, Nat.reduceMul, Nat.reduceSub, wy_lt_f hb', wx_gt_t hb2]
    · intro Q
      have hin := in_f (a := 0) (b := 3) (by decide) (by decide) hbad
      rw [me_35]
      simp (disch := (first | omega | exact aCat_8 (by with_unfolding_all rfl) | exact rk_lt (by with_unfolding_all rfl) | exact aCat_16 (by with_unfolding_all rfl) | exact rk_eq (by with_unfolding_all rfl) | assumption | exact b2n_lt _ | exact id_b (by with_unfolding_all rfl) | (simp (disch := omega) only [u2_same, u2_ab, u2_aq]; done) | (simp (disch := omega) only [u2_same, u2_ab, u2_aq]; omega) | fail)) only [al_2240, wp_aloadr_0, wp_aloadk_0, wk_0, hp_86_0, wp_iload_1, wp_i2l, wl_0, wl_3, wc_4, t_4, lN_le, wz_eq_t, wz_eq_f, wb_eq_t, wb_eq_f, wm_eq_1, wm_eq_2, wp_iload_2, wk_36, wn_le_t, wn_le_f, wp_jsr, al_2241, wk_m1, wp_ireturn, al_2242, wk_3, wn_eq_t, wn_eq_f, wz_ge_t, wz_ge_f, wm_ge_1, wm_ge_2, wk_m2, al_2243, wp_iload_3, wp_istore_5, wp_istore_6, wp_iload_6, wc_10, t_10, wn_ge_t, wn_ge_f, wz_ne_t, wz_ne_f, wb_ne_t, wb_ne_f, wm_ne_1, wm_ne_2, wp_iload_5, wp_i2b, wp_goto, al_2245, wk_1, wn_ne_t, wn_ne_f, wp_i2s, al_2246, al_2247, wp_istore_7, hg_86_8, ha_89l, ha_89s, wn_lt_t, wn_lt_f, al_2248, al_2249, wk_9, wp_iload_7, wp_min, wp_max, al_2250, wp_iload_4, wp_iadd, wp_iinc_6_1, al_2251, wk_m3, al_2252, wc_36, al_2253, nl_i, nl_r, nl_k, nl_j, nl_l, nI_add, pk_mul, pk_sub, tl_s, tl_n, aL_inl, u2_same, u2_ab, u2_aq, nI_l, lN_i, Nat.add_zero, Nat.zero_add, Nat.zero_le, true_and, and_true, b2n_10, b2n_T, b2n_F, b2n_0, Decidable.not_not, not_true_eq_false, not_false_eq_true, Nat.reduceAdd, Nat.reduceMul, Nat.reduceSub, b2n_f hin]
end S1
