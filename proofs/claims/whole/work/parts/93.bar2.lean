/-! bar: the class. From wip/whole/src. -/
theorem b_xor (x y : Int32) (i : Nat) : bt (x ^^^ y) i = (bt x i ^^ bt y i) := by unfold bt; rw [Int32.toBitVec_xor, BitVec.getLsbD_xor]
theorem b_m1 : ∀ i, i < 32 → bt (-1) i = true := by decide +kernel
theorem b_one : ∀ i, i < 32 → bt (nI 1) i = decide (i = 0) := by decide +kernel
theorem b_p2 {g i : Nat} (hg : g < 32) (hi : i < 32) : bt (nI 1 <<< (nI g &&& 31)) i = decide (i = g) := by
  rw [b_shl g hg _ hi]
  by_cases h : g ≤ i
  · rw [b_one _ (by omega)]
    by_cases e : i = g
    · subst e; simp
    · have : ¬ i - g = 0 := by omega
      simp [e, this]
  · have : ¬ i = g := by omega
    simp [h, this]
theorem b_zero (i : Nat) : bt 0 i = false := by
  show (0#32).getLsbD i = false
  exact BitVec.getLsbD_zero
/-- the set of winning shares, as the class keeps it -/
def bwS (lim h : Nat) (v : Int32) : Prop := ∀ i, i < 32 → bt v i = (decide (i < 10) && bwn lim h i)
theorem bw_rest {lim h g : Nat} {v : Int32} (hg : g < 10) (hv : bwS lim h v) : (v &&& (nI 1 <<< (nI g &&& 31) ^^^ (-1)) = 0) ↔ ∀ b, b < 10 → b ≠ g → bwn lim h b = false := by
  have hb : ∀ i, i < 32 → bt (v &&& (nI 1 <<< (nI g &&& 31) ^^^ (-1))) i = ((decide (i < 10) && bwn lim h i) && !(decide (i = g))) := by
    intro i hi
    rw [b_and, b_xor, b_p2 (by omega) hi, b_m1 i hi, hv i hi]
    simp
  constructor
  · intro e b hb10 hne
    have := hb b (by omega)
    rw [e, b_zero] at this
    simp [hb10, hne] at this
    exact this
  · intro hall
    apply b_ext
    intro i hi
    rw [hb i hi, b_zero]
    by_cases h10 : i < 10
    · by_cases e : i = g
      · simp [e]
      · rw [hall i h10 e]; simp
    · simp [h10]
section B2
variable {ko : aKo} {d k : Nat} {is : List Instr} {ls st : List Value} {σ : aH} {D : Nat → Nat} {N : Nat → Nat → Nat} {I : Nat → Nat → Int32} {J : Nat → Nat → Int64} {x t : Nat} {Q : Option Value → aH → Prop} {P : (Option Value ⊕ Unit) → aH → Prop}
theorem bw_out {lim h g : Nat} (hg : lim < g ∨ h < g) : bwn lim h g = false := by
  cases hq : bwn lim h g with
  | false => rfl
  | true =>
    have := (bwn_iff.mp hq).1
    omega
theorem bw_end {lim h g : Nat} {m : Int32} (hm : ∀ i, i < 32 → bt m i = (decide (i < g) && (decide (i < 10) && bwn lim h i))) (hg : lim < g ∨ h < g) : bwS lim h m := by
  intro i hi
  rw [hm i hi]
  by_cases z : i < g
  · simp [z]
  · rw [bw_out (lim := lim) (h := h) (g := i) (by omega)]
    simp
theorem l_210i {H lim h : Nat} (hH : H ≤ 60) (hl : lim ≤ 9) (hh : h ≤ H) (hI : ∀ a, a < h → bwS lim a (I 78 a))
    (hK : ∀ (m : Int32) (g : Nat) (w : Value), bwS lim h m → aWp ko d 210 (aP.1 (Int.toNat 13449)) [.ref 0, .int (nI H), .int (nI lim), .int (nI h), .int m, .int (nI g), w] [] (hp D N I J x) (aL Q)) :
    ∀ (j g : Nat) (m : Int32) (w : Value), g + j = 10 → 1 ≤ g → (∀ i, i < 32 → bt m i = (decide (i < g) && (decide (i < 10) && bwn lim h i))) → aWp ko d 210 (aP.1 (Int.toNat 13444)) [.ref 0, .int (nI H), .int (nI lim), .int (nI h), .int m, .int (nI g), w] [] (hp D N I J x) (aL Q) := by
  intro j
  induction j with
  | zero =>
    intro g m w hg h1 hm
    have hgl : lim < g := by omega
    simp (disch := (first | omega | exact aCat_8 (by with_unfolding_all rfl) | exact rk_lt (by with_unfolding_all rfl) | exact aCat_16 (by with_unfolding_all rfl) | exact rk_eq (by with_unfolding_all rfl) | assumption | exact b2n_lt _ | exact id_b (by with_unfolding_all rfl) | (simp (disch := omega) only [u2_same, u2_ab, u2_aq]; done) | (simp (disch := omega) only [u2_same, u2_ab, u2_aq]; omega) | fail)) only [al_13440, wp_iload_1, wz_lt_t, wz_lt_f, wm_lt_1, wm_lt_2, wk_60, wn_gt_t, wn_gt_f, wp_iload_2, wk_1, wn_lt_t, wn_lt_f, wk_9, wn_le_t, wn_le_f, wp_jsr, al_13441, wk_m1, wp_ireturn, al_13442, wk_0, wp_istore_3, wp_iload_3, wp_istore_4, wp_istore_5, al_13444, wp_iload_5, wp_aloadr_0, wp_aloadk_0, hg_0_18, ha_78l, ha_78s, wp_isub, wp_ishl, wp_ixor, wp_iand, wz_eq_t, wz_eq_f, wb_eq_t, wb_eq_f, wm_eq_1, wm_eq_2, wp_goto, al_13445, al_13446, wp_istore_6, wp_iload_4, wp_iload_6, al_13447, al_13448, wp_ior, wp_iinc_5_1, wp_iinc_3_1, al_13450, wz_ne_t, wz_ne_f, wb_ne_t, wb_ne_f, wm_ne_1, wm_ne_2, al_13451, wc_120, al_13452, nl_i, nl_r, nl_k, nl_j, nl_l, nI_add, pk_mul, pk_sub, tl_s, tl_n, aL_inl, u2_same, u2_ab, u2_aq, nI_l, lN_i, Nat.add_zero, Nat.zero_add, Nat.zero_le, true_and, and_true, b2n_10, b2n_T, b2n_F, b2n_0, Decidable.not_not, not_true_eq_false, not_false_eq_true, Nat.reduceAdd, Nat.reduceMul, Nat.reduceSub]
    exact hK m g w (bw_end hm (Or.inl hgl))
  | succ j ih =>
    intro g m w hg h1 hm
    rw [al_13444]
    by_cases hgl : lim < g
    · simp (disch := (first | omega | exact aCat_8 (by with_unfolding_all rfl) | exact rk_lt (by with_unfolding_all rfl) | exact aCat_16 (by with_unfolding_all rfl) | exact rk_eq (by with_unfolding_all rfl) | assumption | exact b2n_lt _ | exact id_b (by with_unfolding_all rfl) | (simp (disch := omega) only [u2_same, u2_ab, u2_aq]; done) | (simp (disch := omega) only [u2_same, u2_ab, u2_aq]; omega) | fail)) only [al_13440, wp_iload_1, wz_lt_t, wz_lt_f, wm_lt_1, wm_lt_2, wk_60, wn_gt_t, wn_gt_f, wp_iload_2, wk_1, wn_lt_t, wn_lt_f, wk_9, wn_le_t, wn_le_f, wp_jsr, al_13441, wk_m1, wp_ireturn, al_13442, wk_0, wp_istore_3, wp_iload_3, wp_istore_4, wp_istore_5, wp_iload_5, wp_aloadr_0, wp_aloadk_0, hg_0_18, ha_78l, ha_78s, wp_isub, wp_ishl, wp_ixor, wp_iand, wz_eq_t, wz_eq_f, wb_eq_t, wb_eq_f, wm_eq_1, wm_eq_2, wp_goto, al_13445, al_13446, wp_istore_6, wp_iload_4, wp_iload_6, al_13447, al_13448, wp_ior, wp_iinc_5_1, wp_iinc_3_1, al_13450, wz_ne_t, wz_ne_f, wb_ne_t, wb_ne_f, wm_ne_1, wm_ne_2, al_13451, wc_120, al_13452, nl_i, nl_r, nl_k, nl_j, nl_l, nI_add, pk_mul, pk_sub, tl_s, tl_n, aL_inl, u2_same, u2_ab, u2_aq, nI_l, lN_i, Nat.add_zero, Nat.zero_add, Nat.zero_le, true_and, and_true, b2n_10, b2n_T, b2n_F, b2n_0, Decidable.not_not, not_true_eq_false, not_false_eq_true, Nat.reduceAdd, Nat.reduceMul, Nat.reduceSub]
      exact hK m g w (bw_end hm (Or.inl hgl))
    · by_cases hgh : h < g
      · simp (disch := (first | omega | exact aCat_8 (by with_unfolding_all rfl) | exact rk_lt (by with_unfolding_all rfl) | exact aCat_16 (by with_unfolding_all rfl) | exact rk_eq (by with_unfolding_all rfl) | assumption | exact b2n_lt _ | exact id_b (by with_unfolding_all rfl) | (simp (disch := omega) only [u2_same, u2_ab, u2_aq]; done) | (simp (disch := omega) only [u2_same, u2_ab, u2_aq]; omega) | fail)) only [al_13440, wp_iload_1, wz_lt_t, wz_lt_f, wm_lt_1, wm_lt_2, wk_60, wn_gt_t, wn_gt_f, wp_iload_2, wk_1, wn_lt_t, wn_lt_f, wk_9, wn_le_t, wn_le_f, wp_jsr, al_13441, wk_m1, wp_ireturn, al_13442, wk_0, wp_istore_3, wp_iload_3, wp_istore_4, wp_istore_5, wp_iload_5, wp_aloadr_0, wp_aloadk_0, hg_0_18, ha_78l, ha_78s, wp_isub, wp_ishl, wp_ixor, wp_iand, wz_eq_t, wz_eq_f, wb_eq_t, wb_eq_f, wm_eq_1, wm_eq_2, wp_goto, al_13445, al_13446, wp_istore_6, wp_iload_4, wp_iload_6, al_13447, al_13448, wp_ior, wp_iinc_5_1, wp_iinc_3_1, al_13450, wz_ne_t, wz_ne_f, wb_ne_t, wb_ne_f, wm_ne_1, wm_ne_2, al_13451, wc_120, al_13452, nl_i, nl_r, nl_k, nl_j, nl_l, nI_add, pk_mul, pk_sub, tl_s, tl_n, aL_inl, u2_same, u2_ab, u2_aq, nI_l, lN_i, Nat.add_zero, Nat.zero_add, Nat.zero_le, true_and, and_true, b2n_10, b2n_T, b2n_F, b2n_0, Decidable.not_not, not_true_eq_false, not_false_eq_true, Nat.reduceAdd, Nat.reduceMul, Nat.reduceSub]
        exact hK m g w (bw_end hm (Or.inr hgh))
      · have hsub : h - g < 61 := by omega
        have hset := hI (h - g) (by omega)
        have hbr := bw_rest (g := g) (by omega) hset
        by_cases z : I 78 (h - g) &&& (nI 1 <<< (nI g &&& 31) ^^^ (-1)) = 0
        · have hw : bwn lim h g = true := bwn_iff.mpr ⟨⟨h1, by omega, by omega⟩, hbr.mp z⟩
          simp (disch := (first | omega | exact aCat_8 (by with_unfolding_all rfl) | exact rk_lt (by with_unfolding_all rfl) | exact aCat_16 (by with_unfolding_all rfl) | exact rk_eq (by with_unfolding_all rfl) | assumption | exact b2n_lt _ | exact id_b (by with_unfolding_all rfl) | (simp (disch := omega) only [u2_same, u2_ab, u2_aq]; done) | (simp (disch := omega) only [u2_same, u2_ab, u2_aq]; omega) | fail)) only [al_13440, wp_iload_1, wz_lt_t, wz_lt_f, wm_lt_1, wm_lt_2, wk_60, wn_gt_t, wn_gt_f, wp_iload_2, wk_1, wn_lt_t, wn_lt_f, wk_9, wn_le_t, wn_le_f, wp_jsr, al_13441, wk_m1, wp_ireturn, al_13442, wk_0, wp_istore_3, wp_iload_3, wp_istore_4, wp_istore_5, wp_iload_5, wp_aloadr_0, wp_aloadk_0, hg_0_18, ha_78l, ha_78s, wp_isub, wp_ishl, wp_ixor, wp_iand, wz_eq_t, wz_eq_f, wb_eq_t, wb_eq_f, wm_eq_1, wm_eq_2, wp_goto, al_13445, al_13446, wp_istore_6, wp_iload_4, wp_iload_6, al_13447, al_13448, wp_ior, wp_iinc_5_1, wp_iinc_3_1, al_13450, wz_ne_t, wz_ne_f, wb_ne_t, wb_ne_f, wm_ne_1, wm_ne_2, al_13451, wc_120, al_13452, nl_i, nl_r, nl_k, nl_j, nl_l, nI_add, pk_mul, pk_sub, tl_s, tl_n, aL_inl, u2_same, u2_ab, u2_aq, nI_l, lN_i, Nat.add_zero, Nat.zero_add, Nat.zero_le, true_and, and_true, b2n_10, b2n_T, b2n_F, b2n_0, Decidable.not_not, not_true_eq_false, not_false_eq_true, Nat.reduceAdd, Nat.reduceMul, Nat.reduceSub, wy_eq_t z]
          refine ih (g + 1) _ _ (by omega) (by omega) ?_
          intro i hi
          rw [b_or, b_p2 (by omega) hi, hm i hi]
          by_cases e : i = g
          · subst e
            have : i < 10 := by omega
            simp [hw, this]
          · by_cases l : i < g
            · have : i < g + 1 := by omega
              simp [e, l, this]
            · have : ¬ i < g + 1 := by omega
              simp [e, l, this]
        · have hw : bwn lim h g = false := by
            cases hq : bwn lim h g with
            | false => rfl
            | true => exact absurd (hbr.mpr (bwn_iff.mp hq).2) z
          simp (disch := (first | omega | exact aCat_8 (by with_unfolding_all rfl) | exact rk_lt (by with_unfolding_all rfl) | exact aCat_16 (by with_unfolding_all rfl) | exact rk_eq (by with_unfolding_all rfl) | assumption | exact b2n_lt _ | exact id_b (by with_unfolding_all rfl) | (simp (disch := omega) only [u2_same, u2_ab, u2_aq]; done) | (simp (disch := omega) only [u2_same, u2_ab, u2_aq]; omega) | fail)) only [al_13440, wp_iload_1, wz_lt_t, wz_lt_f, wm_lt_1, wm_lt_2, wk_60, wn_gt_t, wn_gt_f, wp_iload_2, wk_1, wn_lt_t, wn_lt_f, wk_9, wn_le_t, wn_le_f, wp_jsr, al_13441, wk_m1, wp_ireturn, al_13442, wk_0, wp_istore_3, wp_iload_3, wp_istore_4, wp_istore_5, wp_iload_5, wp_aloadr_0, wp_aloadk_0, hg_0_18, ha_78l, ha_78s, wp_isub, wp_ishl, wp_ixor, wp_iand, wz_eq_t, wz_eq_f, wb_eq_t, wb_eq_f, wm_eq_1, wm_eq_2, wp_goto, al_13445, al_13446, wp_istore_6, wp_iload_4, wp_iload_6, al_13447, al_13448, wp_ior, wp_iinc_5_1, wp_iinc_3_1, al_13450, wz_ne_t, wz_ne_f, wb_ne_t, wb_ne_f, wm_ne_1, wm_ne_2, al_13451, wc_120, al_13452, nl_i, nl_r, nl_k, nl_j, nl_l, nI_add, pk_mul, pk_sub, tl_s, tl_n, aL_inl, u2_same, u2_ab, u2_aq, nI_l, lN_i, Nat.add_zero, Nat.zero_add, Nat.zero_le, true_and, and_true, b2n_10, b2n_T, b2n_F, b2n_0, Decidable.not_not, not_true_eq_false, not_false_eq_true, Nat.reduceAdd, Nat.reduceMul, Nat.reduceSub, wy_eq_f z]
          refine ih (g + 1) _ _ (by omega) (by omega) ?_
          intro i hi
          have e0 : bt (nI 0) i = false := b_zero i
          rw [b_or, e0, hm i hi, Bool.or_false]
          by_cases e : i = g
          · subst e
            simp [hw]
          · by_cases l : i < g
            · have : i < g + 1 := by omega
              simp [l, this]
            · have : ¬ i < g + 1 := by omega
              simp [l, this]
theorem l_210 {H lim : Nat} {I0 : Nat → Nat → Int32} (hH : H ≤ 60) (hl : lim ≤ 9)
    (hQ : ∀ (I : Nat → Nat → Int32) (h : Nat) (w4 w5 w6 : Value), sI I I0 → bwS lim H (I 78 H) → aWp ko d 210 (aP.1 (Int.toNat 13450)) [.ref 0, .int (nI H), .int (nI lim), .int (nI h), w4, w5, w6] [] (hp D N I J x) (aL Q)) :
    ∀ (j h : Nat) (I : Nat → Nat → Int32) (w4 w5 w6 : Value), h + j = H + 1 → sI I I0 → (∀ a, a < h → bwS lim a (I 78 a)) → aWp ko d 210 (aP.1 (Int.toNat 13443)) [.ref 0, .int (nI H), .int (nI lim), .int (nI h), w4, w5, w6] [] (hp D N I J x) (aL Q) := by
  intro j
  induction j with
  | zero =>
    intro h I w4 w5 w6 hj hs hI
    have e : h = H + 1 := by omega
    subst e
    simp (disch := (first | omega | exact aCat_8 (by with_unfolding_all rfl) | exact rk_lt (by with_unfolding_all rfl) | exact aCat_16 (by with_unfolding_all rfl) | exact rk_eq (by with_unfolding_all rfl) | assumption | exact b2n_lt _ | exact id_b (by with_unfolding_all rfl) | (simp (disch := omega) only [u2_same, u2_ab, u2_aq]; done) | (simp (disch := omega) only [u2_same, u2_ab, u2_aq]; omega) | fail)) only [al_13440, wp_iload_1, wz_lt_t, wz_lt_f, wm_lt_1, wm_lt_2, wk_60, wn_gt_t, wn_gt_f, wp_iload_2, wk_1, wn_lt_t, wn_lt_f, wk_9, wn_le_t, wn_le_f, wp_jsr, al_13441, wk_m1, wp_ireturn, al_13442, wk_0, wp_istore_3, al_13443, wp_iload_3, wp_istore_4, wp_istore_5, wp_iload_5, wp_aloadr_0, wp_aloadk_0, hg_0_18, ha_78l, ha_78s, wp_isub, wp_ishl, wp_ixor, wp_iand, wz_eq_t, wz_eq_f, wb_eq_t, wb_eq_f, wm_eq_1, wm_eq_2, wp_goto, al_13445, al_13446, wp_istore_6, wp_iload_4, wp_iload_6, al_13447, al_13448, wp_ior, wp_iinc_5_1, al_13449, wp_iinc_3_1, wz_ne_t, wz_ne_f, wb_ne_t, wb_ne_f, wm_ne_1, wm_ne_2, al_13451, wc_120, al_13452, nl_i, nl_r, nl_k, nl_j, nl_l, nI_add, pk_mul, pk_sub, tl_s, tl_n, aL_inl, u2_same, u2_ab, u2_aq, nI_l, lN_i, Nat.add_zero, Nat.zero_add, Nat.zero_le, true_and, and_true, b2n_10, b2n_T, b2n_F, b2n_0, Decidable.not_not, not_true_eq_false, not_false_eq_true, Nat.reduceAdd, Nat.reduceMul, Nat.reduceSub]
    exact hQ I _ w4 w5 w6 hs (hI H (by omega))
  | succ j ih =>
    intro h I w4 w5 w6 hj hs hI
    rw [al_13443]
    simp (disch := (first | omega | exact aCat_8 (by with_unfolding_all rfl) | exact rk_lt (by with_unfolding_all rfl) | exact aCat_16 (by with_unfolding_all rfl) | exact rk_eq (by with_unfolding_all rfl) | assumption | exact b2n_lt _ | exact id_b (by with_unfolding_all rfl) | (simp (disch := omega) only [u2_same, u2_ab, u2_aq]; done) | (simp (disch := omega) only [u2_same, u2_ab, u2_aq]; omega) | fail)) only [al_13440, wp_iload_1, wz_lt_t, wz_lt_f, wm_lt_1, wm_lt_2, wk_60, wn_gt_t, wn_gt_f, wp_iload_2, wk_1, wn_lt_t, wn_lt_f, wk_9, wn_le_t, wn_le_f, wp_jsr, al_13441, wk_m1, wp_ireturn, al_13442, wk_0, wp_istore_3, wp_iload_3, wp_istore_4, wp_istore_5, wp_iload_5, wp_aloadr_0, wp_aloadk_0, hg_0_18, ha_78l, ha_78s, wp_isub, wp_ishl, wp_ixor, wp_iand, wz_eq_t, wz_eq_f, wb_eq_t, wb_eq_f, wm_eq_1, wm_eq_2, wp_goto, al_13445, al_13446, wp_istore_6, wp_iload_4, wp_iload_6, al_13447, al_13448, wp_ior, wp_iinc_5_1, al_13449, wp_iinc_3_1, al_13450, wz_ne_t, wz_ne_f, wb_ne_t, wb_ne_f, wm_ne_1, wm_ne_2, al_13451, wc_120, al_13452, nl_i, nl_r, nl_k, nl_j, nl_l, nI_add, pk_mul, pk_sub, tl_s, tl_n, aL_inl, u2_same, u2_ab, u2_aq, nI_l, lN_i, Nat.add_zero, Nat.zero_add, Nat.zero_le, true_and, and_true, b2n_10, b2n_T, b2n_F, b2n_0, Decidable.not_not, not_true_eq_false, not_false_eq_true, Nat.reduceAdd, Nat.reduceMul, Nat.reduceSub]
    refine l_210i hH hl (by omega) hI ?_ 9 1 _ _ rfl (Nat.le_refl _) ?_
    · intro m g w hm
      rw [al_13449]
      simp (disch := (first | omega | exact aCat_8 (by with_unfolding_all rfl) | exact rk_lt (by with_unfolding_all rfl) | exact aCat_16 (by with_unfolding_all rfl) | exact rk_eq (by with_unfolding_all rfl) | assumption | exact b2n_lt _ | exact id_b (by with_unfolding_all rfl) | (simp (disch := omega) only [u2_same, u2_ab, u2_aq]; done) | (simp (disch := omega) only [u2_same, u2_ab, u2_aq]; omega) | fail)) only [al_13440, wp_iload_1, wz_lt_t, wz_lt_f, wm_lt_1, wm_lt_2, wk_60, wn_gt_t, wn_gt_f, wp_iload_2, wk_1, wn_lt_t, wn_lt_f, wk_9, wn_le_t, wn_le_f, wp_jsr, al_13441, wk_m1, wp_ireturn, al_13442, wk_0, wp_istore_3, wp_iload_3, wp_istore_4, wp_istore_5, wp_iload_5, wp_aloadr_0, wp_aloadk_0, hg_0_18, ha_78l, ha_78s, wp_isub, wp_ishl, wp_ixor, wp_iand, wz_eq_t, wz_eq_f, wb_eq_t, wb_eq_f, wm_eq_1, wm_eq_2, wp_goto, al_13445, al_13446, wp_istore_6, wp_iload_4, wp_iload_6, al_13447, al_13448, wp_ior, wp_iinc_5_1, al_13449, wp_iinc_3_1, al_13450, wz_ne_t, wz_ne_f, wb_ne_t, wb_ne_f, wm_ne_1, wm_ne_2, al_13451, wc_120, al_13452, nl_i, nl_r, nl_k, nl_j, nl_l, nI_add, pk_mul, pk_sub, tl_s, tl_n, aL_inl, u2_same, u2_ab, u2_aq, nI_l, lN_i, Nat.add_zero, Nat.zero_add, Nat.zero_le, true_and, and_true, b2n_10, b2n_T, b2n_F, b2n_0, Decidable.not_not, not_true_eq_false, not_false_eq_true, Nat.reduceAdd, Nat.reduceMul, Nat.reduceSub]
      refine ih (h + 1) _ _ _ _ (by omega) (sI_u hs rfl) ?_
      intro a ha
      by_cases e : a = h
      · subst e
        rw [u2_same]
        exact hm
      · rw [u2_aq e]
        exact hI a (by omega)
    · intro i hi
      have e0 : bt (nI 0) i = false := b_zero i
      rw [e0]
      by_cases z : i < 1
      · have : i = 0 := by omega
        subst this
        have : bwn lim h 0 = false := by
          cases hq : bwn lim h 0 with
          | false => rfl
          | true =>
            have := (bwn_iff.mp hq).1.1
            omega
        simp [this]
      · simp [z]
end B2
