/-! year: the reference's whole call. From wip/whole/src. -/
section ZA
variable {ko : aKo} {d k : Nat} {is : List Instr} {ls st : List Value} {σ : aH} {D : Nat → Nat} {N : Nat → Nat → Nat} {I : Nat → Nat → Int32} {J : Nat → Nat → Int64} {x t : Nat} {Q : Option Value → aH → Prop} {P : (Option Value ⊕ Unit) → aH → Prop}
theorem gd_yw {T : Nat → Nat} {e a : Nat} (hg : gdA T e a) (ha : psA T a = e) : ∀ j i f, i + j = a → e - psA T i < f → yrW T e f (psA T i) = none := by
  intro j
  induction j with
  | zero =>
    intro i f hi hf
    have ei : i = a := by omega
    subst ei
    cases f with
    | zero => omega
    | succ f => rw [yrW, if_pos (by omega)]
  | succ j ih =>
    intro i f hi hf
    cases f with
    | zero => omega
    | succ f =>
      obtain ⟨g1, g2⟩ := hg i (by omega)
      rw [yw_s g1, g2]
      have := ih (i + 1) f (by omega) (by rw [psA]; omega)
      rw [psA] at this
      exact this
/-- a text was read -/
def rdT (N' N1 : Nat → Nat → Nat) : Prop := N' 86 11 = 0 ∧ ∀ b q, b ≠ 92 → ¬ (b = 86 ∧ (q = 0 ∨ q = 11 ∨ q = 12 ∨ q = 13 ∨ q = 14 ∨ q = 32)) → N' b q = N1 b q
theorem rd_T {N1 N' : Nat → Nat → Nat} {a n p : Nat} (h : txR (u2 (u2 N1 86 0 0) 86 32 a) N' n p) : rdT N' N1 := ⟨h.2.2.1, fun b q z1 z2 => by rw [h.2.2.2 b q z1 (by omega), u2_rd, if_neg (by omega), u2_rd, if_neg (by omega)]⟩
/-- the reference reads the text of a year -/
theorem r_54a {N1 : Nat → Nat → Nat} {I1 : Nat → Nat → Int32} {J1 : Nat → Nat → Int64} (hk : koT ko) (h : invB D N I J t) (h86 : ∀ b q, 86 ≤ b → N1 b q = N b q)
    (hW : ∀ (a : Nat) (N' : Nat → Nat → Nat) (I' : Nat → Nat → Int32), N 86 11 ≤ 60 → psA (N 91) a = N 86 11 → gdA (N 91) (N 86 11) a → rdT N' N1 → N' 86 32 = a → (∀ b q, ¬ (100 ≤ b ∧ b ≤ 103) → I' b q = I1 b q) → (∀ i, i < a → acR (N 91) (psA (N 91) i) i I') → aWp ko d 54 (aP.1 (Int.toNat 3459)) [.ref 86, .int (nI (N 86 11)), .int (nI 1), .int (nI 0), .float 0] [] (hp D N' I' J1 x) (aL Q))
    (hF : ¬ (N 86 11 ≤ 60 ∧ yrW (N 91) (min (N 86 11) 60) 61 0 = none) → ∀ (N' : Nat → Nat → Nat) (I' : Nat → Nat → Int32), rdT N' N1 → (∀ b q, ¬ (100 ≤ b ∧ b ≤ 103) → I' b q = I1 b q) → Q (some (.int (-1 - yrA' (N 86 11) (yrW (N 91) (min (N 86 11) 60) 61 0)))) (hp D N' I' J1 x)) : aMm ko d 54 [.ref 86] (hp D N1 I1 J1 x) Q := by
  obtain ⟨t1, t2, t3⟩ := h.2.1
  have e91 : u2 N1 86 0 0 91 = N 91 := by
    rw [u2_nb (by decide)]
    funext q
    exact h86 91 q (by decide)
  rw [me_54]
  simp (disch := (first | omega | exact aCat_8 (by with_unfolding_all rfl) | exact rk_lt (by with_unfolding_all rfl) | exact aCat_16 (by with_unfolding_all rfl) | exact rk_eq (by with_unfolding_all rfl) | assumption | exact b2n_lt _ | exact id_b (by with_unfolding_all rfl) | (simp (disch := omega) only [u2_same, u2_ab, u2_aq]; done) | (simp (disch := omega) only [u2_same, u2_ab, u2_aq]; omega) | fail)) only [al_3456, wp_aloadr_0, wp_aloadk_0, wk_0, hp_86_0, wk_60, wc_6, wp_istore_1, hp_86_32, wk_1, wp_istore_2, wp_jsr, wp_iload_2, wz_eq_t, wz_eq_f, wb_eq_t, wb_eq_f, wm_eq_1, wm_eq_2, hg_86_12, hg_86_13, wn_ge_t, wn_ge_f, wc_55, wp_goto, al_3458, wp_iload_1, wc_20, wp_istore_3, wp_iload_3, wz_ge_t, wz_ge_f, wm_ge_1, wm_ge_2, wp_ireturn, al_3459, wc_39, wp_istore_4, wp_iload_4, hg_86_32, wc_56, wp_iinc_4_1, al_3461, hp_86_1, al_3462, al_3463, wc_17, t_17, wp_i2l, wc_43, t_43, hg_86_8, ha_89l, ha_89s, wk_109, wz_le_t, wz_le_f, wm_le_1, wm_le_2, wc_44, al_3464, al_3465, nl_i, nl_r, nl_k, nl_j, nl_l, nI_add, pk_mul, pk_sub, tl_s, tl_n, aL_inl, u2_same, u2_ab, u2_aq, nI_l, lN_i, Nat.add_zero, Nat.zero_add, Nat.zero_le, true_and, and_true, b2n_10, b2n_T, b2n_F, b2n_0, Decidable.not_not, not_true_eq_false, not_false_eq_true, Nat.reduceAdd, Nat.reduceMul, Nat.reduceSub]
  refine t_6g (n := N 86 11) (by rw [u2_aq (by decide)]; exact h86 86 11 (by decide)) t2 (by decide) ?_
  intro N2 hT2
  simp (disch := (first | omega | exact aCat_8 (by with_unfolding_all rfl) | exact rk_lt (by with_unfolding_all rfl) | exact aCat_16 (by with_unfolding_all rfl) | exact rk_eq (by with_unfolding_all rfl) | assumption | exact b2n_lt _ | exact id_b (by with_unfolding_all rfl) | (simp (disch := omega) only [u2_same, u2_ab, u2_aq]; done) | (simp (disch := omega) only [u2_same, u2_ab, u2_aq]; omega) | fail)) only [al_3456, wp_aloadr_0, wp_aloadk_0, wk_0, hp_86_0, wk_60, wc_6, wp_istore_1, hp_86_32, wk_1, wp_istore_2, wp_jsr, wp_iload_2, wz_eq_t, wz_eq_f, wb_eq_t, wb_eq_f, wm_eq_1, wm_eq_2, hg_86_12, hg_86_13, wn_ge_t, wn_ge_f, wc_55, wp_goto, al_3458, wp_iload_1, wc_20, wp_istore_3, wp_iload_3, wz_ge_t, wz_ge_f, wm_ge_1, wm_ge_2, wp_ireturn, al_3459, wc_39, wp_istore_4, wp_iload_4, hg_86_32, wc_56, wp_iinc_4_1, al_3461, hp_86_1, al_3462, al_3463, wc_17, t_17, wp_i2l, wc_43, t_43, hg_86_8, ha_89l, ha_89s, wk_109, wz_le_t, wz_le_f, wm_le_1, wm_le_2, wc_44, al_3464, al_3465, nl_i, nl_r, nl_k, nl_j, nl_l, nI_add, pk_mul, pk_sub, tl_s, tl_n, aL_inl, u2_same, u2_ab, u2_aq, nI_l, lN_i, Nat.add_zero, Nat.zero_add, Nat.zero_le, true_and, and_true, b2n_10, b2n_T, b2n_F, b2n_0, Decidable.not_not, not_true_eq_false, not_false_eq_true, Nat.reduceAdd, Nat.reduceMul, Nat.reduceSub]
  have hT0 : txR (u2 (u2 N1 86 0 0) 86 32 0) (u2 N2 86 32 0) (min (N 86 11) 60) 0 := by
    have := @txR_32 N2 (u2 N1 86 0 0) (min (N 86 11) 60) 0 (u2 N1 86 0 0 86 32) 0
    rw [u2_id (N := u2 N1 86 0 0) rfl] at this
    exact this hT2
  refine l_54 (M := u2 N1 86 0 0) (I0 := I1) (e := min (N 86 11) 60) hk (by omega) (fun i hi => by rw [e91]; exact (t3 i (by omega)).2) ?_ ?_ 61 0 _ _ (by rw [psA]; omega) (by rw [psA]; omega) (fun i hi => absurd hi (Nat.not_lt_zero i)) (by rw [psA]) (by rw [psA]; exact hT0) (fun _ _ _ => rfl) (fun i hi => absurd hi (Nat.not_lt_zero i))
  · intro a N3 I3 ha hps hgd hT3 hI3 hac
    rw [e91] at hps hgd hac
    have t20 := fun Q => t_20 (M := N) (ko := ko) (d := d) (D := D) (N := N3) (I := I3) (J := J1) (x := x) (Q := Q) (n := N 86 11) (m := 60) (fl := 1) t2 (Nat.le_refl _) (rfl : min (N 86 11) 60 = _) (Nat.le_refl _) (Nat.le_refl _) hT3.1 hT3.2.1
    rw [al_3458]
    by_cases z : 60 < N 86 11
    · rw [if_pos ⟨z, Or.inl ⟨rfl, rfl⟩⟩] at t20
      have hneg : ¬ (0 : Int32) ≤ -1 - nI 60 := by decide
      have hq := hF (fun y => by omega) N3 I3 (rd_T hT3) hI3
      have hy : yrA' (N 86 11) (yrW (N 91) (min (N 86 11) 60) 61 0) = nI 60 := by
        have ho := gd_yw hgd hps a 0 61 (by omega) (by rw [psA]; omega)
        rw [psA] at ho
        rw [ho, yrA']
        exact if_pos z
      rw [hy] at hq
      simp (disch := (first | omega | exact aCat_8 (by with_unfolding_all rfl) | exact rk_lt (by with_unfolding_all rfl) | exact aCat_16 (by with_unfolding_all rfl) | exact rk_eq (by with_unfolding_all rfl) | assumption | exact b2n_lt _ | exact id_b (by with_unfolding_all rfl) | (simp (disch := omega) only [u2_same, u2_ab, u2_aq]; done) | (simp (disch := omega) only [u2_same, u2_ab, u2_aq]; omega) | fail)) only [al_3456, wp_aloadr_0, wp_aloadk_0, wk_0, hp_86_0, wk_60, wc_6, wp_istore_1, hp_86_32, wk_1, wp_istore_2, wp_jsr, wp_iload_2, wz_eq_t, wz_eq_f, wb_eq_t, wb_eq_f, wm_eq_1, wm_eq_2, hg_86_12, hg_86_13, wn_ge_t, wn_ge_f, wc_55, wp_goto, al_3458, wp_iload_1, wc_20, wp_istore_3, wp_iload_3, wz_ge_t, wz_ge_f, wm_ge_1, wm_ge_2, wp_ireturn, al_3459, wc_39, wp_istore_4, wp_iload_4, hg_86_32, wc_56, wp_iinc_4_1, al_3461, hp_86_1, al_3462, al_3463, wc_17, t_17, wp_i2l, wc_43, t_43, hg_86_8, ha_89l, ha_89s, wk_109, wz_le_t, wz_le_f, wm_le_1, wm_le_2, wc_44, al_3464, al_3465, nl_i, nl_r, nl_k, nl_j, nl_l, nI_add, pk_mul, pk_sub, tl_s, tl_n, aL_inl, u2_same, u2_ab, u2_aq, nI_l, lN_i, Nat.add_zero, Nat.zero_add, Nat.zero_le, true_and, and_true, b2n_10, b2n_T, b2n_F, b2n_0, Decidable.not_not, not_true_eq_false, not_false_eq_true, Nat.reduceAdd, Nat.reduceMul, Nat.reduceSub, t20, wy_ge_f hneg]
      exact hq
    · rw [if_neg (fun y => z y.1), if_pos ⟨rfl, rfl⟩] at t20
      have em : min (N 86 11) 60 = N 86 11 := by omega
      rw [em] at hps hgd
      have hx := hW a N3 I3 (by omega) hps hgd (rd_T hT3) (by rw [hT3.2.2.2 86 32 (by decide) (by omega), u2_same]) hI3 hac
      simp (disch := (first | omega | exact aCat_8 (by with_unfolding_all rfl) | exact rk_lt (by with_unfolding_all rfl) | exact aCat_16 (by with_unfolding_all rfl) | exact rk_eq (by with_unfolding_all rfl) | assumption | exact b2n_lt _ | exact id_b (by with_unfolding_all rfl) | (simp (disch := omega) only [u2_same, u2_ab, u2_aq]; done) | (simp (disch := omega) only [u2_same, u2_ab, u2_aq]; omega) | fail)) only [al_3456, wp_aloadr_0, wp_aloadk_0, wk_0, hp_86_0, wk_60, wc_6, wp_istore_1, hp_86_32, wk_1, wp_istore_2, wp_jsr, wp_iload_2, wz_eq_t, wz_eq_f, wb_eq_t, wb_eq_f, wm_eq_1, wm_eq_2, hg_86_12, hg_86_13, wn_ge_t, wn_ge_f, wc_55, wp_goto, al_3458, wp_iload_1, wc_20, wp_istore_3, wp_iload_3, wz_ge_t, wz_ge_f, wm_ge_1, wm_ge_2, wp_ireturn, wc_39, wp_istore_4, wp_iload_4, hg_86_32, wc_56, wp_iinc_4_1, al_3461, hp_86_1, al_3462, al_3463, wc_17, t_17, wp_i2l, wc_43, t_43, hg_86_8, ha_89l, ha_89s, wk_109, wz_le_t, wz_le_f, wm_le_1, wm_le_2, wc_44, al_3464, al_3465, nl_i, nl_r, nl_k, nl_j, nl_l, nI_add, pk_mul, pk_sub, tl_s, tl_n, aL_inl, u2_same, u2_ab, u2_aq, nI_l, lN_i, Nat.add_zero, Nat.zero_add, Nat.zero_le, true_and, and_true, b2n_10, b2n_T, b2n_F, b2n_0, Decidable.not_not, not_true_eq_false, not_false_eq_true, Nat.reduceAdd, Nat.reduceMul, Nat.reduceSub, t20]
      exact hx
  · intro a w N3 I3 hy hwe hT3 hI3
    rw [e91] at hy
    have t20 := fun Q => t_20 (M := N) (ko := ko) (d := d) (D := D) (N := N3) (I := I3) (J := J1) (x := x) (Q := Q) (n := N 86 11) (m := 60) (fl := 0) (pos := w) t2 (Nat.le_refl _) (rfl : min (N 86 11) 60 = _) hwe (by decide) hT3.1 hT3.2.1
    have hq := hF (fun y => by rw [hy] at y; cases y.2) N3 I3 (rd_T hT3) hI3
    rw [hy, yrA'] at hq
    have hw60 : w ≤ 60 := by omega
    have ea : (if 60 < N 86 11 ∧ ((0 : Nat) = 1 ∧ w = min (N 86 11) 60 ∨ 60 ≤ w) then -1 - nI 60 else if (0 : Nat) = 1 ∧ w = min (N 86 11) 60 then nI 0 else -1 - nI w) = -1 - nI w := by
      by_cases z : 60 < N 86 11 ∧ ((0 : Nat) = 1 ∧ w = min (N 86 11) 60 ∨ 60 ≤ w)
      · rw [if_pos z]
        have : w = 60 := by omega
        rw [this]
      · rw [if_neg z, if_neg (fun y => by cases y.1)]
    rw [ea] at t20
    have hneg : ¬ (0 : Int32) ≤ -1 - nI w := by
      have : ∀ w, w ≤ 60 → ¬ (0 : Int32) ≤ -1 - nI w := by decide
      exact this w hw60
    rw [al_3458]
    simp (disch := (first | omega | exact aCat_8 (by with_unfolding_all rfl) | exact rk_lt (by with_unfolding_all rfl) | exact aCat_16 (by with_unfolding_all rfl) | exact rk_eq (by with_unfolding_all rfl) | assumption | exact b2n_lt _ | exact id_b (by with_unfolding_all rfl) | (simp (disch := omega) only [u2_same, u2_ab, u2_aq]; done) | (simp (disch := omega) only [u2_same, u2_ab, u2_aq]; omega) | fail)) only [al_3456, wp_aloadr_0, wp_aloadk_0, wk_0, hp_86_0, wk_60, wc_6, wp_istore_1, hp_86_32, wk_1, wp_istore_2, wp_jsr, wp_iload_2, wz_eq_t, wz_eq_f, wb_eq_t, wb_eq_f, wm_eq_1, wm_eq_2, hg_86_12, hg_86_13, wn_ge_t, wn_ge_f, wc_55, wp_goto, al_3458, wp_iload_1, wc_20, wp_istore_3, wp_iload_3, wz_ge_t, wz_ge_f, wm_ge_1, wm_ge_2, wp_ireturn, al_3459, wc_39, wp_istore_4, wp_iload_4, hg_86_32, wc_56, wp_iinc_4_1, al_3461, hp_86_1, al_3462, al_3463, wc_17, t_17, wp_i2l, wc_43, t_43, hg_86_8, ha_89l, ha_89s, wk_109, wz_le_t, wz_le_f, wm_le_1, wm_le_2, wc_44, al_3464, al_3465, nl_i, nl_r, nl_k, nl_j, nl_l, nI_add, pk_mul, pk_sub, tl_s, tl_n, aL_inl, u2_same, u2_ab, u2_aq, nI_l, lN_i, Nat.add_zero, Nat.zero_add, Nat.zero_le, true_and, and_true, b2n_10, b2n_T, b2n_F, b2n_0, Decidable.not_not, not_true_eq_false, not_false_eq_true, Nat.reduceAdd, Nat.reduceMul, Nat.reduceSub, t20, wy_ge_f hneg]
    exact hq
end ZA
