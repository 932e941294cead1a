/-! land: taken by both. From wip/whole/src. -/
/-- the row that a land's text tells -/
def lnS (T : Nat → Nat) (F : Nat) : Nat → Nat := fun q => if q < F then T (2 + q) - 48 else 0
def lnD (D : Nat → Nat) (r c : Nat) : Nat → Nat := u1 (u1 (u1 D 2 r) 3 c) 4 (r * c)
section D3
variable {ko : aKo} {d k : Nat} {is : List Instr} {ls st : List Value} {σ : aH} {D : Nat → Nat} {N : Nat → Nat → Nat} {I : Nat → Nat → Int32} {J : Nat → Nat → Int64} {x t : Nat} {Q : Option Value → aH → Prop} {P : (Option Value ⊕ Unit) → aH → Prop}
theorem l_155 {N0 : Nat → Nat → Nat} {F : Nat} (hF : F ≤ 36) (h4 : D 4 = F) (b1 : N0 1 1 ≤ 80) (b2 : ∀ i, i < N0 1 1 → N0 2 i < 256) (hd : ∀ i, i < F → isD (txC N0 (2 + i)) = true)
    (hK : ∀ N : Nat → Nat → Nat, (∀ b q, b ≠ 21 → N b q = N0 b q) → (∀ i, i < 36 → N 21 i = if i < F then txC N0 (2 + i) - 48 else N0 21 i) → aWp ko d 155 (aP.1 (Int.toNat 9922)) [.ref 0, .int (nI F)] [] (hp D N I J x) (aL Q)) :
    ∀ (j i : Nat) (N : Nat → Nat → Nat), i + j = F → (∀ b q, b ≠ 21 → N b q = N0 b q) → (∀ a, a < 36 → N 21 a = if a < i then txC N0 (2 + a) - 48 else N0 21 a) → aWp ko d 155 (aP.1 (Int.toNat 9921)) [.ref 0, .int (nI i)] [] (hp D N I J x) (aL Q) := by
  intro j
  induction j with
  | zero =>
    intro i N hj hN hv
    have e : i = F := by omega
    subst e
    rw [al_9921]
    simp (disch := (first | omega | exact aCat_8 (by with_unfolding_all rfl) | exact rk_lt (by with_unfolding_all rfl) | exact aCat_16 (by with_unfolding_all rfl) | exact rk_eq (by with_unfolding_all rfl) | assumption | exact b2n_lt _ | exact id_b (by with_unfolding_all rfl) | (simp (disch := omega) only [u2_same, u2_ab, u2_aq]; done) | (simp (disch := omega) only [u2_same, u2_ab, u2_aq]; omega) | fail)) only [al_9920, wp_aloadr_0, wp_aloadk_0, hg_0_2, hg_0_0, wk_0, wc_287, wk_1, wc_240, hg_0_7, wp_istore_1, wp_jsr, wp_iload_1, hg_5_2, wn_ge_t, wn_ge_f, hg_20_0, ha_21l, ha_21s, hg_22_0, ha_23l, ha_23s, hg_24_0, ha_25l, ha_25s, wk_2, wp_iadd, wp_iinc_1_1, wp_goto, hg_0_11, wc_250, hp_0_13, hg_0_14, hp_65_3, hp_69_3, hg_0_15, wp_return, nl_i, nl_r, nl_k, nl_j, nl_l, nI_add, pk_mul, pk_sub, tl_s, tl_n, aL_inl, u2_same, u2_ab, u2_aq, nI_l, lN_i, Nat.add_zero, Nat.zero_add, Nat.zero_le, true_and, and_true, b2n_10, b2n_T, b2n_F, b2n_0, Decidable.not_not, not_true_eq_false, not_false_eq_true, Nat.reduceAdd, Nat.reduceMul, Nat.reduceSub, h4]
    exact hK N hN hv
  | succ j ih =>
    intro i N hj hN hv
    have e11 : N 1 1 = N0 1 1 := hN 1 1 (by decide)
    have ec : txC N (2 + i) = txC N0 (2 + i) := by
      unfold txC
      rw [e11, hN 2 (2 + i) (by decide)]
    have hdi := hd i (by omega)
    have ht := fun Q => t_287 (ko := ko) (d := d) (D := D) (N := N) (I := I) (J := J) (x := x) (Q := Q) (i := 2 + i) (by omega) (by rw [e11]; exact b1) (fun k hk => by rw [e11] at hk; rw [hN 2 k (by decide)]; exact b2 k hk)
    rw [ec, dgI, if_pos hdi] at ht
    rw [al_9921]
    simp (disch := (first | omega | exact aCat_8 (by with_unfolding_all rfl) | exact rk_lt (by with_unfolding_all rfl) | exact aCat_16 (by with_unfolding_all rfl) | exact rk_eq (by with_unfolding_all rfl) | assumption | exact b2n_lt _ | exact id_b (by with_unfolding_all rfl) | (simp (disch := omega) only [u2_same, u2_ab, u2_aq]; done) | (simp (disch := omega) only [u2_same, u2_ab, u2_aq]; omega) | fail)) only [al_9920, wp_aloadr_0, wp_aloadk_0, hg_0_2, hg_0_0, wk_0, wc_287, wk_1, wc_240, hg_0_7, wp_istore_1, wp_jsr, wp_iload_1, hg_5_2, wn_ge_t, wn_ge_f, hg_20_0, ha_21l, ha_21s, hg_22_0, ha_23l, ha_23s, hg_24_0, ha_25l, ha_25s, wk_2, wp_iadd, wp_iinc_1_1, wp_goto, hg_0_11, wc_250, hp_0_13, hg_0_14, hp_65_3, hp_69_3, hg_0_15, wp_return, nl_i, nl_r, nl_k, nl_j, nl_l, nI_add, pk_mul, pk_sub, tl_s, tl_n, aL_inl, u2_same, u2_ab, u2_aq, nI_l, lN_i, Nat.add_zero, Nat.zero_add, Nat.zero_le, true_and, and_true, b2n_10, b2n_T, b2n_F, b2n_0, Decidable.not_not, not_true_eq_false, not_false_eq_true, Nat.reduceAdd, Nat.reduceMul, Nat.reduceSub, h4, ht]
    refine ih (i + 1) _ (by omega) (fun b q z => by rw [u2_ab z]; exact hN b q z) ?_
    intro a ha
    by_cases e : a = i
    · rw [e, u2_same, if_pos (by omega)]
    · rw [u2_aq e, hv a ha]
      by_cases z : a < i
      · rw [if_pos z, if_pos (by omega)]
      · rw [if_neg z, if_neg (by omega)]
/-- what the class holds when it has taken a land -/
def lnC (D : Nat → Nat) (T : Nat → Nat) (r c : Nat) (N' N : Nat → Nat → Nat) (I' I : Nat → Nat → Int32) (J' J : Nat → Nat → Int64) : Prop := ldO (lnD D r c) N' I' J' ∧ clS N' J' 20 (lnS T (r * c)) ∧ N' 32 2 = 0 ∧ I' 0 13 = nI 0 ∧ N' 65 3 = 0 ∧ N' 69 3 = 0 ∧ (∀ b q, b ≠ 6 → b ≠ 7 → b ≠ 20 → b ≠ 21 → ¬ (b = 32 ∧ q = 2) → ¬ (b = 65 ∧ q = 3) → ¬ (b = 69 ∧ q = 3) → N' b q = N b q) ∧ (∀ b q, b ≠ 8 → ¬ (b = 0 ∧ q = 13) → I' b q = I b q) ∧ (∀ b q, b ≠ 5 → b ≠ 20 → J' b q = J b q)
theorem t_155 (h : invB D N I J t) (h0 : d26 (N 91) (N 86 11) 0) (h1 : d26 (N 91) (N 86 11) 1) (hd : ∀ i, 2 ≤ i → i < 2 + (N 91 0 - 48) * (N 91 1 - 48) → i < N 86 11 ∧ isD (N 91 i) = true)
    (hQ : ∀ (N' : Nat → Nat → Nat) (I' : Nat → Nat → Int32) (J' : Nat → Nat → Int64), lnC D (N 91) (N 91 0 - 48) (N 91 1 - 48) N' N I' I J' J → Q none (hp (lnD D (N 91 0 - 48) (N 91 1 - 48)) N' I' J' x)) : aMm ko d 155 [.ref 0] (hp D N I J x) Q := by
  obtain ⟨b1, b2⟩ := tx_N h
  obtain ⟨g1, g2, g3⟩ := dg_26 h h0
  obtain ⟨f1, f2, f3⟩ := dg_26 h h1
  have hm : (N 91 0 - 48) * (N 91 1 - 48) ≤ 6 * 6 := Nat.mul_le_mul g3 f3
  have e0 := fun Q => t_287 (ko := ko) (d := d) (D := D) (N := N) (I := I) (J := J) (x := x) (Q := Q) (i := 0) (by decide) b1 b2
  have e1 := fun Q => t_287 (ko := ko) (d := d) (D := D) (N := N) (I := I) (J := J) (x := x) (Q := Q) (i := 1) (by decide) b1 b2
  rw [g1] at e0
  rw [f1] at e1
  have htx : ∀ i, i < (N 91 0 - 48) * (N 91 1 - 48) → isD (txC N (2 + i)) = true ∧ txC N (2 + i) = N 91 (2 + i) := by
    intro i hi
    have := hd (2 + i) (by omega) (by omega)
    exact ⟨(isD_tx h).mpr this, txC_e h this.1⟩
  generalize N 91 0 - 48 = r at *
  generalize N 91 1 - 48 = c at *
  rw [me_155]
  simp (disch := (first | omega | exact aCat_8 (by with_unfolding_all rfl) | exact rk_lt (by with_unfolding_all rfl) | exact aCat_16 (by with_unfolding_all rfl) | exact rk_eq (by with_unfolding_all rfl) | assumption | exact b2n_lt _ | exact id_b (by with_unfolding_all rfl) | (simp (disch := omega) only [u2_same, u2_ab, u2_aq]; done) | (simp (disch := omega) only [u2_same, u2_ab, u2_aq]; omega) | fail)) only [al_9920, wp_aloadr_0, wp_aloadk_0, hg_0_2, hg_0_0, wk_0, wc_287, wk_1, wc_240, hg_0_7, wp_istore_1, wp_jsr, wp_iload_1, hg_5_2, wn_ge_t, wn_ge_f, hg_20_0, ha_21l, ha_21s, hg_22_0, ha_23l, ha_23s, hg_24_0, ha_25l, ha_25s, wk_2, wp_iadd, wp_iinc_1_1, wp_goto, al_9922, hg_0_11, wc_250, hp_0_13, hg_0_14, hp_65_3, hp_69_3, hg_0_15, wp_return, nl_i, nl_r, nl_k, nl_j, nl_l, nI_add, pk_mul, pk_sub, tl_s, tl_n, aL_inl, u2_same, u2_ab, u2_aq, nI_l, lN_i, Nat.add_zero, Nat.zero_add, Nat.zero_le, true_and, and_true, b2n_10, b2n_T, b2n_F, b2n_0, Decidable.not_not, not_true_eq_false, not_false_eq_true, Nat.reduceAdd, Nat.reduceMul, Nat.reduceSub, e0, e1]
  refine t_240 ⟨g2, g3⟩ ⟨f2, f3⟩ ?_
  intro N1 I1 J1 hld hN1 hI1 hJ1
  simp (disch := (first | omega | exact aCat_8 (by with_unfolding_all rfl) | exact rk_lt (by with_unfolding_all rfl) | exact aCat_16 (by with_unfolding_all rfl) | exact rk_eq (by with_unfolding_all rfl) | assumption | exact b2n_lt _ | exact id_b (by with_unfolding_all rfl) | (simp (disch := omega) only [u2_same, u2_ab, u2_aq]; done) | (simp (disch := omega) only [u2_same, u2_ab, u2_aq]; omega) | fail)) only [al_9920, wp_aloadr_0, wp_aloadk_0, hg_0_2, hg_0_0, wk_0, wc_287, wk_1, wc_240, hg_0_7, wp_istore_1, wp_jsr, wp_iload_1, hg_5_2, wn_ge_t, wn_ge_f, hg_20_0, ha_21l, ha_21s, hg_22_0, ha_23l, ha_23s, hg_24_0, ha_25l, ha_25s, wk_2, wp_iadd, wp_iinc_1_1, wp_goto, al_9922, hg_0_11, wc_250, hp_0_13, hg_0_14, hp_65_3, hp_69_3, hg_0_15, wp_return, nl_i, nl_r, nl_k, nl_j, nl_l, nI_add, pk_mul, pk_sub, tl_s, tl_n, aL_inl, u2_same, u2_ab, u2_aq, nI_l, lN_i, Nat.add_zero, Nat.zero_add, Nat.zero_le, true_and, and_true, b2n_10, b2n_T, b2n_F, b2n_0, Decidable.not_not, not_true_eq_false, not_false_eq_true, Nat.reduceAdd, Nat.reduceMul, Nat.reduceSub, wc_281 (m := 20) rfl]
  refine t_281 ?_
  intro N2 J2 hN2 hz2 z3 z4 z5 hJ2 j1 j2
  simp (disch := (first | omega | exact aCat_8 (by with_unfolding_all rfl) | exact rk_lt (by with_unfolding_all rfl) | exact aCat_16 (by with_unfolding_all rfl) | exact rk_eq (by with_unfolding_all rfl) | assumption | exact b2n_lt _ | exact id_b (by with_unfolding_all rfl) | (simp (disch := omega) only [u2_same, u2_ab, u2_aq]; done) | (simp (disch := omega) only [u2_same, u2_ab, u2_aq]; omega) | fail)) only [al_9920, wp_aloadr_0, wp_aloadk_0, hg_0_2, hg_0_0, wk_0, wc_287, wk_1, wc_240, hg_0_7, wp_istore_1, wp_jsr, wp_iload_1, hg_5_2, wn_ge_t, wn_ge_f, hg_20_0, ha_21l, ha_21s, hg_22_0, ha_23l, ha_23s, hg_24_0, ha_25l, ha_25s, wk_2, wp_iadd, wp_iinc_1_1, wp_goto, al_9922, hg_0_11, wc_250, hp_0_13, hg_0_14, hp_65_3, hp_69_3, hg_0_15, wp_return, nl_i, nl_r, nl_k, nl_j, nl_l, nI_add, pk_mul, pk_sub, tl_s, tl_n, aL_inl, u2_same, u2_ab, u2_aq, nI_l, lN_i, Nat.add_zero, Nat.zero_add, Nat.zero_le, true_and, and_true, b2n_10, b2n_T, b2n_F, b2n_0, Decidable.not_not, not_true_eq_false, not_false_eq_true, Nat.reduceAdd, Nat.reduceMul, Nat.reduceSub]
  have eNN : ∀ b q, b ≠ 6 → b ≠ 7 → b ≠ 20 → b ≠ 21 → N2 b q = N b q := fun b q y1 y2 y3 y4 => (hN2 b q y3 y4).trans (hN1 b q y1 y2)
  have ec : ∀ i, txC N2 i = txC N i := by
    intro i
    unfold txC
    rw [eNN 1 1 (by decide) (by decide) (by decide) (by decide), eNN 2 i (by decide) (by decide) (by decide) (by decide)]
  refine l_155 (N0 := N2) (F := r * c) (by omega) rfl (by rw [eNN 1 1 (by decide) (by decide) (by decide) (by decide)]; exact b1) (fun i hi => by rw [eNN 1 1 (by decide) (by decide) (by decide) (by decide)] at hi; rw [eNN 2 i (by decide) (by decide) (by decide) (by decide)]; exact b2 i hi) (fun i hi => by rw [ec]; exact (htx i hi).1) ?_ (r * c) 0 N2 (by omega) (fun _ _ _ => rfl) (fun a _ => by rw [if_neg (Nat.not_lt_zero a)])
  intro N3 hN3 hv3
  rw [al_9922]
  have t250 : ∀ Q : Option Value → aH → Prop, aMm ko d 250 [.ref 32] (hp (u1 (u1 (u1 D 2 r) 3 c) 4 (r * c)) N3 I1 J2 x) Q = Q none (hp (u1 (u1 (u1 D 2 r) 3 c) 4 (r * c)) (u2 N3 32 2 0) I1 J2 x) := by
    intro Q
    rw [me_250]
    simp (disch := (first | omega | exact aCat_8 (by with_unfolding_all rfl) | exact rk_lt (by with_unfolding_all rfl) | exact aCat_16 (by with_unfolding_all rfl) | exact rk_eq (by with_unfolding_all rfl) | assumption | exact b2n_lt _ | exact id_b (by with_unfolding_all rfl) | (simp (disch := omega) only [u2_same, u2_ab, u2_aq]; done) | (simp (disch := omega) only [u2_same, u2_ab, u2_aq]; omega) | fail)) only [al_16000, wp_aloadr_0, wp_aloadk_0, wk_0, hp_32_2, wp_return, nl_i, nl_r, nl_k, nl_j, nl_l, nI_add, pk_mul, pk_sub, tl_s, tl_n, aL_inl, u2_same, u2_ab, u2_aq, nI_l, lN_i, Nat.add_zero, Nat.zero_add, Nat.zero_le, true_and, and_true, b2n_10, b2n_T, b2n_F, b2n_0, Decidable.not_not, not_true_eq_false, not_false_eq_true, Nat.reduceAdd, Nat.reduceMul, Nat.reduceSub]
  simp (disch := (first | omega | exact aCat_8 (by with_unfolding_all rfl) | exact rk_lt (by with_unfolding_all rfl) | exact aCat_16 (by with_unfolding_all rfl) | exact rk_eq (by with_unfolding_all rfl) | assumption | exact b2n_lt _ | exact id_b (by with_unfolding_all rfl) | (simp (disch := omega) only [u2_same, u2_ab, u2_aq]; done) | (simp (disch := omega) only [u2_same, u2_ab, u2_aq]; omega) | fail)) only [al_9920, wp_aloadr_0, wp_aloadk_0, hg_0_2, hg_0_0, wk_0, wc_287, wk_1, wc_240, hg_0_7, wp_istore_1, wp_jsr, wp_iload_1, hg_5_2, wn_ge_t, wn_ge_f, hg_20_0, ha_21l, ha_21s, hg_22_0, ha_23l, ha_23s, hg_24_0, ha_25l, ha_25s, wk_2, wp_iadd, wp_iinc_1_1, wp_goto, al_9922, hg_0_11, wc_250, hp_0_13, hg_0_14, hp_65_3, hp_69_3, hg_0_15, wp_return, nl_i, nl_r, nl_k, nl_j, nl_l, nI_add, pk_mul, pk_sub, tl_s, tl_n, aL_inl, u2_same, u2_ab, u2_aq, nI_l, lN_i, Nat.add_zero, Nat.zero_add, Nat.zero_le, true_and, and_true, b2n_10, b2n_T, b2n_F, b2n_0, Decidable.not_not, not_true_eq_false, not_false_eq_true, Nat.reduceAdd, Nat.reduceMul, Nat.reduceSub, t250]
  have eM : ∀ b q, ¬ (b = 32 ∧ q = 2) → ¬ (b = 65 ∧ q = 3) → ¬ (b = 69 ∧ q = 3) → u2 (u2 (u2 N3 32 2 0) 65 3 0) 69 3 0 b q = N3 b q := by
    intro b q y1 y2 y3
    rw [u2_rd, if_neg y3, u2_rd, if_neg y2, u2_rd, if_neg y1]
  refine hQ _ _ _ ⟨?_, ⟨?_, ?_, ?_, ?_, ?_⟩, ?_, u2_same _ _ _ _, ?_, u2_same _ _ _ _, ?_, ?_, ?_⟩
  · refine ldO_f hld (fun q => ⟨?_, ?_⟩) (fun q => u2_ab (by decide)) (fun q => hJ2 5 q (by decide))
    · rw [eM 6 q (by omega) (by omega) (by omega), hN3 6 q (by decide), hN2 6 q (by decide) (by decide)]
    · rw [eM 7 q (by omega) (by omega) (by omega), hN3 7 q (by decide), hN2 7 q (by decide) (by decide)]
  · intro f hf
    rw [eM 21 f (by omega) (by omega) (by omega), hv3 f hf]
    unfold lnS
    by_cases z : f < r * c
    · rw [if_pos z, if_pos z, ec, (htx f z).2]
    · rw [if_neg z, if_neg z]
      exact hz2 f hf
  · intro f hf
    rw [j1, j2, tb_0]
    unfold lnS
    by_cases z : f < 36
    · have y1 : ¬ 36 + f < r * c := by omega
      have y2 : ¬ 72 + f < r * c := by omega
      simp [y1, y2]
    · simp [z]
  · rw [eM 20 3 (by omega) (by omega) (by omega), hN3 20 3 (by decide), z3]
    unfold lnS
    rw [if_neg (by omega)]
  · rw [eM 20 4 (by omega) (by omega) (by omega), hN3 20 4 (by decide), z4]
    unfold lnS
    rw [if_neg (by omega)]
  · rw [eM 20 5 (by omega) (by omega) (by omega), hN3 20 5 (by decide), z5]
    unfold lnS
    rw [if_neg (by omega)]
  · rw [u2_ab (by decide), u2_ab (by decide), u2_same]
  · rw [u2_ab (by decide), u2_same]
  · intro b q y1 y2 y3 y4 y5 y6 y7
    rw [eM b q y5 y6 y7, hN3 b q y4]
    exact eNN b q y1 y2 y3 y4
  · intro b q y1 y2
    rw [u2_rd, if_neg y2]
    exact hI1 b q y1
  · intro b q y1 y2
    rw [hJ2 b q y2]
    exact hJ1 b q y1
theorem k_153w {w : Nat} {v : Int32} (hw : v = nI w) (hw80 : w ≤ 80) (h154 : ∀ Q : Option Value → aH → Prop, aMm ko d 154 [.ref 0] (hp D N I J x) Q = Q (some (.int v)) (hp D N I J x)) : aMm ko d 153 [.ref 0] (hp D N I J x) Q = Q (some (.int (-1 - nI w))) (hp D (u2 N 1 1 0) I J x) := by
  subst hw
  rw [me_153]
  simp (disch := (first | omega | exact aCat_8 (by with_unfolding_all rfl) | exact rk_lt (by with_unfolding_all rfl) | exact aCat_16 (by with_unfolding_all rfl) | exact rk_eq (by with_unfolding_all rfl) | assumption | exact b2n_lt _ | exact id_b (by with_unfolding_all rfl) | (simp (disch := omega) only [u2_same, u2_ab, u2_aq]; done) | (simp (disch := omega) only [u2_same, u2_ab, u2_aq]; omega) | fail)) only [al_9792, wp_aloadr_0, wp_aloadk_0, wc_154, wp_istore_1, wp_iload_1, wk_m1, wn_ne_t, wn_ne_f, wc_155, wp_jsr, al_9793, hg_0_0, wc_289, hg_0_2, hg_5_2, wp_goto, al_9794, wp_isub, al_9795, wp_ireturn, nl_i, nl_r, nl_k, nl_j, nl_l, nI_add, pk_mul, pk_sub, tl_s, tl_n, aL_inl, u2_same, u2_ab, u2_aq, nI_l, lN_i, Nat.add_zero, Nat.zero_add, Nat.zero_le, true_and, and_true, b2n_10, b2n_T, b2n_F, b2n_0, Decidable.not_not, not_true_eq_false, not_false_eq_true, Nat.reduceAdd, Nat.reduceMul, Nat.reduceSub, h154, t_289, qe_n1, qe_m1, qn_n1, qn_m1, qe_n2, qe_m2, qn_n2, qn_m2]
theorem k_153 (h : invB D N I J t) (h0 : d26 (N 91) (N 86 11) 0) (h1 : d26 (N 91) (N 86 11) 1) (hk : lnK (N 91) (N 86 11) (2 + (N 91 0 - 48) * (N 91 1 - 48)) (2 + (N 91 0 - 48) * (N 91 1 - 48))) (hn : N 86 11 ≤ 2 + (N 91 0 - 48) * (N 91 1 - 48))
    (hQ : ∀ (N' : Nat → Nat → Nat) (I' : Nat → Nat → Int32) (J' : Nat → Nat → Int64), lnC D (N 91) (N 91 0 - 48) (N 91 1 - 48) N' N I' I J' J → Q (some (.int (nI ((N 91 0 - 48) * (N 91 1 - 48))))) (hp (lnD D (N 91 0 - 48) (N 91 1 - 48)) (u2 N' 1 1 0) I' J' x)) : aMm ko d 153 [.ref 0] (hp D N I J x) Q := by
  have h154 := fun Q => t_154c (ko := ko) (d := d) (x := x) (Q := Q) h h0 h1 hk
  rw [if_pos ⟨rfl, hn⟩] at h154
  rw [me_153]
  simp (disch := (first | omega | exact aCat_8 (by with_unfolding_all rfl) | exact rk_lt (by with_unfolding_all rfl) | exact aCat_16 (by with_unfolding_all rfl) | exact rk_eq (by with_unfolding_all rfl) | assumption | exact b2n_lt _ | exact id_b (by with_unfolding_all rfl) | (simp (disch := omega) only [u2_same, u2_ab, u2_aq]; done) | (simp (disch := omega) only [u2_same, u2_ab, u2_aq]; omega) | fail)) only [al_9792, wp_aloadr_0, wp_aloadk_0, wc_154, wp_istore_1, wp_iload_1, wk_m1, wn_ne_t, wn_ne_f, wc_155, wp_jsr, al_9793, hg_0_0, wc_289, hg_0_2, hg_5_2, wp_goto, al_9794, wp_isub, al_9795, wp_ireturn, nl_i, nl_r, nl_k, nl_j, nl_l, nI_add, pk_mul, pk_sub, tl_s, tl_n, aL_inl, u2_same, u2_ab, u2_aq, nI_l, lN_i, Nat.add_zero, Nat.zero_add, Nat.zero_le, true_and, and_true, b2n_10, b2n_T, b2n_F, b2n_0, Decidable.not_not, not_true_eq_false, not_false_eq_true, Nat.reduceAdd, Nat.reduceMul, Nat.reduceSub, h154, qe_n1, qe_m1, qn_n1, qn_m1, qe_n2, qe_m2, qn_n2, qn_m2]
  refine t_155 h h0 h1 hk.2.2.1 ?_
  intro N1 I1 J1 hC
  have d4 : lnD D (N 91 0 - 48) (N 91 1 - 48) 4 = (N 91 0 - 48) * (N 91 1 - 48) := rfl
  simp (disch := (first | omega | exact aCat_8 (by with_unfolding_all rfl) | exact rk_lt (by with_unfolding_all rfl) | exact aCat_16 (by with_unfolding_all rfl) | exact rk_eq (by with_unfolding_all rfl) | assumption | exact b2n_lt _ | exact id_b (by with_unfolding_all rfl) | (simp (disch := omega) only [u2_same, u2_ab, u2_aq]; done) | (simp (disch := omega) only [u2_same, u2_ab, u2_aq]; omega) | fail)) only [al_9792, wp_aloadr_0, wp_aloadk_0, wc_154, wp_istore_1, wp_iload_1, wk_m1, wn_ne_t, wn_ne_f, wc_155, wp_jsr, al_9793, hg_0_0, wc_289, hg_0_2, hg_5_2, wp_goto, al_9794, wp_isub, al_9795, wp_ireturn, nl_i, nl_r, nl_k, nl_j, nl_l, nI_add, pk_mul, pk_sub, tl_s, tl_n, aL_inl, u2_same, u2_ab, u2_aq, nI_l, lN_i, Nat.add_zero, Nat.zero_add, Nat.zero_le, true_and, and_true, b2n_10, b2n_T, b2n_F, b2n_0, Decidable.not_not, not_true_eq_false, not_false_eq_true, Nat.reduceAdd, Nat.reduceMul, Nat.reduceSub, t_289, d4, qe_n1, qe_m1, qn_n1, qn_m1, qe_n2, qe_m2, qn_n2, qn_m2]
  exact hQ N1 I1 J1 hC
end D3
