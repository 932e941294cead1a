/-! land: the class. From wip/whole/src. -/
def d26 (T : Nat → Nat) (n i : Nat) : Prop := i < n ∧ 50 ≤ T i ∧ T i ≤ 54
/-- k is the first place behind the sizes that doesn't fit, or L, where all fit -/
def lnK (T : Nat → Nat) (n L k : Nat) : Prop := 2 ≤ k ∧ k ≤ L ∧ (∀ i, 2 ≤ i → i < k → i < n ∧ isD (T i) = true) ∧ (k = L ∨ ¬ (k < n ∧ isD (T k) = true))
theorem lnK_ex (T : Nat → Nat) (n L : Nat) (hL : 2 ≤ L) : ∃ k, lnK T n L k := by
  rcases firstOf (fun i => 2 ≤ i ∧ (i = L ∨ ¬ (i < n ∧ isD (T i) = true))) (L + 1) with ⟨k, hk, hp1, hno⟩ | hno
  · refine ⟨k, hp1.1, by omega, ?_, hp1.2⟩
    intro i h2 hi
    have := hno i hi
    apply Classical.byContradiction
    intro z
    exact this ⟨h2, Or.inr z⟩
  · exact absurd ⟨hL, Or.inl rfl⟩ (hno L (by omega))
section D2
variable {ko : aKo} {d k : Nat} {is : List Instr} {ls st : List Value} {σ : aH} {D : Nat → Nat} {N : Nat → Nat → Nat} {I : Nat → Nat → Int32} {J : Nat → Nat → Int64} {x t : Nat} {Q : Option Value → aH → Prop} {P : (Option Value ⊕ Unit) → aH → Prop}
theorem al_21 : aWp ko d k (.arraylength :: is) ls (.ref 21 :: st) (hp D N I J x) P = aWp ko d k is ls (.int (nI 36) :: st) (hp D N I J x) P := wp_alen (a := 21) (by decide) rfl
theorem l_124 {N0 : Nat → Nat → Nat} (hQ : ∀ N' : Nat → Nat → Nat, (∀ b q, b ≠ 21 → N' b q = N0 b q) → (∀ q, q < 36 → N' 21 q = 0) → Q none (hp D N' I J x)) :
    ∀ (j i : Nat) (N : Nat → Nat → Nat), i + j = 36 → (∀ b q, b ≠ 21 → N b q = N0 b q) → (∀ q, q < i → N 21 q = 0) → aWp ko d 124 (aP.1 (Int.toNat 7937)) [.ref 21, .int (nI 0), .int (nI i), .int (nI 36)] [] (hp D N I J x) (aL Q) := by
  intro j
  induction j with
  | zero =>
    intro i N hj hN hz
    have e : i = 36 := by omega
    subst e
    rw [al_7937]
    simp (disch := (first | omega | exact aCat_8 (by with_unfolding_all rfl) | exact rk_lt (by with_unfolding_all rfl) | exact aCat_16 (by with_unfolding_all rfl) | exact rk_eq (by with_unfolding_all rfl) | assumption | exact b2n_lt _ | exact id_b (by with_unfolding_all rfl) | (simp (disch := omega) only [u2_same, u2_ab, u2_aq]; done) | (simp (disch := omega) only [u2_same, u2_ab, u2_aq]; omega) | fail)) only [al_7936, wk_0, wp_istore_2, wp_aloadr_0, wp_aloadk_0, wp_istore_3, wp_jsr, wp_iload_2, wp_iload_3, wn_ge_t, wn_ge_f, wp_iload_1, wp_iinc_2_1, wp_goto, al_7938, wp_return, nl_i, nl_r, nl_k, nl_j, nl_l, nI_add, pk_mul, pk_sub, tl_s, tl_n, aL_inl, u2_same, u2_ab, u2_aq, nI_l, lN_i, Nat.add_zero, Nat.zero_add, Nat.zero_le, true_and, and_true, b2n_10, b2n_T, b2n_F, b2n_0, Decidable.not_not, not_true_eq_false, not_false_eq_true, Nat.reduceAdd, Nat.reduceMul, Nat.reduceSub]
    exact hQ N hN hz
  | succ j ih =>
    intro i N hj hN hz
    rw [al_7937]
    simp (disch := (first | omega | exact aCat_8 (by with_unfolding_all rfl) | exact rk_lt (by with_unfolding_all rfl) | exact aCat_16 (by with_unfolding_all rfl) | exact rk_eq (by with_unfolding_all rfl) | assumption | exact b2n_lt _ | exact id_b (by with_unfolding_all rfl) | (simp (disch := omega) only [u2_same, u2_ab, u2_aq]; done) | (simp (disch := omega) only [u2_same, u2_ab, u2_aq]; omega) | fail)) only [al_7936, wk_0, wp_istore_2, wp_aloadr_0, wp_aloadk_0, wp_istore_3, wp_jsr, wp_iload_2, wp_iload_3, wn_ge_t, wn_ge_f, wp_iload_1, wp_iinc_2_1, wp_goto, al_7938, wp_return, nl_i, nl_r, nl_k, nl_j, nl_l, nI_add, pk_mul, pk_sub, tl_s, tl_n, aL_inl, u2_same, u2_ab, u2_aq, nI_l, lN_i, Nat.add_zero, Nat.zero_add, Nat.zero_le, true_and, and_true, b2n_10, b2n_T, b2n_F, b2n_0, Decidable.not_not, not_true_eq_false, not_false_eq_true, Nat.reduceAdd, Nat.reduceMul, Nat.reduceSub, ha_21s]
    refine ih (i + 1) _ (by omega) (fun b q z => by rw [u2_ab z]; exact hN b q z) ?_
    intro q hq
    by_cases e : q = i
    · rw [e, u2_same]
    · rw [u2_aq e]
      exact hz q (by omega)
theorem t_281 (hQ : ∀ (N' : Nat → Nat → Nat) (J' : Nat → Nat → Int64), (∀ b q, b ≠ 20 → b ≠ 21 → N' b q = N b q) → (∀ q, q < 36 → N' 21 q = 0) → N' 20 3 = 0 → N' 20 4 = 0 → N' 20 5 = 0 → (∀ b q, b ≠ 20 → J' b q = J b q) → J' 20 1 = lN 0 → J' 20 2 = lN 0 → Q none (hp D N' I J' x)) : aMm ko d 281 [.ref 20] (hp D N I J x) Q := by
  rw [me_281]
  simp (disch := (first | omega | exact aCat_8 (by with_unfolding_all rfl) | exact rk_lt (by with_unfolding_all rfl) | exact aCat_16 (by with_unfolding_all rfl) | exact rk_eq (by with_unfolding_all rfl) | assumption | exact b2n_lt _ | exact id_b (by with_unfolding_all rfl) | (simp (disch := omega) only [u2_same, u2_ab, u2_aq]; done) | (simp (disch := omega) only [u2_same, u2_ab, u2_aq]; omega) | fail)) only [al_17984, wp_aloadr_0, wp_aloadk_0, hg_20_0, ha_21l, ha_21s, hg_22_0, ha_23l, ha_23s, hg_24_0, ha_25l, ha_25s, wk_0, wc_124, wl_0, hp_20_1, hp_22_1, hp_24_1, hp_20_2, hp_22_2, hp_24_2, hp_20_3, hp_22_3, hp_24_3, hp_20_4, hp_22_4, hp_24_4, hp_20_5, hp_22_5, hp_24_5, wp_return, nl_i, nl_r, nl_k, nl_j, nl_l, nI_add, pk_mul, pk_sub, tl_s, tl_n, aL_inl, u2_same, u2_ab, u2_aq, nI_l, lN_i, Nat.add_zero, Nat.zero_add, Nat.zero_le, true_and, and_true, b2n_10, b2n_T, b2n_F, b2n_0, Decidable.not_not, not_true_eq_false, not_false_eq_true, Nat.reduceAdd, Nat.reduceMul, Nat.reduceSub]
  rw [me_124]
  simp (disch := (first | omega | exact aCat_8 (by with_unfolding_all rfl) | exact rk_lt (by with_unfolding_all rfl) | exact aCat_16 (by with_unfolding_all rfl) | exact rk_eq (by with_unfolding_all rfl) | assumption | exact b2n_lt _ | exact id_b (by with_unfolding_all rfl) | (simp (disch := omega) only [u2_same, u2_ab, u2_aq]; done) | (simp (disch := omega) only [u2_same, u2_ab, u2_aq]; omega) | fail)) only [al_7936, wk_0, wp_istore_2, wp_aloadr_0, wp_aloadk_0, wp_istore_3, wp_jsr, wp_iload_2, wp_iload_3, wn_ge_t, wn_ge_f, wp_iload_1, wp_iinc_2_1, wp_goto, al_7938, wp_return, nl_i, nl_r, nl_k, nl_j, nl_l, nI_add, pk_mul, pk_sub, tl_s, tl_n, aL_inl, u2_same, u2_ab, u2_aq, nI_l, lN_i, Nat.add_zero, Nat.zero_add, Nat.zero_le, true_and, and_true, b2n_10, b2n_T, b2n_F, b2n_0, Decidable.not_not, not_true_eq_false, not_false_eq_true, Nat.reduceAdd, Nat.reduceMul, Nat.reduceSub, al_21]
  refine l_124 (N0 := N) ?_ 36 0 N rfl (fun _ _ _ => rfl) (fun q hq => absurd hq (Nat.not_lt_zero q))
  intro N1 hN1 hz1
  simp (disch := (first | omega | exact aCat_8 (by with_unfolding_all rfl) | exact rk_lt (by with_unfolding_all rfl) | exact aCat_16 (by with_unfolding_all rfl) | exact rk_eq (by with_unfolding_all rfl) | assumption | exact b2n_lt _ | exact id_b (by with_unfolding_all rfl) | (simp (disch := omega) only [u2_same, u2_ab, u2_aq]; done) | (simp (disch := omega) only [u2_same, u2_ab, u2_aq]; omega) | fail)) only [al_17984, wp_aloadr_0, wp_aloadk_0, hg_20_0, ha_21l, ha_21s, hg_22_0, ha_23l, ha_23s, hg_24_0, ha_25l, ha_25s, wk_0, wc_124, wl_0, hp_20_1, hp_22_1, hp_24_1, hp_20_2, hp_22_2, hp_24_2, hp_20_3, hp_22_3, hp_24_3, hp_20_4, hp_22_4, hp_24_4, hp_20_5, hp_22_5, hp_24_5, wp_return, nl_i, nl_r, nl_k, nl_j, nl_l, nI_add, pk_mul, pk_sub, tl_s, tl_n, aL_inl, u2_same, u2_ab, u2_aq, nI_l, lN_i, Nat.add_zero, Nat.zero_add, Nat.zero_le, true_and, and_true, b2n_10, b2n_T, b2n_F, b2n_0, Decidable.not_not, not_true_eq_false, not_false_eq_true, Nat.reduceAdd, Nat.reduceMul, Nat.reduceSub]
  refine hQ _ _ ?_ ?_ ?_ ?_ ?_ ?_ ?_ ?_
  · intro b q z1 z2
    rw [u2_ab z1, u2_ab z1, u2_ab z1]
    exact hN1 b q z2
  · intro q hq
    rw [u2_ab (by decide), u2_ab (by decide), u2_ab (by decide)]
    exact hz1 q hq
  · rw [u2_aq (by decide), u2_aq (by decide), u2_same]
  · rw [u2_aq (by decide), u2_same]
  · rw [u2_same]
  · intro b q z
    rw [u2_ab z, u2_ab z]
  · rw [u2_aq (by decide), u2_same]
  · rw [u2_same]
theorem isD_tx (h : invB D N I J t) {i : Nat} : isD (txC N i) = true ↔ i < N 86 11 ∧ isD (N 91 i) = true := by
  have t1 := h.2.1.1
  by_cases z : i < N 86 11
  · rw [txC_e h z]
    exact ⟨fun y => ⟨z, y⟩, fun y => y.2⟩
  · unfold txC
    rw [if_neg (by omega)]
    constructor
    · intro y
      cases y
    · intro y
      exact absurd y.1 z
theorem dg_26 (h : invB D N I J t) {i : Nat} (hd : d26 (N 91) (N 86 11) i) : dgI (txC N i) = nI (N 91 i - 48) ∧ 2 ≤ N 91 i - 48 ∧ N 91 i - 48 ≤ 6 := by
  obtain ⟨a1, a2, a3⟩ := hd
  rw [txC_e h a1, dgI, if_pos (isD_iff.mpr (by omega))]
  exact ⟨rfl, by omega, by omega⟩
theorem dg_n26 (h : invB D N I J t) {i : Nat} (hd : ¬ d26 (N 91) (N 86 11) i) : dgI (txC N i) < nI 2 ∨ (¬ dgI (txC N i) < nI 2 ∧ ¬ dgI (txC N i) ≤ nI 6) := by
  unfold dgI
  by_cases z : isD (txC N i) = true
  · rw [if_pos z]
    obtain ⟨y1, y2⟩ := (isD_tx h).mp z
    have y3 := isD_iff.mp y2
    rw [txC_e h y1]
    by_cases y4 : N 91 i - 48 < 2
    · refine Or.inl ?_
      rw [Int32.lt_iff_toInt_lt, nI_toInt (by omega), nI_toInt (by omega)]
      omega
    · refine Or.inr ⟨?_, ?_⟩
      · rw [Int32.lt_iff_toInt_lt, nI_toInt (by omega), nI_toInt (by omega)]
        omega
      · rw [Int32.le_iff_toInt_le, nI_toInt (by omega), nI_toInt (by omega)]
        have : ¬ N 91 i ≤ 54 := fun y => hd ⟨y1, by omega, y⟩
        omega
  · rw [if_neg z]
    exact Or.inl (lt_m1 2 (by decide))
theorem t_154a (h : invB D N I J t) (h0 : ¬ d26 (N 91) (N 86 11) 0) : aMm ko d 154 [.ref 0] (hp D N I J x) Q = Q (some (.int (nI 0))) (hp D N I J x) := by
  obtain ⟨b1, b2⟩ := tx_N h
  have e0 := fun Q => t_287 (ko := ko) (d := d) (D := D) (N := N) (I := I) (J := J) (x := x) (Q := Q) (i := 0) (by decide) b1 b2
  rw [me_154]
  rcases dg_n26 h h0 with z | ⟨z1, z2⟩
  · simp (disch := (first | omega | exact aCat_8 (by with_unfolding_all rfl) | exact rk_lt (by with_unfolding_all rfl) | exact aCat_16 (by with_unfolding_all rfl) | exact rk_eq (by with_unfolding_all rfl) | assumption | exact b2n_lt _ | exact id_b (by with_unfolding_all rfl) | (simp (disch := omega) only [u2_same, u2_ab, u2_aq]; done) | (simp (disch := omega) only [u2_same, u2_ab, u2_aq]; omega) | fail)) only [al_9856, wk_0, wp_istore_1, wp_jsr, al_9857, wp_iload_1, wk_2, wn_ge_t, wn_ge_f, wp_aloadr_0, wp_aloadk_0, hg_0_0, wc_287, wp_istore_2, wp_iload_2, wn_lt_t, wn_lt_f, wk_6, wn_le_t, wn_le_f, al_9858, wp_ireturn, al_9859, wp_iinc_1_1, wp_goto, al_9860, wk_1, wp_imul, wp_iadd, wk_m1, wn_ne_t, wn_ne_f, al_9862, wp_iinc_2_1, al_9863, hg_1_1, al_9864, al_9865, nl_i, nl_r, nl_k, nl_j, nl_l, nI_add, pk_mul, pk_sub, tl_s, tl_n, aL_inl, u2_same, u2_ab, u2_aq, nI_l, lN_i, Nat.add_zero, Nat.zero_add, Nat.zero_le, true_and, and_true, b2n_10, b2n_T, b2n_F, b2n_0, Decidable.not_not, not_true_eq_false, not_false_eq_true, Nat.reduceAdd, Nat.reduceMul, Nat.reduceSub, e0, wx_lt_t z]
  · simp (disch := (first | omega | exact aCat_8 (by with_unfolding_all rfl) | exact rk_lt (by with_unfolding_all rfl) | exact aCat_16 (by with_unfolding_all rfl) | exact rk_eq (by with_unfolding_all rfl) | assumption | exact b2n_lt _ | exact id_b (by with_unfolding_all rfl) | (simp (disch := omega) only [u2_same, u2_ab, u2_aq]; done) | (simp (disch := omega) only [u2_same, u2_ab, u2_aq]; omega) | fail)) only [al_9856, wk_0, wp_istore_1, wp_jsr, al_9857, wp_iload_1, wk_2, wn_ge_t, wn_ge_f, wp_aloadr_0, wp_aloadk_0, hg_0_0, wc_287, wp_istore_2, wp_iload_2, wn_lt_t, wn_lt_f, wk_6, wn_le_t, wn_le_f, al_9858, wp_ireturn, al_9859, wp_iinc_1_1, wp_goto, al_9860, wk_1, wp_imul, wp_iadd, wk_m1, wn_ne_t, wn_ne_f, al_9862, wp_iinc_2_1, al_9863, hg_1_1, al_9864, al_9865, nl_i, nl_r, nl_k, nl_j, nl_l, nI_add, pk_mul, pk_sub, tl_s, tl_n, aL_inl, u2_same, u2_ab, u2_aq, nI_l, lN_i, Nat.add_zero, Nat.zero_add, Nat.zero_le, true_and, and_true, b2n_10, b2n_T, b2n_F, b2n_0, Decidable.not_not, not_true_eq_false, not_false_eq_true, Nat.reduceAdd, Nat.reduceMul, Nat.reduceSub, e0, wx_lt_f z1, wx_le_f z2]
theorem t_154b (h : invB D N I J t) (h0 : d26 (N 91) (N 86 11) 0) (h1 : ¬ d26 (N 91) (N 86 11) 1) : aMm ko d 154 [.ref 0] (hp D N I J x) Q = Q (some (.int (nI 1))) (hp D N I J x) := by
  obtain ⟨b1, b2⟩ := tx_N h
  obtain ⟨g1, g2, g3⟩ := dg_26 h h0
  have e0 := fun Q => t_287 (ko := ko) (d := d) (D := D) (N := N) (I := I) (J := J) (x := x) (Q := Q) (i := 0) (by decide) b1 b2
  have e1 := fun Q => t_287 (ko := ko) (d := d) (D := D) (N := N) (I := I) (J := J) (x := x) (Q := Q) (i := 1) (by decide) b1 b2
  rw [g1] at e0
  rw [me_154]
  rcases dg_n26 h h1 with z | ⟨z1, z2⟩
  · simp (disch := (first | omega | exact aCat_8 (by with_unfolding_all rfl) | exact rk_lt (by with_unfolding_all rfl) | exact aCat_16 (by with_unfolding_all rfl) | exact rk_eq (by with_unfolding_all rfl) | assumption | exact b2n_lt _ | exact id_b (by with_unfolding_all rfl) | (simp (disch := omega) only [u2_same, u2_ab, u2_aq]; done) | (simp (disch := omega) only [u2_same, u2_ab, u2_aq]; omega) | fail)) only [al_9856, wk_0, wp_istore_1, wp_jsr, al_9857, wp_iload_1, wk_2, wn_ge_t, wn_ge_f, wp_aloadr_0, wp_aloadk_0, hg_0_0, wc_287, wp_istore_2, wp_iload_2, wn_lt_t, wn_lt_f, wk_6, wn_le_t, wn_le_f, al_9858, wp_ireturn, al_9859, wp_iinc_1_1, wp_goto, al_9860, wk_1, wp_imul, wp_iadd, wk_m1, wn_ne_t, wn_ne_f, al_9862, wp_iinc_2_1, al_9863, hg_1_1, al_9864, al_9865, nl_i, nl_r, nl_k, nl_j, nl_l, nI_add, pk_mul, pk_sub, tl_s, tl_n, aL_inl, u2_same, u2_ab, u2_aq, nI_l, lN_i, Nat.add_zero, Nat.zero_add, Nat.zero_le, true_and, and_true, b2n_10, b2n_T, b2n_F, b2n_0, Decidable.not_not, not_true_eq_false, not_false_eq_true, Nat.reduceAdd, Nat.reduceMul, Nat.reduceSub, e0, e1, wx_lt_t z]
  · simp (disch := (first | omega | exact aCat_8 (by with_unfolding_all rfl) | exact rk_lt (by with_unfolding_all rfl) | exact aCat_16 (by with_unfolding_all rfl) | exact rk_eq (by with_unfolding_all rfl) | assumption | exact b2n_lt _ | exact id_b (by with_unfolding_all rfl) | (simp (disch := omega) only [u2_same, u2_ab, u2_aq]; done) | (simp (disch := omega) only [u2_same, u2_ab, u2_aq]; omega) | fail)) only [al_9856, wk_0, wp_istore_1, wp_jsr, al_9857, wp_iload_1, wk_2, wn_ge_t, wn_ge_f, wp_aloadr_0, wp_aloadk_0, hg_0_0, wc_287, wp_istore_2, wp_iload_2, wn_lt_t, wn_lt_f, wk_6, wn_le_t, wn_le_f, al_9858, wp_ireturn, al_9859, wp_iinc_1_1, wp_goto, al_9860, wk_1, wp_imul, wp_iadd, wk_m1, wn_ne_t, wn_ne_f, al_9862, wp_iinc_2_1, al_9863, hg_1_1, al_9864, al_9865, nl_i, nl_r, nl_k, nl_j, nl_l, nI_add, pk_mul, pk_sub, tl_s, tl_n, aL_inl, u2_same, u2_ab, u2_aq, nI_l, lN_i, Nat.add_zero, Nat.zero_add, Nat.zero_le, true_and, and_true, b2n_10, b2n_T, b2n_F, b2n_0, Decidable.not_not, not_true_eq_false, not_false_eq_true, Nat.reduceAdd, Nat.reduceMul, Nat.reduceSub, e0, e1, wx_lt_f z1, wx_le_f z2]
theorem l_154 {L k : Nat} (h : invB D N I J t) (hL2 : 2 ≤ L) (hL : L ≤ 38) (hk : lnK (N 91) (N 86 11) L k) :
    ∀ (j i : Nat), i + j = L → 2 ≤ i → i ≤ k → aWp ko d 154 (aP.1 (Int.toNat 9861)) [.ref 0, .int (nI L), .int (nI i)] [] (hp D N I J x) (aL Q) = Q (some (.int (if k = L ∧ N 86 11 ≤ L then -1 else nI k))) (hp D N I J x) := by
  obtain ⟨b1, b2⟩ := tx_N h
  obtain ⟨t1, t2, t3⟩ := h.2.1
  obtain ⟨k1, k2, k3, k4⟩ := hk
  intro j
  induction j with
  | zero =>
    intro i hj h2 hi
    have e : i = L := by omega
    have ek : k = L := by omega
    subst e
    rw [al_9861]
    by_cases hn : N 86 11 ≤ i
    · rw [if_pos ⟨ek, hn⟩]
      simp (disch := (first | omega | exact aCat_8 (by with_unfolding_all rfl) | exact rk_lt (by with_unfolding_all rfl) | exact aCat_16 (by with_unfolding_all rfl) | exact rk_eq (by with_unfolding_all rfl) | assumption | exact b2n_lt _ | exact id_b (by with_unfolding_all rfl) | (simp (disch := omega) only [u2_same, u2_ab, u2_aq]; done) | (simp (disch := omega) only [u2_same, u2_ab, u2_aq]; omega) | fail)) only [al_9856, wk_0, wp_istore_1, wp_jsr, wp_iload_1, wk_2, wn_ge_t, wn_ge_f, wp_aloadr_0, wp_aloadk_0, hg_0_0, wc_287, wp_istore_2, wp_iload_2, wn_lt_t, wn_lt_f, wk_6, wn_le_t, wn_le_f, al_9858, wp_ireturn, al_9859, wp_iinc_1_1, wp_goto, al_9860, wk_1, wp_imul, wp_iadd, wk_m1, wn_ne_t, wn_ne_f, al_9862, wp_iinc_2_1, al_9863, hg_1_1, al_9864, al_9865, nl_i, nl_r, nl_k, nl_j, nl_l, nI_add, pk_mul, pk_sub, tl_s, tl_n, aL_inl, u2_same, u2_ab, u2_aq, nI_l, lN_i, Nat.add_zero, Nat.zero_add, Nat.zero_le, true_and, and_true, b2n_10, b2n_T, b2n_F, b2n_0, Decidable.not_not, not_true_eq_false, not_false_eq_true, Nat.reduceAdd, Nat.reduceMul, Nat.reduceSub, t1]
    · rw [if_neg (fun z => hn z.2), ek]
      simp (disch := (first | omega | exact aCat_8 (by with_unfolding_all rfl) | exact rk_lt (by with_unfolding_all rfl) | exact aCat_16 (by with_unfolding_all rfl) | exact rk_eq (by with_unfolding_all rfl) | assumption | exact b2n_lt _ | exact id_b (by with_unfolding_all rfl) | (simp (disch := omega) only [u2_same, u2_ab, u2_aq]; done) | (simp (disch := omega) only [u2_same, u2_ab, u2_aq]; omega) | fail)) only [al_9856, wk_0, wp_istore_1, wp_jsr, wp_iload_1, wk_2, wn_ge_t, wn_ge_f, wp_aloadr_0, wp_aloadk_0, hg_0_0, wc_287, wp_istore_2, wp_iload_2, wn_lt_t, wn_lt_f, wk_6, wn_le_t, wn_le_f, al_9858, wp_ireturn, al_9859, wp_iinc_1_1, wp_goto, al_9860, wk_1, wp_imul, wp_iadd, wk_m1, wn_ne_t, wn_ne_f, al_9862, wp_iinc_2_1, al_9863, hg_1_1, al_9864, al_9865, nl_i, nl_r, nl_k, nl_j, nl_l, nI_add, pk_mul, pk_sub, tl_s, tl_n, aL_inl, u2_same, u2_ab, u2_aq, nI_l, lN_i, Nat.add_zero, Nat.zero_add, Nat.zero_le, true_and, and_true, b2n_10, b2n_T, b2n_F, b2n_0, Decidable.not_not, not_true_eq_false, not_false_eq_true, Nat.reduceAdd, Nat.reduceMul, Nat.reduceSub, t1]
  | succ j ih =>
    intro i hj h2 hi
    have e0 := fun Q => t_287 (ko := ko) (d := d) (D := D) (N := N) (I := I) (J := J) (x := x) (Q := Q) (i := i) (by omega) b1 b2
    have hlt := txC_lt (i := i) b2
    rw [al_9861]
    by_cases hik : i < k
    · have hd := (isD_tx h).mpr (k3 i h2 hik)
      rw [dgI, if_pos hd] at e0
      have ih1 := ih (i + 1) (by omega) (by omega) (by omega)
      simp (disch := (first | omega | exact aCat_8 (by with_unfolding_all rfl) | exact rk_lt (by with_unfolding_all rfl) | exact aCat_16 (by with_unfolding_all rfl) | exact rk_eq (by with_unfolding_all rfl) | assumption | exact b2n_lt _ | exact id_b (by with_unfolding_all rfl) | (simp (disch := omega) only [u2_same, u2_ab, u2_aq]; done) | (simp (disch := omega) only [u2_same, u2_ab, u2_aq]; omega) | fail)) only [al_9856, wk_0, wp_istore_1, wp_jsr, wp_iload_1, wk_2, wn_ge_t, wn_ge_f, wp_aloadr_0, wp_aloadk_0, hg_0_0, wc_287, wp_istore_2, wp_iload_2, wn_lt_t, wn_lt_f, wk_6, wn_le_t, wn_le_f, al_9858, wp_ireturn, al_9859, wp_iinc_1_1, wp_goto, al_9860, wk_1, wp_imul, wp_iadd, wk_m1, wn_ne_t, wn_ne_f, al_9862, wp_iinc_2_1, al_9863, hg_1_1, al_9864, al_9865, nl_i, nl_r, nl_k, nl_j, nl_l, nI_add, pk_mul, pk_sub, tl_s, tl_n, aL_inl, u2_same, u2_ab, u2_aq, nI_l, lN_i, Nat.add_zero, Nat.zero_add, Nat.zero_le, true_and, and_true, b2n_10, b2n_T, b2n_F, b2n_0, Decidable.not_not, not_true_eq_false, not_false_eq_true, Nat.reduceAdd, Nat.reduceMul, Nat.reduceSub, e0, qe_n1, qe_m1, qn_n1, qn_m1, qe_n2, qe_m2, qn_n2, qn_m2]
      exact ih1
    · have ek : i = k := by omega
      subst ek
      have hnd : ¬ isD (txC N i) = true := by
        intro z
        rcases k4 with k4 | k4
        · omega
        · exact k4 ((isD_tx h).mp z)
      rw [dgI, if_neg hnd] at e0
      rw [if_neg (by omega)]
      simp (disch := (first | omega | exact aCat_8 (by with_unfolding_all rfl) | exact rk_lt (by with_unfolding_all rfl) | exact aCat_16 (by with_unfolding_all rfl) | exact rk_eq (by with_unfolding_all rfl) | assumption | exact b2n_lt _ | exact id_b (by with_unfolding_all rfl) | (simp (disch := omega) only [u2_same, u2_ab, u2_aq]; done) | (simp (disch := omega) only [u2_same, u2_ab, u2_aq]; omega) | fail)) only [al_9856, wk_0, wp_istore_1, wp_jsr, wp_iload_1, wk_2, wn_ge_t, wn_ge_f, wp_aloadr_0, wp_aloadk_0, hg_0_0, wc_287, wp_istore_2, wp_iload_2, wn_lt_t, wn_lt_f, wk_6, wn_le_t, wn_le_f, al_9858, wp_ireturn, al_9859, wp_iinc_1_1, wp_goto, al_9860, wk_1, wp_imul, wp_iadd, wk_m1, wn_ne_t, wn_ne_f, al_9862, wp_iinc_2_1, al_9863, hg_1_1, al_9864, al_9865, nl_i, nl_r, nl_k, nl_j, nl_l, nI_add, pk_mul, pk_sub, tl_s, tl_n, aL_inl, u2_same, u2_ab, u2_aq, nI_l, lN_i, Nat.add_zero, Nat.zero_add, Nat.zero_le, true_and, and_true, b2n_10, b2n_T, b2n_F, b2n_0, Decidable.not_not, not_true_eq_false, not_false_eq_true, Nat.reduceAdd, Nat.reduceMul, Nat.reduceSub, e0, qe_n1, qe_m1, qn_n1, qn_m1, qe_n2, qe_m2, qn_n2, qn_m2]
theorem t_154c {k : Nat} (h : invB D N I J t) (h0 : d26 (N 91) (N 86 11) 0) (h1 : d26 (N 91) (N 86 11) 1) (hk : lnK (N 91) (N 86 11) (2 + (N 91 0 - 48) * (N 91 1 - 48)) k) : aMm ko d 154 [.ref 0] (hp D N I J x) Q = Q (some (.int (if k = 2 + (N 91 0 - 48) * (N 91 1 - 48) ∧ N 86 11 ≤ 2 + (N 91 0 - 48) * (N 91 1 - 48) then -1 else nI k))) (hp D N I J x) := by
  obtain ⟨b1, b2⟩ := tx_N h
  obtain ⟨g1, g2, g3⟩ := dg_26 h h0
  obtain ⟨f1, f2, f3⟩ := dg_26 h h1
  have hm : (N 91 0 - 48) * (N 91 1 - 48) ≤ 6 * 6 := Nat.mul_le_mul g3 f3
  have e0 := fun Q => t_287 (ko := ko) (d := d) (D := D) (N := N) (I := I) (J := J) (x := x) (Q := Q) (i := 0) (by decide) b1 b2
  have e1 := fun Q => t_287 (ko := ko) (d := d) (D := D) (N := N) (I := I) (J := J) (x := x) (Q := Q) (i := 1) (by decide) b1 b2
  rw [g1] at e0
  rw [f1] at e1
  have hx := l_154 (ko := ko) (d := d) (x := x) (Q := Q) h (by omega) (by omega) hk ((N 91 0 - 48) * (N 91 1 - 48)) 2 rfl (Nat.le_refl _) hk.1
  generalize N 91 0 - 48 = r at *
  generalize N 91 1 - 48 = c at *
  rw [me_154]
  simp (disch := (first | omega | exact aCat_8 (by with_unfolding_all rfl) | exact rk_lt (by with_unfolding_all rfl) | exact aCat_16 (by with_unfolding_all rfl) | exact rk_eq (by with_unfolding_all rfl) | assumption | exact b2n_lt _ | exact id_b (by with_unfolding_all rfl) | (simp (disch := omega) only [u2_same, u2_ab, u2_aq]; done) | (simp (disch := omega) only [u2_same, u2_ab, u2_aq]; omega) | fail)) only [al_9856, wk_0, wp_istore_1, wp_jsr, al_9857, wp_iload_1, wk_2, wn_ge_t, wn_ge_f, wp_aloadr_0, wp_aloadk_0, hg_0_0, wc_287, wp_istore_2, wp_iload_2, wn_lt_t, wn_lt_f, wk_6, wn_le_t, wn_le_f, al_9858, wp_ireturn, al_9859, wp_iinc_1_1, wp_goto, al_9860, wk_1, wp_imul, wp_iadd, wk_m1, wn_ne_t, wn_ne_f, al_9862, wp_iinc_2_1, al_9863, hg_1_1, al_9864, al_9865, nl_i, nl_r, nl_k, nl_j, nl_l, nI_add, pk_mul, pk_sub, tl_s, tl_n, aL_inl, u2_same, u2_ab, u2_aq, nI_l, lN_i, Nat.add_zero, Nat.zero_add, Nat.zero_le, true_and, and_true, b2n_10, b2n_T, b2n_F, b2n_0, Decidable.not_not, not_true_eq_false, not_false_eq_true, Nat.reduceAdd, Nat.reduceMul, Nat.reduceSub, e0, e1]
  exact hx
end D2
