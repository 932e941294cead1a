/-! force. From wip/whole/src. -/
/-- k digits stand at the front, of at most m that are read -/
def frK (T : Nat → Nat) (n m k : Nat) : Prop := k ≤ m ∧ k ≤ n ∧ (∀ i, i < k → isD (T i) = true) ∧ (k = m ∨ k = n ∨ isD (T k) = false)
theorem frK_ex (T : Nat → Nat) (n m : Nat) : ∃ k, frK T n m k := by
  rcases firstOf (fun i => i = m ∨ i = n ∨ isD (T i) = false) (m + 1) with ⟨k, hk, hp1, hno⟩ | hno
  · refine ⟨k, by omega, ?_, ?_, hp1⟩
    · apply Classical.byContradiction
      intro z
      exact hno n (by omega) (Or.inr (Or.inl rfl))
    · intro i hi
      have := hno i hi
      cases hq : isD (T i) with
      | true => rfl
      | false => exact absurd (Or.inr (Or.inr hq)) this
  · exact absurd (Or.inl rfl) (hno m (by omega))
section X2
variable {ko : aKo} {d k : Nat} {is : List Instr} {ls st : List Value} {σ : aH} {D : Nat → Nat} {N : Nat → Nat → Nat} {I : Nat → Nat → Int32} {J : Nat → Nat → Int64} {x t : Nat} {Q : Option Value → aH → Prop} {P : (Option Value ⊕ Unit) → aH → Prop}
theorem tx_N (h : invB D N I J t) : N 1 1 ≤ 80 ∧ ∀ i, i < N 1 1 → N 2 i < 256 := by
  obtain ⟨t1, t2, t3⟩ := h.2.1
  refine ⟨by omega, fun i hi => ?_⟩
  have := t3 i (by omega)
  omega
theorem txC_e (h : invB D N I J t) {i : Nat} (hi : i < N 86 11) : txC N i = N 91 i := by
  obtain ⟨t1, t2, t3⟩ := h.2.1
  unfold txC
  rw [if_pos (by omega), (t3 i hi).1]
/-- the class finds the first sign that is no digit -/
theorem l_290 {m k : Nat} (h : invB D N I J t) (hm1 : 1 ≤ m) (hm : m ≤ 80) (hk : frK (N 91) (N 86 11) m k) :
    ∀ j i : Nat, i + j = max 1 (min (N 86 11) m) → i ≤ k → aWp ko d 290 (aP.1 (Int.toNat 18561)) [.ref 1, .int (nI 48), .int (nI m), .int (nI (max 1 (min (N 86 11) m))), .int (nI i)] [] (hp D N I J x) (aL Q) = Q (some (.int (if k = N 86 11 ∧ 1 ≤ N 86 11 then -1 else nI k))) (hp D N I J x) := by
  obtain ⟨b1, b2⟩ := tx_N h
  obtain ⟨t1, t2, t3⟩ := h.2.1
  obtain ⟨k1, k2, k3, k4⟩ := hk
  intro j
  induction j with
  | zero =>
    intro i hj hi
    have e : i = max 1 (min (N 86 11) m) := by omega
    rw [← e, al_18561]
    by_cases hn : m < N 86 11
    · have ek : k = m := by omega
      rw [if_neg (by omega), ek]
      simp (disch := (first | omega | exact aCat_8 (by with_unfolding_all rfl) | exact rk_lt (by with_unfolding_all rfl) | exact aCat_16 (by with_unfolding_all rfl) | exact rk_eq (by with_unfolding_all rfl) | assumption | exact b2n_lt _ | exact id_b (by with_unfolding_all rfl) | (simp (disch := omega) only [u2_same, u2_ab, u2_aq]; done) | (simp (disch := omega) only [u2_same, u2_ab, u2_aq]; omega) | fail)) only [al_18560, wk_1, wp_aloadr_0, wp_aloadk_0, hg_1_1, wp_iload_2, wp_min, wp_max, wp_istore_3, wk_0, wp_istore_4, wp_jsr, wp_iload_4, wp_iload_3, wn_ge_t, wn_ge_f, wc_288, wp_iload_1, wn_lt_t, wn_lt_f, wk_57, wn_le_t, wn_le_f, al_18562, wp_ireturn, al_18563, wp_iinc_4_1, wp_goto, al_18564, al_18565, wk_m1, al_18566, nl_i, nl_r, nl_k, nl_j, nl_l, nI_add, pk_mul, pk_sub, tl_s, tl_n, aL_inl, u2_same, u2_ab, u2_aq, nI_l, lN_i, Nat.add_zero, Nat.zero_add, Nat.zero_le, true_and, and_true, b2n_10, b2n_T, b2n_F, b2n_0, Decidable.not_not, not_true_eq_false, not_false_eq_true, Nat.reduceAdd, Nat.reduceMul, Nat.reduceSub, t1]
    · have ek : k = N 86 11 := by omega
      rw [if_pos ⟨ek, by omega⟩]
      simp (disch := (first | omega | exact aCat_8 (by with_unfolding_all rfl) | exact rk_lt (by with_unfolding_all rfl) | exact aCat_16 (by with_unfolding_all rfl) | exact rk_eq (by with_unfolding_all rfl) | assumption | exact b2n_lt _ | exact id_b (by with_unfolding_all rfl) | (simp (disch := omega) only [u2_same, u2_ab, u2_aq]; done) | (simp (disch := omega) only [u2_same, u2_ab, u2_aq]; omega) | fail)) only [al_18560, wk_1, wp_aloadr_0, wp_aloadk_0, hg_1_1, wp_iload_2, wp_min, wp_max, wp_istore_3, wk_0, wp_istore_4, wp_jsr, wp_iload_4, wp_iload_3, wn_ge_t, wn_ge_f, wc_288, wp_iload_1, wn_lt_t, wn_lt_f, wk_57, wn_le_t, wn_le_f, al_18562, wp_ireturn, al_18563, wp_iinc_4_1, wp_goto, al_18564, al_18565, wk_m1, al_18566, nl_i, nl_r, nl_k, nl_j, nl_l, nI_add, pk_mul, pk_sub, tl_s, tl_n, aL_inl, u2_same, u2_ab, u2_aq, nI_l, lN_i, Nat.add_zero, Nat.zero_add, Nat.zero_le, true_and, and_true, b2n_10, b2n_T, b2n_F, b2n_0, Decidable.not_not, not_true_eq_false, not_false_eq_true, Nat.reduceAdd, Nat.reduceMul, Nat.reduceSub, t1]
  | succ j ih =>
    intro i hj hi
    have hlt : i < max 1 (min (N 86 11) m) := by omega
    have ht := fun Q => t_288 (ko := ko) (d := d) (D := D) (N := N) (I := I) (J := J) (x := x) (Q := Q) (i := i) (by omega) b1 b2
    have hc := txC_lt (i := i) b2
    by_cases hik : i < k
    · have hd := isD_iff.mp (k3 i hik)
      have e := txC_e h (i := i) (by omega)
      rw [← e] at hd
      have ih1 := ih (i + 1) (by omega) (by omega)
      rw [al_18561]
      simp (disch := (first | omega | exact aCat_8 (by with_unfolding_all rfl) | exact rk_lt (by with_unfolding_all rfl) | exact aCat_16 (by with_unfolding_all rfl) | exact rk_eq (by with_unfolding_all rfl) | assumption | exact b2n_lt _ | exact id_b (by with_unfolding_all rfl) | (simp (disch := omega) only [u2_same, u2_ab, u2_aq]; done) | (simp (disch := omega) only [u2_same, u2_ab, u2_aq]; omega) | fail)) only [al_18560, wk_1, wp_aloadr_0, wp_aloadk_0, hg_1_1, wp_iload_2, wp_min, wp_max, wp_istore_3, wk_0, wp_istore_4, wp_jsr, wp_iload_4, wp_iload_3, wn_ge_t, wn_ge_f, wc_288, wp_iload_1, wn_lt_t, wn_lt_f, wk_57, wn_le_t, wn_le_f, al_18562, wp_ireturn, al_18563, wp_iinc_4_1, wp_goto, al_18564, al_18565, wk_m1, al_18566, nl_i, nl_r, nl_k, nl_j, nl_l, nI_add, pk_mul, pk_sub, tl_s, tl_n, aL_inl, u2_same, u2_ab, u2_aq, nI_l, lN_i, Nat.add_zero, Nat.zero_add, Nat.zero_le, true_and, and_true, b2n_10, b2n_T, b2n_F, b2n_0, Decidable.not_not, not_true_eq_false, not_false_eq_true, Nat.reduceAdd, Nat.reduceMul, Nat.reduceSub, ht]
      exact ih1
    · have ek : i = k := by omega
      subst ek
      have hnd : ¬ (48 ≤ txC N i ∧ txC N i ≤ 57) := by
        by_cases hin : i < N 86 11
        · rw [txC_e h hin]
          rcases k4 with k4 | k4 | k4
          · omega
          · omega
          · exact isD_f.mp k4
        · unfold txC
          rw [if_neg (by omega)]
          omega
      rw [if_neg (by omega), al_18561]
      by_cases h1 : txC N i < 48
      · simp (disch := (first | omega | exact aCat_8 (by with_unfolding_all rfl) | exact rk_lt (by with_unfolding_all rfl) | exact aCat_16 (by with_unfolding_all rfl) | exact rk_eq (by with_unfolding_all rfl) | assumption | exact b2n_lt _ | exact id_b (by with_unfolding_all rfl) | (simp (disch := omega) only [u2_same, u2_ab, u2_aq]; done) | (simp (disch := omega) only [u2_same, u2_ab, u2_aq]; omega) | fail)) only [al_18560, wk_1, wp_aloadr_0, wp_aloadk_0, hg_1_1, wp_iload_2, wp_min, wp_max, wp_istore_3, wk_0, wp_istore_4, wp_jsr, wp_iload_4, wp_iload_3, wn_ge_t, wn_ge_f, wc_288, wp_iload_1, wn_lt_t, wn_lt_f, wk_57, wn_le_t, wn_le_f, al_18562, wp_ireturn, al_18563, wp_iinc_4_1, wp_goto, al_18564, al_18565, wk_m1, al_18566, nl_i, nl_r, nl_k, nl_j, nl_l, nI_add, pk_mul, pk_sub, tl_s, tl_n, aL_inl, u2_same, u2_ab, u2_aq, nI_l, lN_i, Nat.add_zero, Nat.zero_add, Nat.zero_le, true_and, and_true, b2n_10, b2n_T, b2n_F, b2n_0, Decidable.not_not, not_true_eq_false, not_false_eq_true, Nat.reduceAdd, Nat.reduceMul, Nat.reduceSub, ht]
      · simp (disch := (first | omega | exact aCat_8 (by with_unfolding_all rfl) | exact rk_lt (by with_unfolding_all rfl) | exact aCat_16 (by with_unfolding_all rfl) | exact rk_eq (by with_unfolding_all rfl) | assumption | exact b2n_lt _ | exact id_b (by with_unfolding_all rfl) | (simp (disch := omega) only [u2_same, u2_ab, u2_aq]; done) | (simp (disch := omega) only [u2_same, u2_ab, u2_aq]; omega) | fail)) only [al_18560, wk_1, wp_aloadr_0, wp_aloadk_0, hg_1_1, wp_iload_2, wp_min, wp_max, wp_istore_3, wk_0, wp_istore_4, wp_jsr, wp_iload_4, wp_iload_3, wn_ge_t, wn_ge_f, wc_288, wp_iload_1, wn_lt_t, wn_lt_f, wk_57, wn_le_t, wn_le_f, al_18562, wp_ireturn, al_18563, wp_iinc_4_1, wp_goto, al_18564, al_18565, wk_m1, al_18566, nl_i, nl_r, nl_k, nl_j, nl_l, nI_add, pk_mul, pk_sub, tl_s, tl_n, aL_inl, u2_same, u2_ab, u2_aq, nI_l, lN_i, Nat.add_zero, Nat.zero_add, Nat.zero_le, true_and, and_true, b2n_10, b2n_T, b2n_F, b2n_0, Decidable.not_not, not_true_eq_false, not_false_eq_true, Nat.reduceAdd, Nat.reduceMul, Nat.reduceSub, ht]
theorem t_290 {m k : Nat} (h : invB D N I J t) (hm1 : 1 ≤ m) (hm : m ≤ 80) (hk : frK (N 91) (N 86 11) m k) : aMm ko d 290 [.ref 1, .int (nI 48), .int (nI m)] (hp D N I J x) Q = Q (some (.int (if k = N 86 11 ∧ 1 ≤ N 86 11 then -1 else nI k))) (hp D N I J x) := by
  have hx := l_290 (ko := ko) (d := d) (x := x) (Q := Q) h hm1 hm hk (max 1 (min (N 86 11) m)) 0 (by omega) (Nat.zero_le _)
  have t1 := h.2.1.1
  have t2 := h.2.1.2.1
  rw [me_290]
  simp (disch := (first | omega | exact aCat_8 (by with_unfolding_all rfl) | exact rk_lt (by with_unfolding_all rfl) | exact aCat_16 (by with_unfolding_all rfl) | exact rk_eq (by with_unfolding_all rfl) | assumption | exact b2n_lt _ | exact id_b (by with_unfolding_all rfl) | (simp (disch := omega) only [u2_same, u2_ab, u2_aq]; done) | (simp (disch := omega) only [u2_same, u2_ab, u2_aq]; omega) | fail)) only [al_18560, wk_1, wp_aloadr_0, wp_aloadk_0, hg_1_1, wp_iload_2, wp_min, wp_max, wp_istore_3, wk_0, wp_istore_4, wp_jsr, wp_iload_4, wp_iload_3, wn_ge_t, wn_ge_f, wc_288, wp_iload_1, wn_lt_t, wn_lt_f, wk_57, wn_le_t, wn_le_f, al_18562, wp_ireturn, al_18563, wp_iinc_4_1, wp_goto, al_18564, al_18565, wk_m1, al_18566, nl_i, nl_r, nl_k, nl_j, nl_l, nI_add, pk_mul, pk_sub, tl_s, tl_n, aL_inl, u2_same, u2_ab, u2_aq, nI_l, lN_i, Nat.add_zero, Nat.zero_add, Nat.zero_le, true_and, and_true, b2n_10, b2n_T, b2n_F, b2n_0, Decidable.not_not, not_true_eq_false, not_false_eq_true, Nat.reduceAdd, Nat.reduceMul, Nat.reduceSub, t1]
  exact hx
/-- the class takes the digits -/
theorem l_229 {N0 : Nat → Nat → Nat} {n : Nat} (hn : n ≤ 20) (hb1 : N0 1 1 ≤ 80) (hb2 : ∀ i, i < N0 1 1 → N0 2 i < 256) (hd : ∀ i, i < n → isD (txC N0 i) = true)
    (hQ : ∀ N : Nat → Nat → Nat, (∀ b q, b ≠ 10 → N b q = N0 b q) → (∀ i, i < n → N 10 i = txC N0 i - 48) → Q none (hp D N I J x)) (h9 : N0 9 1 = n) :
    ∀ (j i : Nat) (N : Nat → Nat → Nat), i + j = n → (∀ b q, b ≠ 10 → N b q = N0 b q) → (∀ k, k < i → N 10 k = txC N0 k - 48) → aWp ko d 229 (aP.1 (Int.toNat 14657)) [.ref 9, .ref 1, .int (nI i)] [] (hp D N I J x) (aL Q) := by
  intro j
  induction j with
  | zero =>
    intro i N hj hN hv
    have e : i = n := by omega
    subst e
    have e9 : N 9 1 = i := (hN 9 1 (by decide)).trans h9
    rw [al_14657]
    simp (disch := (first | omega | exact aCat_8 (by with_unfolding_all rfl) | exact rk_lt (by with_unfolding_all rfl) | exact aCat_16 (by with_unfolding_all rfl) | exact rk_eq (by with_unfolding_all rfl) | assumption | exact b2n_lt _ | exact id_b (by with_unfolding_all rfl) | (simp (disch := omega) only [u2_same, u2_ab, u2_aq]; done) | (simp (disch := omega) only [u2_same, u2_ab, u2_aq]; omega) | fail)) only [al_14656, wp_aloadr_0, wp_aloadk_0, wk_1, wk_20, wp_aloadr_1, wp_aloadk_1, hg_1_1, wp_min, wp_max, hp_9_1, wk_0, wp_istore_2, wp_jsr, wp_iload_2, hg_9_1, wn_ge_t, wn_ge_f, hg_9_0, ha_10l, ha_10s, wc_287, wp_iinc_2_1, wp_goto, al_14658, wp_return, nl_i, nl_r, nl_k, nl_j, nl_l, nI_add, pk_mul, pk_sub, tl_s, tl_n, aL_inl, u2_same, u2_ab, u2_aq, nI_l, lN_i, Nat.add_zero, Nat.zero_add, Nat.zero_le, true_and, and_true, b2n_10, b2n_T, b2n_F, b2n_0, Decidable.not_not, not_true_eq_false, not_false_eq_true, Nat.reduceAdd, Nat.reduceMul, Nat.reduceSub, e9]
    exact hQ N hN hv
  | succ j ih =>
    intro i N hj hN hv
    have e9 : N 9 1 = n := (hN 9 1 (by decide)).trans h9
    have e11 : N 1 1 = N0 1 1 := hN 1 1 (by decide)
    have ec : txC N i = txC N0 i := by
      unfold txC
      rw [e11, hN 2 i (by decide)]
    have hdi := hd i (by omega)
    have hdi2 := isD_iff.mp hdi
    have ht := fun Q => t_287 (ko := ko) (d := d) (D := D) (N := N) (I := I) (J := J) (x := x) (Q := Q) (i := i) (by omega) (by rw [e11]; exact hb1) (fun k hk => by rw [e11] at hk; rw [hN 2 k (by decide)]; exact hb2 k hk)
    rw [ec, dgI, if_pos hdi] at ht
    have hmx : max 0 (txC N0 i - 48) = txC N0 i - 48 := by omega
    rw [al_14657]
    simp (disch := (first | omega | exact aCat_8 (by with_unfolding_all rfl) | exact rk_lt (by with_unfolding_all rfl) | exact aCat_16 (by with_unfolding_all rfl) | exact rk_eq (by with_unfolding_all rfl) | assumption | exact b2n_lt _ | exact id_b (by with_unfolding_all rfl) | (simp (disch := omega) only [u2_same, u2_ab, u2_aq]; done) | (simp (disch := omega) only [u2_same, u2_ab, u2_aq]; omega) | fail)) only [al_14656, wp_aloadr_0, wp_aloadk_0, wk_1, wk_20, wp_aloadr_1, wp_aloadk_1, hg_1_1, wp_min, wp_max, hp_9_1, wk_0, wp_istore_2, wp_jsr, wp_iload_2, hg_9_1, wn_ge_t, wn_ge_f, hg_9_0, ha_10l, ha_10s, wc_287, wp_iinc_2_1, wp_goto, al_14658, wp_return, nl_i, nl_r, nl_k, nl_j, nl_l, nI_add, pk_mul, pk_sub, tl_s, tl_n, aL_inl, u2_same, u2_ab, u2_aq, nI_l, lN_i, Nat.add_zero, Nat.zero_add, Nat.zero_le, true_and, and_true, b2n_10, b2n_T, b2n_F, b2n_0, Decidable.not_not, not_true_eq_false, not_false_eq_true, Nat.reduceAdd, Nat.reduceMul, Nat.reduceSub, e9, ht, hmx]
    refine ih (i + 1) _ (by omega) (fun b q z => by rw [u2_ab z]; exact hN b q z) ?_
    intro k hk
    by_cases e : k = i
    · rw [e, u2_same]
    · rw [u2_aq e]
      exact hv k (by omega)
theorem t_229 {n : Nat} (h1 : 1 ≤ n) (hn : n ≤ 20) (hb1 : N 1 1 = n) (hb2 : ∀ i, i < N 1 1 → N 2 i < 256) (hd : ∀ i, i < n → isD (txC N i) = true)
    (hQ : ∀ N' : Nat → Nat → Nat, (∀ b q, b ≠ 10 → ¬ (b = 9 ∧ q = 1) → N' b q = N b q) → N' 9 1 = n → (∀ i, i < n → N' 10 i = txC N i - 48) → Q none (hp D N' I J x)) : aMm ko d 229 [.ref 9, .ref 1] (hp D N I J x) Q := by
  have ec : ∀ i, txC (u2 N 9 1 n) i = txC N i := by
    intro i
    unfold txC
    rw [u2_ab (by decide), u2_ab (by decide)]
  have hx := l_229 (ko := ko) (d := d) (D := D) (I := I) (J := J) (x := x) (Q := Q) (N0 := u2 N 9 1 n) (n := n) hn (by rw [u2_ab (by decide)]; omega) (fun i hi => by rw [u2_ab (by decide)] at hi ⊢; exact hb2 i hi) (fun i hi => by rw [ec]; exact hd i hi) (fun N' hN hv => hQ N' (fun b q z1 z2 => by rw [hN b q z1, u2_rd, if_neg z2]) (by rw [hN 9 1 (by decide), u2_same]) (fun i hi => by rw [hv i hi, ec])) (u2_same _ _ _ _) n 0 (u2 N 9 1 n) (by omega) (fun _ _ _ => rfl) (fun k hk => absurd hk (Nat.not_lt_zero k))
  have hmm : max 1 (min 20 n) = n := by omega
  rw [me_229]
  simp (disch := (first | omega | exact aCat_8 (by with_unfolding_all rfl) | exact rk_lt (by with_unfolding_all rfl) | exact aCat_16 (by with_unfolding_all rfl) | exact rk_eq (by with_unfolding_all rfl) | assumption | exact b2n_lt _ | exact id_b (by with_unfolding_all rfl) | (simp (disch := omega) only [u2_same, u2_ab, u2_aq]; done) | (simp (disch := omega) only [u2_same, u2_ab, u2_aq]; omega) | fail)) only [al_14656, wp_aloadr_0, wp_aloadk_0, wk_1, wk_20, wp_aloadr_1, wp_aloadk_1, hg_1_1, wp_min, wp_max, hp_9_1, wk_0, wp_istore_2, wp_jsr, wp_iload_2, hg_9_1, wn_ge_t, wn_ge_f, hg_9_0, ha_10l, ha_10s, wc_287, wp_iinc_2_1, wp_goto, al_14658, wp_return, nl_i, nl_r, nl_k, nl_j, nl_l, nI_add, pk_mul, pk_sub, tl_s, tl_n, aL_inl, u2_same, u2_ab, u2_aq, nI_l, lN_i, Nat.add_zero, Nat.zero_add, Nat.zero_le, true_and, and_true, b2n_10, b2n_T, b2n_F, b2n_0, Decidable.not_not, not_true_eq_false, not_false_eq_true, Nat.reduceAdd, Nat.reduceMul, Nat.reduceSub, hb1, hmm]
  exact hx
/-- the reference reads them -/
theorem l_11a {N0 : Nat → Nat → Nat} {I0 : Nat → Nat → Int32} {n k : Nat} {w2 : Value} (hn : n ≤ 80) (hb : ∀ i, i < n → N0 91 i < 256) (hk : frK (N0 91) n 20 k)
    (hK : ∀ (N : Nat → Nat → Nat) (I : Nat → Nat → Int32), txR N0 N n k → (∀ b q, b ≠ 92 → I b q = I0 b q) → (∀ i, i < k → I 92 i = nI (N0 91 i - 48)) → aWp ko d 11 (aP.1 (Int.toNat 706)) [.ref 86, .int (nI k), w2] [] (hp D N I J x) (aL Q)) :
    ∀ (j i : Nat) (N : Nat → Nat → Nat) (I : Nat → Nat → Int32), i + j = k → txR N0 N n i → (∀ b q, b ≠ 92 → I b q = I0 b q) → (∀ a, a < i → I 92 a = nI (N0 91 a - 48)) → aWp ko d 11 (aP.1 (Int.toNat 705)) [.ref 86, .int (nI i), w2] [] (hp D N I J x) (aL Q) := by
  obtain ⟨k1, k2, k3, k4⟩ := hk
  intro j
  induction j with
  | zero =>
    intro i N I hj hT hI hv
    have e : i = k := by omega
    subst e
    obtain ⟨x1, x2, x3, x4⟩ := id hT
    rw [al_705]
    by_cases z : i = 20
    · subst z
      simp (disch := (first | omega | exact aCat_8 (by with_unfolding_all rfl) | exact rk_lt (by with_unfolding_all rfl) | exact aCat_16 (by with_unfolding_all rfl) | exact rk_eq (by with_unfolding_all rfl) | assumption | exact b2n_lt _ | exact id_b (by with_unfolding_all rfl) | (simp (disch := omega) only [u2_same, u2_ab, u2_aq]; done) | (simp (disch := omega) only [u2_same, u2_ab, u2_aq]; omega) | fail)) only [al_704, wp_aloadr_0, wp_aloadk_0, wk_0, hp_86_0, wk_80, wc_6, wp_pop, wp_istore_1, wp_jsr, wp_iload_1, wk_20, wn_ge_t, wn_ge_f, wc_9, wz_eq_t, wz_eq_f, wb_eq_t, wb_eq_f, wm_eq_1, wm_eq_2, hg_86_15, ha_92l, ha_92s, wk_1, wc_8, wp_iinc_1_1, wp_goto, hg_86_12, hg_86_13, al_707, wk_m1, wp_isub, wp_ireturn, al_708, hp_86_6, wp_istore_2, wp_iload_2, hg_86_7, ha_88l, ha_88s, wp_iinc_2_1, al_710, nl_i, nl_r, nl_k, nl_j, nl_l, nI_add, pk_mul, pk_sub, tl_s, tl_n, aL_inl, u2_same, u2_ab, u2_aq, nI_l, lN_i, Nat.add_zero, Nat.zero_add, Nat.zero_le, true_and, and_true, b2n_10, b2n_T, b2n_F, b2n_0, Decidable.not_not, not_true_eq_false, not_false_eq_true, Nat.reduceAdd, Nat.reduceMul, Nat.reduceSub]
      exact hK N I hT hI hv
    · have h9 := fun Q => t_9 (ko := ko) (d := d) (D := D) (N := N) (I := I) (J := J) (x := x) (Q := Q) (c := N0 91 i) x1 x2 hn k2 (fun y => ⟨x4 91 i (by decide) (by omega), hb i y⟩)
      rw [b2n_f (by
        rintro ⟨y1, y2⟩
        rcases k4 with k4 | k4 | k4
        · exact z k4
        · omega
        · rw [k4] at y2
          cases y2)] at h9
      simp (disch := (first | omega | exact aCat_8 (by with_unfolding_all rfl) | exact rk_lt (by with_unfolding_all rfl) | exact aCat_16 (by with_unfolding_all rfl) | exact rk_eq (by with_unfolding_all rfl) | assumption | exact b2n_lt _ | exact id_b (by with_unfolding_all rfl) | (simp (disch := omega) only [u2_same, u2_ab, u2_aq]; done) | (simp (disch := omega) only [u2_same, u2_ab, u2_aq]; omega) | fail)) only [al_704, wp_aloadr_0, wp_aloadk_0, wk_0, hp_86_0, wk_80, wc_6, wp_pop, wp_istore_1, wp_jsr, wp_iload_1, wk_20, wn_ge_t, wn_ge_f, wc_9, wz_eq_t, wz_eq_f, wb_eq_t, wb_eq_f, wm_eq_1, wm_eq_2, hg_86_15, ha_92l, ha_92s, wk_1, wc_8, wp_iinc_1_1, wp_goto, hg_86_12, hg_86_13, al_707, wk_m1, wp_isub, wp_ireturn, al_708, hp_86_6, wp_istore_2, wp_iload_2, hg_86_7, ha_88l, ha_88s, wp_iinc_2_1, al_710, nl_i, nl_r, nl_k, nl_j, nl_l, nI_add, pk_mul, pk_sub, tl_s, tl_n, aL_inl, u2_same, u2_ab, u2_aq, nI_l, lN_i, Nat.add_zero, Nat.zero_add, Nat.zero_le, true_and, and_true, b2n_10, b2n_T, b2n_F, b2n_0, Decidable.not_not, not_true_eq_false, not_false_eq_true, Nat.reduceAdd, Nat.reduceMul, Nat.reduceSub, h9]
      exact hK N I hT hI hv
  | succ j ih =>
    intro i N I hj hT hI hv
    obtain ⟨x1, x2, x3, x4⟩ := id hT
    have hdi := k3 i (by omega)
    have hdi2 := isD_iff.mp hdi
    have h9 := fun Q => t_9 (ko := ko) (d := d) (D := D) (N := N) (I := I) (J := J) (x := x) (Q := Q) (c := N0 91 i) x1 x2 hn (by omega) (fun y => ⟨x4 91 i (by decide) (by omega), hb i y⟩)
    rw [b2n_t ⟨by omega, hdi⟩] at h9
    rw [al_705]
    simp (disch := (first | omega | exact aCat_8 (by with_unfolding_all rfl) | exact rk_lt (by with_unfolding_all rfl) | exact aCat_16 (by with_unfolding_all rfl) | exact rk_eq (by with_unfolding_all rfl) | assumption | exact b2n_lt _ | exact id_b (by with_unfolding_all rfl) | (simp (disch := omega) only [u2_same, u2_ab, u2_aq]; done) | (simp (disch := omega) only [u2_same, u2_ab, u2_aq]; omega) | fail)) only [al_704, wp_aloadr_0, wp_aloadk_0, wk_0, hp_86_0, wk_80, wc_6, wp_pop, wp_istore_1, wp_jsr, wp_iload_1, wk_20, wn_ge_t, wn_ge_f, wc_9, wz_eq_t, wz_eq_f, wb_eq_t, wb_eq_f, wm_eq_1, wm_eq_2, hg_86_15, ha_92l, ha_92s, wk_1, wc_8, wp_iinc_1_1, wp_goto, hg_86_12, hg_86_13, al_707, wk_m1, wp_isub, wp_ireturn, al_708, hp_86_6, wp_istore_2, wp_iload_2, hg_86_7, ha_88l, ha_88s, wp_iinc_2_1, al_710, nl_i, nl_r, nl_k, nl_j, nl_l, nI_add, pk_mul, pk_sub, tl_s, tl_n, aL_inl, u2_same, u2_ab, u2_aq, nI_l, lN_i, Nat.add_zero, Nat.zero_add, Nat.zero_le, true_and, and_true, b2n_10, b2n_T, b2n_F, b2n_0, Decidable.not_not, not_true_eq_false, not_false_eq_true, Nat.reduceAdd, Nat.reduceMul, Nat.reduceSub, h9]
    refine t_8 hT hn (by omega) hdi ?_
    intro N1 hT1 _
    simp (disch := (first | omega | exact aCat_8 (by with_unfolding_all rfl) | exact rk_lt (by with_unfolding_all rfl) | exact aCat_16 (by with_unfolding_all rfl) | exact rk_eq (by with_unfolding_all rfl) | assumption | exact b2n_lt _ | exact id_b (by with_unfolding_all rfl) | (simp (disch := omega) only [u2_same, u2_ab, u2_aq]; done) | (simp (disch := omega) only [u2_same, u2_ab, u2_aq]; omega) | fail)) only [al_704, wp_aloadr_0, wp_aloadk_0, wk_0, hp_86_0, wk_80, wc_6, wp_pop, wp_istore_1, wp_jsr, wp_iload_1, wk_20, wn_ge_t, wn_ge_f, wc_9, wz_eq_t, wz_eq_f, wb_eq_t, wb_eq_f, wm_eq_1, wm_eq_2, hg_86_15, ha_92l, ha_92s, wk_1, wc_8, wp_iinc_1_1, wp_goto, hg_86_12, hg_86_13, al_707, wk_m1, wp_isub, wp_ireturn, al_708, hp_86_6, wp_istore_2, wp_iload_2, hg_86_7, ha_88l, ha_88s, wp_iinc_2_1, al_710, nl_i, nl_r, nl_k, nl_j, nl_l, nI_add, pk_mul, pk_sub, tl_s, tl_n, aL_inl, u2_same, u2_ab, u2_aq, nI_l, lN_i, Nat.add_zero, Nat.zero_add, Nat.zero_le, true_and, and_true, b2n_10, b2n_T, b2n_F, b2n_0, Decidable.not_not, not_true_eq_false, not_false_eq_true, Nat.reduceAdd, Nat.reduceMul, Nat.reduceSub]
    refine ih (i + 1) _ _ (by omega) hT1 (fun b q z => by rw [u2_ab z]; exact hI b q z) ?_
    intro a ha
    by_cases e : a = i
    · rw [e, u2_same]
    · rw [u2_aq e]
      exact hv a (by omega)
theorem l_11b {N0 : Nat → Nat → Nat} {k : Nat} {g : Nat → Nat} (hk : k ≤ 20) (hg : ∀ i, i < k → I 92 i = nI (g i) ∧ g i ≤ 9)
    (hQ : ∀ N : Nat → Nat → Nat, (∀ b q, b ≠ 88 → N b q = N0 b q) → (∀ i, i < k → N 88 i = g i) → Q (some (.int (nI k))) (hp D N I J x)) :
    ∀ (j i : Nat) (N : Nat → Nat → Nat), i + j = k → (∀ b q, b ≠ 88 → N b q = N0 b q) → (∀ a, a < i → N 88 a = g a) → aWp ko d 11 (aP.1 (Int.toNat 709)) [.ref 86, .int (nI k), .int (nI i)] [] (hp D N I J x) (aL Q) := by
  intro j
  induction j with
  | zero =>
    intro i N hj hN hv
    have e : i = k := by omega
    subst e
    rw [al_709]
    simp (disch := (first | omega | exact aCat_8 (by with_unfolding_all rfl) | exact rk_lt (by with_unfolding_all rfl) | exact aCat_16 (by with_unfolding_all rfl) | exact rk_eq (by with_unfolding_all rfl) | assumption | exact b2n_lt _ | exact id_b (by with_unfolding_all rfl) | (simp (disch := omega) only [u2_same, u2_ab, u2_aq]; done) | (simp (disch := omega) only [u2_same, u2_ab, u2_aq]; omega) | fail)) only [al_704, wp_aloadr_0, wp_aloadk_0, wk_0, hp_86_0, wk_80, wc_6, wp_pop, wp_istore_1, wp_jsr, wp_iload_1, wk_20, wn_ge_t, wn_ge_f, wc_9, wz_eq_t, wz_eq_f, wb_eq_t, wb_eq_f, wm_eq_1, wm_eq_2, hg_86_15, ha_92l, ha_92s, wk_1, wc_8, wp_iinc_1_1, wp_goto, al_706, hg_86_12, hg_86_13, al_707, wk_m1, wp_isub, wp_ireturn, al_708, hp_86_6, wp_istore_2, wp_iload_2, hg_86_7, ha_88l, ha_88s, wp_iinc_2_1, al_710, nl_i, nl_r, nl_k, nl_j, nl_l, nI_add, pk_mul, pk_sub, tl_s, tl_n, aL_inl, u2_same, u2_ab, u2_aq, nI_l, lN_i, Nat.add_zero, Nat.zero_add, Nat.zero_le, true_and, and_true, b2n_10, b2n_T, b2n_F, b2n_0, Decidable.not_not, not_true_eq_false, not_false_eq_true, Nat.reduceAdd, Nat.reduceMul, Nat.reduceSub]
    exact hQ N hN hv
  | succ j ih =>
    intro i N hj hN hv
    obtain ⟨e92, _⟩ := hg i (by omega)
    rw [al_709]
    simp (disch := (first | omega | exact aCat_8 (by with_unfolding_all rfl) | exact rk_lt (by with_unfolding_all rfl) | exact aCat_16 (by with_unfolding_all rfl) | exact rk_eq (by with_unfolding_all rfl) | assumption | exact b2n_lt _ | exact id_b (by with_unfolding_all rfl) | (simp (disch := omega) only [u2_same, u2_ab, u2_aq]; done) | (simp (disch := omega) only [u2_same, u2_ab, u2_aq]; omega) | fail)) only [al_704, wp_aloadr_0, wp_aloadk_0, wk_0, hp_86_0, wk_80, wc_6, wp_pop, wp_istore_1, wp_jsr, wp_iload_1, wk_20, wn_ge_t, wn_ge_f, wc_9, wz_eq_t, wz_eq_f, wb_eq_t, wb_eq_f, wm_eq_1, wm_eq_2, hg_86_15, ha_92l, ha_92s, wk_1, wc_8, wp_iinc_1_1, wp_goto, al_706, hg_86_12, hg_86_13, al_707, wk_m1, wp_isub, wp_ireturn, al_708, hp_86_6, wp_istore_2, wp_iload_2, hg_86_7, ha_88l, ha_88s, wp_iinc_2_1, al_710, nl_i, nl_r, nl_k, nl_j, nl_l, nI_add, pk_mul, pk_sub, tl_s, tl_n, aL_inl, u2_same, u2_ab, u2_aq, nI_l, lN_i, Nat.add_zero, Nat.zero_add, Nat.zero_le, true_and, and_true, b2n_10, b2n_T, b2n_F, b2n_0, Decidable.not_not, not_true_eq_false, not_false_eq_true, Nat.reduceAdd, Nat.reduceMul, Nat.reduceSub, e92]
    refine ih (i + 1) _ (by omega) (fun b q z => by rw [u2_ab z]; exact hN b q z) ?_
    intro a ha
    by_cases e : a = i
    · rw [e, u2_same]
    · rw [u2_aq e]
      exact hv a (by omega)
/-- what force answers -/
def frA (n k : Nat) : Int32 := if k = n ∧ 1 ≤ n then nI k else -1 - nI k
theorem k_156 {k : Nat} (h : invB D N I J t) (hk : frK (N 91) (N 86 11) 20 k)
    (hQ : ∀ N' : Nat → Nat → Nat, N' 1 1 = 0 → (∀ b q, b ≠ 10 → ¬ (b = 9 ∧ q = 1) → ¬ (b = 1 ∧ q = 1) → N' b q = N b q) → (k = N 86 11 ∧ 1 ≤ N 86 11 → N' 9 1 = k ∧ ∀ i, i < k → N' 10 i = N 91 i - 48) → (¬ (k = N 86 11 ∧ 1 ≤ N 86 11) → N' 9 1 = N 9 1 ∧ ∀ q, N' 10 q = N 10 q) → Q (some (.int (frA (N 86 11) k))) (hp D N' I J x)) : aMm ko d 156 [.ref 0] (hp D N I J x) Q := by
  obtain ⟨t1, t2, t3⟩ := id h.2.1
  obtain ⟨b1, b2⟩ := tx_N h
  obtain ⟨k1, k2, k3, k4⟩ := id hk
  have h290 := fun Q => t_290 (ko := ko) (d := d) (x := x) (Q := Q) h (by decide) (by decide) hk
  rw [me_156]
  unfold frA at hQ
  by_cases hok : k = N 86 11 ∧ 1 ≤ N 86 11
  · rw [if_pos hok] at h290 hQ
    have hd : ∀ i, i < k → isD (txC N i) = true := fun i hi => by rw [txC_e h (by omega)]; exact k3 i hi
    simp (disch := (first | omega | exact aCat_8 (by with_unfolding_all rfl) | exact rk_lt (by with_unfolding_all rfl) | exact aCat_16 (by with_unfolding_all rfl) | exact rk_eq (by with_unfolding_all rfl) | assumption | exact b2n_lt _ | exact id_b (by with_unfolding_all rfl) | (simp (disch := omega) only [u2_same, u2_ab, u2_aq]; done) | (simp (disch := omega) only [u2_same, u2_ab, u2_aq]; omega) | fail)) only [al_9984, wp_aloadr_0, wp_aloadk_0, hg_0_0, wk_48, wk_20, wc_290, wp_istore_1, wk_m1, wp_iload_1, wp_isub, wp_istore_2, wn_ne_t, wn_ne_f, hg_0_3, wc_229, hg_1_1, wp_jsr, al_9985, wc_289, wp_iload_2, wp_ireturn, nl_i, nl_r, nl_k, nl_j, nl_l, nI_add, pk_mul, pk_sub, tl_s, tl_n, aL_inl, u2_same, u2_ab, u2_aq, nI_l, lN_i, Nat.add_zero, Nat.zero_add, Nat.zero_le, true_and, and_true, b2n_10, b2n_T, b2n_F, b2n_0, Decidable.not_not, not_true_eq_false, not_false_eq_true, Nat.reduceAdd, Nat.reduceMul, Nat.reduceSub, h290, qe_n1, qe_m1, qn_n1, qn_m1, qe_n2, qe_m2, qn_n2, qn_m2]
    refine t_229 (n := k) (by omega) (by omega) (by omega) b2 hd ?_
    intro N1 hN1 h91 h10
    have e11 : N1 1 1 = k := (hN1 1 1 (by decide) (by omega)).trans (by omega)
    simp (disch := (first | omega | exact aCat_8 (by with_unfolding_all rfl) | exact rk_lt (by with_unfolding_all rfl) | exact aCat_16 (by with_unfolding_all rfl) | exact rk_eq (by with_unfolding_all rfl) | assumption | exact b2n_lt _ | exact id_b (by with_unfolding_all rfl) | (simp (disch := omega) only [u2_same, u2_ab, u2_aq]; done) | (simp (disch := omega) only [u2_same, u2_ab, u2_aq]; omega) | fail)) only [al_9984, wp_aloadr_0, wp_aloadk_0, hg_0_0, wk_48, wk_20, wc_290, wp_istore_1, wk_m1, wp_iload_1, wp_isub, wp_istore_2, wn_ne_t, wn_ne_f, hg_0_3, wc_229, hg_1_1, wp_jsr, al_9985, wc_289, wp_iload_2, wp_ireturn, nl_i, nl_r, nl_k, nl_j, nl_l, nI_add, pk_mul, pk_sub, tl_s, tl_n, aL_inl, u2_same, u2_ab, u2_aq, nI_l, lN_i, Nat.add_zero, Nat.zero_add, Nat.zero_le, true_and, and_true, b2n_10, b2n_T, b2n_F, b2n_0, Decidable.not_not, not_true_eq_false, not_false_eq_true, Nat.reduceAdd, Nat.reduceMul, Nat.reduceSub, t_289, e11, qe_n1, qe_m1, qn_n1, qn_m1, qe_n2, qe_m2, qn_n2, qn_m2]
    refine hQ _ (u2_same _ _ _ _) (fun b q z1 z2 z3 => by rw [u2_rd, if_neg z3]; exact hN1 b q z1 z2) (fun _ => ⟨by rw [u2_ab (by decide)]; exact h91, fun i hi => by rw [u2_ab (by decide), h10 i hi, txC_e h (by omega)]⟩) (fun z => absurd hok z)
  · rw [if_neg hok] at h290 hQ
    have hk8 : k < 2147483648 := by omega
    simp (disch := (first | omega | exact aCat_8 (by with_unfolding_all rfl) | exact rk_lt (by with_unfolding_all rfl) | exact aCat_16 (by with_unfolding_all rfl) | exact rk_eq (by with_unfolding_all rfl) | assumption | exact b2n_lt _ | exact id_b (by with_unfolding_all rfl) | (simp (disch := omega) only [u2_same, u2_ab, u2_aq]; done) | (simp (disch := omega) only [u2_same, u2_ab, u2_aq]; omega) | fail)) only [al_9984, wp_aloadr_0, wp_aloadk_0, hg_0_0, wk_48, wk_20, wc_290, wp_istore_1, wk_m1, wp_iload_1, wp_isub, wp_istore_2, wn_ne_t, wn_ne_f, hg_0_3, wc_229, hg_1_1, wp_jsr, al_9985, wc_289, wp_iload_2, wp_ireturn, nl_i, nl_r, nl_k, nl_j, nl_l, nI_add, pk_mul, pk_sub, tl_s, tl_n, aL_inl, u2_same, u2_ab, u2_aq, nI_l, lN_i, Nat.add_zero, Nat.zero_add, Nat.zero_le, true_and, and_true, b2n_10, b2n_T, b2n_F, b2n_0, Decidable.not_not, not_true_eq_false, not_false_eq_true, Nat.reduceAdd, Nat.reduceMul, Nat.reduceSub, h290, t_289, qe_n1, qe_m1, qn_n1, qn_m1, qe_n2, qe_m2, qn_n2, qn_m2]
    exact hQ _ (u2_same _ _ _ _) (fun b q z1 z2 z3 => by rw [u2_rd, if_neg z3]) (fun z => absurd z hok) (fun _ => ⟨u2_ab (by decide), fun q => u2_ab (by decide)⟩)
theorem r_11 {n k : Nat} (h11 : N 86 11 = n) (hn : n ≤ 80) (hb : ∀ i, i < n → N 91 i < 256) (hk : frK (N 91) n 20 k)
    (hQ : ∀ (N' : Nat → Nat → Nat) (I' : Nat → Nat → Int32), N' 86 11 = 0 → (∀ b q, b ≠ 92 → b ≠ 88 → ¬ (b = 86 ∧ (q = 0 ∨ q = 6 ∨ q = 11 ∨ q = 12 ∨ q = 13 ∨ q = 14)) → N' b q = N b q) → (∀ b q, b ≠ 92 → I' b q = I b q) → (k = n ∧ 1 ≤ n → N' 86 6 = k ∧ ∀ i, i < k → N' 88 i = N 91 i - 48) → (¬ (k = n ∧ 1 ≤ n) → N' 86 6 = N 86 6 ∧ ∀ q, N' 88 q = N 88 q) → Q (some (.int (frA n k))) (hp D N' I' J x)) : aMm ko d 11 [.ref 86] (hp D N I J x) Q := by
  obtain ⟨k1, k2, k3, k4⟩ := id hk
  have e0 : ∀ b q, ¬ (b = 86 ∧ q = 0) → u2 N 86 0 0 b q = N b q := fun b q z => by rw [u2_rd, if_neg z]
  have e91 : u2 N 86 0 0 91 = N 91 := u2_nb (by decide)
  unfold frA at hQ
  rw [me_11]
  simp (disch := (first | omega | exact aCat_8 (by with_unfolding_all rfl) | exact rk_lt (by with_unfolding_all rfl) | exact aCat_16 (by with_unfolding_all rfl) | exact rk_eq (by with_unfolding_all rfl) | assumption | exact b2n_lt _ | exact id_b (by with_unfolding_all rfl) | (simp (disch := omega) only [u2_same, u2_ab, u2_aq]; done) | (simp (disch := omega) only [u2_same, u2_ab, u2_aq]; omega) | fail)) only [al_704, wp_aloadr_0, wp_aloadk_0, wk_0, hp_86_0, wk_80, wc_6, wp_pop, wp_istore_1, wp_jsr, wp_iload_1, wk_20, wn_ge_t, wn_ge_f, wc_9, wz_eq_t, wz_eq_f, wb_eq_t, wb_eq_f, wm_eq_1, wm_eq_2, hg_86_15, ha_92l, ha_92s, wk_1, wc_8, wp_iinc_1_1, wp_goto, al_706, hg_86_12, hg_86_13, al_707, wk_m1, wp_isub, wp_ireturn, al_708, hp_86_6, wp_istore_2, wp_iload_2, hg_86_7, ha_88l, ha_88s, wp_iinc_2_1, al_710, nl_i, nl_r, nl_k, nl_j, nl_l, nI_add, pk_mul, pk_sub, tl_s, tl_n, aL_inl, u2_same, u2_ab, u2_aq, nI_l, lN_i, Nat.add_zero, Nat.zero_add, Nat.zero_le, true_and, and_true, b2n_10, b2n_T, b2n_F, b2n_0, Decidable.not_not, not_true_eq_false, not_false_eq_true, Nat.reduceAdd, Nat.reduceMul, Nat.reduceSub]
  refine t_6 (n := n) ((e0 86 11 (by omega)).trans h11) hn (by decide) hn ?_
  intro N2 hT2
  simp (disch := (first | omega | exact aCat_8 (by with_unfolding_all rfl) | exact rk_lt (by with_unfolding_all rfl) | exact aCat_16 (by with_unfolding_all rfl) | exact rk_eq (by with_unfolding_all rfl) | assumption | exact b2n_lt _ | exact id_b (by with_unfolding_all rfl) | (simp (disch := omega) only [u2_same, u2_ab, u2_aq]; done) | (simp (disch := omega) only [u2_same, u2_ab, u2_aq]; omega) | fail)) only [al_704, wp_aloadr_0, wp_aloadk_0, wk_0, hp_86_0, wk_80, wc_6, wp_pop, wp_istore_1, wp_jsr, wp_iload_1, wk_20, wn_ge_t, wn_ge_f, wc_9, wz_eq_t, wz_eq_f, wb_eq_t, wb_eq_f, wm_eq_1, wm_eq_2, hg_86_15, ha_92l, ha_92s, wk_1, wc_8, wp_iinc_1_1, wp_goto, al_706, hg_86_12, hg_86_13, al_707, wk_m1, wp_isub, wp_ireturn, al_708, hp_86_6, wp_istore_2, wp_iload_2, hg_86_7, ha_88l, ha_88s, wp_iinc_2_1, al_710, nl_i, nl_r, nl_k, nl_j, nl_l, nI_add, pk_mul, pk_sub, tl_s, tl_n, aL_inl, u2_same, u2_ab, u2_aq, nI_l, lN_i, Nat.add_zero, Nat.zero_add, Nat.zero_le, true_and, and_true, b2n_10, b2n_T, b2n_F, b2n_0, Decidable.not_not, not_true_eq_false, not_false_eq_true, Nat.reduceAdd, Nat.reduceMul, Nat.reduceSub]
  refine l_11a (N0 := u2 N 86 0 0) (I0 := I) (n := n) (k := k) hn (fun i hi => by rw [e91]; exact hb i hi) (by rw [e91]; exact hk) ?_ k 0 N2 I (by omega) hT2 (fun _ _ _ => rfl) (fun a ha => absurd ha (Nat.not_lt_zero a))
  intro N3 I3 hT3 hI3 hv3
  rw [e91] at hv3
  obtain ⟨x1, x2, x3, x4⟩ := hT3
  rw [al_706]
  by_cases hok : k = n ∧ 1 ≤ n
  · rw [if_pos hok] at hQ
    have hk0 : ¬ k = 0 := by omega
    simp (disch := (first | omega | exact aCat_8 (by with_unfolding_all rfl) | exact rk_lt (by with_unfolding_all rfl) | exact aCat_16 (by with_unfolding_all rfl) | exact rk_eq (by with_unfolding_all rfl) | assumption | exact b2n_lt _ | exact id_b (by with_unfolding_all rfl) | (simp (disch := omega) only [u2_same, u2_ab, u2_aq]; done) | (simp (disch := omega) only [u2_same, u2_ab, u2_aq]; omega) | fail)) only [al_704, wp_aloadr_0, wp_aloadk_0, wk_0, hp_86_0, wk_80, wc_6, wp_pop, wp_istore_1, wp_jsr, wp_iload_1, wk_20, wn_ge_t, wn_ge_f, wc_9, wz_eq_t, wz_eq_f, wb_eq_t, wb_eq_f, wm_eq_1, wm_eq_2, hg_86_15, ha_92l, ha_92s, wk_1, wc_8, wp_iinc_1_1, wp_goto, al_706, hg_86_12, hg_86_13, al_707, wk_m1, wp_isub, wp_ireturn, al_708, hp_86_6, wp_istore_2, wp_iload_2, hg_86_7, ha_88l, ha_88s, wp_iinc_2_1, al_710, nl_i, nl_r, nl_k, nl_j, nl_l, nI_add, pk_mul, pk_sub, tl_s, tl_n, aL_inl, u2_same, u2_ab, u2_aq, nI_l, lN_i, Nat.add_zero, Nat.zero_add, Nat.zero_le, true_and, and_true, b2n_10, b2n_T, b2n_F, b2n_0, Decidable.not_not, not_true_eq_false, not_false_eq_true, Nat.reduceAdd, Nat.reduceMul, Nat.reduceSub, x1, x2]
    refine l_11b (N0 := u2 N3 86 6 k) (g := fun i => N 91 i - 48) k1 (fun i hi => ⟨hv3 i hi, by have := isD_iff.mp (k3 i hi); omega⟩) ?_ k 0 _ (by omega) (fun _ _ _ => rfl) (fun a ha => absurd ha (Nat.not_lt_zero a))
    intro N4 hN4 hv4
    refine hQ N4 I3 ?_ ?_ hI3 (fun _ => ⟨?_, hv4⟩) (fun z => absurd hok z)
    · rw [hN4 86 11 (by decide), u2_aq (by decide)]; exact x3
    · intro b q z1 z2 z3
      rw [hN4 b q z2, u2_rd, if_neg (by omega), x4 b q z1 (by omega)]
      exact e0 b q (by omega)
    · rw [hN4 86 6 (by decide), u2_same]
  · rw [if_neg hok] at hQ
    have hq := hQ N3 I3 x3 (fun b q z1 z2 z3 => by rw [x4 b q z1 (by omega)]; exact e0 b q (by omega)) hI3 (fun z => absurd z hok) (fun _ => ⟨by rw [x4 86 6 (by decide) (by omega)]; exact e0 86 6 (by omega), fun q => by rw [x4 88 q (by decide) (by omega)]; exact e0 88 q (by omega)⟩)
    by_cases hk0 : k = 0
    · subst hk0
      simp (disch := (first | omega | exact aCat_8 (by with_unfolding_all rfl) | exact rk_lt (by with_unfolding_all rfl) | exact aCat_16 (by with_unfolding_all rfl) | exact rk_eq (by with_unfolding_all rfl) | assumption | exact b2n_lt _ | exact id_b (by with_unfolding_all rfl) | (simp (disch := omega) only [u2_same, u2_ab, u2_aq]; done) | (simp (disch := omega) only [u2_same, u2_ab, u2_aq]; omega) | fail)) only [al_704, wp_aloadr_0, wp_aloadk_0, wk_0, hp_86_0, wk_80, wc_6, wp_pop, wp_istore_1, wp_jsr, wp_iload_1, wk_20, wn_ge_t, wn_ge_f, wc_9, wz_eq_t, wz_eq_f, wb_eq_t, wb_eq_f, wm_eq_1, wm_eq_2, hg_86_15, ha_92l, ha_92s, wk_1, wc_8, wp_iinc_1_1, wp_goto, al_706, hg_86_12, hg_86_13, al_707, wk_m1, wp_isub, wp_ireturn, al_708, hp_86_6, wp_istore_2, wp_iload_2, hg_86_7, ha_88l, ha_88s, wp_iinc_2_1, al_710, nl_i, nl_r, nl_k, nl_j, nl_l, nI_add, pk_mul, pk_sub, tl_s, tl_n, aL_inl, u2_same, u2_ab, u2_aq, nI_l, lN_i, Nat.add_zero, Nat.zero_add, Nat.zero_le, true_and, and_true, b2n_10, b2n_T, b2n_F, b2n_0, Decidable.not_not, not_true_eq_false, not_false_eq_true, Nat.reduceAdd, Nat.reduceMul, Nat.reduceSub, x2]
      exact hq
    · have hlt : k < n := by omega
      simp (disch := (first | omega | exact aCat_8 (by with_unfolding_all rfl) | exact rk_lt (by with_unfolding_all rfl) | exact aCat_16 (by with_unfolding_all rfl) | exact rk_eq (by with_unfolding_all rfl) | assumption | exact b2n_lt _ | exact id_b (by with_unfolding_all rfl) | (simp (disch := omega) only [u2_same, u2_ab, u2_aq]; done) | (simp (disch := omega) only [u2_same, u2_ab, u2_aq]; omega) | fail)) only [al_704, wp_aloadr_0, wp_aloadk_0, wk_0, hp_86_0, wk_80, wc_6, wp_pop, wp_istore_1, wp_jsr, wp_iload_1, wk_20, wn_ge_t, wn_ge_f, wc_9, wz_eq_t, wz_eq_f, wb_eq_t, wb_eq_f, wm_eq_1, wm_eq_2, hg_86_15, ha_92l, ha_92s, wk_1, wc_8, wp_iinc_1_1, wp_goto, al_706, hg_86_12, hg_86_13, al_707, wk_m1, wp_isub, wp_ireturn, al_708, hp_86_6, wp_istore_2, wp_iload_2, hg_86_7, ha_88l, ha_88s, wp_iinc_2_1, al_710, nl_i, nl_r, nl_k, nl_j, nl_l, nI_add, pk_mul, pk_sub, tl_s, tl_n, aL_inl, u2_same, u2_ab, u2_aq, nI_l, lN_i, Nat.add_zero, Nat.zero_add, Nat.zero_le, true_and, and_true, b2n_10, b2n_T, b2n_F, b2n_0, Decidable.not_not, not_true_eq_false, not_false_eq_true, Nat.reduceAdd, Nat.reduceMul, Nat.reduceSub, x1, x2]
      exact hq
theorem o_force (h : inv D N I J t) : opO ko d 156 11 [] D N I J x (t + 300) := by
  obtain ⟨t1, t2, t3⟩ := id h.1.2.1
  obtain ⟨k, hk⟩ := frK_ex (N 91) (N 86 11) 20
  refine k_156 h.1 hk ?_
  intro N1 c11 cfr cok cno
  have e91 : N1 91 = N 91 := by funext q; exact cfr 91 q (by decide) (by omega) (by omega)
  refine r_11 (n := N 86 11) (k := k) (cfr 86 11 (by decide) (by omega) (by omega)) t2 (fun i hi => by rw [e91]; exact (t3 i hi).2) (by rw [e91]; exact hk) ?_
  intro N2 I2 r11 rfr rI rok rno
  have hfr : ∀ b q, b ≠ 92 → b ≠ 88 → b ≠ 10 → ¬ (b = 9 ∧ q = 1) → ¬ (b = 1 ∧ q = 1) → ¬ (b = 86 ∧ (q = 0 ∨ q = 6 ∨ q = 11 ∨ q = 12 ∨ q = 13 ∨ q = 14)) → N2 b q = N b q := by
    intro b q z1 z2 z3 z4 z5 z6
    rw [rfr b q z1 z2 z6]
    exact cfr b q z3 z4 z5
  refine ⟨rfl, rfl, D, N2, I2, J, rfl, ⟨?_, td_same h.2 (hfr 3 1 (by decide) (by decide) (by decide) (by omega) (by omega) (by omega)) (hfr 86 1 (by decide) (by decide) (by decide) (by omega) (by omega) (by omega)) (fun _ => rfl) (fun _ => rfl)⟩⟩
  refine invB_p (fun g => g == 1 || g == 2) rfl h.1 (by omega) ?_ ?_ (fun _ _ _ _ => rfl) (fun _ => ?_) (fun _ => ?_) (fun z => by cases z) (fun z => by cases z) (fun z => by cases z) (fun z => by cases z) (fun z => by cases z) (fun z => by cases z)
  · intro b q z y
    refine hfr b q (by rintro rfl; cases z) (by rintro rfl; cases y) (by rintro rfl; cases y) (by rintro ⟨rfl, rfl⟩; cases y) (by rintro ⟨rfl, rfl⟩; cases y) ?_
    rintro ⟨rfl, rfl | rfl | rfl | rfl | rfl | rfl⟩
    · cases z
    · cases y
    · cases y
    · cases z
    · cases z
    · cases z
  · intro b q z _
    exact rI b q (by rintro rfl; cases z)
  · unfold iTx
    rw [r11]
    refine ⟨?_, by decide, fun i hi => absurd hi (Nat.not_lt_zero i)⟩
    rw [rfr 1 1 (by decide) (by decide) (by omega)]
    exact c11
  · unfold iSk
    have e9 : N2 9 1 = N1 9 1 := rfr 9 1 (by decide) (by decide) (by omega)
    have e10 : ∀ i, N2 10 i = N1 10 i := fun i => rfr 10 i (by decide) (by decide) (by omega)
    by_cases hok : k = N 86 11 ∧ 1 ≤ N 86 11
    · obtain ⟨c1, c2⟩ := cok hok
      obtain ⟨r1, r2⟩ := rok hok
      rw [e91] at r2
      refine ⟨by rw [e9, c1, r1], by rw [r1]; omega, by rw [r1]; exact hk.1, fun i hi => ?_⟩
      rw [r1] at hi
      rw [e10, c2 i hi, r2 i hi]
      have := isD_iff.mp (hk.2.2.1 i hi)
      exact ⟨rfl, by omega⟩
    · obtain ⟨c1, c2⟩ := cno hok
      obtain ⟨r1, r2⟩ := rno hok
      obtain ⟨s1, s2, s3, s4⟩ := h.1.2.2.1
      have e6 : N1 86 6 = N 86 6 := cfr 86 6 (by decide) (by omega) (by omega)
      rw [e6] at r1
      refine ⟨by rw [e9, c1, r1]; exact s1, by rw [r1]; exact s2, by rw [r1]; exact s3, fun i hi => ?_⟩
      rw [r1] at hi
      rw [e10, c2, r2, cfr 88 i (by decide) (by omega) (by omega)]
      exact s4 i hi
end X2
