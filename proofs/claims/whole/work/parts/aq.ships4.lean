/-! timetable: the class's whole call. From wip/whole/src. -/
/-- k digits 1 .. 9 stand at the front, of at most 8 that are read -/
def frS (T : Nat → Nat) (n k : Nat) : Prop := k ≤ 8 ∧ k ≤ n ∧ (∀ i, i < k → 49 ≤ T i ∧ T i ≤ 57) ∧ (k = 8 ∨ k = n ∨ ¬ (49 ≤ T k ∧ T k ≤ 57))
theorem frS_ex (T : Nat → Nat) (n : Nat) : ∃ k, frS T n k := by
  rcases firstOf (fun i => i = 8 ∨ i = n ∨ ¬ (49 ≤ T i ∧ T i ≤ 57)) 9 with ⟨k, hk, hp1, hno⟩ | hno
  · refine ⟨k, by omega, ?_, ?_, hp1⟩
    · apply Classical.byContradiction
      intro z
      exact hno n (by omega) (Or.inr (Or.inl rfl))
    · intro i hi
      apply Classical.byContradiction
      intro z
      exact hno i hi (Or.inr (Or.inr z))
  · exact absurd (Or.inl rfl) (hno 8 (by omega))
/-- how deep a ship may be, by tides -/
def dpS (D : Nat → Nat) (N : Nat → Nat → Nat) (q : Nat) : Nat := dpt (itS D N (N 89) q) (crsS D N (itS D N (N 89) q))
theorem dpt_9 {S : Nat → Nat} {c : Nat × (Nat → Nat) × Bool} : dpt S c ≤ 9 := by
  unfold dpt
  split
  · omega
  · split <;> omega
section HC
variable {ko : aKo} {d k : Nat} {is : List Instr} {ls st : List Value} {σ : aH} {D : Nat → Nat} {N : Nat → Nat → Nat} {I : Nat → Nat → Int32} {J : Nat → Nat → Int64} {x t : Nat} {Q : Option Value → aH → Prop} {P : (Option Value ⊕ Unit) → aH → Prop}
theorem l_290s {k : Nat} (h : invB D N I J t) (hk : frS (N 91) (N 86 11) k) :
    ∀ j i : Nat, i + j = max 1 (min (N 86 11) 8) → i ≤ k → aWp ko d 290 (aP.1 (Int.toNat 18561)) [.ref 1, .int (nI 49), .int (nI 8), .int (nI (max 1 (min (N 86 11) 8))), .int (nI i)] [] (hp D N I J x) (aL Q) = Q (some (.int (if k = N 86 11 ∧ 1 ≤ N 86 11 then -1 else nI k))) (hp D N I J x) := by
  obtain ⟨b1, b2⟩ := tx_N h
  obtain ⟨t1, t2, t3⟩ := h.2.1
  obtain ⟨k1, k2, k3, k4⟩ := hk
  intro j
  induction j with
  | zero =>
    intro i hj hi
    have e : i = max 1 (min (N 86 11) 8) := by omega
    rw [← e, al_18561]
    by_cases hn : 8 < N 86 11
    · have ek : k = 8 := by omega
      rw [if_neg (by omega), ek]
      simp (disch := (first | omega | exact aCat_8 (by with_unfolding_all rfl) | exact rk_lt (by with_unfolding_all rfl) | exact aCat_16 (by with_unfolding_all rfl) | exact rk_eq (by with_unfolding_all rfl) | assumption | exact b2n_lt _ | exact id_b (by with_unfolding_all rfl) | (simp (disch := omega) only [u2_same, u2_ab, u2_aq]; done) | (simp (disch := omega) only [u2_same, u2_ab, u2_aq]; omega) | fail)) only [al_18560, wk_1, wp_aloadr_0, wp_aloadk_0, hg_1_1, wp_iload_2, wp_min, wp_max, wp_istore_3, wk_0, wp_istore_4, wp_jsr, wp_iload_4, wp_iload_3, wn_ge_t, wn_ge_f, wc_288, wp_iload_1, wn_lt_t, wn_lt_f, wk_57, wn_le_t, wn_le_f, al_18562, wp_ireturn, al_18563, wp_iinc_4_1, wp_goto, al_18564, al_18565, wk_m1, al_18566, nl_i, nl_r, nl_k, nl_j, nl_l, nI_add, pk_mul, pk_sub, tl_s, tl_n, aL_inl, u2_same, u2_ab, u2_aq, nI_l, lN_i, Nat.add_zero, Nat.zero_add, Nat.zero_le, true_and, and_true, b2n_10, b2n_T, b2n_F, b2n_0, Decidable.not_not, not_true_eq_false, not_false_eq_true, Nat.reduceAdd, Nat.reduceMul, Nat.reduceSub, t1]
    · have ek : k = N 86 11 := by omega
      rw [if_pos ⟨ek, by omega⟩]
      simp (disch := (first | omega | exact aCat_8 (by with_unfolding_all rfl) | exact rk_lt (by with_unfolding_all rfl) | exact aCat_16 (by with_unfolding_all rfl) | exact rk_eq (by with_unfolding_all rfl) | assumption | exact b2n_lt _ | exact id_b (by with_unfolding_all rfl) | (simp (disch := omega) only [u2_same, u2_ab, u2_aq]; done) | (simp (disch := omega) only [u2_same, u2_ab, u2_aq]; omega) | fail)) only [al_18560, wk_1, wp_aloadr_0, wp_aloadk_0, hg_1_1, wp_iload_2, wp_min, wp_max, wp_istore_3, wk_0, wp_istore_4, wp_jsr, wp_iload_4, wp_iload_3, wn_ge_t, wn_ge_f, wc_288, wp_iload_1, wn_lt_t, wn_lt_f, wk_57, wn_le_t, wn_le_f, al_18562, wp_ireturn, al_18563, wp_iinc_4_1, wp_goto, al_18564, al_18565, wk_m1, al_18566, nl_i, nl_r, nl_k, nl_j, nl_l, nI_add, pk_mul, pk_sub, tl_s, tl_n, aL_inl, u2_same, u2_ab, u2_aq, nI_l, lN_i, Nat.add_zero, Nat.zero_add, Nat.zero_le, true_and, and_true, b2n_10, b2n_T, b2n_F, b2n_0, Decidable.not_not, not_true_eq_false, not_false_eq_true, Nat.reduceAdd, Nat.reduceMul, Nat.reduceSub, t1]
  | succ j ih =>
    intro i hj hi
    have hlt : i < max 1 (min (N 86 11) 8) := by omega
    have ht := fun Q => t_288 (ko := ko) (d := d) (D := D) (N := N) (I := I) (J := J) (x := x) (Q := Q) (i := i) (by omega) b1 b2
    have hc := txC_lt (i := i) b2
    by_cases hik : i < k
    · have hd := k3 i hik
      have e := txC_e h (i := i) (by omega)
      rw [← e] at hd
      have ih1 := ih (i + 1) (by omega) (by omega)
      rw [al_18561]
      simp (disch := (first | omega | exact aCat_8 (by with_unfolding_all rfl) | exact rk_lt (by with_unfolding_all rfl) | exact aCat_16 (by with_unfolding_all rfl) | exact rk_eq (by with_unfolding_all rfl) | assumption | exact b2n_lt _ | exact id_b (by with_unfolding_all rfl) | (simp (disch := omega) only [u2_same, u2_ab, u2_aq]; done) | (simp (disch := omega) only [u2_same, u2_ab, u2_aq]; omega) | fail)) only [al_18560, wk_1, wp_aloadr_0, wp_aloadk_0, hg_1_1, wp_iload_2, wp_min, wp_max, wp_istore_3, wk_0, wp_istore_4, wp_jsr, wp_iload_4, wp_iload_3, wn_ge_t, wn_ge_f, wc_288, wp_iload_1, wn_lt_t, wn_lt_f, wk_57, wn_le_t, wn_le_f, al_18562, wp_ireturn, al_18563, wp_iinc_4_1, wp_goto, al_18564, al_18565, wk_m1, al_18566, nl_i, nl_r, nl_k, nl_j, nl_l, nI_add, pk_mul, pk_sub, tl_s, tl_n, aL_inl, u2_same, u2_ab, u2_aq, nI_l, lN_i, Nat.add_zero, Nat.zero_add, Nat.zero_le, true_and, and_true, b2n_10, b2n_T, b2n_F, b2n_0, Decidable.not_not, not_true_eq_false, not_false_eq_true, Nat.reduceAdd, Nat.reduceMul, Nat.reduceSub, ht]
      exact ih1
    · have ek : i = k := by omega
      subst ek
      have hnd : ¬ (49 ≤ txC N i ∧ txC N i ≤ 57) := by
        by_cases hin : i < N 86 11
        · rw [txC_e h hin]
          rcases k4 with k4 | k4 | k4
          · omega
          · omega
          · exact k4
        · unfold txC
          rw [if_neg (by omega)]
          omega
      rw [if_neg (by omega), al_18561]
      by_cases h1 : txC N i < 49
      · simp (disch := (first | omega | exact aCat_8 (by with_unfolding_all rfl) | exact rk_lt (by with_unfolding_all rfl) | exact aCat_16 (by with_unfolding_all rfl) | exact rk_eq (by with_unfolding_all rfl) | assumption | exact b2n_lt _ | exact id_b (by with_unfolding_all rfl) | (simp (disch := omega) only [u2_same, u2_ab, u2_aq]; done) | (simp (disch := omega) only [u2_same, u2_ab, u2_aq]; omega) | fail)) only [al_18560, wk_1, wp_aloadr_0, wp_aloadk_0, hg_1_1, wp_iload_2, wp_min, wp_max, wp_istore_3, wk_0, wp_istore_4, wp_jsr, wp_iload_4, wp_iload_3, wn_ge_t, wn_ge_f, wc_288, wp_iload_1, wn_lt_t, wn_lt_f, wk_57, wn_le_t, wn_le_f, al_18562, wp_ireturn, al_18563, wp_iinc_4_1, wp_goto, al_18564, al_18565, wk_m1, al_18566, nl_i, nl_r, nl_k, nl_j, nl_l, nI_add, pk_mul, pk_sub, tl_s, tl_n, aL_inl, u2_same, u2_ab, u2_aq, nI_l, lN_i, Nat.add_zero, Nat.zero_add, Nat.zero_le, true_and, and_true, b2n_10, b2n_T, b2n_F, b2n_0, Decidable.not_not, not_true_eq_false, not_false_eq_true, Nat.reduceAdd, Nat.reduceMul, Nat.reduceSub, ht]
      · simp (disch := (first | omega | exact aCat_8 (by with_unfolding_all rfl) | exact rk_lt (by with_unfolding_all rfl) | exact aCat_16 (by with_unfolding_all rfl) | exact rk_eq (by with_unfolding_all rfl) | assumption | exact b2n_lt _ | exact id_b (by with_unfolding_all rfl) | (simp (disch := omega) only [u2_same, u2_ab, u2_aq]; done) | (simp (disch := omega) only [u2_same, u2_ab, u2_aq]; omega) | fail)) only [al_18560, wk_1, wp_aloadr_0, wp_aloadk_0, hg_1_1, wp_iload_2, wp_min, wp_max, wp_istore_3, wk_0, wp_istore_4, wp_jsr, wp_iload_4, wp_iload_3, wn_ge_t, wn_ge_f, wc_288, wp_iload_1, wn_lt_t, wn_lt_f, wk_57, wn_le_t, wn_le_f, al_18562, wp_ireturn, al_18563, wp_iinc_4_1, wp_goto, al_18564, al_18565, wk_m1, al_18566, nl_i, nl_r, nl_k, nl_j, nl_l, nI_add, pk_mul, pk_sub, tl_s, tl_n, aL_inl, u2_same, u2_ab, u2_aq, nI_l, lN_i, Nat.add_zero, Nat.zero_add, Nat.zero_le, true_and, and_true, b2n_10, b2n_T, b2n_F, b2n_0, Decidable.not_not, not_true_eq_false, not_false_eq_true, Nat.reduceAdd, Nat.reduceMul, Nat.reduceSub, ht]
theorem t_290s {k : Nat} (h : invB D N I J t) (hk : frS (N 91) (N 86 11) k) : aMm ko d 290 [.ref 1, .int (nI 49), .int (nI 8)] (hp D N I J x) Q = Q (some (.int (if k = N 86 11 ∧ 1 ≤ N 86 11 then -1 else nI k))) (hp D N I J x) := by
  have hx := l_290s (ko := ko) (d := d) (x := x) (Q := Q) h hk (max 1 (min (N 86 11) 8)) 0 (by omega) (Nat.zero_le _)
  have t1 := h.2.1.1
  have t2 := h.2.1.2.1
  rw [me_290]
  simp (disch := (first | omega | exact aCat_8 (by with_unfolding_all rfl) | exact rk_lt (by with_unfolding_all rfl) | exact aCat_16 (by with_unfolding_all rfl) | exact rk_eq (by with_unfolding_all rfl) | assumption | exact b2n_lt _ | exact id_b (by with_unfolding_all rfl) | (simp (disch := omega) only [u2_same, u2_ab, u2_aq]; done) | (simp (disch := omega) only [u2_same, u2_ab, u2_aq]; omega) | fail)) only [al_18560, wk_1, wp_aloadr_0, wp_aloadk_0, hg_1_1, wp_iload_2, wp_min, wp_max, wp_istore_3, wk_0, wp_istore_4, wp_jsr, wp_iload_4, wp_iload_3, wn_ge_t, wn_ge_f, wc_288, wp_iload_1, wn_lt_t, wn_lt_f, wk_57, wn_le_t, wn_le_f, al_18562, wp_ireturn, al_18563, wp_iinc_4_1, wp_goto, al_18564, al_18565, wk_m1, al_18566, nl_i, nl_r, nl_k, nl_j, nl_l, nI_add, pk_mul, pk_sub, tl_s, tl_n, aL_inl, u2_same, u2_ab, u2_aq, nI_l, lN_i, Nat.add_zero, Nat.zero_add, Nat.zero_le, true_and, and_true, b2n_10, b2n_T, b2n_F, b2n_0, Decidable.not_not, not_true_eq_false, not_false_eq_true, Nat.reduceAdd, Nat.reduceMul, Nat.reduceSub, t1]
  exact hx
/-- the harbour takes the ships down -/
theorem l_232 {N0 : Nat → Nat → Nat} {n : Nat} (hn : n ≤ 8) (hb1 : N0 1 1 ≤ 80) (hb2 : ∀ i, i < N0 1 1 → N0 2 i < 256) (hd : ∀ i, i < n → 49 ≤ txC N0 i ∧ txC N0 i ≤ 57)
    (hQ : ∀ N : Nat → Nat → Nat, (∀ b q, b ≠ 74 → N b q = N0 b q) → (∀ i, i < n → N 74 i = txC N0 i - 48) → Q none (hp D N I J x)) (h9 : N0 73 3 = n) :
    ∀ (j i : Nat) (N : Nat → Nat → Nat), i + j = n → (∀ b q, b ≠ 74 → N b q = N0 b q) → (∀ k, k < i → N 74 k = txC N0 k - 48) → aWp ko d 232 (aP.1 (Int.toNat 14849)) [.ref 73, .ref 1, .int (nI i)] [] (hp D N I J x) (aL Q) := by
  intro j
  induction j with
  | zero =>
    intro i N hj hN hv
    have e : i = n := by omega
    subst e
    have e9 : N 73 3 = i := (hN 73 3 (by decide)).trans h9
    rw [al_14849]
    simp (disch := (first | omega | exact aCat_8 (by with_unfolding_all rfl) | exact rk_lt (by with_unfolding_all rfl) | exact aCat_16 (by with_unfolding_all rfl) | exact rk_eq (by with_unfolding_all rfl) | assumption | exact b2n_lt _ | exact id_b (by with_unfolding_all rfl) | (simp (disch := omega) only [u2_same, u2_ab, u2_aq]; done) | (simp (disch := omega) only [u2_same, u2_ab, u2_aq]; omega) | fail)) only [al_14848, wp_aloadr_0, wp_aloadk_0, wk_8, wp_aloadr_1, wp_aloadk_1, hg_1_1, wp_min, hp_73_3, wk_0, hp_73_4, wp_istore_2, wp_jsr, wp_iload_2, hg_73_3, wn_ge_t, wn_ge_f, hg_73_0, ha_74l, ha_74s, wc_287, wp_iinc_2_1, wp_goto, al_14850, wp_return, nl_i, nl_r, nl_k, nl_j, nl_l, nI_add, pk_mul, pk_sub, tl_s, tl_n, aL_inl, u2_same, u2_ab, u2_aq, nI_l, lN_i, Nat.add_zero, Nat.zero_add, Nat.zero_le, true_and, and_true, b2n_10, b2n_T, b2n_F, b2n_0, Decidable.not_not, not_true_eq_false, not_false_eq_true, Nat.reduceAdd, Nat.reduceMul, Nat.reduceSub, e9]
    exact hQ N hN hv
  | succ j ih =>
    intro i N hj hN hv
    have e9 : N 73 3 = n := (hN 73 3 (by decide)).trans h9
    have e11 : N 1 1 = N0 1 1 := hN 1 1 (by decide)
    have ec : txC N i = txC N0 i := by
      unfold txC
      rw [e11, hN 2 i (by decide)]
    have hdi := hd i (by omega)
    have ht := fun Q => t_287 (ko := ko) (d := d) (D := D) (N := N) (I := I) (J := J) (x := x) (Q := Q) (i := i) (by omega) (by rw [e11]; exact hb1) (fun k hk => by rw [e11] at hk; rw [hN 2 k (by decide)]; exact hb2 k hk)
    rw [ec, dgI, if_pos (isD_iff.mpr (by omega))] at ht
    rw [al_14849]
    simp (disch := (first | omega | exact aCat_8 (by with_unfolding_all rfl) | exact rk_lt (by with_unfolding_all rfl) | exact aCat_16 (by with_unfolding_all rfl) | exact rk_eq (by with_unfolding_all rfl) | assumption | exact b2n_lt _ | exact id_b (by with_unfolding_all rfl) | (simp (disch := omega) only [u2_same, u2_ab, u2_aq]; done) | (simp (disch := omega) only [u2_same, u2_ab, u2_aq]; omega) | fail)) only [al_14848, wp_aloadr_0, wp_aloadk_0, wk_8, wp_aloadr_1, wp_aloadk_1, hg_1_1, wp_min, hp_73_3, wk_0, hp_73_4, wp_istore_2, wp_jsr, wp_iload_2, hg_73_3, wn_ge_t, wn_ge_f, hg_73_0, ha_74l, ha_74s, wc_287, wp_iinc_2_1, wp_goto, al_14850, wp_return, nl_i, nl_r, nl_k, nl_j, nl_l, nI_add, pk_mul, pk_sub, tl_s, tl_n, aL_inl, u2_same, u2_ab, u2_aq, nI_l, lN_i, Nat.add_zero, Nat.zero_add, Nat.zero_le, true_and, and_true, b2n_10, b2n_T, b2n_F, b2n_0, Decidable.not_not, not_true_eq_false, not_false_eq_true, Nat.reduceAdd, Nat.reduceMul, Nat.reduceSub, e9, ht]
    refine ih (i + 1) _ (by omega) (fun b q z => by rw [u2_ab z]; exact hN b q z) ?_
    intro k hk
    rw [u2_rd]
    split
    · rename_i y
      rw [y.2]
    · rename_i y
      exact hv k (by
        have : k ≠ i := fun w => y ⟨rfl, w⟩
        omega)
/-- the class, before a tide of the plan -/
def plC (D : Nat → Nat) (N0 N : Nat → Nat → Nat) (I0 I : Nat → Nat → Int32) (J0 J : Nat → Nat → Int64) (K q : Nat) : Prop := drO D N0 N I0 I J0 J (itS D N0 (N0 89) q) ∧ N 73 3 = K ∧ N 73 4 = q ∧ (∀ i, i < K → N 74 i = N0 91 i - 48) ∧ ∀ p, p < q → N 75 p = dpS D N0 p
theorem dr_75 {N0 N' : Nat → Nat → Nat} {I0 : Nat → Nat → Int32} {J0 : Nat → Nat → Int64} {S : Nat → Nat} (hD : drO D N0 N I0 I J0 J S) (h1 : ∀ b q, ¬ (73 ≤ b ∧ b ≤ 75) → N' b q = N b q) : drO D N0 N' I0 I J0 J S := by
  obtain ⟨⟨a1, a2, a3, a4, a5⟩, hsk, h91, hN, hI, hJ, hC, hR⟩ := hD
  have e9 : N' 9 1 = N 9 1 := h1 9 1 (by decide)
  refine ⟨⟨ldO_f a1 (fun q => ⟨h1 6 q (by decide), h1 7 q (by decide)⟩) (fun _ => rfl) (fun _ => rfl), clS_c a2 (fun q => h1 24 q (by decide)) (fun q => h1 25 q (by decide)) (fun _ => rfl), a3, ⟨(h1 11 2 (by decide)).trans a4.1, a4.2⟩, a5⟩, ?_, e9.trans h91, fun b q z => (h1 b q ?_).trans (hN b q z), hI, hJ, ⟨(h1 3 1 (by decide)).trans hC.1, hC.2⟩, ⟨(h1 86 1 (by decide)).trans hR.1, hR.2⟩⟩
  · rw [← hsk]
    unfold skC
    funext q
    rw [e9, h1 10 _ (by decide)]
  · rintro ⟨y1, y2⟩
    have : b = 73 ∨ b = 74 ∨ b = 75 := by omega
    rcases this with rfl | rfl | rfl <;> cases z
theorem it_1 {n : Nat} {S : Nat → Nat} : itS D N S (n + 1) = tdS (D 0) (D 1) (crsS D N (itS D N S n)) (itS D N S n) := rfl
theorem l_192 {N0 : Nat → Nat → Nat} {I0 : Nat → Nat → Int32} {J0 : Nat → Nat → Int64} {K n : Nat} {w2 : Int32} (h : invB D N0 I0 J0 t) (ht : t + 300 < 1000000000) (hn : n ≤ 20) (hK : K ≤ 8)
    (hQ : ∀ (N : Nat → Nat → Nat) (I : Nat → Nat → Int32) (J : Nat → Nat → Int64), plC D N0 N I0 I J0 J K n → aWp ko d 192 (aP.1 (Int.toNat 12291)) [.ref 0, .int (nI n), .int w2, .int (nI n)] [] (hp D N I J x) (aL Q)) :
    ∀ (j q : Nat) (N : Nat → Nat → Nat) (I : Nat → Nat → Int32) (J : Nat → Nat → Int64), q + j = n → plC D N0 N I0 I J0 J K q → aWp ko d 192 (aP.1 (Int.toNat 12290)) [.ref 0, .int (nI n), .int w2, .int (nI q)] [] (hp D N I J x) (aL Q) := by
  have h89 := h.2.2.2.2.1
  have hF := dm_F h.1.1
  have hd2 : D 2 = D 0 := h.1.2.1
  have hd3 : D 3 = D 1 := h.1.2.2.1
  have hd6 := h.1.1.2.2.2
  have hd06 := h.1.1.2.2.1
  have hG : ∀ q, q ≤ 20 → rwG D (t + q) (itS D N0 (N0 89) q) := fun q hq => rwG_it h (u := t) (n := q) ⟨h89.1, h89.2.1, h89.2.2.1⟩ (by omega)
  intro j
  induction j with
  | zero =>
    intro q N I J hq hP
    have e : q = n := by omega
    subst e
    have hx := hQ N I J hP
    rw [al_12290]
    simp (disch := (first | omega | exact aCat_8 (by with_unfolding_all rfl) | exact rk_lt (by with_unfolding_all rfl) | exact aCat_16 (by with_unfolding_all rfl) | exact rk_eq (by with_unfolding_all rfl) | assumption | exact b2n_lt _ | exact id_b (by with_unfolding_all rfl) | (simp (disch := omega) only [u2_same, u2_ab, u2_aq]; done) | (simp (disch := omega) only [u2_same, u2_ab, u2_aq]; omega) | fail)) only [al_12288, wp_aloadr_0, wp_aloadk_0, hg_0_0, wk_49, wk_8, wc_290, wp_istore_2, wp_iload_2, wk_m1, wn_eq_t, wn_eq_f, wp_isub, wp_ireturn, al_12289, hg_0_16, wc_232, hg_0_9, hg_0_7, wk_0, wp_istore_3, wp_jsr, wp_iload_3, wp_iload_1, wn_ge_t, wn_ge_f, hg_0_10, hg_0_4, wc_260, wc_264, wc_233, wc_259, wp_iinc_3_1, wp_goto, hg_0_1, wc_234, nl_i, nl_r, nl_k, nl_j, nl_l, nI_add, pk_mul, pk_sub, tl_s, tl_n, aL_inl, u2_same, u2_ab, u2_aq, nI_l, lN_i, Nat.add_zero, Nat.zero_add, Nat.zero_le, true_and, and_true, b2n_10, b2n_T, b2n_F, b2n_0, Decidable.not_not, not_true_eq_false, not_false_eq_true, Nat.reduceAdd, Nat.reduceMul, Nat.reduceSub]
    exact hx
  | succ j ih =>
    intro q N I J hq hP
    obtain ⟨hD, p3, p4, p5, p6⟩ := hP
    have hS := hG q (by omega)
    rw [al_12290]
    simp (disch := (first | omega | exact aCat_8 (by with_unfolding_all rfl) | exact rk_lt (by with_unfolding_all rfl) | exact aCat_16 (by with_unfolding_all rfl) | exact rk_eq (by with_unfolding_all rfl) | assumption | exact b2n_lt _ | exact id_b (by with_unfolding_all rfl) | (simp (disch := omega) only [u2_same, u2_ab, u2_aq]; done) | (simp (disch := omega) only [u2_same, u2_ab, u2_aq]; omega) | fail)) only [al_12288, wp_aloadr_0, wp_aloadk_0, hg_0_0, wk_49, wk_8, wc_290, wp_istore_2, wp_iload_2, wk_m1, wn_eq_t, wn_eq_f, wp_isub, wp_ireturn, al_12289, hg_0_16, wc_232, hg_0_9, hg_0_7, wk_0, wp_istore_3, wp_jsr, wp_iload_3, wp_iload_1, wn_ge_t, wn_ge_f, hg_0_10, hg_0_4, wc_260, wc_264, wc_233, wc_259, wp_iinc_3_1, wp_goto, hg_0_1, wc_234, nl_i, nl_r, nl_k, nl_j, nl_l, nI_add, pk_mul, pk_sub, tl_s, tl_n, aL_inl, u2_same, u2_ab, u2_aq, nI_l, lN_i, Nat.add_zero, Nat.zero_add, Nat.zero_le, true_and, and_true, b2n_10, b2n_T, b2n_F, b2n_0, Decidable.not_not, not_true_eq_false, not_false_eq_true, Nat.reduceAdd, Nat.reduceMul, Nat.reduceSub]
    obtain ⟨hA, hsk, h91, hN, hI, hJ, hC, hR⟩ := id hD
    refine t_260 (s := 24) (ru := 11) rfl rfl hA (by rw [h91]; exact inv_s1 h) (by rw [h91]; exact inv_s2 h) ?_
    intro N1 I1 J1 hv hN1 hI1 hJ1 hc
    rw [hsk, inv_G h, hd3] at hc
    have hD1 : drO D N0 N1 I0 I1 J0 J1 (itS D N0 (N0 89) q) := by
      have e91 : N1 9 1 = N 9 1 := hN1 9 1 (by decide) (by omega)
      refine ⟨⟨ldO_f hA.1 (fun q => ⟨hN1 6 q (by decide) (by omega), hN1 7 q (by decide) (by omega)⟩) (fun q => hI1 8 q (by decide) (by decide) (by decide) (by decide) (by omega)) (fun q => hJ1 5 q (by decide) (by omega)), clS_c hA.2.1 (fun q => hN1 24 q (by decide) (by omega)) (fun q => hN1 25 q (by decide) (by omega)) (fun q => hJ1 24 q (by decide) (by omega)), hA.2.2.1, ⟨(hN1 11 2 (by decide) (by omega)).trans hA.2.2.2.1.1, fun k hk => (hI1 12 k (by decide) (by decide) (by decide) (by decide) (by omega)).trans (hA.2.2.2.1.2 k hk)⟩, hA.2.2.2.2⟩, ?_, e91.trans h91, sN_t (gN_s hN1) hN, sI_t (fI_s hI1) hI, sJ_t (fJ_s hJ1) hJ, ⟨(hN1 3 1 (by decide) (by omega)).trans hC.1, fun q => (hJ1 4 q (by decide) (by omega)).trans (hC.2 q)⟩, ⟨(hN1 86 1 (by decide) (by omega)).trans hR.1, fun q => (hJ1 87 q (by decide) (by omega)).trans (hR.2 q)⟩⟩
      rw [← hsk]
      unfold skC
      funext q
      rw [e91, hN1 10 _ (by decide) (by omega)]
    have hK1 := crsS_K (N := N0) h.1.1 hS.1
    obtain ⟨c36, c37⟩ := crs_36 h hS.1
    have t264 := fun Q => t_264 (ko := ko) (d := d) (D := D) (N := N1) (I := I1) (J := J1) (x := x) (Q := Q) (s := 24) (C := D 1) (S := itS D N0 (N0 89) q) rfl hv.1 (fun f hf => ⟨hD1.1.2.1.1 f hf, (hS.1.1 f hf).1⟩) hc c37 c36 (by omega) hd6
    have ed : dpt (itS D N0 (N0 89) q) (crsS D N0 (itS D N0 (N0 89) q)) = dpS D N0 q := rfl
    rw [ed] at t264
    have hd9 : dpS D N0 q ≤ 9 := dpt_9
    have e734 : N1 73 4 = q := (hN1 73 4 (by decide) (by omega)).trans p4
    have t233 : ∀ Q, aMm ko d 233 [.ref 73, .int (nI (dpS D N0 q))] (hp D N1 I1 J1 x) Q = Q none (hp D (u2 (u2 N1 75 q (dpS D N0 q)) 73 4 (q + 1)) I1 J1 x) := fun Q => by
      rw [me_233]
      simp (disch := (first | omega | exact aCat_8 (by with_unfolding_all rfl) | exact rk_lt (by with_unfolding_all rfl) | exact aCat_16 (by with_unfolding_all rfl) | exact rk_eq (by with_unfolding_all rfl) | assumption | exact b2n_lt _ | exact id_b (by with_unfolding_all rfl) | (simp (disch := omega) only [u2_same, u2_ab, u2_aq]; done) | (simp (disch := omega) only [u2_same, u2_ab, u2_aq]; omega) | fail)) only [al_14912, wp_aloadr_0, wp_aloadk_0, hg_73_4, wk_20, wn_ge_t, wn_ge_f, hg_73_1, ha_75l, ha_75s, wp_iload_1, wp_dupi, wp_dupr, wk_1, wp_iadd, hp_73_4, wp_jsr, al_14913, wp_return, nl_i, nl_r, nl_k, nl_j, nl_l, nI_add, pk_mul, pk_sub, tl_s, tl_n, aL_inl, u2_same, u2_ab, u2_aq, nI_l, lN_i, Nat.add_zero, Nat.zero_add, Nat.zero_le, true_and, and_true, b2n_10, b2n_T, b2n_F, b2n_0, Decidable.not_not, not_true_eq_false, not_false_eq_true, Nat.reduceAdd, Nat.reduceMul, Nat.reduceSub, e734]
    simp (disch := (first | omega | exact aCat_8 (by with_unfolding_all rfl) | exact rk_lt (by with_unfolding_all rfl) | exact aCat_16 (by with_unfolding_all rfl) | exact rk_eq (by with_unfolding_all rfl) | assumption | exact b2n_lt _ | exact id_b (by with_unfolding_all rfl) | (simp (disch := omega) only [u2_same, u2_ab, u2_aq]; done) | (simp (disch := omega) only [u2_same, u2_ab, u2_aq]; omega) | fail)) only [al_12288, wp_aloadr_0, wp_aloadk_0, hg_0_0, wk_49, wk_8, wc_290, wp_istore_2, wp_iload_2, wk_m1, wn_eq_t, wn_eq_f, wp_isub, wp_ireturn, al_12289, hg_0_16, wc_232, hg_0_9, hg_0_7, wk_0, wp_istore_3, wp_jsr, wp_iload_3, wp_iload_1, wn_ge_t, wn_ge_f, hg_0_10, hg_0_4, wc_260, wc_264, wc_233, wc_259, wp_iinc_3_1, wp_goto, hg_0_1, wc_234, nl_i, nl_r, nl_k, nl_j, nl_l, nI_add, pk_mul, pk_sub, tl_s, tl_n, aL_inl, u2_same, u2_ab, u2_aq, nI_l, lN_i, Nat.add_zero, Nat.zero_add, Nat.zero_le, true_and, and_true, b2n_10, b2n_T, b2n_F, b2n_0, Decidable.not_not, not_true_eq_false, not_false_eq_true, Nat.reduceAdd, Nat.reduceMul, Nat.reduceSub, t264, t233]
    generalize hM : u2 (u2 N1 75 q (dpS D N0 q)) 73 4 (q + 1) = N2
    have m1 : ∀ b p, ¬ (73 ≤ b ∧ b ≤ 75) → N2 b p = N1 b p := fun b p z => by rw [← hM, u2_ab (by omega), u2_ab (by omega)]
    have hD2 := dr_75 hD1 m1
    have hc2 : clC (D 3) N2 I1 J1 (crsS D N0 (itS D N0 (N0 89) q)) := by
      rw [hd3]
      exact ⟨by rw [m1 26 9 (by omega)]; exact hc.1, fun k hk => by rw [m1 30 k (by omega)]; exact hc.2.1 k hk, hc.2.2⟩
    refine t_259 (s := 24) (S := itS D N0 (N0 89) q) (c := crsS D N0 (itS D N0 (N0 89) q)) rfl hD2.1.1 hD2.1.2.1 hD2.1.2.2.1 (by rw [hd2, hd3]; exact hS.2.1) (by rw [m1 26 2 (by omega)]; exact hv.1) hc2 (by rw [hd2, hd3]; exact hK1) ?_
    intro N3 J3 hc3 hN3 hJ3
    rw [hd2, hd3, ← it_1] at hc3
    have hD3 := dr_set hD2 (by rw [hd3]; exact (hG (q + 1) (by omega)).1) hc3 hN3 hJ3
    have hx := ih (q + 1) N3 I1 J3 (by omega) ⟨hD3, ?_, ?_, ?_, ?_⟩
    · simp (disch := (first | omega | exact aCat_8 (by with_unfolding_all rfl) | exact rk_lt (by with_unfolding_all rfl) | exact aCat_16 (by with_unfolding_all rfl) | exact rk_eq (by with_unfolding_all rfl) | assumption | exact b2n_lt _ | exact id_b (by with_unfolding_all rfl) | (simp (disch := omega) only [u2_same, u2_ab, u2_aq]; done) | (simp (disch := omega) only [u2_same, u2_ab, u2_aq]; omega) | fail)) only [al_12288, wp_aloadr_0, wp_aloadk_0, hg_0_0, wk_49, wk_8, wc_290, wp_istore_2, wp_iload_2, wk_m1, wn_eq_t, wn_eq_f, wp_isub, wp_ireturn, al_12289, hg_0_16, wc_232, hg_0_9, hg_0_7, wk_0, wp_istore_3, wp_jsr, wp_iload_3, wp_iload_1, wn_ge_t, wn_ge_f, hg_0_10, hg_0_4, wc_260, wc_264, wc_233, wc_259, wp_iinc_3_1, wp_goto, hg_0_1, wc_234, nl_i, nl_r, nl_k, nl_j, nl_l, nI_add, pk_mul, pk_sub, tl_s, tl_n, aL_inl, u2_same, u2_ab, u2_aq, nI_l, lN_i, Nat.add_zero, Nat.zero_add, Nat.zero_le, true_and, and_true, b2n_10, b2n_T, b2n_F, b2n_0, Decidable.not_not, not_true_eq_false, not_false_eq_true, Nat.reduceAdd, Nat.reduceMul, Nat.reduceSub]
      exact hx
    · rw [hN3 73 3 (by decide) (by decide), ← hM, u2_aq (by decide), u2_ab (by decide), hN1 73 3 (by decide) (by omega)]
      exact p3
    · rw [hN3 73 4 (by decide) (by decide), ← hM, u2_same]
    · intro i hi
      rw [hN3 74 i (by decide) (by decide), ← hM, u2_ab (by decide), u2_ab (by decide), hN1 74 i (by decide) (by omega)]
      exact p5 i hi
    · intro p hp1
      rw [hN3 75 p (by decide) (by decide), ← hM, u2_ab (by decide), u2_rd]
      split
      · rename_i y
        rw [y.2]
      · rename_i y
        rw [hN1 75 p (by decide) (by omega)]
        exact p6 p (by
          have : p ≠ q := fun w => y ⟨rfl, w⟩
          omega)
theorem k_192 {K n : Nat} (h : invB D N I J t) (ht : t + 300 < 1000000000) (h1 : 1 ≤ n) (hn : n ≤ 20) (hk : frS (N 91) (N 86 11) K) (hK : K = N 86 11) (hK1 : 1 ≤ K)
    (hQ : ∀ (N1 : Nat → Nat → Nat) (I1 : Nat → Nat → Int32) (J1 : Nat → Nat → Int64), sN N1 N → sI I1 I → sJ J1 J → tdC N1 J1 K (shF (dpS D N) (fun i => N 91 i - 48) n K) → N1 86 1 = N 86 1 → Q (some (.int (nI (gM (dpS D N) (fun i => N 91 i - 48) n K 0 (plU (dpS D N) (fun i => N 91 i - 48) n K 0))))) (hp D N1 I1 J1 x)) : aMm ko d 192 [.ref 0, .int (nI n)] (hp D N I J x) Q := by
  obtain ⟨t1, t2, t3⟩ := id h.2.1
  obtain ⟨b1, b2⟩ := tx_N h
  obtain ⟨k1, k2, k3, k4⟩ := id hk
  have t290 := fun Q => t_290s (ko := ko) (d := d) (x := x) (Q := Q) h hk
  rw [if_pos ⟨hK, by omega⟩] at t290
  have hm8 : min 8 K = K := by omega
  rw [me_192]
  simp (disch := (first | omega | exact aCat_8 (by with_unfolding_all rfl) | exact rk_lt (by with_unfolding_all rfl) | exact aCat_16 (by with_unfolding_all rfl) | exact rk_eq (by with_unfolding_all rfl) | assumption | exact b2n_lt _ | exact id_b (by with_unfolding_all rfl) | (simp (disch := omega) only [u2_same, u2_ab, u2_aq]; done) | (simp (disch := omega) only [u2_same, u2_ab, u2_aq]; omega) | fail)) only [al_12288, wp_aloadr_0, wp_aloadk_0, hg_0_0, wk_49, wk_8, wc_290, wp_istore_2, wp_iload_2, wk_m1, wn_eq_t, wn_eq_f, wp_isub, wp_ireturn, al_12289, hg_0_16, wc_232, hg_0_9, hg_0_7, wk_0, wp_istore_3, wp_jsr, wp_iload_3, wp_iload_1, wn_ge_t, wn_ge_f, hg_0_10, hg_0_4, wc_260, wc_264, wc_233, wc_259, wp_iinc_3_1, wp_goto, hg_0_1, wc_234, nl_i, nl_r, nl_k, nl_j, nl_l, nI_add, pk_mul, pk_sub, tl_s, tl_n, aL_inl, u2_same, u2_ab, u2_aq, nI_l, lN_i, Nat.add_zero, Nat.zero_add, Nat.zero_le, true_and, and_true, b2n_10, b2n_T, b2n_F, b2n_0, Decidable.not_not, not_true_eq_false, not_false_eq_true, Nat.reduceAdd, Nat.reduceMul, Nat.reduceSub, t290, qe_n1, qe_m1, qn_n1, qn_m1, qe_n2, qe_m2, qn_n2, qn_m2]
  have t232 : ∀ Q : Option Value → aH → Prop, (∀ N' : Nat → Nat → Nat, (∀ b q, b ≠ 73 → b ≠ 74 → N' b q = N b q) → N' 73 3 = K → N' 73 4 = 0 → (∀ i, i < K → N' 74 i = N 91 i - 48) → Q none (hp D N' I J x)) → aMm ko d 232 [.ref 73, .ref 1] (hp D N I J x) Q := by
    intro Q hq
    have e11 : N 1 1 = K := t1.trans hK.symm
    rw [me_232]
    simp (disch := (first | omega | exact aCat_8 (by with_unfolding_all rfl) | exact rk_lt (by with_unfolding_all rfl) | exact aCat_16 (by with_unfolding_all rfl) | exact rk_eq (by with_unfolding_all rfl) | assumption | exact b2n_lt _ | exact id_b (by with_unfolding_all rfl) | (simp (disch := omega) only [u2_same, u2_ab, u2_aq]; done) | (simp (disch := omega) only [u2_same, u2_ab, u2_aq]; omega) | fail)) only [al_14848, wp_aloadr_0, wp_aloadk_0, wk_8, wp_aloadr_1, wp_aloadk_1, hg_1_1, wp_min, hp_73_3, wk_0, hp_73_4, wp_istore_2, wp_jsr, wp_iload_2, hg_73_3, wn_ge_t, wn_ge_f, hg_73_0, ha_74l, ha_74s, wc_287, wp_iinc_2_1, wp_goto, al_14850, wp_return, nl_i, nl_r, nl_k, nl_j, nl_l, nI_add, pk_mul, pk_sub, tl_s, tl_n, aL_inl, u2_same, u2_ab, u2_aq, nI_l, lN_i, Nat.add_zero, Nat.zero_add, Nat.zero_le, true_and, and_true, b2n_10, b2n_T, b2n_F, b2n_0, Decidable.not_not, not_true_eq_false, not_false_eq_true, Nat.reduceAdd, Nat.reduceMul, Nat.reduceSub, e11, hm8]
    have hA : ∀ b q, b ≠ 73 → u2 (u2 N 73 3 K) 73 4 0 b q = N b q := fun b q z => by rw [u2_ab z, u2_ab z]
    have ec : ∀ i, i < K → txC (u2 (u2 N 73 3 K) 73 4 0) i = N 91 i := fun i hi => by
      unfold txC
      rw [hA 1 1 (by decide), if_pos (by omega), hA 2 i (by decide), (t3 i (by omega)).1]
    refine l_232 (N0 := u2 (u2 N 73 3 K) 73 4 0) (n := K) k1 (by rw [hA 1 1 (by decide)]; exact b1) (fun i hi => by rw [hA 1 1 (by decide)] at hi; rw [hA 2 i (by decide)]; exact b2 i hi) (fun i hi => by rw [ec i hi]; exact k3 i hi) ?_ (by rw [u2_aq (by decide), u2_same]) K 0 _ (by omega) (fun _ _ _ => rfl) (fun k hk => absurd hk (Nat.not_lt_zero k))
    intro N' h1' h2'
    exact hq N' (fun b q z1 z2 => by rw [h1' b q z2, hA b q z1]) (by rw [h1' 73 3 (by decide), u2_aq (by decide), u2_same]) (by rw [h1' 73 4 (by decide), u2_same]) (fun i hi => by rw [h2' i hi, ec i hi])
  refine t232 _ ?_
  intro N2 f1 f2 f3 f4
  have hs2 : rsO N N2 I I J J := ⟨fun b q z => f1 b q (by rintro rfl; cases z) (by rintro rfl; cases z), sI_r, sJ_r, ⟨f1 3 1 (by decide) (by decide), fun _ => rfl⟩, ⟨f1 86 1 (by decide) (by decide), fun _ => rfl⟩⟩
  simp (disch := (first | omega | exact aCat_8 (by with_unfolding_all rfl) | exact rk_lt (by with_unfolding_all rfl) | exact aCat_16 (by with_unfolding_all rfl) | exact rk_eq (by with_unfolding_all rfl) | assumption | exact b2n_lt _ | exact id_b (by with_unfolding_all rfl) | (simp (disch := omega) only [u2_same, u2_ab, u2_aq]; done) | (simp (disch := omega) only [u2_same, u2_ab, u2_aq]; omega) | fail)) only [al_12288, wp_aloadr_0, wp_aloadk_0, hg_0_0, wk_49, wk_8, wc_290, wp_istore_2, wp_iload_2, wk_m1, wn_eq_t, wn_eq_f, wp_isub, wp_ireturn, al_12289, hg_0_16, wc_232, hg_0_9, hg_0_7, wk_0, wp_istore_3, wp_jsr, wp_iload_3, wp_iload_1, wn_ge_t, wn_ge_f, hg_0_10, hg_0_4, wc_260, wc_264, wc_233, wc_259, wp_iinc_3_1, wp_goto, hg_0_1, wc_234, nl_i, nl_r, nl_k, nl_j, nl_l, nI_add, pk_mul, pk_sub, tl_s, tl_n, aL_inl, u2_same, u2_ab, u2_aq, nI_l, lN_i, Nat.add_zero, Nat.zero_add, Nat.zero_le, true_and, and_true, b2n_10, b2n_T, b2n_F, b2n_0, Decidable.not_not, not_true_eq_false, not_false_eq_true, Nat.reduceAdd, Nat.reduceMul, Nat.reduceSub, wc_283 (m := 24) rfl, t_283 (s := 24) (s' := 20) rfl rfl (by decide)]
  refine l_192 (K := K) h ht hn k1 ?_ n 0 _ _ _ (by omega) ⟨dr_n h hs2, (cp_N (by decide) (by decide)).trans f2, (cp_N (by decide) (by decide)).trans f3, fun i hi => (cp_N (by decide) (by decide)).trans (f4 i hi), fun p hp1 => absurd hp1 (Nat.not_lt_zero p)⟩
  intro N3 I3 J3 hP
  obtain ⟨hD, p3, p4, p5, p6⟩ := hP
  obtain ⟨_, _, _, hN, hI, hJ, hC, hR⟩ := hD
  rw [al_12291]
  simp (disch := (first | omega | exact aCat_8 (by with_unfolding_all rfl) | exact rk_lt (by with_unfolding_all rfl) | exact aCat_16 (by with_unfolding_all rfl) | exact rk_eq (by with_unfolding_all rfl) | assumption | exact b2n_lt _ | exact id_b (by with_unfolding_all rfl) | (simp (disch := omega) only [u2_same, u2_ab, u2_aq]; done) | (simp (disch := omega) only [u2_same, u2_ab, u2_aq]; omega) | fail)) only [al_12288, wp_aloadr_0, wp_aloadk_0, hg_0_0, wk_49, wk_8, wc_290, wp_istore_2, wp_iload_2, wk_m1, wn_eq_t, wn_eq_f, wp_isub, wp_ireturn, al_12289, hg_0_16, wc_232, hg_0_9, hg_0_7, wk_0, wp_istore_3, wp_jsr, wp_iload_3, wp_iload_1, wn_ge_t, wn_ge_f, hg_0_10, hg_0_4, wc_260, wc_264, wc_233, wc_259, wp_iinc_3_1, wp_goto, al_12291, hg_0_1, wc_234, nl_i, nl_r, nl_k, nl_j, nl_l, nI_add, pk_mul, pk_sub, tl_s, tl_n, aL_inl, u2_same, u2_ab, u2_aq, nI_l, lN_i, Nat.add_zero, Nat.zero_add, Nat.zero_le, true_and, and_true, b2n_10, b2n_T, b2n_F, b2n_0, Decidable.not_not, not_true_eq_false, not_false_eq_true, Nat.reduceAdd, Nat.reduceMul, Nat.reduceSub]
  refine t_234 (dep := dpS D N) (dr := fun i => N 91 i - 48) (n := n) (K := K) ⟨p3, p4, k1, hn, fun i hi => ⟨p5 i hi, by have := k3 i hi; show 1 ≤ N 91 i - 48; omega, by have := k3 i hi; show N 91 i - 48 ≤ 9; omega⟩, fun q hq => ⟨p6 q hq, dpt_9⟩⟩ ?_
  intro N4 J4 hN4 hJ4 htd
  have hq := hQ N4 I3 J4 (fun b q z => (hN4 b q (by rintro rfl; cases z)).trans (hN b q z)) hI (fun b q z => (hJ4 b q (by rintro rfl; cases z)).trans (hJ b q z)) htd ((hN4 86 1 (by decide)).trans hR.1)
  generalize gM (dpS D N) (fun i => N 91 i - 48) n K 0 (plU (dpS D N) (fun i => N 91 i - 48) n K 0) = G at *
  simp (disch := (first | omega | exact aCat_8 (by with_unfolding_all rfl) | exact rk_lt (by with_unfolding_all rfl) | exact aCat_16 (by with_unfolding_all rfl) | exact rk_eq (by with_unfolding_all rfl) | assumption | exact b2n_lt _ | exact id_b (by with_unfolding_all rfl) | (simp (disch := omega) only [u2_same, u2_ab, u2_aq]; done) | (simp (disch := omega) only [u2_same, u2_ab, u2_aq]; omega) | fail)) only [al_12288, wp_aloadr_0, wp_aloadk_0, hg_0_0, wk_49, wk_8, wc_290, wp_istore_2, wp_iload_2, wk_m1, wn_eq_t, wn_eq_f, wp_isub, wp_ireturn, al_12289, hg_0_16, wc_232, hg_0_9, hg_0_7, wk_0, wp_istore_3, wp_jsr, wp_iload_3, wp_iload_1, wn_ge_t, wn_ge_f, hg_0_10, hg_0_4, wc_260, wc_264, wc_233, wc_259, wp_iinc_3_1, wp_goto, al_12291, hg_0_1, wc_234, nl_i, nl_r, nl_k, nl_j, nl_l, nI_add, pk_mul, pk_sub, tl_s, tl_n, aL_inl, u2_same, u2_ab, u2_aq, nI_l, lN_i, Nat.add_zero, Nat.zero_add, Nat.zero_le, true_and, and_true, b2n_10, b2n_T, b2n_F, b2n_0, Decidable.not_not, not_true_eq_false, not_false_eq_true, Nat.reduceAdd, Nat.reduceMul, Nat.reduceSub]
  exact hq
end HC
