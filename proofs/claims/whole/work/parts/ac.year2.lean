/-! Texts that are constants; year: the reference reads. From wip/whole/src. -/
def chT (i : Nat) : List Nat := if i = 2 ∨ i = 3 then [104, 115, 119, 102, 116, 114, 99] else if i = 4 then [60, 62, 61] else if i = 5 then [43, 45] else if i = 6 then [42, 47] else [110, 115, 99, 104, 119]
/-- the constants are the texts that the code names -/
def koT (ko : aKo) : Prop := ∀ i, 2 ≤ i → i ≤ 7 → (ko i).1 = aStr ∧ (ko i).2.1 = (chT i).length ∧ ∀ k, k < (chT i).length → (ko i).2.2 k = nI ((chT i).getD k 0)
theorem ch_len {i : Nat} : (chT i).length ≤ 7 := by
  unfold chT
  split
  · decide
  · split
    · decide
    · split
      · decide
      · split <;> decide
section YS
variable {ko : aKo} {d k : Nat} {is : List Instr} {ls st : List Value} {σ : aH} {D : Nat → Nat} {N : Nat → Nat → Nat} {I : Nat → Nat → Int32} {J : Nat → Nat → Int64} {x t : Nat} {Q : Option Value → aH → Prop} {P : (Option Value ⊕ Unit) → aH → Prop}
theorem wp_slen {i : Nat} (hk : koT ko) (h2 : 2 ≤ i) (h7 : i ≤ 7) (hc : aCat (.retAddr i :: st) ≤ 16) : aWp ko d k (.invokedynamic 2 :: is) ls (.retAddr i :: st) σ P = aWp ko d k is ls (.int (nI (chT i).length) :: st) σ P := wp_of (fun _ => aEv_go (by
  obtain ⟨a1, a2, _⟩ := hk i h2 h7
  simp only [aDo, aEnd, aJump, aStep, if_pos hc, aPrim, a1, a2, if_true]))
theorem wp_sat {i j : Nat} (hk : koT ko) (h2 : 2 ≤ i) (h7 : i ≤ 7) (hj : j < (chT i).length) (hc : aCat (.int (nI j) :: .retAddr i :: st) ≤ 16) : aWp ko d k (.invokedynamic 3 :: is) ls (.int (nI j) :: .retAddr i :: st) σ P = aWp ko d k is ls (.int (nI ((chT i).getD j 0)) :: st) σ P := wp_of (fun _ => aEv_go (by
  obtain ⟨a1, a2, a3⟩ := hk i h2 h7
  have hl := ch_len (i := i)
  have hin : aIn (nI j) (chT i).length = true := aIn_n hj (by omega)
  have hcl : (nI j).toNatClampNeg = j := nI_clamp (by omega)
  simp only [aDo, aEnd, aJump, aStep, if_pos hc, aPrim, a1, a2, hin, and_self, if_true, hcl, a3 j hj]))
theorem l_19 {N0 : Nat → Nat → Nat} {i n pos c : Nat} (hk : koT ko) (h2 : 2 ≤ i) (h7 : i ≤ 7) (hx : txR N0 N n pos) (hn : n ≤ 80) (hpn : pos < n) (hc : N0 91 pos = c) (hc256 : c < 256)
    (hch : ∀ j, j < (chT i).length → (chT i).getD j 0 < 256)
    (hF : ∀ j, j < (chT i).length → (chT i).getD j 0 = c → (∀ m, m < j → ¬ (chT i).getD m 0 = c) → Q (some (.int (nI j))) (hp D (u2 N 86 12 (pos + 1)) I J x))
    (hN : (∀ j, j < (chT i).length → ¬ (chT i).getD j 0 = c) → Q (some (.int (-1))) (hp D N I J x)) :
    ∀ r j : Nat, j + r = (chT i).length → (∀ m, m < j → ¬ (chT i).getD m 0 = c) → aWp ko d 19 (aP.1 (Int.toNat 1217)) [.ref 86, .retAddr i, .int (nI j)] [] (hp D N I J x) (aL Q) := by
  obtain ⟨x1, x2, x3, x4⟩ := hx
  have hl := ch_len (i := i)
  have e91 : N 91 pos = c := (x4 91 pos (by decide) (by omega)).trans hc
  intro r
  induction r with
  | zero =>
    intro j hj hno
    have e : j = (chT i).length := by omega
    have hq := hN (fun m hm => hno m (by omega))
    rw [al_1217, e]
    simp (disch := (first | omega | exact aCat_8 (by with_unfolding_all rfl) | exact rk_lt (by with_unfolding_all rfl) | exact aCat_16 (by with_unfolding_all rfl) | exact rk_eq (by with_unfolding_all rfl) | assumption | exact b2n_lt _ | exact id_b (by with_unfolding_all rfl) | (simp (disch := omega) only [u2_same, u2_ab, u2_aq]; done) | (simp (disch := omega) only [u2_same, u2_ab, u2_aq]; omega) | fail)) only [al_1216, wk_0, wp_istore_2, wp_jsr, wp_iload_2, wp_aloadr_1, wp_aloadk_1, wn_ge_t, wn_ge_f, wp_aloadr_0, wp_aloadk_0, hg_86_12, hg_86_13, hg_86_10, ha_91l, ha_91s, wn_ne_t, wn_ne_f, wp_dupi, wp_dupr, wk_1, wp_iadd, hp_86_12, wp_ireturn, al_1218, wp_iinc_2_1, wp_goto, al_1219, wk_m1, nl_i, nl_r, nl_k, nl_j, nl_l, nI_add, pk_mul, pk_sub, tl_s, tl_n, aL_inl, u2_same, u2_ab, u2_aq, nI_l, lN_i, Nat.add_zero, Nat.zero_add, Nat.zero_le, true_and, and_true, b2n_10, b2n_T, b2n_F, b2n_0, Decidable.not_not, not_true_eq_false, not_false_eq_true, Nat.reduceAdd, Nat.reduceMul, Nat.reduceSub, wp_slen hk h2 h7]
    exact hq
  | succ r ih =>
    intro j hj hno
    have hjl : j < (chT i).length := by omega
    have hcj := hch j hjl
    rw [al_1217]
    by_cases z : (chT i).getD j 0 = c
    · have hq := hF j hjl z hno
      simp (disch := (first | omega | exact aCat_8 (by with_unfolding_all rfl) | exact rk_lt (by with_unfolding_all rfl) | exact aCat_16 (by with_unfolding_all rfl) | exact rk_eq (by with_unfolding_all rfl) | assumption | exact b2n_lt _ | exact id_b (by with_unfolding_all rfl) | (simp (disch := omega) only [u2_same, u2_ab, u2_aq]; done) | (simp (disch := omega) only [u2_same, u2_ab, u2_aq]; omega) | fail)) only [al_1216, wk_0, wp_istore_2, wp_jsr, wp_iload_2, wp_aloadr_1, wp_aloadk_1, wn_ge_t, wn_ge_f, wp_aloadr_0, wp_aloadk_0, hg_86_12, hg_86_13, hg_86_10, ha_91l, ha_91s, wn_ne_t, wn_ne_f, wp_dupi, wp_dupr, wk_1, wp_iadd, hp_86_12, wp_ireturn, al_1218, wp_iinc_2_1, wp_goto, al_1219, wk_m1, nl_i, nl_r, nl_k, nl_j, nl_l, nI_add, pk_mul, pk_sub, tl_s, tl_n, aL_inl, u2_same, u2_ab, u2_aq, nI_l, lN_i, Nat.add_zero, Nat.zero_add, Nat.zero_le, true_and, and_true, b2n_10, b2n_T, b2n_F, b2n_0, Decidable.not_not, not_true_eq_false, not_false_eq_true, Nat.reduceAdd, Nat.reduceMul, Nat.reduceSub, wp_slen hk h2 h7, wp_sat hk h2 h7 hjl, x1, x2, e91, z]
      exact hq
    · simp (disch := (first | omega | exact aCat_8 (by with_unfolding_all rfl) | exact rk_lt (by with_unfolding_all rfl) | exact aCat_16 (by with_unfolding_all rfl) | exact rk_eq (by with_unfolding_all rfl) | assumption | exact b2n_lt _ | exact id_b (by with_unfolding_all rfl) | (simp (disch := omega) only [u2_same, u2_ab, u2_aq]; done) | (simp (disch := omega) only [u2_same, u2_ab, u2_aq]; omega) | fail)) only [al_1216, wk_0, wp_istore_2, wp_jsr, wp_iload_2, wp_aloadr_1, wp_aloadk_1, wn_ge_t, wn_ge_f, wp_aloadr_0, wp_aloadk_0, hg_86_12, hg_86_13, hg_86_10, ha_91l, ha_91s, wn_ne_t, wn_ne_f, wp_dupi, wp_dupr, wk_1, wp_iadd, hp_86_12, wp_ireturn, al_1218, wp_iinc_2_1, wp_goto, al_1219, wk_m1, nl_i, nl_r, nl_k, nl_j, nl_l, nI_add, pk_mul, pk_sub, tl_s, tl_n, aL_inl, u2_same, u2_ab, u2_aq, nI_l, lN_i, Nat.add_zero, Nat.zero_add, Nat.zero_le, true_and, and_true, b2n_10, b2n_T, b2n_F, b2n_0, Decidable.not_not, not_true_eq_false, not_false_eq_true, Nat.reduceAdd, Nat.reduceMul, Nat.reduceSub, wp_slen hk h2 h7, wp_sat hk h2 h7 hjl, x1, x2, e91]
      refine ih (j + 1) (by omega) ?_
      intro m hm
      by_cases y : m = j
      · rw [y]; exact z
      · exact hno m (by omega)
theorem ch_256 {i : Nat} : ∀ j, j < (chT i).length → (chT i).getD j 0 < 256 := by
  unfold chT
  split
  · decide
  · split
    · decide
    · split
      · decide
      · split <;> decide
theorem t_19 {N0 : Nat → Nat → Nat} {i n pos : Nat} (hk : koT ko) (h2 : 2 ≤ i) (h7 : i ≤ 7) (hx : txR N0 N n pos) (hn : n ≤ 80) (hpn : pos < n) (hb : ∀ i, i < n → N0 91 i < 256)
    (hF : ∀ j, j < (chT i).length → (chT i).getD j 0 = N0 91 pos → (∀ m, m < j → ¬ (chT i).getD m 0 = N0 91 pos) → ∀ N' : Nat → Nat → Nat, txR N0 N' n (pos + 1) → (∀ b q, ¬ (b = 86 ∧ q = 12) → N' b q = N b q) → Q (some (.int (nI j))) (hp D N' I J x))
    (hN : (∀ j, j < (chT i).length → ¬ (chT i).getD j 0 = N0 91 pos) → Q (some (.int (-1))) (hp D N I J x)) : aMm ko d 19 [.ref 86, .retAddr i] (hp D N I J x) Q := by
  have hl := ch_len (i := i)
  have hy := l_19 (ko := ko) (d := d) (I := I) (J := J) (x := x) (Q := Q) hk h2 h7 hx hn hpn rfl (hb pos hpn) ch_256 (fun j h1 h3 h4 => hF j h1 h3 h4 _ ⟨by rw [u2_aq (by decide)]; exact hx.1, u2_same _ _ _ _, by rw [u2_aq (by decide)]; exact hx.2.2.1, fun b q z1 z2 => by rw [u2_rd, if_neg (by omega)]; exact hx.2.2.2 b q z1 z2⟩ (fun b q z => by rw [u2_rd, if_neg z])) hN (chT i).length 0 (by omega) (fun m hm => absurd hm (Nat.not_lt_zero m))
  rw [me_19]
  simp (disch := (first | omega | exact aCat_8 (by with_unfolding_all rfl) | exact rk_lt (by with_unfolding_all rfl) | exact aCat_16 (by with_unfolding_all rfl) | exact rk_eq (by with_unfolding_all rfl) | assumption | exact b2n_lt _ | exact id_b (by with_unfolding_all rfl) | (simp (disch := omega) only [u2_same, u2_ab, u2_aq]; done) | (simp (disch := omega) only [u2_same, u2_ab, u2_aq]; omega) | fail)) only [al_1216, wk_0, wp_istore_2, wp_jsr, wp_iload_2, wp_aloadr_1, wp_aloadk_1, wn_ge_t, wn_ge_f, wp_aloadr_0, wp_aloadk_0, hg_86_12, hg_86_13, hg_86_10, ha_91l, ha_91s, wn_ne_t, wn_ne_f, wp_dupi, wp_dupr, wk_1, wp_iadd, hp_86_12, wp_ireturn, al_1218, wp_iinc_2_1, wp_goto, al_1219, wk_m1, nl_i, nl_r, nl_k, nl_j, nl_l, nI_add, pk_mul, pk_sub, tl_s, tl_n, aL_inl, u2_same, u2_ab, u2_aq, nI_l, lN_i, Nat.add_zero, Nat.zero_add, Nat.zero_le, true_and, and_true, b2n_10, b2n_T, b2n_F, b2n_0, Decidable.not_not, not_true_eq_false, not_false_eq_true, Nat.reduceAdd, Nat.reduceMul, Nat.reduceSub]
  exact hy
/-- at the end of the text nothing is taken -/
theorem t_19e {N0 : Nat → Nat → Nat} {i n pos : Nat} (hk : koT ko) (h2 : 2 ≤ i) (h7 : i ≤ 7) (hx : txR N0 N n pos) (hn : n ≤ 80) (hpn : pos = n) : aMm ko d 19 [.ref 86, .retAddr i] (hp D N I J x) Q = Q (some (.int (-1))) (hp D N I J x) := by
  obtain ⟨x1, x2, x3, x4⟩ := hx
  have hl := ch_len (i := i)
  subst hpn
  have hpos : 0 < (chT i).length := by
    unfold chT
    split
    · decide
    · split
      · decide
      · split
        · decide
        · split <;> decide
  rw [me_19]
  simp (disch := (first | omega | exact aCat_8 (by with_unfolding_all rfl) | exact rk_lt (by with_unfolding_all rfl) | exact aCat_16 (by with_unfolding_all rfl) | exact rk_eq (by with_unfolding_all rfl) | assumption | exact b2n_lt _ | exact id_b (by with_unfolding_all rfl) | (simp (disch := omega) only [u2_same, u2_ab, u2_aq]; done) | (simp (disch := omega) only [u2_same, u2_ab, u2_aq]; omega) | fail)) only [al_1216, wk_0, wp_istore_2, wp_jsr, al_1217, wp_iload_2, wp_aloadr_1, wp_aloadk_1, wn_ge_t, wn_ge_f, wp_aloadr_0, wp_aloadk_0, hg_86_12, hg_86_13, hg_86_10, ha_91l, ha_91s, wn_ne_t, wn_ne_f, wp_dupi, wp_dupr, wk_1, wp_iadd, hp_86_12, wp_ireturn, al_1218, wp_iinc_2_1, wp_goto, al_1219, wk_m1, nl_i, nl_r, nl_k, nl_j, nl_l, nI_add, pk_mul, pk_sub, tl_s, tl_n, aL_inl, u2_same, u2_ab, u2_aq, nI_l, lN_i, Nat.add_zero, Nat.zero_add, Nat.zero_le, true_and, and_true, b2n_10, b2n_T, b2n_F, b2n_0, Decidable.not_not, not_true_eq_false, not_false_eq_true, Nat.reduceAdd, Nat.reduceMul, Nat.reduceSub, wp_slen hk h2 h7, x1, x2]
end YS
