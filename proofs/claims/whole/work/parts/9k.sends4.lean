/-! sends, stops: the pairs. From wip/whole/src. -/
section W3
variable {ko : aKo} {d k : Nat} {is : List Instr} {ls st : List Value} {σ : aH} {D : Nat → Nat} {N : Nat → Nat → Nat} {I : Nat → Nat → Int32} {J : Nat → Nat → Int64} {x t : Nat} {Q : Option Value → aH → Prop} {P : (Option Value ⊕ Unit) → aH → Prop}
/-- the members of a set below i, in turn -/
def lst (s : Int64) (i : Nat) : List Nat := (List.range i).filter (tb s)
theorem lst_s {s : Int64} {i : Nat} : lst s (i + 1) = if tb s i = true then lst s i ++ [i] else lst s i := by
  unfold lst
  rw [List.range_succ, List.filter_append]
  by_cases h : tb s i = true
  · rw [if_pos h]
    simp [h]
  · rw [if_neg h]
    simp [h]
theorem lst_len {s : Int64} {i : Nat} : (lst s i).length ≤ i := by
  unfold lst
  have := List.length_filter_le (tb s) (List.range i)
  rw [List.length_range] at this
  exact this
theorem l_295 {s : Int64} {N0 : Nat → Nat → Nat} {J0 : Nat → Nat → Int64} (hQ : ∀ (N : Nat → Nat → Nat) (J : Nat → Nat → Int64), (∀ b q, b ≠ 3 → N b q = N0 b q) → (∀ b q, b ≠ 4 → J b q = J0 b q) → tdC N J (lst s 36).length (fun k => lN ((lst s 36).getD k 0)) → Q none (hp D N I J x)) :
    ∀ (j i : Nat) (N : Nat → Nat → Nat) (J : Nat → Nat → Int64), i + j = 36 → (∀ b q, b ≠ 3 → N b q = N0 b q) → (∀ b q, b ≠ 4 → J b q = J0 b q) → tdC N J (lst s i).length (fun k => lN ((lst s i).getD k 0)) → aWp ko d 295 (aP.1 (Int.toNat 18881)) [.ref 3, .long s, aJk, .int (nI i)] [] (hp D N I J x) (aL Q) := by
  intro j
  induction j with
  | zero =>
    intro i N J hj hN hJ ht
    have e : i = 36 := by omega
    subst e
    rw [al_18881]
    simp (disch := (first | omega | exact aCat_8 (by with_unfolding_all rfl) | exact rk_lt (by with_unfolding_all rfl) | exact aCat_16 (by with_unfolding_all rfl) | exact rk_eq (by with_unfolding_all rfl) | assumption | exact b2n_lt _ | exact id_b (by with_unfolding_all rfl) | (simp (disch := omega) only [u2_same, u2_ab, u2_aq]; done) | (simp (disch := omega) only [u2_same, u2_ab, u2_aq]; omega) | fail)) only [al_18880, wk_0, wp_istore_3, wp_jsr, wp_iload_3, wk_36, wn_ge_t, wn_ge_f, wp_lload_1, wc_161, t_161, wk_1, wn_ne_t, wn_ne_f, wp_aloadr_0, wp_aloadk_0, wp_i2l, wc_293, t_293, al_18882, wp_iinc_3_1, wp_goto, al_18883, wp_return, nl_i, nl_r, nl_k, nl_j, nl_l, nI_add, pk_mul, pk_sub, tl_s, tl_n, aL_inl, u2_same, u2_ab, u2_aq, nI_l, lN_i, Nat.add_zero, Nat.zero_add, Nat.zero_le, true_and, and_true, b2n_10, b2n_T, b2n_F, b2n_0, Decidable.not_not, not_true_eq_false, not_false_eq_true, Nat.reduceAdd, Nat.reduceMul, Nat.reduceSub]
    exact hQ N J hN hJ ht
  | succ j ih =>
    intro i N J hj hN hJ ht
    have e31 := ht.1
    have hl := lst_len (s := s) (i := i)
    have ih1 := fun N J => ih (i + 1) N J (by omega)
    rw [lst_s] at ih1
    rw [al_18881]
    by_cases hb : tb s i = true
    · rw [if_pos hb] at ih1
      simp (disch := (first | omega | exact aCat_8 (by with_unfolding_all rfl) | exact rk_lt (by with_unfolding_all rfl) | exact aCat_16 (by with_unfolding_all rfl) | exact rk_eq (by with_unfolding_all rfl) | assumption | exact b2n_lt _ | exact id_b (by with_unfolding_all rfl) | (simp (disch := omega) only [u2_same, u2_ab, u2_aq]; done) | (simp (disch := omega) only [u2_same, u2_ab, u2_aq]; omega) | fail)) only [al_18880, wk_0, wp_istore_3, wp_jsr, wp_iload_3, wk_36, wn_ge_t, wn_ge_f, wp_lload_1, wc_161, t_161, wk_1, wn_ne_t, wn_ne_f, wp_aloadr_0, wp_aloadk_0, wp_i2l, wc_293, t_293, al_18882, wp_iinc_3_1, wp_goto, al_18883, wp_return, nl_i, nl_r, nl_k, nl_j, nl_l, nI_add, pk_mul, pk_sub, tl_s, tl_n, aL_inl, u2_same, u2_ab, u2_aq, nI_l, lN_i, Nat.add_zero, Nat.zero_add, Nat.zero_le, true_and, and_true, b2n_10, b2n_T, b2n_F, b2n_0, Decidable.not_not, not_true_eq_false, not_false_eq_true, Nat.reduceAdd, Nat.reduceMul, Nat.reduceSub, b2n_t hb, e31]
      refine ih1 _ _ ?_ ?_ ⟨by rw [u2_same, List.length_append]; rfl, ?_⟩
      · intro b q z
        rw [u2_ab z]; exact hN b q z
      · intro b q z
        rw [u2_ab z]; exact hJ b q z
      · intro k hk
        rw [List.length_append] at hk
        have hk' : k < (lst s i).length + 1 := hk
        by_cases e : k = (lst s i).length
        · rw [e, u2_same]
          simp
        · rw [u2_aq e, ht.2 k (by omega)]
          simp only [List.getD_eq_getElem?_getD]
          rw [List.getElem?_append_left (by omega)]
    · rw [if_neg hb] at ih1
      simp (disch := (first | omega | exact aCat_8 (by with_unfolding_all rfl) | exact rk_lt (by with_unfolding_all rfl) | exact aCat_16 (by with_unfolding_all rfl) | exact rk_eq (by with_unfolding_all rfl) | assumption | exact b2n_lt _ | exact id_b (by with_unfolding_all rfl) | (simp (disch := omega) only [u2_same, u2_ab, u2_aq]; done) | (simp (disch := omega) only [u2_same, u2_ab, u2_aq]; omega) | fail)) only [al_18880, wk_0, wp_istore_3, wp_jsr, wp_iload_3, wk_36, wn_ge_t, wn_ge_f, wp_lload_1, wc_161, t_161, wk_1, wn_ne_t, wn_ne_f, wp_aloadr_0, wp_aloadk_0, wp_i2l, wc_293, t_293, al_18882, wp_iinc_3_1, wp_goto, al_18883, wp_return, nl_i, nl_r, nl_k, nl_j, nl_l, nI_add, pk_mul, pk_sub, tl_s, tl_n, aL_inl, u2_same, u2_ab, u2_aq, nI_l, lN_i, Nat.add_zero, Nat.zero_add, Nat.zero_le, true_and, and_true, b2n_10, b2n_T, b2n_F, b2n_0, Decidable.not_not, not_true_eq_false, not_false_eq_true, Nat.reduceAdd, Nat.reduceMul, Nat.reduceSub, b2n_f hb]
      exact ih1 N J hN hJ ht
theorem t_295 {s : Int64} (h0 : N 3 1 = 0) (hQ : ∀ (N' : Nat → Nat → Nat) (J' : Nat → Nat → Int64), (∀ b q, b ≠ 3 → N' b q = N b q) → (∀ b q, b ≠ 4 → J' b q = J b q) → tdC N' J' (lst s 36).length (fun k => lN ((lst s 36).getD k 0)) → Q none (hp D N' I J' x)) : aMm ko d 295 [.ref 3, .long s] (hp D N I J x) Q := by
  have hx := l_295 (ko := ko) (d := d) (D := D) (I := I) (x := x) (Q := Q) (s := s) (N0 := N) (J0 := J) hQ 36 0 N J rfl (fun _ _ _ => rfl) (fun _ _ _ => rfl) ⟨h0, fun i hi => absurd hi (Nat.not_lt_zero i)⟩
  rw [me_295]
  simp (disch := (first | omega | exact aCat_8 (by with_unfolding_all rfl) | exact rk_lt (by with_unfolding_all rfl) | exact aCat_16 (by with_unfolding_all rfl) | exact rk_eq (by with_unfolding_all rfl) | assumption | exact b2n_lt _ | exact id_b (by with_unfolding_all rfl) | (simp (disch := omega) only [u2_same, u2_ab, u2_aq]; done) | (simp (disch := omega) only [u2_same, u2_ab, u2_aq]; omega) | fail)) only [al_18880, wk_0, wp_istore_3, wp_jsr, wp_iload_3, wk_36, wn_ge_t, wn_ge_f, wp_lload_1, wc_161, t_161, wk_1, wn_ne_t, wn_ne_f, wp_aloadr_0, wp_aloadk_0, wp_i2l, wc_293, t_293, al_18882, wp_iinc_3_1, wp_goto, al_18883, wp_return, nl_i, nl_r, nl_k, nl_j, nl_l, nI_add, pk_mul, pk_sub, tl_s, tl_n, aL_inl, u2_same, u2_ab, u2_aq, nI_l, lN_i, Nat.add_zero, Nat.zero_add, Nat.zero_le, true_and, and_true, b2n_10, b2n_T, b2n_F, b2n_0, Decidable.not_not, not_true_eq_false, not_false_eq_true, Nat.reduceAdd, Nat.reduceMul, Nat.reduceSub]
  exact hx
theorem lst_l {s : Int64} {N0 : Nat → Nat → Nat} {S : Nat → Nat} {m : Int32} {n : Nat} {l : List Nat} {A : Nat → Bool} (hF : D 0 * D 1 ≤ 36) (hl : fnd D N0 S m (D 0 * D 1) n A = some l) (hs : ∀ g, g < 64 → tb s g = l.contains g) : lst s 36 = l := by
  obtain ⟨_, h2, h3⟩ := fnd_ok _ n A l (Nat.le_refl _) hl
  rw [Nat.sub_self] at h3
  have e : ∀ k, lst s (D 0 * D 1 + k) = l ∨ 64 < D 0 * D 1 + k := by
    intro k
    induction k with
    | zero =>
      refine Or.inl ?_
      unfold lst
      rw [List.range_eq_range', Nat.add_zero]
      refine (List.filter_congr (fun y hy => ?_)).trans h3
      have := List.mem_range'_1.mp hy
      exact hs y (by omega)
    | succ k ih =>
      rcases ih with ih | ih
      · by_cases z : D 0 * D 1 + k < 64
        · refine Or.inl ?_
          rw [← Nat.add_assoc, lst_s, if_neg, ih]
          rw [hs _ z]
          intro y
          have := (h2 _ (List.contains_iff_mem.mp y)).2
          omega
        · exact Or.inr (by omega)
      · exact Or.inr (by omega)
  rcases e (36 - D 0 * D 1) with e | e
  · rw [show D 0 * D 1 + (36 - D 0 * D 1) = 36 by omega] at e
    exact e
  · omega
def noA : Nat → Bool := fun _ => false
theorem wa_no {S : Nat → Nat} : waS S noA = S := by
  funext q
  unfold waS noA
  rw [if_neg (by simp)]
/-- the walls found, were there n more -/
def sdF (D : Nat → Nat) (N : Nat → Nat → Nat) (m : Int32) (n : Nat) : Option (List Nat) := fnd D N (N 89) m (D 0 * D 1) n noA
theorem l_184 {N0 : Nat → Nat → Nat} {I0 : Nat → Nat → Int32} {J0 : Nat → Nat → Int64} {m : Int32} (h : invB D N0 I0 J0 t)
    (hS : ∀ n l, n ≤ 3 → sdF D N0 m n = some l → (∀ i, i < n → sdF D N0 m i = none) → ansC D N0 I0 J0 x (.int (nI n)) l.length (fun k => lN (l.getD k 0)) Q)
    (hN : (∀ i, i < 4 → sdF D N0 m i = none) → ∀ (N' : Nat → Nat → Nat) (I' : Nat → Nat → Int32) (J' : Nat → Nat → Int64), rsO N0 N' I0 I' J0 J' → Q (some (.int (-2))) (hp D N' I' J' x)) :
    ∀ (j n : Nat) (N : Nat → Nat → Nat) (I : Nat → Nat → Int32) (J : Nat → Nat → Int64) (w3 w4 : Value), n + j = 4 → (∀ i, i < n → sdF D N0 m i = none) → lgO D N0 N I0 I J0 J → aWp ko (d + 3) 184 (aP.1 (Int.toNat 11777)) [.ref 0, .int m, .int (nI n), w3, w4] [] (hp D N I J x) (aL Q) := by
  have hF := dm_F h.1.1
  intro j
  induction j with
  | zero =>
    intro n N I J w3 w4 hj hno hO
    have e : n = 4 := by omega
    subst e
    rw [al_11777]
    simp (disch := (first | omega | exact aCat_8 (by with_unfolding_all rfl) | exact rk_lt (by with_unfolding_all rfl) | exact aCat_16 (by with_unfolding_all rfl) | exact rk_eq (by with_unfolding_all rfl) | assumption | exact b2n_lt _ | exact id_b (by with_unfolding_all rfl) | (simp (disch := omega) only [u2_same, u2_ab, u2_aq]; done) | (simp (disch := omega) only [u2_same, u2_ab, u2_aq]; omega) | fail)) only [al_11776, wp_aloadr_0, wp_aloadk_0, hg_0_10, hg_0_7, hg_0_4, wc_255, wk_0, wp_istore_2, wp_jsr, wp_iload_2, wk_3, wn_gt_t, wn_gt_f, wl_0, wp_iload_1, wc_185, wp_lstore_3, wp_lload_3, wl_m1, wp_lcmp, wz_eq_t, wz_eq_f, wb_eq_t, wb_eq_f, wm_eq_1, wm_eq_2, hg_0_1, wc_292, t_292, wc_295, wp_ireturn, al_11778, wp_iinc_2_1, wp_goto, al_11779, wk_m2, nl_i, nl_r, nl_k, nl_j, nl_l, nI_add, pk_mul, pk_sub, tl_s, tl_n, aL_inl, u2_same, u2_ab, u2_aq, nI_l, lN_i, Nat.add_zero, Nat.zero_add, Nat.zero_le, true_and, and_true, b2n_10, b2n_T, b2n_F, b2n_0, Decidable.not_not, not_true_eq_false, not_false_eq_true, Nat.reduceAdd, Nat.reduceMul, Nat.reduceSub]
    exact hN hno N I J hO.2.2
  | succ j ih =>
    intro n N I J w3 w4 hj hno hO
    have ht := t_185 (ko := ko) (x := x) (m := m) (t := t) (D := D) (N0 := N0) (I0 := I0) (J0 := J0) h n (d + (3 - n)) (D 0 * D 1) noA (lN 0) N I J
    rw [Nat.sub_self, show d + (3 - n) + n = d + 3 by omega] at ht
    rw [al_11777]
    simp (disch := (first | omega | exact aCat_8 (by with_unfolding_all rfl) | exact rk_lt (by with_unfolding_all rfl) | exact aCat_16 (by with_unfolding_all rfl) | exact rk_eq (by with_unfolding_all rfl) | assumption | exact b2n_lt _ | exact id_b (by with_unfolding_all rfl) | (simp (disch := omega) only [u2_same, u2_ab, u2_aq]; done) | (simp (disch := omega) only [u2_same, u2_ab, u2_aq]; omega) | fail)) only [al_11776, wp_aloadr_0, wp_aloadk_0, hg_0_10, hg_0_7, hg_0_4, wc_255, wk_0, wp_istore_2, wp_jsr, wp_iload_2, wk_3, wn_gt_t, wn_gt_f, wl_0, wp_iload_1, wc_185, wp_lstore_3, wp_lload_3, wl_m1, wp_lcmp, wz_eq_t, wz_eq_f, wb_eq_t, wb_eq_f, wm_eq_1, wm_eq_2, hg_0_1, wc_292, t_292, wc_295, wp_ireturn, al_11778, wp_iinc_2_1, wp_goto, al_11779, wk_m2, nl_i, nl_r, nl_k, nl_j, nl_l, nI_add, pk_mul, pk_sub, tl_s, tl_n, aL_inl, u2_same, u2_ab, u2_aq, nI_l, lN_i, Nat.add_zero, Nat.zero_add, Nat.zero_le, true_and, and_true, b2n_10, b2n_T, b2n_F, b2n_0, Decidable.not_not, not_true_eq_false, not_false_eq_true, Nat.reduceAdd, Nat.reduceMul, Nat.reduceSub]
    refine ht _ (by omega) (Nat.le_refl _) (fun g hg => by cases hg) (fun g _ => tb_0 g) (fun r' e => hno r' (by omega)) hO ?_
    intro N1 I1 J1 v hO1 hv
    cases hq : sdF D N0 m n with
    | none =>
      have hv' : v = -1 := by
        have hq' : fnd D N0 (N0 89) m (D 0 * D 1) n noA = none := hq
        rw [hq'] at hv
        exact hv
      simp (disch := (first | omega | exact aCat_8 (by with_unfolding_all rfl) | exact rk_lt (by with_unfolding_all rfl) | exact aCat_16 (by with_unfolding_all rfl) | exact rk_eq (by with_unfolding_all rfl) | assumption | exact b2n_lt _ | exact id_b (by with_unfolding_all rfl) | (simp (disch := omega) only [u2_same, u2_ab, u2_aq]; done) | (simp (disch := omega) only [u2_same, u2_ab, u2_aq]; omega) | fail)) only [al_11776, wp_aloadr_0, wp_aloadk_0, hg_0_10, hg_0_7, hg_0_4, wc_255, wk_0, wp_istore_2, wp_jsr, wp_iload_2, wk_3, wn_gt_t, wn_gt_f, wl_0, wp_iload_1, wc_185, wp_lstore_3, wp_lload_3, wl_m1, wp_lcmp, wz_eq_t, wz_eq_f, wb_eq_t, wb_eq_f, wm_eq_1, wm_eq_2, hg_0_1, wc_292, t_292, wc_295, wp_ireturn, al_11778, wp_iinc_2_1, wp_goto, al_11779, wk_m2, nl_i, nl_r, nl_k, nl_j, nl_l, nI_add, pk_mul, pk_sub, tl_s, tl_n, aL_inl, u2_same, u2_ab, u2_aq, nI_l, lN_i, Nat.add_zero, Nat.zero_add, Nat.zero_le, true_and, and_true, b2n_10, b2n_T, b2n_F, b2n_0, Decidable.not_not, not_true_eq_false, not_false_eq_true, Nat.reduceAdd, Nat.reduceMul, Nat.reduceSub, wy_eq_t (lc_t hv')]
      exact ih (n + 1) N1 I1 J1 _ _ (by omega) (fun i hi => by
        by_cases e : i = n
        · rw [e]; exact hq
        · exact hno i (by omega)) hO1
    | some l =>
      have hq' : fnd D N0 (N0 89) m (D 0 * D 1) n noA = some l := hq
      rw [hq'] at hv
      have hv' : ∀ y, y < 64 → tb v y = (noA y || l.contains y) := hv
      have hne := rsl_ne hF.1 (Nat.le_refl _) (fun g hg => by cases hg) hq' hv'
      have hlst : lst v 36 = l := lst_l hF.1 hq' (fun g hg => by rw [hv' g hg]; rfl)
      simp (disch := (first | omega | exact aCat_8 (by with_unfolding_all rfl) | exact rk_lt (by with_unfolding_all rfl) | exact aCat_16 (by with_unfolding_all rfl) | exact rk_eq (by with_unfolding_all rfl) | assumption | exact b2n_lt _ | exact id_b (by with_unfolding_all rfl) | (simp (disch := omega) only [u2_same, u2_ab, u2_aq]; done) | (simp (disch := omega) only [u2_same, u2_ab, u2_aq]; omega) | fail)) only [al_11776, wp_aloadr_0, wp_aloadk_0, hg_0_10, hg_0_7, hg_0_4, wc_255, wk_0, wp_istore_2, wp_jsr, wp_iload_2, wk_3, wn_gt_t, wn_gt_f, wl_0, wp_iload_1, wc_185, wp_lstore_3, wp_lload_3, wl_m1, wp_lcmp, wz_eq_t, wz_eq_f, wb_eq_t, wb_eq_f, wm_eq_1, wm_eq_2, hg_0_1, wc_292, t_292, wc_295, wp_ireturn, al_11778, wp_iinc_2_1, wp_goto, al_11779, wk_m2, nl_i, nl_r, nl_k, nl_j, nl_l, nI_add, pk_mul, pk_sub, tl_s, tl_n, aL_inl, u2_same, u2_ab, u2_aq, nI_l, lN_i, Nat.add_zero, Nat.zero_add, Nat.zero_le, true_and, and_true, b2n_10, b2n_T, b2n_F, b2n_0, Decidable.not_not, not_true_eq_false, not_false_eq_true, Nat.reduceAdd, Nat.reduceMul, Nat.reduceSub, wy_eq_f (lc_f hne)]
      refine t_295 (s := v) (u2_same _ _ _ _) ?_
      intro N2 J2 hN2 hJ2 ht2
      rw [hlst] at ht2
      simp (disch := (first | omega | exact aCat_8 (by with_unfolding_all rfl) | exact rk_lt (by with_unfolding_all rfl) | exact aCat_16 (by with_unfolding_all rfl) | exact rk_eq (by with_unfolding_all rfl) | assumption | exact b2n_lt _ | exact id_b (by with_unfolding_all rfl) | (simp (disch := omega) only [u2_same, u2_ab, u2_aq]; done) | (simp (disch := omega) only [u2_same, u2_ab, u2_aq]; omega) | fail)) only [al_11776, wp_aloadr_0, wp_aloadk_0, hg_0_10, hg_0_7, hg_0_4, wc_255, wk_0, wp_istore_2, wp_jsr, wp_iload_2, wk_3, wn_gt_t, wn_gt_f, wl_0, wp_iload_1, wc_185, wp_lstore_3, wp_lload_3, wl_m1, wp_lcmp, wz_eq_t, wz_eq_f, wb_eq_t, wb_eq_f, wm_eq_1, wm_eq_2, hg_0_1, wc_292, t_292, wc_295, wp_ireturn, al_11778, wp_iinc_2_1, wp_goto, al_11779, wk_m2, nl_i, nl_r, nl_k, nl_j, nl_l, nI_add, pk_mul, pk_sub, tl_s, tl_n, aL_inl, u2_same, u2_ab, u2_aq, nI_l, lN_i, Nat.add_zero, Nat.zero_add, Nat.zero_le, true_and, and_true, b2n_10, b2n_T, b2n_F, b2n_0, Decidable.not_not, not_true_eq_false, not_false_eq_true, Nat.reduceAdd, Nat.reduceMul, Nat.reduceSub]
      refine hS n l (by omega) hq hno N2 I1 J2 ?_ hO1.2.2.2.1 ?_ ht2
      · intro b q z
        rw [hN2 b q (by rintro rfl; cases z)]
        exact (sN_u hO1.2.2.1 rfl) b q z
      · intro b q z
        rw [hJ2 b q (by rintro rfl; cases z)]
        exact hO1.2.2.2.2.1 b q z
theorem k_184 {m : Int32} (h : invB D N I J t)
    (hS : ∀ n l, n ≤ 3 → sdF D N m n = some l → (∀ i, i < n → sdF D N m i = none) → ansC D N I J x (.int (nI n)) l.length (fun k => lN (l.getD k 0)) Q)
    (hN : (∀ i, i < 4 → sdF D N m i = none) → ∀ (N' : Nat → Nat → Nat) (I' : Nat → Nat → Int32) (J' : Nat → Nat → Int64), rsO N N' I I' J J' → Q (some (.int (-2))) (hp D N' I' J' x)) : aMm ko (d + 3) 184 [.ref 0, .int m] (hp D N I J x) Q := by
  have hA := inv_rv h
  have hlg : lgO D N (u2 (u2 (u2 N 26 2 20) 26 3 11) 26 7 (skC N (N 89 109))) I I J (u2 (u2 J 29 0 (lN 0)) 29 1 (lN 0)) := ⟨lk_A (s := 20) (ru := 11) rfl rfl hA _, lk_O, sN_u (sN_u (sN_u sN_r rfl) rfl) rfl, sI_r, sJ_u (sJ_u sJ_r rfl) rfl, ⟨rfl, fun q => by rw [u2_ab (by decide), u2_ab (by decide)]⟩, ⟨rfl, fun q => by rw [u2_ab (by decide), u2_ab (by decide)]⟩⟩
  have hx := fun w3 w4 => l_184 (ko := ko) (d := d) (x := x) (Q := Q) (m := m) h hS hN 4 0 _ _ _ w3 w4 rfl (fun i hi => absurd hi (Nat.not_lt_zero i)) hlg
  rw [me_184]
  simp (disch := (first | omega | exact aCat_8 (by with_unfolding_all rfl) | exact rk_lt (by with_unfolding_all rfl) | exact aCat_16 (by with_unfolding_all rfl) | exact rk_eq (by with_unfolding_all rfl) | assumption | exact b2n_lt _ | exact id_b (by with_unfolding_all rfl) | (simp (disch := omega) only [u2_same, u2_ab, u2_aq]; done) | (simp (disch := omega) only [u2_same, u2_ab, u2_aq]; omega) | fail)) only [al_11776, wp_aloadr_0, wp_aloadk_0, hg_0_10, hg_0_7, hg_0_4, wc_255, wk_0, wp_istore_2, wp_jsr, wp_iload_2, wk_3, wn_gt_t, wn_gt_f, wl_0, wp_iload_1, wc_185, wp_lstore_3, wp_lload_3, wl_m1, wp_lcmp, wz_eq_t, wz_eq_f, wb_eq_t, wb_eq_f, wm_eq_1, wm_eq_2, hg_0_1, wc_292, t_292, wc_295, wp_ireturn, al_11778, wp_iinc_2_1, wp_goto, al_11779, wk_m2, nl_i, nl_r, nl_k, nl_j, nl_l, nI_add, pk_mul, pk_sub, tl_s, tl_n, aL_inl, u2_same, u2_ab, u2_aq, nI_l, lN_i, Nat.add_zero, Nat.zero_add, Nat.zero_le, true_and, and_true, b2n_10, b2n_T, b2n_F, b2n_0, Decidable.not_not, not_true_eq_false, not_false_eq_true, Nat.reduceAdd, Nat.reduceMul, Nat.reduceSub, t_255 (S := N 89) (s := 20) rfl hA.2.1.2.2.2.1 hA.2.2.1.2.2.2.1 (inv_s1 h) (inv_s2 h)]
  exact hx _ _
theorem l_69i {N0 : Nat → Nat → Nat} {J0 : Nat → Nat → Int64} {m : Int32} {n : Nat} {l : List Nat} (hn : n ≤ 3) (hl : l.length = n) (hb : ∀ k, k < n → l.getD k 0 < 36) (h106 : ∀ k, k < n → N0 106 k = l.getD k 0)
    (hQ : ∀ (N : Nat → Nat → Nat) (J : Nat → Nat → Int64), (∀ b q, ¬ (b = 86 ∧ q = 1) → N b q = N0 b q) → (∀ b q, b ≠ 87 → J b q = J0 b q) → tdR N J l.length (fun k => lN (l.getD k 0)) → Q (some (.int (nI n))) (hp D N I J x)) :
    ∀ (j k : Nat) (N : Nat → Nat → Nat) (J : Nat → Nat → Int64), k + j = n → (∀ b q, ¬ (b = 86 ∧ q = 1) → N b q = N0 b q) → (∀ b q, b ≠ 87 → J b q = J0 b q) → tdR N J k (fun k => lN (l.getD k 0)) → aWp ko d 69 (aP.1 (Int.toNat 4418)) [.ref 86, .int m, .int (nI n), .int (nI k)] [] (hp D N I J x) (aL Q) := by
  intro j
  induction j with
  | zero =>
    intro k N J hj hN hJ ht
    have e : k = n := by omega
    subst e
    rw [al_4418]
    simp (disch := (first | omega | exact aCat_8 (by with_unfolding_all rfl) | exact rk_lt (by with_unfolding_all rfl) | exact aCat_16 (by with_unfolding_all rfl) | exact rk_eq (by with_unfolding_all rfl) | assumption | exact b2n_lt _ | exact id_b (by with_unfolding_all rfl) | (simp (disch := omega) only [u2_same, u2_ab, u2_aq]; done) | (simp (disch := omega) only [u2_same, u2_ab, u2_aq]; omega) | fail)) only [al_4416, wk_0, wp_istore_2, wp_jsr, wp_iload_2, wk_3, wn_gt_t, wn_gt_f, wp_aloadr_0, wp_aloadk_0, wc_60, wp_iload_1, wc_70, wz_eq_t, wz_eq_f, wb_eq_t, wb_eq_f, wm_eq_1, wm_eq_2, hp_86_1, wp_istore_3, wp_iload_3, wn_ge_t, wn_ge_f, hg_86_36, ha_106l, ha_106s, wp_i2l, wc_43, t_43, wp_iinc_3_1, wp_goto, al_4419, wp_ireturn, al_4420, wp_iinc_2_1, al_4421, wk_m2, nl_i, nl_r, nl_k, nl_j, nl_l, nI_add, pk_mul, pk_sub, tl_s, tl_n, aL_inl, u2_same, u2_ab, u2_aq, nI_l, lN_i, Nat.add_zero, Nat.zero_add, Nat.zero_le, true_and, and_true, b2n_10, b2n_T, b2n_F, b2n_0, Decidable.not_not, not_true_eq_false, not_false_eq_true, Nat.reduceAdd, Nat.reduceMul, Nat.reduceSub]
    rw [← hl] at ht
    exact hQ N J hN hJ ht
  | succ j ih =>
    intro k N J hj hN hJ ht
    have e1 := ht.1
    have e106 : N 106 k = l.getD k 0 := (hN 106 k (by omega)).trans (h106 k (by omega))
    have hb1 := hb k (by omega)
    rw [al_4418]
    simp (disch := (first | omega | exact aCat_8 (by with_unfolding_all rfl) | exact rk_lt (by with_unfolding_all rfl) | exact aCat_16 (by with_unfolding_all rfl) | exact rk_eq (by with_unfolding_all rfl) | assumption | exact b2n_lt _ | exact id_b (by with_unfolding_all rfl) | (simp (disch := omega) only [u2_same, u2_ab, u2_aq]; done) | (simp (disch := omega) only [u2_same, u2_ab, u2_aq]; omega) | fail)) only [al_4416, wk_0, wp_istore_2, wp_jsr, wp_iload_2, wk_3, wn_gt_t, wn_gt_f, wp_aloadr_0, wp_aloadk_0, wc_60, wp_iload_1, wc_70, wz_eq_t, wz_eq_f, wb_eq_t, wb_eq_f, wm_eq_1, wm_eq_2, hp_86_1, wp_istore_3, wp_iload_3, wn_ge_t, wn_ge_f, hg_86_36, ha_106l, ha_106s, wp_i2l, wc_43, t_43, wp_iinc_3_1, wp_goto, al_4419, wp_ireturn, al_4420, wp_iinc_2_1, al_4421, wk_m2, nl_i, nl_r, nl_k, nl_j, nl_l, nI_add, pk_mul, pk_sub, tl_s, tl_n, aL_inl, u2_same, u2_ab, u2_aq, nI_l, lN_i, Nat.add_zero, Nat.zero_add, Nat.zero_le, true_and, and_true, b2n_10, b2n_T, b2n_F, b2n_0, Decidable.not_not, not_true_eq_false, not_false_eq_true, Nat.reduceAdd, Nat.reduceMul, Nat.reduceSub, e106, e1]
    refine ih (k + 1) _ _ (by omega) ?_ ?_ ⟨by rw [u2_same], ?_⟩
    · intro b q z
      rw [u2_rd, if_neg z]; exact hN b q z
    · intro b q z
      rw [u2_ab z]; exact hJ b q z
    · intro i hi
      rw [u2_rd]
      by_cases e : i = k
      · rw [if_pos ⟨rfl, e⟩, e]
      · rw [if_neg (fun z => e z.2)]
        exact ht.2 i (by omega)
theorem l_69 {N0 : Nat → Nat → Nat} {I0 : Nat → Nat → Int32} {J0 : Nat → Nat → Int64} {m : Int32} (h : invB D N0 I0 J0 t)
    (hS : ∀ n l, n ≤ 3 → sdF D N0 m n = some l → (∀ i, i < n → sdF D N0 m i = none) → ansR D N0 I0 J0 x (.int (nI n)) l.length (fun k => lN (l.getD k 0)) Q)
    (hN : (∀ i, i < 4 → sdF D N0 m i = none) → ∀ (N' : Nat → Nat → Nat) (I' : Nat → Nat → Int32), rqO N0 N' I0 I' → Q (some (.int (-2))) (hp D N' I' J0 x)) :
    ∀ (j n : Nat) (N : Nat → Nat → Nat) (I : Nat → Nat → Int32) (w3 : Value), n + j = 4 → (∀ i, i < n → sdF D N0 m i = none) → rqO N0 N I0 I → aWp ko (d + 3) 69 (aP.1 (Int.toNat 4417)) [.ref 86, .int m, .int (nI n), w3] [] (hp D N I J0 x) (aL Q) := by
  have hF := dm_F h.1.1
  intro j
  induction j with
  | zero =>
    intro n N I w3 hj hno hr
    have e : n = 4 := by omega
    subst e
    rw [al_4417]
    simp (disch := (first | omega | exact aCat_8 (by with_unfolding_all rfl) | exact rk_lt (by with_unfolding_all rfl) | exact aCat_16 (by with_unfolding_all rfl) | exact rk_eq (by with_unfolding_all rfl) | assumption | exact b2n_lt _ | exact id_b (by with_unfolding_all rfl) | (simp (disch := omega) only [u2_same, u2_ab, u2_aq]; done) | (simp (disch := omega) only [u2_same, u2_ab, u2_aq]; omega) | fail)) only [al_4416, wk_0, wp_istore_2, wp_jsr, wp_iload_2, wk_3, wn_gt_t, wn_gt_f, wp_aloadr_0, wp_aloadk_0, wc_60, wp_iload_1, wc_70, wz_eq_t, wz_eq_f, wb_eq_t, wb_eq_f, wm_eq_1, wm_eq_2, hp_86_1, wp_istore_3, wp_iload_3, wn_ge_t, wn_ge_f, hg_86_36, ha_106l, ha_106s, wp_i2l, wc_43, t_43, wp_iinc_3_1, wp_goto, al_4419, wp_ireturn, al_4420, wp_iinc_2_1, al_4421, wk_m2, nl_i, nl_r, nl_k, nl_j, nl_l, nI_add, pk_mul, pk_sub, tl_s, tl_n, aL_inl, u2_same, u2_ab, u2_aq, nI_l, lN_i, Nat.add_zero, Nat.zero_add, Nat.zero_le, true_and, and_true, b2n_10, b2n_T, b2n_F, b2n_0, Decidable.not_not, not_true_eq_false, not_false_eq_true, Nat.reduceAdd, Nat.reduceMul, Nat.reduceSub]
    exact hN hno N I hr
  | succ j ih =>
    intro n N I w3 hj hno hr
    have hz1 : ∀ q, 111 ≤ q → N 89 q = 0 := fun q hq => by rw [hr.1 89 q rfl]; exact h.2.2.2.2.1.1.2.2.2.2 q hq
    have hz2 : ∀ q, 111 ≤ q → N 90 q = 0 := fun q hq => by rw [qN_s hr.1 90 q (kp_90 hq)]; exact h.2.2.2.2.2.2.2.2.2 q hq
    have e89 : N 89 = N0 89 := by funext q; exact hr.1 89 q rfl
    have hT : thO N0 (setRow N 90 (N 89)) I0 I (waS (N0 89) noA) := by
      rw [wa_no]
      refine ⟨by rw [setRow_s, e89], qN_w90 hr.1 (fun q hq => by rw [hz1 q hq, h.2.2.2.2.2.2.2.2.2 q hq]), hr.2.1, by rw [setRow_n (by decide)]; exact hr.2.2⟩
    have ht := t_70 (ko := ko) (x := x) (J := J0) (m := m) (n := n) (t := t) (D := D) (N0 := N0) (I0 := I0) (J0 := J0) h (by omega) n (d + (3 - n)) 0 (D 0 * D 1) noA (setRow N 90 (N 89)) I
    rw [Nat.sub_self, show d + (3 - n) + n = d + 3 by omega] at ht
    rw [al_4417]
    simp (disch := (first | omega | exact aCat_8 (by with_unfolding_all rfl) | exact rk_lt (by with_unfolding_all rfl) | exact aCat_16 (by with_unfolding_all rfl) | exact rk_eq (by with_unfolding_all rfl) | assumption | exact b2n_lt _ | exact id_b (by with_unfolding_all rfl) | (simp (disch := omega) only [u2_same, u2_ab, u2_aq]; done) | (simp (disch := omega) only [u2_same, u2_ab, u2_aq]; omega) | fail)) only [al_4416, wk_0, wp_istore_2, wp_jsr, wp_iload_2, wk_3, wn_gt_t, wn_gt_f, wp_aloadr_0, wp_aloadk_0, wc_60, wp_iload_1, wc_70, wz_eq_t, wz_eq_f, wb_eq_t, wb_eq_f, wm_eq_1, wm_eq_2, hp_86_1, wp_istore_3, wp_iload_3, wn_ge_t, wn_ge_f, hg_86_36, ha_106l, ha_106s, wp_i2l, wc_43, t_43, wp_iinc_3_1, wp_goto, al_4419, wp_ireturn, al_4420, wp_iinc_2_1, al_4421, wk_m2, nl_i, nl_r, nl_k, nl_j, nl_l, nI_add, pk_mul, pk_sub, tl_s, tl_n, aL_inl, u2_same, u2_ab, u2_aq, nI_l, lN_i, Nat.add_zero, Nat.zero_add, Nat.zero_le, true_and, and_true, b2n_10, b2n_T, b2n_F, b2n_0, Decidable.not_not, not_true_eq_false, not_false_eq_true, Nat.reduceAdd, Nat.reduceMul, Nat.reduceSub, t_60 hz1 hz2]
    refine ht _ (by omega) (Nat.le_refl _) (fun g hg => by cases hg) hT ?_
    intro N1 I1 hr1 hrd
    cases hq : sdF D N0 m n with
    | none =>
      have hq' : fnd D N0 (N0 89) m (D 0 * D 1) n noA = none := hq
      rw [hq', isN]
      simp (disch := (first | omega | exact aCat_8 (by with_unfolding_all rfl) | exact rk_lt (by with_unfolding_all rfl) | exact aCat_16 (by with_unfolding_all rfl) | exact rk_eq (by with_unfolding_all rfl) | assumption | exact b2n_lt _ | exact id_b (by with_unfolding_all rfl) | (simp (disch := omega) only [u2_same, u2_ab, u2_aq]; done) | (simp (disch := omega) only [u2_same, u2_ab, u2_aq]; omega) | fail)) only [al_4416, wk_0, wp_istore_2, wp_jsr, wp_iload_2, wk_3, wn_gt_t, wn_gt_f, wp_aloadr_0, wp_aloadk_0, wc_60, wp_iload_1, wc_70, wz_eq_t, wz_eq_f, wb_eq_t, wb_eq_f, wm_eq_1, wm_eq_2, hp_86_1, wp_istore_3, wp_iload_3, wn_ge_t, wn_ge_f, hg_86_36, ha_106l, ha_106s, wp_i2l, wc_43, t_43, wp_iinc_3_1, wp_goto, al_4419, wp_ireturn, al_4420, wp_iinc_2_1, al_4421, wk_m2, nl_i, nl_r, nl_k, nl_j, nl_l, nI_add, pk_mul, pk_sub, tl_s, tl_n, aL_inl, u2_same, u2_ab, u2_aq, nI_l, lN_i, Nat.add_zero, Nat.zero_add, Nat.zero_le, true_and, and_true, b2n_10, b2n_T, b2n_F, b2n_0, Decidable.not_not, not_true_eq_false, not_false_eq_true, Nat.reduceAdd, Nat.reduceMul, Nat.reduceSub]
      exact ih (n + 1) N1 I1 _ (by omega) (fun i hi => by
        by_cases e : i = n
        · rw [e]; exact hq
        · exact hno i (by omega)) hr1
    | some l =>
      have hq' : fnd D N0 (N0 89) m (D 0 * D 1) n noA = some l := hq
      rw [hq'] at hrd
      rw [hq', isS]
      obtain ⟨o1, o2, o3⟩ := fnd_ok _ n noA l (Nat.le_refl _) hq'
      have hgd : ∀ k, k < n → l.getD k 0 < 36 := by
        intro k hk
        have hk' : k < l.length := by omega
        have : l.getD k 0 ∈ l := by
          rw [List.getD_eq_getElem?_getD, List.getElem?_eq_getElem hk']
          exact List.getElem_mem hk'
        have := (o2 _ this).2
        omega
      have hx := l_69i (ko := ko) (d := d + 3) (D := D) (I := I1) (x := x) (Q := Q) (m := m) (N0 := u2 N1 86 1 0) (J0 := J0) (show n ≤ 3 by omega) o1 hgd (fun k hk => by
        rw [u2_ab (by decide)]
        have := hrd.2.2 l rfl k (by omega)
        rw [Nat.zero_add] at this
        exact this) (fun N2 J2 hN2 hJ2 ht2 => hS n l (by omega) hq hno N2 I1 J2 (fun b q z => by
          rw [hN2 b q (by rintro ⟨rfl, rfl⟩; cases z)]
          exact (qN_u hr1.1 rfl) b q z) hr1.2.1 (fun b q z => hJ2 b q (by rintro rfl; cases z)) ht2) n 0 (u2 N1 86 1 0) J0 (by omega) (fun _ _ _ => rfl) (fun _ _ _ => rfl) ⟨u2_same _ _ _ _, fun i hi => absurd hi (Nat.not_lt_zero i)⟩
      simp (disch := (first | omega | exact aCat_8 (by with_unfolding_all rfl) | exact rk_lt (by with_unfolding_all rfl) | exact aCat_16 (by with_unfolding_all rfl) | exact rk_eq (by with_unfolding_all rfl) | assumption | exact b2n_lt _ | exact id_b (by with_unfolding_all rfl) | (simp (disch := omega) only [u2_same, u2_ab, u2_aq]; done) | (simp (disch := omega) only [u2_same, u2_ab, u2_aq]; omega) | fail)) only [al_4416, wk_0, wp_istore_2, wp_jsr, wp_iload_2, wk_3, wn_gt_t, wn_gt_f, wp_aloadr_0, wp_aloadk_0, wc_60, wp_iload_1, wc_70, wz_eq_t, wz_eq_f, wb_eq_t, wb_eq_f, wm_eq_1, wm_eq_2, hp_86_1, wp_istore_3, wp_iload_3, wn_ge_t, wn_ge_f, hg_86_36, ha_106l, ha_106s, wp_i2l, wc_43, t_43, wp_iinc_3_1, wp_goto, al_4419, wp_ireturn, al_4420, wp_iinc_2_1, al_4421, wk_m2, nl_i, nl_r, nl_k, nl_j, nl_l, nI_add, pk_mul, pk_sub, tl_s, tl_n, aL_inl, u2_same, u2_ab, u2_aq, nI_l, lN_i, Nat.add_zero, Nat.zero_add, Nat.zero_le, true_and, and_true, b2n_10, b2n_T, b2n_F, b2n_0, Decidable.not_not, not_true_eq_false, not_false_eq_true, Nat.reduceAdd, Nat.reduceMul, Nat.reduceSub]
      exact hx
theorem r_69 {N0 : Nat → Nat → Nat} {I0 : Nat → Nat → Int32} {m : Int32} (h : invB D N0 I0 J t) (hr : rqO N0 N I0 I)
    (hS : ∀ n l, n ≤ 3 → sdF D N0 m n = some l → (∀ i, i < n → sdF D N0 m i = none) → ansR D N0 I0 J x (.int (nI n)) l.length (fun k => lN (l.getD k 0)) Q)
    (hN : (∀ i, i < 4 → sdF D N0 m i = none) → ∀ (N' : Nat → Nat → Nat) (I' : Nat → Nat → Int32), rqO N0 N' I0 I' → Q (some (.int (-2))) (hp D N' I' J x)) : aMm ko (d + 3) 69 [.ref 86, .int m] (hp D N I J x) Q := by
  have hx := fun w3 => l_69 (ko := ko) (d := d) (x := x) (Q := Q) (m := m) h hS hN 4 0 N I w3 rfl (fun i hi => absurd hi (Nat.not_lt_zero i)) hr
  rw [me_69]
  simp (disch := (first | omega | exact aCat_8 (by with_unfolding_all rfl) | exact rk_lt (by with_unfolding_all rfl) | exact aCat_16 (by with_unfolding_all rfl) | exact rk_eq (by with_unfolding_all rfl) | assumption | exact b2n_lt _ | exact id_b (by with_unfolding_all rfl) | (simp (disch := omega) only [u2_same, u2_ab, u2_aq]; done) | (simp (disch := omega) only [u2_same, u2_ab, u2_aq]; omega) | fail)) only [al_4416, wk_0, wp_istore_2, wp_jsr, wp_iload_2, wk_3, wn_gt_t, wn_gt_f, wp_aloadr_0, wp_aloadk_0, wc_60, wp_iload_1, wc_70, wz_eq_t, wz_eq_f, wb_eq_t, wb_eq_f, wm_eq_1, wm_eq_2, hp_86_1, wp_istore_3, wp_iload_3, wn_ge_t, wn_ge_f, hg_86_36, ha_106l, ha_106s, wp_i2l, wc_43, t_43, wp_iinc_3_1, wp_goto, al_4419, wp_ireturn, al_4420, wp_iinc_2_1, al_4421, wk_m2, nl_i, nl_r, nl_k, nl_j, nl_l, nI_add, pk_mul, pk_sub, tl_s, tl_n, aL_inl, u2_same, u2_ab, u2_aq, nI_l, lN_i, Nat.add_zero, Nat.zero_add, Nat.zero_le, true_and, and_true, b2n_10, b2n_T, b2n_F, b2n_0, Decidable.not_not, not_true_eq_false, not_false_eq_true, Nat.reduceAdd, Nat.reduceMul, Nat.reduceSub]
  exact hx _
theorem sd_sm {N1 : Nat → Nat → Nat} (hN : sN N1 N) {m : Int32} {n : Nat} : sdF D N1 m n = sdF D N m n := by
  have hs := sN_sm hN
  unfold sdF
  rw [sN_89 hN]
  have ew : ∀ A, wcA D N1 (N 89) A = wcA D N (N 89) A := by
    intro A
    unfold wcA
    rw [smR_dsl hs]
  have : ∀ j n A, fnd D N1 (N 89) m j n A = fnd D N (N 89) m j n A := by
    intro j
    induction j with
    | zero =>
      intro n A
      rw [fnd, fnd]
      unfold bse
      dsimp only
      rw [ew]
    | succ j ih =>
      intro n A
      rw [fnd, fnd]
      unfold bse
      dsimp only
      rw [ew, ih, ih]
  exact this _ _ _
theorem mm_mono {As : List Value} {Q' : Option Value → aH → Prop} (h : aMm ko d k As σ Q) (hQ : ∀ v σ1, Q v σ1 → Q' v σ1) : aMm ko d k As σ Q' := by
  obtain ⟨⟨r, σ1⟩, he, hr⟩ := h
  refine ⟨(r, σ1), he, ?_⟩
  match r, hr with
  | .inl v, hr => exact hQ v σ1 hr
  | .inr _, hr => exact hr
/-- an int was answered -/
def qInt (Q : Option Value → aH → Prop) : Option Value → aH → Prop := fun v σ1 => (∃ z : Int32, v = some (.int z)) ∧ Q v σ1
/-- class and reference look for walls alike -/
theorem o_walls {kc kr : Nat} {As : List Value} {m : Int32} (h : inv D N I J t)
    (hC : ∀ Q : Option Value → aH → Prop, aMm ko (d + 3) 184 [.ref 0, .int m] (hp D N I J x) (qInt Q) → aMm ko (d + 3) kc (.ref 0 :: As) (hp D N I J x) Q)
    (hR : ∀ N1 I1 J1, ∀ Q : Option Value → aH → Prop, aMm ko (d + 3) 69 [.ref 86, .int m] (hp D (u2 N1 86 0 0) I1 J1 x) (qInt Q) → aMm ko (d + 3) kr (.ref 86 :: As) (hp D N1 I1 J1 x) Q) : opO ko (d + 3) kc kr As D N I J x (t + 300) := by
  have hF := dm_F h.1.1.1
  rcases firstOf (fun n => (sdF D N m n).isSome = true) 4 with ⟨n, hn, hp1, hno⟩ | hno
  · have hno' : ∀ i, i < n → sdF D N m i = none := fun i hi => by
      have := hno i hi
      simpa using this
    obtain ⟨l, hl⟩ := Option.isSome_iff_exists.mp hp1
    have hl3 := (fnd_ok _ n noA l (Nat.le_refl _) hl).1
    refine op_ans (v := .int (nI n)) (m := l.length) (f := fun k => lN (l.getD k 0)) h (by omega) (by omega) ?_ ?_
    · intro Q hQ
      refine hC Q (k_184 h.1 ?_ ?_)
      · intro n1 l1 _ hs hno1
        have hu := first_u (p := fun n => (sdF D N m n).isSome = true) (a := n1) (b := n) (by show (sdF D N m n1).isSome = true; rw [hs]; rfl) (fun i hi => by show ¬ (sdF D N m i).isSome = true; rw [hno1 i hi]; decide) hp1 hno
        subst hu
        rw [hs] at hl
        cases hl
        exact fun N' I' J' z1 z2 z3 z4 => ⟨⟨_, rfl⟩, hQ N' I' J' z1 z2 z3 z4⟩
      · intro z
        have := z n hn
        rw [hl] at this
        cases this
    · intro N1 I1 J1 h1 hN hI hJ Q hQ
      refine hR N1 I1 J1 Q (r_69 (N0 := N1) (I0 := I1) h1 ⟨qN_u qN_r rfl, sI_r, u2_aq (by decide)⟩ ?_ ?_)
      · intro n1 l1 _ hs hno1
        rw [sd_sm hN] at hs
        have hu := first_u (p := fun n => (sdF D N m n).isSome = true) (a := n1) (b := n) (by show (sdF D N m n1).isSome = true; rw [hs]; rfl) (fun i hi => by have := hno1 i hi; rw [sd_sm hN] at this; show ¬ (sdF D N m i).isSome = true; rw [this]; decide) hp1 hno
        subst hu
        rw [hs] at hl
        cases hl
        exact fun N' I' J' z1 z2 z3 z4 => ⟨⟨_, rfl⟩, hQ N' I' J' z1 z2 z3 z4⟩
      · intro z
        have := z n hn
        rw [sd_sm hN, hl] at this
        cases this
  · have hno' : ∀ i, i < 4 → sdF D N m i = none := fun i hi => by
      have := hno i hi
      simpa using this
    refine op_same (v := .int (-2)) h (by omega) ?_ ?_
    · intro Q hQ
      refine hC Q (k_184 h.1 ?_ (fun _ N' I' J' hr => ⟨⟨_, rfl⟩, hQ N' I' J' hr.1 hr.2.1 hr.2.2.1 hr.2.2.2.1 hr.2.2.2.2⟩))
      intro n1 l1 hn1 hs _
      rw [hno' n1 (by omega)] at hs
      cases hs
    · intro N1 I1 J1 h1 hN hI hJ Q hQ
      refine hR N1 I1 J1 Q (r_69 (N0 := N1) (I0 := I1) h1 ⟨qN_u qN_r rfl, sI_r, u2_aq (by decide)⟩ ?_ (fun _ N' I' hr => ⟨⟨_, rfl⟩, hQ N' I' J1 hr.1 hr.2.1 qJ_r ⟨hr.2.2, fun _ => rfl⟩⟩))
      intro n1 l1 hn1 hs _
      rw [sd_sm hN, hno' n1 (by omega)] at hs
      cases hs
theorem o_stops (h : inv D N I J t) : opO ko (d + 3) 186 71 [] D N I J x (t + 300) := by
  refine o_walls (m := -2) h ?_ ?_
  · intro Q hQ
    rw [me_186]
    simp (disch := (first | omega | exact aCat_8 (by with_unfolding_all rfl) | exact rk_lt (by with_unfolding_all rfl) | exact aCat_16 (by with_unfolding_all rfl) | exact rk_eq (by with_unfolding_all rfl) | assumption | exact b2n_lt _ | exact id_b (by with_unfolding_all rfl) | (simp (disch := omega) only [u2_same, u2_ab, u2_aq]; done) | (simp (disch := omega) only [u2_same, u2_ab, u2_aq]; omega) | fail)) only [al_11904, wp_aloadr_0, wp_aloadk_0, wk_m2, wc_184, wp_ireturn, nl_i, nl_r, nl_k, nl_j, nl_l, nI_add, pk_mul, pk_sub, tl_s, tl_n, aL_inl, u2_same, u2_ab, u2_aq, nI_l, lN_i, Nat.add_zero, Nat.zero_add, Nat.zero_le, true_and, and_true, b2n_10, b2n_T, b2n_F, b2n_0, Decidable.not_not, not_true_eq_false, not_false_eq_true, Nat.reduceAdd, Nat.reduceMul, Nat.reduceSub]
    refine mm_mono hQ ?_
    rintro v σ1 ⟨⟨z, rfl⟩, hq⟩
    simp (disch := (first | omega | exact aCat_8 (by with_unfolding_all rfl) | exact rk_lt (by with_unfolding_all rfl) | exact aCat_16 (by with_unfolding_all rfl) | exact rk_eq (by with_unfolding_all rfl) | assumption | exact b2n_lt _ | exact id_b (by with_unfolding_all rfl) | (simp (disch := omega) only [u2_same, u2_ab, u2_aq]; done) | (simp (disch := omega) only [u2_same, u2_ab, u2_aq]; omega) | fail)) only [al_11904, wp_aloadr_0, wp_aloadk_0, wk_m2, wc_184, wp_ireturn, nl_i, nl_r, nl_k, nl_j, nl_l, nI_add, pk_mul, pk_sub, tl_s, tl_n, aL_inl, u2_same, u2_ab, u2_aq, nI_l, lN_i, Nat.add_zero, Nat.zero_add, Nat.zero_le, true_and, and_true, b2n_10, b2n_T, b2n_F, b2n_0, Decidable.not_not, not_true_eq_false, not_false_eq_true, Nat.reduceAdd, Nat.reduceMul, Nat.reduceSub]
    exact hq
  · intro N1 I1 J1 Q hQ
    rw [me_71]
    simp (disch := (first | omega | exact aCat_8 (by with_unfolding_all rfl) | exact rk_lt (by with_unfolding_all rfl) | exact aCat_16 (by with_unfolding_all rfl) | exact rk_eq (by with_unfolding_all rfl) | assumption | exact b2n_lt _ | exact id_b (by with_unfolding_all rfl) | (simp (disch := omega) only [u2_same, u2_ab, u2_aq]; done) | (simp (disch := omega) only [u2_same, u2_ab, u2_aq]; omega) | fail)) only [al_4544, wp_aloadr_0, wp_aloadk_0, wk_0, hp_86_0, wk_m2, wc_69, wp_ireturn, nl_i, nl_r, nl_k, nl_j, nl_l, nI_add, pk_mul, pk_sub, tl_s, tl_n, aL_inl, u2_same, u2_ab, u2_aq, nI_l, lN_i, Nat.add_zero, Nat.zero_add, Nat.zero_le, true_and, and_true, b2n_10, b2n_T, b2n_F, b2n_0, Decidable.not_not, not_true_eq_false, not_false_eq_true, Nat.reduceAdd, Nat.reduceMul, Nat.reduceSub]
    refine mm_mono hQ ?_
    rintro v σ1 ⟨⟨z, rfl⟩, hq⟩
    simp (disch := (first | omega | exact aCat_8 (by with_unfolding_all rfl) | exact rk_lt (by with_unfolding_all rfl) | exact aCat_16 (by with_unfolding_all rfl) | exact rk_eq (by with_unfolding_all rfl) | assumption | exact b2n_lt _ | exact id_b (by with_unfolding_all rfl) | (simp (disch := omega) only [u2_same, u2_ab, u2_aq]; done) | (simp (disch := omega) only [u2_same, u2_ab, u2_aq]; omega) | fail)) only [al_4544, wp_aloadr_0, wp_aloadk_0, wk_0, hp_86_0, wk_m2, wc_69, wp_ireturn, nl_i, nl_r, nl_k, nl_j, nl_l, nI_add, pk_mul, pk_sub, tl_s, tl_n, aL_inl, u2_same, u2_ab, u2_aq, nI_l, lN_i, Nat.add_zero, Nat.zero_add, Nat.zero_le, true_and, and_true, b2n_10, b2n_T, b2n_F, b2n_0, Decidable.not_not, not_true_eq_false, not_false_eq_true, Nat.reduceAdd, Nat.reduceMul, Nat.reduceSub]
    exact hq
theorem o_sends {a : Int32} (h : inv D N I J t) : opO ko (d + 3) 183 68 [.int a] D N I J x (t + 300) := by
  have hd2 := h.1.1.1.2.2.1
  have hd6 := h.1.1.1.2.2.2
  have hd3 := h.1.1.2.2.1
  rcases rng3 a 0 (b := D 1 - 1) (by decide) (by omega) with ⟨n, _, hn, rfl⟩ | hbad
  · refine o_walls (m := nI n) h ?_ ?_
    · intro Q hQ
      rw [me_183]
      simp (disch := (first | omega | exact aCat_8 (by with_unfolding_all rfl) | exact rk_lt (by with_unfolding_all rfl) | exact aCat_16 (by with_unfolding_all rfl) | exact rk_eq (by with_unfolding_all rfl) | assumption | exact b2n_lt _ | exact id_b (by with_unfolding_all rfl) | (simp (disch := omega) only [u2_same, u2_ab, u2_aq]; done) | (simp (disch := omega) only [u2_same, u2_ab, u2_aq]; omega) | fail)) only [al_11712, wp_iload_1, wz_lt_t, wz_lt_f, wm_lt_1, wm_lt_2, wp_aloadr_0, wp_aloadk_0, hg_0_2, hg_5_1, wn_lt_t, wn_lt_f, wp_jsr, al_11713, wk_m1, wp_ireturn, al_11714, wc_184, nl_i, nl_r, nl_k, nl_j, nl_l, nI_add, pk_mul, pk_sub, tl_s, tl_n, aL_inl, u2_same, u2_ab, u2_aq, nI_l, lN_i, Nat.add_zero, Nat.zero_add, Nat.zero_le, true_and, and_true, b2n_10, b2n_T, b2n_F, b2n_0, Decidable.not_not, not_true_eq_false, not_false_eq_true, Nat.reduceAdd, Nat.reduceMul, Nat.reduceSub, hd3]
      refine mm_mono hQ ?_
      rintro v σ1 ⟨⟨z, rfl⟩, hq⟩
      simp (disch := (first | omega | exact aCat_8 (by with_unfolding_all rfl) | exact rk_lt (by with_unfolding_all rfl) | exact aCat_16 (by with_unfolding_all rfl) | exact rk_eq (by with_unfolding_all rfl) | assumption | exact b2n_lt _ | exact id_b (by with_unfolding_all rfl) | (simp (disch := omega) only [u2_same, u2_ab, u2_aq]; done) | (simp (disch := omega) only [u2_same, u2_ab, u2_aq]; omega) | fail)) only [al_11712, wp_iload_1, wz_lt_t, wz_lt_f, wm_lt_1, wm_lt_2, wp_aloadr_0, wp_aloadk_0, hg_0_2, hg_5_1, wn_lt_t, wn_lt_f, wp_jsr, al_11713, wk_m1, wp_ireturn, al_11714, wc_184, nl_i, nl_r, nl_k, nl_j, nl_l, nI_add, pk_mul, pk_sub, tl_s, tl_n, aL_inl, u2_same, u2_ab, u2_aq, nI_l, lN_i, Nat.add_zero, Nat.zero_add, Nat.zero_le, true_and, and_true, b2n_10, b2n_T, b2n_F, b2n_0, Decidable.not_not, not_true_eq_false, not_false_eq_true, Nat.reduceAdd, Nat.reduceMul, Nat.reduceSub]
      exact hq
    · intro N1 I1 J1 Q hQ
      rw [me_68]
      simp (disch := (first | omega | exact aCat_8 (by with_unfolding_all rfl) | exact rk_lt (by with_unfolding_all rfl) | exact aCat_16 (by with_unfolding_all rfl) | exact rk_eq (by with_unfolding_all rfl) | assumption | exact b2n_lt _ | exact id_b (by with_unfolding_all rfl) | (simp (disch := omega) only [u2_same, u2_ab, u2_aq]; done) | (simp (disch := omega) only [u2_same, u2_ab, u2_aq]; omega) | fail)) only [al_4352, wp_aloadr_0, wp_aloadk_0, wk_0, hp_86_0, wp_iload_1, wp_i2l, wl_0, hg_86_4, wk_1, wp_isub, wc_4, t_4, lN_le, wz_eq_t, wz_eq_f, wb_eq_t, wb_eq_f, wm_eq_1, wm_eq_2, wc_69, wp_goto, al_4353, wk_m1, wp_jsr, al_4354, wp_ireturn, nl_i, nl_r, nl_k, nl_j, nl_l, nI_add, pk_mul, pk_sub, tl_s, tl_n, aL_inl, u2_same, u2_ab, u2_aq, nI_l, lN_i, Nat.add_zero, Nat.zero_add, Nat.zero_le, true_and, and_true, b2n_10, b2n_T, b2n_F, b2n_0, Decidable.not_not, not_true_eq_false, not_false_eq_true, Nat.reduceAdd, Nat.reduceMul, Nat.reduceSub, b2n_t hn]
      refine mm_mono hQ ?_
      rintro v σ1 ⟨⟨z, rfl⟩, hq⟩
      simp (disch := (first | omega | exact aCat_8 (by with_unfolding_all rfl) | exact rk_lt (by with_unfolding_all rfl) | exact aCat_16 (by with_unfolding_all rfl) | exact rk_eq (by with_unfolding_all rfl) | assumption | exact b2n_lt _ | exact id_b (by with_unfolding_all rfl) | (simp (disch := omega) only [u2_same, u2_ab, u2_aq]; done) | (simp (disch := omega) only [u2_same, u2_ab, u2_aq]; omega) | fail)) only [al_4352, wp_aloadr_0, wp_aloadk_0, wk_0, hp_86_0, wp_iload_1, wp_i2l, wl_0, hg_86_4, wk_1, wp_isub, wc_4, t_4, lN_le, wz_eq_t, wz_eq_f, wb_eq_t, wb_eq_f, wm_eq_1, wm_eq_2, wc_69, wp_goto, al_4353, wk_m1, wp_jsr, al_4354, wp_ireturn, nl_i, nl_r, nl_k, nl_j, nl_l, nI_add, pk_mul, pk_sub, tl_s, tl_n, aL_inl, u2_same, u2_ab, u2_aq, nI_l, lN_i, Nat.add_zero, Nat.zero_add, Nat.zero_le, true_and, and_true, b2n_10, b2n_T, b2n_F, b2n_0, Decidable.not_not, not_true_eq_false, not_false_eq_true, Nat.reduceAdd, Nat.reduceMul, Nat.reduceSub]
      exact hq
  · have hin := in_f (a := 0) (b := D 1 - 1) (by decide) (by omega) hbad
    refine op_q (v := .int (-1)) h ?_ ?_
    · intro Q
      rw [me_183]
      rcases hbad with hb | ⟨hb1, hb2⟩
      · have hb' : a < 0 := hb
        simp (disch := (first | omega | exact aCat_8 (by with_unfolding_all rfl) | exact rk_lt (by with_unfolding_all rfl) | exact aCat_16 (by with_unfolding_all rfl) | exact rk_eq (by with_unfolding_all rfl) | assumption | exact b2n_lt _ | exact id_b (by with_unfolding_all rfl) | (simp (disch := omega) only [u2_same, u2_ab, u2_aq]; done) | (simp (disch := omega) only [u2_same, u2_ab, u2_aq]; omega) | fail)) only [al_11712, wp_iload_1, wz_lt_t, wz_lt_f, wm_lt_1, wm_lt_2, wp_aloadr_0, wp_aloadk_0, hg_0_2, hg_5_1, wn_lt_t, wn_lt_f, wp_jsr, al_11713, wk_m1, wp_ireturn, al_11714, wc_184, nl_i, nl_r, nl_k, nl_j, nl_l, nI_add, pk_mul, pk_sub, tl_s, tl_n, aL_inl, u2_same, u2_ab, u2_aq, nI_l, lN_i, Nat.add_zero, Nat.zero_add, Nat.zero_le, true_and, and_true, b2n_10, b2n_T, b2n_F, b2n_0, Decidable.not_not, not_true_eq_false, not_false_eq_true, Nat.reduceAdd, Nat.reduceMul, Nat.reduceSub, wy_lt_t hb']
      · have hb' : ¬ a < 0 := hb1
        have hb3 : ¬ a < nI (D 1) := by
          rw [Int32.lt_iff_toInt_lt, nI_toInt (by omega)] at hb2 ⊢
          omega
        simp (disch := (first | omega | exact aCat_8 (by with_unfolding_all rfl) | exact rk_lt (by with_unfolding_all rfl) | exact aCat_16 (by with_unfolding_all rfl) | exact rk_eq (by with_unfolding_all rfl) | assumption | exact b2n_lt _ | exact id_b (by with_unfolding_all rfl) | (simp (disch := omega) only [u2_same, u2_ab, u2_aq]; done) | (simp (disch := omega) only [u2_same, u2_ab, u2_aq]; omega) | fail)) only [al_11712, wp_iload_1, wz_lt_t, wz_lt_f, wm_lt_1, wm_lt_2, wp_aloadr_0, wp_aloadk_0, hg_0_2, hg_5_1, wn_lt_t, wn_lt_f, wp_jsr, al_11713, wk_m1, wp_ireturn, al_11714, wc_184, nl_i, nl_r, nl_k, nl_j, nl_l, nI_add, pk_mul, pk_sub, tl_s, tl_n, aL_inl, u2_same, u2_ab, u2_aq, nI_l, lN_i, Nat.add_zero, Nat.zero_add, Nat.zero_le, true_and, and_true, b2n_10, b2n_T, b2n_F, b2n_0, Decidable.not_not, not_true_eq_false, not_false_eq_true, Nat.reduceAdd, Nat.reduceMul, Nat.reduceSub, hd3, wy_lt_f hb', wx_lt_f hb3]
    · intro Q
      rw [me_68]
      simp (disch := (first | omega | exact aCat_8 (by with_unfolding_all rfl) | exact rk_lt (by with_unfolding_all rfl) | exact aCat_16 (by with_unfolding_all rfl) | exact rk_eq (by with_unfolding_all rfl) | assumption | exact b2n_lt _ | exact id_b (by with_unfolding_all rfl) | (simp (disch := omega) only [u2_same, u2_ab, u2_aq]; done) | (simp (disch := omega) only [u2_same, u2_ab, u2_aq]; omega) | fail)) only [al_4352, wp_aloadr_0, wp_aloadk_0, wk_0, hp_86_0, wp_iload_1, wp_i2l, wl_0, hg_86_4, wk_1, wp_isub, wc_4, t_4, lN_le, wz_eq_t, wz_eq_f, wb_eq_t, wb_eq_f, wm_eq_1, wm_eq_2, wc_69, wp_goto, al_4353, wk_m1, wp_jsr, al_4354, wp_ireturn, nl_i, nl_r, nl_k, nl_j, nl_l, nI_add, pk_mul, pk_sub, tl_s, tl_n, aL_inl, u2_same, u2_ab, u2_aq, nI_l, lN_i, Nat.add_zero, Nat.zero_add, Nat.zero_le, true_and, and_true, b2n_10, b2n_T, b2n_F, b2n_0, Decidable.not_not, not_true_eq_false, not_false_eq_true, Nat.reduceAdd, Nat.reduceMul, Nat.reduceSub, b2n_f hin]
end W3
