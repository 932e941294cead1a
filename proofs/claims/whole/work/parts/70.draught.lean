/-! draught. From wip/whole/src. -/
/-- the highest of the first k fields of a course -/
def hst (S p : Nat → Nat) : Nat → Option Nat
  | 0 => none
  | k + 1 => match hst S p k with
    | none => some (p k)
    | some g => if S g < S (p k) then some (p k) else some g
theorem hst_in {S p : Nat → Nat} {F : Nat} : ∀ k g, (∀ i, i < k → p i < F) → hst S p k = some g → g < F := by
  intro k
  induction k with
  | zero => intro g _ h; cases h
  | succ k ih =>
    intro g hp h
    unfold hst at h
    cases hq : hst S p k with
    | none =>
      rw [hq] at h
      cases h
      exact hp k (by omega)
    | some g' =>
      rw [hq] at h
      dsimp only at h
      split at h
      · cases h
        exact hp k (by omega)
      · cases h
        exact ih g (fun i hi => hp i (by omega)) hq
/-- the greatest draught that comes in -/
def dpt (S : Nat → Nat) (c : Nat × (Nat → Nat) × Bool) : Nat := if c.2.2 = true then 0 else match hst S c.2.1 c.1 with
  | none => 0
  | some g => 9 - S g
section O9
variable {ko : aKo} {d k : Nat} {is : List Instr} {ls st : List Value} {σ : aH} {D : Nat → Nat} {N : Nat → Nat → Nat} {I : Nat → Nat → Int32} {J : Nat → Nat → Int64} {x t : Nat} {Q : Option Value → aH → Prop} {P : (Option Value ⊕ Unit) → aH → Prop}
theorem l_263 {s L : Nat} {S p : Nat → Nat} (hs : stB s = true) (h2 : N 26 2 = s) (hS : ∀ f, f < 36 → N (s + 1) f = S f ∧ S f ≤ 9) (h9 : N 26 9 = L) (hpp : ∀ k, k < L → N 30 k = p k ∧ p k < 36) (hL : L ≤ 36) : ∀ j i : Nat, i + j = L → aWp ko d 263 (aP.1 (Int.toNat 16833)) [.ref 26, .int (oI (hst S p i)), .int (nI i)] [] (hp D N I J x) (aL Q) = Q (some (.int (oI (hst S p L)))) (hp D N I J x) := by
  intro j
  induction j with
  | zero =>
    intro i hi
    have e : i = L := by omega
    subst e
    simp (disch := (first | omega | exact aCat_8 (by with_unfolding_all rfl) | exact rk_lt (by with_unfolding_all rfl) | exact aCat_16 (by with_unfolding_all rfl) | exact rk_eq (by with_unfolding_all rfl) | assumption | exact b2n_lt _ | exact id_b (by with_unfolding_all rfl) | (simp (disch := omega) only [u2_same, u2_ab, u2_aq]; done) | (simp (disch := omega) only [u2_same, u2_ab, u2_aq]; omega) | fail)) only [al_16832, wk_m1, wp_istore_1, wk_0, wp_istore_2, wp_jsr, al_16833, wp_iload_2, wp_aloadr_0, wp_aloadk_0, hg_26_9, wn_ge_t, wn_ge_f, wp_iload_1, wn_eq_t, wn_eq_f, hg_26_2, hg_20_0, ha_21l, ha_21s, hg_22_0, ha_23l, ha_23s, hg_24_0, ha_25l, ha_25s, hg_26_8, ha_30l, ha_30s, wn_le_t, wn_le_f, al_16834, al_16835, wp_iinc_2_1, wp_goto, al_16836, wp_ireturn, nl_i, nl_r, nl_k, nl_j, nl_l, nI_add, pk_mul, pk_sub, tl_s, tl_n, aL_inl, u2_same, u2_ab, u2_aq, nI_l, lN_i, Nat.add_zero, Nat.zero_add, Nat.zero_le, true_and, and_true, b2n_10, b2n_T, b2n_F, b2n_0, Decidable.not_not, not_true_eq_false, not_false_eq_true, Nat.reduceAdd, Nat.reduceMul, h9]
  | succ j ih =>
    intro i hi
    have a1 := hpp i (by omega)
    have e30 := a1.1
    have b1 := hS (p i) a1.2
    have := ih (i + 1) (by omega)
    rw [hst] at this
    rw [al_16833]
    cases hq : hst S p i with
    | none =>
      rw [hq] at this
      simp only [oI_n, oI_s] at this ⊢
      simp (disch := (first | omega | exact aCat_8 (by with_unfolding_all rfl) | exact rk_lt (by with_unfolding_all rfl) | exact aCat_16 (by with_unfolding_all rfl) | exact rk_eq (by with_unfolding_all rfl) | assumption | exact b2n_lt _ | exact id_b (by with_unfolding_all rfl) | (simp (disch := omega) only [u2_same, u2_ab, u2_aq]; done) | (simp (disch := omega) only [u2_same, u2_ab, u2_aq]; omega) | fail)) only [al_16832, wk_m1, wp_istore_1, wk_0, wp_istore_2, wp_jsr, wp_iload_2, wp_aloadr_0, wp_aloadk_0, hg_26_9, wn_ge_t, wn_ge_f, wp_iload_1, wn_eq_t, wn_eq_f, hg_26_2, hg_20_0, ha_21l, ha_21s, hg_22_0, ha_23l, ha_23s, hg_24_0, ha_25l, ha_25s, hg_26_8, ha_30l, ha_30s, wn_le_t, wn_le_f, al_16834, al_16835, wp_iinc_2_1, wp_goto, al_16836, wp_ireturn, nl_i, nl_r, nl_k, nl_j, nl_l, nI_add, pk_mul, pk_sub, tl_s, tl_n, aL_inl, u2_same, u2_ab, u2_aq, nI_l, lN_i, Nat.add_zero, Nat.zero_add, Nat.zero_le, true_and, and_true, b2n_10, b2n_T, b2n_F, b2n_0, Decidable.not_not, not_true_eq_false, not_false_eq_true, Nat.reduceAdd, Nat.reduceMul, h9, e30, qe_n1, qe_m1, qn_n1, qn_m1, qe_n2, qe_m2, qn_n2, qn_m2]
      exact this
    | some g =>
      have hg := hst_in (F := 36) i g (fun k hk => (hpp k (by omega)).2) hq
      have b2 := hS g hg
      rw [hq] at this
      simp only [oI_s] at this ⊢
      by_cases hlt : S g < S (p i)
      · simp only [if_pos hlt, oI_s] at this
        simp (disch := (first | omega | exact aCat_8 (by with_unfolding_all rfl) | exact rk_lt (by with_unfolding_all rfl) | exact aCat_16 (by with_unfolding_all rfl) | exact rk_eq (by with_unfolding_all rfl) | assumption | exact b2n_lt _ | exact id_b (by with_unfolding_all rfl) | (simp (disch := omega) only [u2_same, u2_ab, u2_aq]; done) | (simp (disch := omega) only [u2_same, u2_ab, u2_aq]; omega) | fail)) only [al_16832, wk_m1, wp_istore_1, wk_0, wp_istore_2, wp_jsr, wp_iload_2, wp_aloadr_0, wp_aloadk_0, hg_26_9, wn_ge_t, wn_ge_f, wp_iload_1, wn_eq_t, wn_eq_f, hg_26_2, hg_20_0, ha_21l, ha_21s, hg_22_0, ha_23l, ha_23s, hg_24_0, ha_25l, ha_25s, hg_26_8, ha_30l, ha_30s, wn_le_t, wn_le_f, al_16834, al_16835, wp_iinc_2_1, wp_goto, al_16836, wp_ireturn, nl_i, nl_r, nl_k, nl_j, nl_l, nI_add, pk_mul, pk_sub, tl_s, tl_n, aL_inl, u2_same, u2_ab, u2_aq, nI_l, lN_i, Nat.add_zero, Nat.zero_add, Nat.zero_le, true_and, and_true, b2n_10, b2n_T, b2n_F, b2n_0, Decidable.not_not, not_true_eq_false, not_false_eq_true, Nat.reduceAdd, Nat.reduceMul, h9, e30, h2, st_g0 hs, st_hl hs, b1.1, b2.1, qe_n1, qe_m1, qn_n1, qn_m1, qe_n2, qe_m2, qn_n2, qn_m2]
        exact this
      · simp only [if_neg hlt, oI_s] at this
        simp (disch := (first | omega | exact aCat_8 (by with_unfolding_all rfl) | exact rk_lt (by with_unfolding_all rfl) | exact aCat_16 (by with_unfolding_all rfl) | exact rk_eq (by with_unfolding_all rfl) | assumption | exact b2n_lt _ | exact id_b (by with_unfolding_all rfl) | (simp (disch := omega) only [u2_same, u2_ab, u2_aq]; done) | (simp (disch := omega) only [u2_same, u2_ab, u2_aq]; omega) | fail)) only [al_16832, wk_m1, wp_istore_1, wk_0, wp_istore_2, wp_jsr, wp_iload_2, wp_aloadr_0, wp_aloadk_0, hg_26_9, wn_ge_t, wn_ge_f, wp_iload_1, wn_eq_t, wn_eq_f, hg_26_2, hg_20_0, ha_21l, ha_21s, hg_22_0, ha_23l, ha_23s, hg_24_0, ha_25l, ha_25s, hg_26_8, ha_30l, ha_30s, wn_le_t, wn_le_f, al_16834, al_16835, wp_iinc_2_1, wp_goto, al_16836, wp_ireturn, nl_i, nl_r, nl_k, nl_j, nl_l, nI_add, pk_mul, pk_sub, tl_s, tl_n, aL_inl, u2_same, u2_ab, u2_aq, nI_l, lN_i, Nat.add_zero, Nat.zero_add, Nat.zero_le, true_and, and_true, b2n_10, b2n_T, b2n_F, b2n_0, Decidable.not_not, not_true_eq_false, not_false_eq_true, Nat.reduceAdd, Nat.reduceMul, h9, e30, h2, st_g0 hs, st_hl hs, b1.1, b2.1, qe_n1, qe_m1, qn_n1, qn_m1, qe_n2, qe_m2, qn_n2, qn_m2]
        exact this
theorem t_263 {s L : Nat} {S p : Nat → Nat} (hs : stB s = true) (h2 : N 26 2 = s) (hS : ∀ f, f < 36 → N (s + 1) f = S f ∧ S f ≤ 9) (h9 : N 26 9 = L) (hpp : ∀ k, k < L → N 30 k = p k ∧ p k < 36) (hL : L ≤ 36) : aMm ko d 263 [.ref 26] (hp D N I J x) Q = Q (some (.int (oI (hst S p L)))) (hp D N I J x) := by
  rw [me_263]
  simp (disch := (first | omega | exact aCat_8 (by with_unfolding_all rfl) | exact rk_lt (by with_unfolding_all rfl) | exact aCat_16 (by with_unfolding_all rfl) | exact rk_eq (by with_unfolding_all rfl) | assumption | exact b2n_lt _ | exact id_b (by with_unfolding_all rfl) | (simp (disch := omega) only [u2_same, u2_ab, u2_aq]; done) | (simp (disch := omega) only [u2_same, u2_ab, u2_aq]; omega) | fail)) only [al_16832, wk_m1, wp_istore_1, wk_0, wp_istore_2, wp_jsr, wp_iload_2, wp_aloadr_0, wp_aloadk_0, hg_26_9, wn_ge_t, wn_ge_f, wp_iload_1, wn_eq_t, wn_eq_f, hg_26_2, hg_20_0, ha_21l, ha_21s, hg_22_0, ha_23l, ha_23s, hg_24_0, ha_25l, ha_25s, hg_26_8, ha_30l, ha_30s, wn_le_t, wn_le_f, al_16834, al_16835, wp_iinc_2_1, wp_goto, al_16836, wp_ireturn, nl_i, nl_r, nl_k, nl_j, nl_l, nI_add, pk_mul, pk_sub, tl_s, tl_n, aL_inl, u2_same, u2_ab, u2_aq, nI_l, lN_i, Nat.add_zero, Nat.zero_add, Nat.zero_le, true_and, and_true, b2n_10, b2n_T, b2n_F, b2n_0, Decidable.not_not, not_true_eq_false, not_false_eq_true, Nat.reduceAdd, Nat.reduceMul]
  exact l_263 hs h2 hS h9 hpp hL L 0 (by omega)
theorem t_264 {s C : Nat} {S : Nat → Nat} {c : Nat × (Nat → Nat) × Bool} (hs : stB s = true) (h2 : N 26 2 = s) (hS : ∀ f, f < 36 → N (s + 1) f = S f ∧ S f ≤ 9) (hc : clC C N I J c) (hpp : ∀ k, k < c.1 → c.2.1 k < 36) (hL : c.1 ≤ 36) (hC : 0 < C) (hC6 : C ≤ 6) : aMm ko d 264 [.ref 26] (hp D N I J x) Q = Q (some (.int (nI (dpt S c)))) (hp D N I J x) := by
  have e11 := hc.2.2.2.1
  have t263 : ∀ Q : Option Value → aH → Prop, aMm ko d 263 [.ref 26] (hp D N I J x) Q = Q (some (.int (oI (hst S c.2.1 c.1)))) (hp D N I J x) := fun Q => t_263 hs h2 hS hc.1 (fun k hk => ⟨hc.2.1 k hk, hpp k hk⟩) hL
  rw [me_264]
  by_cases hlk : c.2.2 = true
  · rw [mth, if_pos hlk] at e11
    have ed : dpt S c = 0 := by rw [dpt, if_pos hlk]
    rw [ed]
    simp (disch := (first | omega | exact aCat_8 (by with_unfolding_all rfl) | exact rk_lt (by with_unfolding_all rfl) | exact aCat_16 (by with_unfolding_all rfl) | exact rk_eq (by with_unfolding_all rfl) | assumption | exact b2n_lt _ | exact id_b (by with_unfolding_all rfl) | (simp (disch := omega) only [u2_same, u2_ab, u2_aq]; done) | (simp (disch := omega) only [u2_same, u2_ab, u2_aq]; omega) | fail)) only [al_16896, wp_aloadr_0, wp_aloadk_0, wc_263, wp_istore_1, hg_26_11, wk_m2, wn_eq_t, wn_eq_f, wp_iload_1, wk_m1, wn_ne_t, wn_ne_f, wp_jsr, al_16897, wk_0, wp_goto, al_16898, wk_9, hg_26_2, hg_20_0, ha_21l, ha_21s, hg_22_0, ha_23l, ha_23s, hg_24_0, ha_25l, ha_25s, wp_isub, al_16899, wp_ireturn, nl_i, nl_r, nl_k, nl_j, nl_l, nI_add, pk_mul, pk_sub, tl_s, tl_n, aL_inl, u2_same, u2_ab, u2_aq, nI_l, lN_i, Nat.add_zero, Nat.zero_add, Nat.zero_le, true_and, and_true, b2n_10, b2n_T, b2n_F, b2n_0, Decidable.not_not, not_true_eq_false, not_false_eq_true, Nat.reduceAdd, Nat.reduceMul, t263, e11, qe_n1, qe_m1, qn_n1, qn_m1, qe_n2, qe_m2, qn_n2, qn_m2]
  · rw [mth, if_neg hlk] at e11
    have hm := Nat.mod_lt (c.2.1 (c.1 - 1)) hC
    cases hq : hst S c.2.1 c.1 with
    | none =>
      have ed : dpt S c = 0 := by rw [dpt, if_neg hlk, hq]
      rw [ed]
      simp (disch := (first | omega | exact aCat_8 (by with_unfolding_all rfl) | exact rk_lt (by with_unfolding_all rfl) | exact aCat_16 (by with_unfolding_all rfl) | exact rk_eq (by with_unfolding_all rfl) | assumption | exact b2n_lt _ | exact id_b (by with_unfolding_all rfl) | (simp (disch := omega) only [u2_same, u2_ab, u2_aq]; done) | (simp (disch := omega) only [u2_same, u2_ab, u2_aq]; omega) | fail)) only [al_16896, wp_aloadr_0, wp_aloadk_0, wc_263, wp_istore_1, hg_26_11, wk_m2, wn_eq_t, wn_eq_f, wp_iload_1, wk_m1, wn_ne_t, wn_ne_f, wp_jsr, al_16897, wk_0, wp_goto, al_16898, wk_9, hg_26_2, hg_20_0, ha_21l, ha_21s, hg_22_0, ha_23l, ha_23s, hg_24_0, ha_25l, ha_25s, wp_isub, al_16899, wp_ireturn, nl_i, nl_r, nl_k, nl_j, nl_l, nI_add, pk_mul, pk_sub, tl_s, tl_n, aL_inl, u2_same, u2_ab, u2_aq, nI_l, lN_i, Nat.add_zero, Nat.zero_add, Nat.zero_le, true_and, and_true, b2n_10, b2n_T, b2n_F, b2n_0, Decidable.not_not, not_true_eq_false, not_false_eq_true, Nat.reduceAdd, Nat.reduceMul, t263, hq, oI_n, e11, qe_n1, qe_m1, qn_n1, qn_m1, qe_n2, qe_m2, qn_n2, qn_m2]
    | some g =>
      have hg := hst_in (F := 36) c.1 g hpp hq
      have b2 := hS g hg
      have ed : dpt S c = 9 - S g := by rw [dpt, if_neg hlk, hq]
      rw [ed]
      simp (disch := (first | omega | exact aCat_8 (by with_unfolding_all rfl) | exact rk_lt (by with_unfolding_all rfl) | exact aCat_16 (by with_unfolding_all rfl) | exact rk_eq (by with_unfolding_all rfl) | assumption | exact b2n_lt _ | exact id_b (by with_unfolding_all rfl) | (simp (disch := omega) only [u2_same, u2_ab, u2_aq]; done) | (simp (disch := omega) only [u2_same, u2_ab, u2_aq]; omega) | fail)) only [al_16896, wp_aloadr_0, wp_aloadk_0, wc_263, wp_istore_1, hg_26_11, wk_m2, wn_eq_t, wn_eq_f, wp_iload_1, wk_m1, wn_ne_t, wn_ne_f, wp_jsr, al_16897, wk_0, wp_goto, al_16898, wk_9, hg_26_2, hg_20_0, ha_21l, ha_21s, hg_22_0, ha_23l, ha_23s, hg_24_0, ha_25l, ha_25s, wp_isub, al_16899, wp_ireturn, nl_i, nl_r, nl_k, nl_j, nl_l, nI_add, pk_mul, pk_sub, tl_s, tl_n, aL_inl, u2_same, u2_ab, u2_aq, nI_l, lN_i, Nat.add_zero, Nat.zero_add, Nat.zero_le, true_and, and_true, b2n_10, b2n_T, b2n_F, b2n_0, Decidable.not_not, not_true_eq_false, not_false_eq_true, Nat.reduceAdd, Nat.reduceMul, t263, hq, oI_s, e11, h2, st_g0 hs, st_hl hs, b2.1, qe_n1, qe_m1, qn_n1, qn_m1, qe_n2, qe_m2, qn_n2, qn_m2]
theorem l_75 {r : Nat} {S : Nat → Nat} {c : Nat × (Nat → Nat) × Bool} {I0 : Nat → Nat → Int32} (hr : r = 89 ∨ r = 90) (hS : ∀ f, f < 36 → N r f = S f ∧ S f ≤ 9) (hc : crO N c) (hpp : ∀ k, k < c.1 → c.2.1 k < 36) (hL : c.1 ≤ 36)
    (hQ : Q (some (.int (nI (dpt S c)))) (hp D N (u2 I0 86 37 (oI (hst S c.2.1 c.1))) J x)) : ∀ j i : Nat, i + j = c.1 → aWp ko d 75 (aP.1 (Int.toNat 4801)) [.ref 86, .ref r, .int (nI i)] [] (hp D N (u2 I0 86 37 (oI (hst S c.2.1 i))) J x) (aL Q) := by
  have h24 := hc.1
  have h25 := hc.2.1
  have hu : ∀ (v w : Int32), u2 (u2 I0 86 37 v) 86 37 w = u2 I0 86 37 w := by
    intro v w
    funext b q
    unfold u2
    by_cases e : b = 86 ∧ q = 37
    · rw [if_pos e, if_pos e]
    · rw [if_neg e, if_neg e, if_neg e]
  intro j
  induction j with
  | zero =>
    intro i hi
    have e : i = c.1 := by omega
    subst e
    rw [al_4801]
    by_cases hlk : c.2.2 = true
    · rw [b2n_t hlk] at h25
      have ed : dpt S c = 0 := by rw [dpt, if_pos hlk]
      rw [ed] at hQ
      simp (disch := (first | omega | exact aCat_8 (by with_unfolding_all rfl) | exact rk_lt (by with_unfolding_all rfl) | exact aCat_16 (by with_unfolding_all rfl) | exact rk_eq (by with_unfolding_all rfl) | assumption | exact b2n_lt _ | exact id_b (by with_unfolding_all rfl) | (simp (disch := omega) only [u2_same, u2_ab, u2_aq]; done) | (simp (disch := omega) only [u2_same, u2_ab, u2_aq]; omega) | fail)) only [al_4800, wp_aloadr_0, wp_aloadk_0, wk_m1, hp_86_37, wk_0, wp_istore_2, wp_jsr, wp_iload_2, hg_86_24, wn_ge_t, wn_ge_f, hg_86_37, wz_lt_t, wz_lt_f, wm_lt_1, wm_lt_2, wp_aloadr_1, wp_aloadk_1, hg_86_22, ha_97l, ha_97s, wn_le_t, wn_le_f, al_4802, wp_goto, al_4803, al_4804, wp_iinc_2_1, al_4805, hg_86_25, wz_ne_t, wz_ne_f, wb_ne_t, wb_ne_f, wm_ne_1, wm_ne_2, wz_ge_t, wz_ge_f, wm_ge_1, wm_ge_2, al_4806, al_4807, wk_9, wp_isub, al_4808, wp_ireturn, nl_i, nl_r, nl_k, nl_j, nl_l, nI_add, pk_mul, pk_sub, tl_s, tl_n, aL_inl, u2_same, u2_ab, u2_aq, nI_l, lN_i, Nat.add_zero, Nat.zero_add, Nat.zero_le, true_and, and_true, b2n_10, b2n_T, b2n_F, b2n_0, Decidable.not_not, not_true_eq_false, not_false_eq_true, Nat.reduceAdd, Nat.reduceMul, h24]
      exact hQ
    · rw [b2n_f hlk] at h25
      cases hq : hst S c.2.1 c.1 with
      | none =>
        have ed : dpt S c = 0 := by rw [dpt, if_neg hlk, hq]
        rw [ed, hq] at hQ
        simp (disch := (first | omega | exact aCat_8 (by with_unfolding_all rfl) | exact rk_lt (by with_unfolding_all rfl) | exact aCat_16 (by with_unfolding_all rfl) | exact rk_eq (by with_unfolding_all rfl) | assumption | exact b2n_lt _ | exact id_b (by with_unfolding_all rfl) | (simp (disch := omega) only [u2_same, u2_ab, u2_aq]; done) | (simp (disch := omega) only [u2_same, u2_ab, u2_aq]; omega) | fail)) only [al_4800, wp_aloadr_0, wp_aloadk_0, wk_m1, hp_86_37, wk_0, wp_istore_2, wp_jsr, wp_iload_2, hg_86_24, wn_ge_t, wn_ge_f, hg_86_37, wz_lt_t, wz_lt_f, wm_lt_1, wm_lt_2, wp_aloadr_1, wp_aloadk_1, hg_86_22, ha_97l, ha_97s, wn_le_t, wn_le_f, al_4802, wp_goto, al_4803, al_4804, wp_iinc_2_1, al_4805, hg_86_25, wz_ne_t, wz_ne_f, wb_ne_t, wb_ne_f, wm_ne_1, wm_ne_2, wz_ge_t, wz_ge_f, wm_ge_1, wm_ge_2, al_4806, al_4807, wk_9, wp_isub, al_4808, wp_ireturn, nl_i, nl_r, nl_k, nl_j, nl_l, nI_add, pk_mul, pk_sub, tl_s, tl_n, aL_inl, u2_same, u2_ab, u2_aq, nI_l, lN_i, Nat.add_zero, Nat.zero_add, Nat.zero_le, true_and, and_true, b2n_10, b2n_T, b2n_F, b2n_0, Decidable.not_not, not_true_eq_false, not_false_eq_true, Nat.reduceAdd, Nat.reduceMul, h24, oI_n]
        exact hQ
      | some g =>
        have hg := hst_in (F := 36) c.1 g hpp hq
        have b2 := hS g hg
        have ed : dpt S c = 9 - S g := by rw [dpt, if_neg hlk, hq]
        rw [ed, hq] at hQ
        simp (disch := (first | omega | exact aCat_8 (by with_unfolding_all rfl) | exact rk_lt (by with_unfolding_all rfl) | exact aCat_16 (by with_unfolding_all rfl) | exact rk_eq (by with_unfolding_all rfl) | assumption | exact b2n_lt _ | exact id_b (by with_unfolding_all rfl) | (simp (disch := omega) only [u2_same, u2_ab, u2_aq]; done) | (simp (disch := omega) only [u2_same, u2_ab, u2_aq]; omega) | fail)) only [al_4800, wp_aloadr_0, wp_aloadk_0, wk_m1, hp_86_37, wk_0, wp_istore_2, wp_jsr, wp_iload_2, hg_86_24, wn_ge_t, wn_ge_f, hg_86_37, wz_lt_t, wz_lt_f, wm_lt_1, wm_lt_2, wp_aloadr_1, wp_aloadk_1, hg_86_22, ha_97l, ha_97s, wn_le_t, wn_le_f, al_4802, wp_goto, al_4803, al_4804, wp_iinc_2_1, al_4805, hg_86_25, wz_ne_t, wz_ne_f, wb_ne_t, wb_ne_f, wm_ne_1, wm_ne_2, wz_ge_t, wz_ge_f, wm_ge_1, wm_ge_2, al_4806, al_4807, wk_9, wp_isub, al_4808, wp_ireturn, nl_i, nl_r, nl_k, nl_j, nl_l, nI_add, pk_mul, pk_sub, tl_s, tl_n, aL_inl, u2_same, u2_ab, u2_aq, nI_l, lN_i, Nat.add_zero, Nat.zero_add, Nat.zero_le, true_and, and_true, b2n_10, b2n_T, b2n_F, b2n_0, Decidable.not_not, not_true_eq_false, not_false_eq_true, Nat.reduceAdd, Nat.reduceMul, h24, oI_s, ra_l hr, b2.1]
        exact hQ
  | succ j ih =>
    intro i hi
    have e97 := hc.2.2.1 i (by omega)
    have a1 := hpp i (by omega)
    have b1 := hS (c.2.1 i) a1
    have := ih (i + 1) (by omega)
    rw [hst] at this
    rw [al_4801]
    cases hq : hst S c.2.1 i with
    | none =>
      rw [hq] at this
      simp only [oI_s] at this
      simp (disch := (first | omega | exact aCat_8 (by with_unfolding_all rfl) | exact rk_lt (by with_unfolding_all rfl) | exact aCat_16 (by with_unfolding_all rfl) | exact rk_eq (by with_unfolding_all rfl) | assumption | exact b2n_lt _ | exact id_b (by with_unfolding_all rfl) | (simp (disch := omega) only [u2_same, u2_ab, u2_aq]; done) | (simp (disch := omega) only [u2_same, u2_ab, u2_aq]; omega) | fail)) only [al_4800, wp_aloadr_0, wp_aloadk_0, wk_m1, hp_86_37, wk_0, wp_istore_2, wp_jsr, wp_iload_2, hg_86_24, wn_ge_t, wn_ge_f, hg_86_37, wz_lt_t, wz_lt_f, wm_lt_1, wm_lt_2, wp_aloadr_1, wp_aloadk_1, hg_86_22, ha_97l, ha_97s, wn_le_t, wn_le_f, al_4802, wp_goto, al_4803, al_4804, wp_iinc_2_1, al_4805, hg_86_25, wz_ne_t, wz_ne_f, wb_ne_t, wb_ne_f, wm_ne_1, wm_ne_2, wz_ge_t, wz_ge_f, wm_ge_1, wm_ge_2, al_4806, al_4807, wk_9, wp_isub, al_4808, wp_ireturn, nl_i, nl_r, nl_k, nl_j, nl_l, nI_add, pk_mul, pk_sub, tl_s, tl_n, aL_inl, u2_same, u2_ab, u2_aq, nI_l, lN_i, Nat.add_zero, Nat.zero_add, Nat.zero_le, true_and, and_true, b2n_10, b2n_T, b2n_F, b2n_0, Decidable.not_not, not_true_eq_false, not_false_eq_true, Nat.reduceAdd, Nat.reduceMul, h24, e97, oI_n, hu]
      exact this
    | some g =>
      have hg := hst_in (F := 36) i g (fun k hk => hpp k (by omega)) hq
      have b2 := hS g hg
      rw [hq] at this
      by_cases hlt : S g < S (c.2.1 i)
      · simp only [if_pos hlt, oI_s] at this
        simp (disch := (first | omega | exact aCat_8 (by with_unfolding_all rfl) | exact rk_lt (by with_unfolding_all rfl) | exact aCat_16 (by with_unfolding_all rfl) | exact rk_eq (by with_unfolding_all rfl) | assumption | exact b2n_lt _ | exact id_b (by with_unfolding_all rfl) | (simp (disch := omega) only [u2_same, u2_ab, u2_aq]; done) | (simp (disch := omega) only [u2_same, u2_ab, u2_aq]; omega) | fail)) only [al_4800, wp_aloadr_0, wp_aloadk_0, wk_m1, hp_86_37, wk_0, wp_istore_2, wp_jsr, wp_iload_2, hg_86_24, wn_ge_t, wn_ge_f, hg_86_37, wz_lt_t, wz_lt_f, wm_lt_1, wm_lt_2, wp_aloadr_1, wp_aloadk_1, hg_86_22, ha_97l, ha_97s, wn_le_t, wn_le_f, al_4802, wp_goto, al_4803, al_4804, wp_iinc_2_1, al_4805, hg_86_25, wz_ne_t, wz_ne_f, wb_ne_t, wb_ne_f, wm_ne_1, wm_ne_2, wz_ge_t, wz_ge_f, wm_ge_1, wm_ge_2, al_4806, al_4807, wk_9, wp_isub, al_4808, wp_ireturn, nl_i, nl_r, nl_k, nl_j, nl_l, nI_add, pk_mul, pk_sub, tl_s, tl_n, aL_inl, u2_same, u2_ab, u2_aq, nI_l, lN_i, Nat.add_zero, Nat.zero_add, Nat.zero_le, true_and, and_true, b2n_10, b2n_T, b2n_F, b2n_0, Decidable.not_not, not_true_eq_false, not_false_eq_true, Nat.reduceAdd, Nat.reduceMul, h24, e97, oI_s, ra_l hr, b1.1, b2.1, hu]
        exact this
      · simp only [if_neg hlt, oI_s] at this
        simp (disch := (first | omega | exact aCat_8 (by with_unfolding_all rfl) | exact rk_lt (by with_unfolding_all rfl) | exact aCat_16 (by with_unfolding_all rfl) | exact rk_eq (by with_unfolding_all rfl) | assumption | exact b2n_lt _ | exact id_b (by with_unfolding_all rfl) | (simp (disch := omega) only [u2_same, u2_ab, u2_aq]; done) | (simp (disch := omega) only [u2_same, u2_ab, u2_aq]; omega) | fail)) only [al_4800, wp_aloadr_0, wp_aloadk_0, wk_m1, hp_86_37, wk_0, wp_istore_2, wp_jsr, wp_iload_2, hg_86_24, wn_ge_t, wn_ge_f, hg_86_37, wz_lt_t, wz_lt_f, wm_lt_1, wm_lt_2, wp_aloadr_1, wp_aloadk_1, hg_86_22, ha_97l, ha_97s, wn_le_t, wn_le_f, al_4802, wp_goto, al_4803, al_4804, wp_iinc_2_1, al_4805, hg_86_25, wz_ne_t, wz_ne_f, wb_ne_t, wb_ne_f, wm_ne_1, wm_ne_2, wz_ge_t, wz_ge_f, wm_ge_1, wm_ge_2, al_4806, al_4807, wk_9, wp_isub, al_4808, wp_ireturn, nl_i, nl_r, nl_k, nl_j, nl_l, nI_add, pk_mul, pk_sub, tl_s, tl_n, aL_inl, u2_same, u2_ab, u2_aq, nI_l, lN_i, Nat.add_zero, Nat.zero_add, Nat.zero_le, true_and, and_true, b2n_10, b2n_T, b2n_F, b2n_0, Decidable.not_not, not_true_eq_false, not_false_eq_true, Nat.reduceAdd, Nat.reduceMul, h24, e97, oI_s, ra_l hr, b1.1, b2.1, hu]
        exact this
theorem t_75 {r : Nat} {S : Nat → Nat} {c : Nat × (Nat → Nat) × Bool} (hr : r = 89 ∨ r = 90) (hS : ∀ f, f < 36 → N r f = S f ∧ S f ≤ 9) (hc : crO N c) (hpp : ∀ k, k < c.1 → c.2.1 k < 36) (hL : c.1 ≤ 36)
    (hQ : Q (some (.int (nI (dpt S c)))) (hp D N (u2 I 86 37 (oI (hst S c.2.1 c.1))) J x)) : aMm ko d 75 [.ref 86, .ref r] (hp D N I J x) Q := by
  rw [me_75]
  simp (disch := (first | omega | exact aCat_8 (by with_unfolding_all rfl) | exact rk_lt (by with_unfolding_all rfl) | exact aCat_16 (by with_unfolding_all rfl) | exact rk_eq (by with_unfolding_all rfl) | assumption | exact b2n_lt _ | exact id_b (by with_unfolding_all rfl) | (simp (disch := omega) only [u2_same, u2_ab, u2_aq]; done) | (simp (disch := omega) only [u2_same, u2_ab, u2_aq]; omega) | fail)) only [al_4800, wp_aloadr_0, wp_aloadk_0, wk_m1, hp_86_37, wk_0, wp_istore_2, wp_jsr, wp_iload_2, hg_86_24, wn_ge_t, wn_ge_f, hg_86_37, wz_lt_t, wz_lt_f, wm_lt_1, wm_lt_2, wp_aloadr_1, wp_aloadk_1, hg_86_22, ha_97l, ha_97s, wn_le_t, wn_le_f, al_4802, wp_goto, al_4803, al_4804, wp_iinc_2_1, al_4805, hg_86_25, wz_ne_t, wz_ne_f, wb_ne_t, wb_ne_f, wm_ne_1, wm_ne_2, wz_ge_t, wz_ge_f, wm_ge_1, wm_ge_2, al_4806, al_4807, wk_9, wp_isub, al_4808, wp_ireturn, nl_i, nl_r, nl_k, nl_j, nl_l, nI_add, pk_mul, pk_sub, tl_s, tl_n, aL_inl, u2_same, u2_ab, u2_aq, nI_l, lN_i, Nat.add_zero, Nat.zero_add, Nat.zero_le, true_and, and_true, b2n_10, b2n_T, b2n_F, b2n_0, Decidable.not_not, not_true_eq_false, not_false_eq_true, Nat.reduceAdd, Nat.reduceMul]
  exact l_75 hr hS hc hpp hL hQ c.1 0 (by omega)
theorem o_draught (h : inv D N I J t) (ht : t + 300 < 1000000000) : opO ko d 190 74 [] D N I J x (t + 300) := by
  have hF := dm_F h.1.1.1
  have hd2 := h.1.1.1.2.2.1
  have hd6 := h.1.1.1.2.2.2
  obtain ⟨hK, hL, hp36⟩ := crsS_36 (k := 0) h.1 (by omega) ht
  have hK : crK (D 0) (D 1) (crsS D N (N 89)) := hK
  have hL : (crsS D N (N 89)).1 ≤ 36 := hL
  have hp36 : ∀ i, i < (crsS D N (N 89)).1 → (crsS D N (N 89)).2.1 i < 36 := hp36
  have h89 := h.1.2.2.2.2.1
  refine op_ans (v := .int (nI (dpt (N 89) (crsS D N (N 89))))) (m := 1) (f := fun _ => (oI (hst (N 89) (crsS D N (N 89)).2.1 (crsS D N (N 89)).1)).toInt64) h (by decide) (by omega) ?_ ?_
  · intro Q hQ
    rw [me_190]
    simp (disch := (first | omega | exact aCat_8 (by with_unfolding_all rfl) | exact rk_lt (by with_unfolding_all rfl) | exact aCat_16 (by with_unfolding_all rfl) | exact rk_eq (by with_unfolding_all rfl) | assumption | exact b2n_lt _ | exact id_b (by with_unfolding_all rfl) | (simp (disch := omega) only [u2_same, u2_ab, u2_aq]; done) | (simp (disch := omega) only [u2_same, u2_ab, u2_aq]; omega) | fail)) only [al_12160, wp_aloadr_0, wp_aloadk_0, hg_0_10, hg_0_7, hg_0_4, wc_260, hg_0_1, wc_292, t_292, wc_263, wp_i2l, wc_293, t_293, wc_264, wp_ireturn, nl_i, nl_r, nl_k, nl_j, nl_l, nI_add, pk_mul, pk_sub, tl_s, tl_n, aL_inl, u2_same, u2_ab, u2_aq, nI_l, lN_i, Nat.add_zero, Nat.zero_add, Nat.zero_le, true_and, and_true, b2n_10, b2n_T, b2n_F, b2n_0, Decidable.not_not, not_true_eq_false, not_false_eq_true, Nat.reduceAdd, Nat.reduceMul]
    refine t_260 (c := N 93) (n := N 86 18) (S := N 89) rfl rfl (inv_rv h.1) (inv_s1 h.1) (inv_s2 h.1) ?_
    intro N1 I1 J1 hv hN hI hJ hc
    rw [inv_G h.1, h.1.1.2.2.1] at hc
    have hSS : ∀ f, f < 36 → N1 (20 + 1) f = N 89 f ∧ N 89 f ≤ 9 := fun f hf => ⟨(hN 21 f (by decide) (by omega)).trans (h89.2.2.2.1 f hf), (h89.1.1 f hf).1⟩
    have t263 : ∀ Q : Option Value → aH → Prop, aMm ko d 263 [.ref 26] (hp D (u2 N1 3 1 0) I1 J1 x) Q = Q (some (.int (oI (hst (N 89) (crsS D N (N 89)).2.1 (crsS D N (N 89)).1)))) (hp D (u2 N1 3 1 0) I1 J1 x) := fun Q => t_263 (s := 20) rfl (by rw [u2_ab (by decide)]; exact hv.1) (fun f hf => by rw [u2_ab (by decide)]; exact hSS f hf) (by rw [u2_ab (by decide)]; exact hc.1) (fun k hk => ⟨by rw [u2_ab (by decide)]; exact hc.2.1 k hk, hp36 k hk⟩) hL
    have t264 : ∀ (v : Int64) (Q : Option Value → aH → Prop), aMm ko d 264 [.ref 26] (hp D (u2 (u2 N1 3 1 0) 3 1 1) I1 (u2 J1 4 0 v) x) Q = Q (some (.int (nI (dpt (N 89) (crsS D N (N 89)))))) (hp D (u2 (u2 N1 3 1 0) 3 1 1) I1 (u2 J1 4 0 v) x) := fun v Q => t_264 (s := 20) (C := D 1) rfl (by rw [u2_ab (by decide), u2_ab (by decide)]; exact hv.1) (fun f hf => by rw [u2_ab (by decide), u2_ab (by decide)]; exact hSS f hf) ⟨by rw [u2_ab (by decide), u2_ab (by decide)]; exact hc.1, fun k hk => by rw [u2_ab (by decide), u2_ab (by decide)]; exact hc.2.1 k hk, fun f hf => by rw [u2_ab (by decide)]; exact hc.2.2.1 f hf, hc.2.2.2⟩ hp36 hL (by omega) hd6
    simp (disch := (first | omega | exact aCat_8 (by with_unfolding_all rfl) | exact rk_lt (by with_unfolding_all rfl) | exact aCat_16 (by with_unfolding_all rfl) | exact rk_eq (by with_unfolding_all rfl) | assumption | exact b2n_lt _ | exact id_b (by with_unfolding_all rfl) | (simp (disch := omega) only [u2_same, u2_ab, u2_aq]; done) | (simp (disch := omega) only [u2_same, u2_ab, u2_aq]; omega) | fail)) only [al_12160, wp_aloadr_0, wp_aloadk_0, hg_0_10, hg_0_7, hg_0_4, wc_260, hg_0_1, wc_292, t_292, wc_263, wp_i2l, wc_293, t_293, wc_264, wp_ireturn, nl_i, nl_r, nl_k, nl_j, nl_l, nI_add, pk_mul, pk_sub, tl_s, tl_n, aL_inl, u2_same, u2_ab, u2_aq, nI_l, lN_i, Nat.add_zero, Nat.zero_add, Nat.zero_le, true_and, and_true, b2n_10, b2n_T, b2n_F, b2n_0, Decidable.not_not, not_true_eq_false, not_false_eq_true, Nat.reduceAdd, Nat.reduceMul, t263, t264]
    exact hQ _ _ _ (sN_u (sN_u (gN_s hN) rfl) rfl) (fI_s hI) (sJ_u (fJ_s hJ) rfl) td1C
  · intro N1 I1 J1 h1 hN hI hJ Q hQ
    have e89 : u2 N1 86 0 0 89 = N1 89 := u2_nb (by decide)
    have hs : smR (u2 N1 86 0 0) N1 := ⟨u2_nb (by decide), u2_nb (by decide), u2_aq (by decide), u2_aq (by decide)⟩
    have ec : crsS D N1 (N1 89) = crsS D N (N 89) := by
      rw [sN_89 hN]
      exact smR_crs (sN_sm hN) D (N 89)
    rw [me_74]
    simp (disch := (first | omega | exact aCat_8 (by with_unfolding_all rfl) | exact rk_lt (by with_unfolding_all rfl) | exact aCat_16 (by with_unfolding_all rfl) | exact rk_eq (by with_unfolding_all rfl) | assumption | exact b2n_lt _ | exact id_b (by with_unfolding_all rfl) | (simp (disch := omega) only [u2_same, u2_ab, u2_aq]; done) | (simp (disch := omega) only [u2_same, u2_ab, u2_aq]; omega) | fail)) only [al_4736, wp_aloadr_0, wp_aloadk_0, wk_0, hp_86_0, hg_86_8, ha_89l, ha_89s, wc_25, wc_75, wp_istore_1, hp_86_1, hg_86_37, wp_i2l, wc_43, t_43, wp_iload_1, wp_ireturn, nl_i, nl_r, nl_k, nl_j, nl_l, nI_add, pk_mul, pk_sub, tl_s, tl_n, aL_inl, u2_same, u2_ab, u2_aq, nI_l, lN_i, Nat.add_zero, Nat.zero_add, Nat.zero_le, true_and, and_true, b2n_10, b2n_T, b2n_F, b2n_0, Decidable.not_not, not_true_eq_false, not_false_eq_true, Nat.reduceAdd, Nat.reduceMul]
    refine t_25 (r := 89) (Or.inl rfl) h.1.1.1 (by rw [e89]; exact h1.2.2.2.2.1.1) (smR_rl hs (inv_rl h1)) ?_
    intro N2 I2 hc hN2 hI2
    have hcc : crs0 (D 0) (D 1) (dsl (D 1) (u2 N1 86 0 0) (u2 N1 86 0 0 89)) (wlS (u2 N1 86 0 0 89)) (u2 N1 86 0 0 89 108) = crsS D N (N 89) := by
      rw [e89, smR_dsl hs, ← ec]
      rfl
    rw [hcc] at hc
    have e2 : ∀ f, N2 89 f = N 89 f := fun f => by rw [hN2 89 f rfl, e89, sN_89 hN]
    simp (disch := (first | omega | exact aCat_8 (by with_unfolding_all rfl) | exact rk_lt (by with_unfolding_all rfl) | exact aCat_16 (by with_unfolding_all rfl) | exact rk_eq (by with_unfolding_all rfl) | assumption | exact b2n_lt _ | exact id_b (by with_unfolding_all rfl) | (simp (disch := omega) only [u2_same, u2_ab, u2_aq]; done) | (simp (disch := omega) only [u2_same, u2_ab, u2_aq]; omega) | fail)) only [al_4736, wp_aloadr_0, wp_aloadk_0, wk_0, hp_86_0, hg_86_8, ha_89l, ha_89s, wc_25, wc_75, wp_istore_1, hp_86_1, hg_86_37, wp_i2l, wc_43, t_43, wp_iload_1, wp_ireturn, nl_i, nl_r, nl_k, nl_j, nl_l, nI_add, pk_mul, pk_sub, tl_s, tl_n, aL_inl, u2_same, u2_ab, u2_aq, nI_l, lN_i, Nat.add_zero, Nat.zero_add, Nat.zero_le, true_and, and_true, b2n_10, b2n_T, b2n_F, b2n_0, Decidable.not_not, not_true_eq_false, not_false_eq_true, Nat.reduceAdd, Nat.reduceMul]
    refine t_75 (S := N 89) (Or.inl rfl) (fun f hf => ⟨e2 f, (h89.1.1 f hf).1⟩) hc hp36 hL ?_
    simp (disch := (first | omega | exact aCat_8 (by with_unfolding_all rfl) | exact rk_lt (by with_unfolding_all rfl) | exact aCat_16 (by with_unfolding_all rfl) | exact rk_eq (by with_unfolding_all rfl) | assumption | exact b2n_lt _ | exact id_b (by with_unfolding_all rfl) | (simp (disch := omega) only [u2_same, u2_ab, u2_aq]; done) | (simp (disch := omega) only [u2_same, u2_ab, u2_aq]; omega) | fail)) only [al_4736, wp_aloadr_0, wp_aloadk_0, wk_0, hp_86_0, hg_86_8, ha_89l, ha_89s, wc_25, wc_75, wp_istore_1, hp_86_1, hg_86_37, wp_i2l, wc_43, t_43, wp_iload_1, wp_ireturn, nl_i, nl_r, nl_k, nl_j, nl_l, nI_add, pk_mul, pk_sub, tl_s, tl_n, aL_inl, u2_same, u2_ab, u2_aq, nI_l, lN_i, Nat.add_zero, Nat.zero_add, Nat.zero_le, true_and, and_true, b2n_10, b2n_T, b2n_F, b2n_0, Decidable.not_not, not_true_eq_false, not_false_eq_true, Nat.reduceAdd, Nat.reduceMul]
    exact hQ _ _ _ (qN_u (qN_u (qN_t (rN_q hN2) (qN_u qN_r rfl)) rfl) rfl) (sI_u (rI_s hI2) rfl) (qJ_u qJ_r rfl) td1R
end O9
