/-! way: the reference. From wip/whole/src. -/
section Y3
variable {ko : aKo} {d k : Nat} {is : List Instr} {ls st : List Value} {σ : aH} {D : Nat → Nat} {N : Nat → Nat → Nat} {I : Nat → Nat → Int32} {J : Nat → Nat → Int64} {x t : Nat} {Q : Option Value → aH → Prop} {P : (Option Value ⊕ Unit) → aH → Prop}
theorem t_80 {p f : Nat} {N0 : Nat → Nat → Nat} (hF : D 0 * D 1 ≤ 36) (hf : f < D 0 * D 1) (hp9 : p ≤ 9) (hw : rwO (D 1) (N0 89)) (e89 : N 89 = N0 89) : aMm ko d 80 [.ref 86, .int (nI f), .int (nI p)] (hp D N I J x) Q = Q (some (.int (nI (b2n (wyO D N0 p f = true))))) (hp D N I J x) := by
  obtain ⟨r1, r2, r3⟩ := hw.1 f (by omega)
  have ht := fun Q => t_26 (ko := ko) (d := d) (D := D) (N := N) (I := I) (J := J) (x := x) (Q := Q) (r := 89) (f := f) (Or.inl rfl) (by omega) (by rw [e89]; exact r2)
  rw [e89] at ht
  rw [me_80]
  unfold wyO wlS
  by_cases z1 : N0 89 (36 + f) = 1
  · rw [b2n_f (P := _ = true) (by simp [z1])]
    simp (disch := (first | omega | exact aCat_8 (by with_unfolding_all rfl) | exact rk_lt (by with_unfolding_all rfl) | exact aCat_16 (by with_unfolding_all rfl) | exact rk_eq (by with_unfolding_all rfl) | assumption | exact b2n_lt _ | exact id_b (by with_unfolding_all rfl) | (simp (disch := omega) only [u2_same, u2_ab, u2_aq]; done) | (simp (disch := omega) only [u2_same, u2_ab, u2_aq]; omega) | fail)) only [al_5120, wp_aloadr_0, wp_aloadk_0, hg_86_8, ha_89l, ha_89s, wp_iload_1, wc_26, wz_ne_t, wz_ne_f, wb_ne_t, wb_ne_f, wm_ne_1, wm_ne_2, wk_9, wp_iload_2, wp_isub, wn_gt_t, wn_gt_f, wk_1, wp_goto, al_5121, wk_0, wp_jsr, al_5122, wp_freturn0, wp_freturn1, wp_freturnb, nl_i, nl_r, nl_k, nl_j, nl_l, nI_add, pk_mul, pk_sub, tl_s, tl_n, aL_inl, u2_same, u2_ab, u2_aq, nI_l, lN_i, Nat.add_zero, Nat.zero_add, Nat.zero_le, true_and, and_true, b2n_10, b2n_T, b2n_F, b2n_0, Decidable.not_not, not_true_eq_false, not_false_eq_true, Nat.reduceAdd, Nat.reduceMul, Nat.reduceSub, ht, b2n_t z1]
  · by_cases z2 : N0 89 f ≤ 9 - p
    · rw [b2n_t (P := _ = true) (by simp [z1, z2, hf])]
      simp (disch := (first | omega | exact aCat_8 (by with_unfolding_all rfl) | exact rk_lt (by with_unfolding_all rfl) | exact aCat_16 (by with_unfolding_all rfl) | exact rk_eq (by with_unfolding_all rfl) | assumption | exact b2n_lt _ | exact id_b (by with_unfolding_all rfl) | (simp (disch := omega) only [u2_same, u2_ab, u2_aq]; done) | (simp (disch := omega) only [u2_same, u2_ab, u2_aq]; omega) | fail)) only [al_5120, wp_aloadr_0, wp_aloadk_0, hg_86_8, ha_89l, ha_89s, wp_iload_1, wc_26, wz_ne_t, wz_ne_f, wb_ne_t, wb_ne_f, wm_ne_1, wm_ne_2, wk_9, wp_iload_2, wp_isub, wn_gt_t, wn_gt_f, wk_1, wp_goto, al_5121, wk_0, wp_jsr, al_5122, wp_freturn0, wp_freturn1, wp_freturnb, nl_i, nl_r, nl_k, nl_j, nl_l, nI_add, pk_mul, pk_sub, tl_s, tl_n, aL_inl, u2_same, u2_ab, u2_aq, nI_l, lN_i, Nat.add_zero, Nat.zero_add, Nat.zero_le, true_and, and_true, b2n_10, b2n_T, b2n_F, b2n_0, Decidable.not_not, not_true_eq_false, not_false_eq_true, Nat.reduceAdd, Nat.reduceMul, Nat.reduceSub, ht, b2n_f z1, e89]
    · rw [b2n_f (P := _ = true) (by simp [z2])]
      simp (disch := (first | omega | exact aCat_8 (by with_unfolding_all rfl) | exact rk_lt (by with_unfolding_all rfl) | exact aCat_16 (by with_unfolding_all rfl) | exact rk_eq (by with_unfolding_all rfl) | assumption | exact b2n_lt _ | exact id_b (by with_unfolding_all rfl) | (simp (disch := omega) only [u2_same, u2_ab, u2_aq]; done) | (simp (disch := omega) only [u2_same, u2_ab, u2_aq]; omega) | fail)) only [al_5120, wp_aloadr_0, wp_aloadk_0, hg_86_8, ha_89l, ha_89s, wp_iload_1, wc_26, wz_ne_t, wz_ne_f, wb_ne_t, wb_ne_f, wm_ne_1, wm_ne_2, wk_9, wp_iload_2, wp_isub, wn_gt_t, wn_gt_f, wk_1, wp_goto, al_5121, wk_0, wp_jsr, al_5122, wp_freturn0, wp_freturn1, wp_freturnb, nl_i, nl_r, nl_k, nl_j, nl_l, nI_add, pk_mul, pk_sub, tl_s, tl_n, aL_inl, u2_same, u2_ab, u2_aq, nI_l, lN_i, Nat.add_zero, Nat.zero_add, Nat.zero_le, true_and, and_true, b2n_10, b2n_T, b2n_F, b2n_0, Decidable.not_not, not_true_eq_false, not_false_eq_true, Nat.reduceAdd, Nat.reduceMul, Nat.reduceSub, ht, b2n_f z1, e89]
/-- what is known of the distances: none too small; none too large, of those within r -/
def wyS (D : Nat → Nat) (N0 : Nat → Nat → Nat) (p : Nat) (e : Nat → Nat) : Prop := ∀ f, f < D 0 * D 1 → e f ≤ 1000000 ∧ (e f < 1000000 → ∃ k, k + 1 = e f ∧ wyL D N0 p k f = true)
def wyC (D : Nat → Nat) (N0 : Nat → Nat → Nat) (p r : Nat) (e : Nat → Nat) : Prop := ∀ k, k ≤ r → ∀ f, f < D 0 * D 1 → wyL D N0 p k f = true → e f ≤ k + 1
theorem l_79a {N0 M : Nat → Nat → Nat} {p : Nat} {w3 w4 w5 w6 w7 : Value} (hd : dmO D) (hp9 : p ≤ 9) (hw : rwO (D 1) (N0 89)) (e89 : M 89 = N0 89)
    (hK : ∀ N : Nat → Nat → Nat, (∀ b q, b ≠ 112 → N b q = M b q) → wyS D N0 p (N 112) → wyC D N0 p 0 (N 112) → aWp ko d 79 (aP.1 (Int.toNat 5061)) [.ref 86, .int (nI p), .int (nI (D 0 * D 1)), w3, w4, w5, w6, w7] [] (hp D N I J x) (aL Q)) :
    ∀ (j i : Nat) (N : Nat → Nat → Nat), i + j = D 0 * D 1 → (∀ b q, b ≠ 112 → N b q = M b q) → (∀ f, f < i → N 112 f = if wyL D N0 p 0 f = true then 1 else 1000000) → aWp ko d 79 (aP.1 (Int.toNat 5058)) [.ref 86, .int (nI p), .int (nI i), w3, w4, w5, w6, w7] [] (hp D N I J x) (aL Q) := by
  have hF := dm_F hd
  intro j
  induction j with
  | zero =>
    intro i N hj hN hv
    have e : i = D 0 * D 1 := by omega
    subst e
    rw [al_5058]
    simp (disch := (first | omega | exact aCat_8 (by with_unfolding_all rfl) | exact rk_lt (by with_unfolding_all rfl) | exact aCat_16 (by with_unfolding_all rfl) | exact rk_eq (by with_unfolding_all rfl) | assumption | exact b2n_lt _ | exact id_b (by with_unfolding_all rfl) | (simp (disch := omega) only [u2_same, u2_ab, u2_aq]; done) | (simp (disch := omega) only [u2_same, u2_ab, u2_aq]; omega) | fail)) only [al_5056, wp_aloadr_0, wp_aloadk_0, wk_0, hp_86_0, wp_iload_1, wp_i2l, wl_1, wl_9, wc_4, t_4, lN_le, wz_ne_t, wz_ne_f, wb_ne_t, wb_ne_f, wm_ne_1, wm_ne_2, wk_m1, wp_ireturn, al_5057, wp_istore_2, wp_jsr, wp_iload_2, wc_10, t_10, wn_ge_t, wn_ge_f, hg_86_43, ha_112l, ha_112s, wc_28, wz_eq_t, wz_eq_f, wb_eq_t, wb_eq_f, wm_eq_1, wm_eq_2, wc_80, wk_1, wp_goto, al_5059, wk_1000000, al_5060, wp_iinc_2_1, wp_istore_3, wp_iload_3, wp_istore_4, wp_iload_4, wk_4, wc_29, wp_istore_5, wp_iload_5, wz_lt_t, wz_lt_f, wm_lt_1, wm_lt_2, wp_iadd, wp_min, al_5065, al_5066, wp_iinc_4_1, al_5067, wp_iinc_3_1, al_5068, al_5069, hg_86_8, ha_89l, ha_89s, wk_108, wn_lt_t, wn_lt_f, wk_m2, al_5070, hp_86_1, wc_43, t_43, wp_isub, wz_le_t, wz_le_f, wm_le_1, wm_le_2, wp_istore_6, wp_iload_6, wp_istore_7, wp_iload_7, wn_ne_t, wn_ne_f, al_5073, al_5074, al_5075, wp_iinc_6_1, al_5076, wp_idec_4_1, al_5077, nl_i, nl_r, nl_k, nl_j, nl_l, nI_add, pk_mul, pk_sub, tl_s, tl_n, aL_inl, u2_same, u2_ab, u2_aq, nI_l, lN_i, Nat.add_zero, Nat.zero_add, Nat.zero_le, true_and, and_true, b2n_10, b2n_T, b2n_F, b2n_0, Decidable.not_not, not_true_eq_false, not_false_eq_true, Nat.reduceAdd, Nat.reduceMul, Nat.reduceSub]
    refine hK N hN ?_ ?_
    · intro f hf
      rw [hv f hf]
      split
      · rename_i z
        exact ⟨by decide, fun _ => ⟨0, rfl, z⟩⟩
      · exact ⟨Nat.le_refl _, fun y => by omega⟩
    · intro k hk f hf hl
      have : k = 0 := by omega
      subst this
      rw [hv f hf, if_pos hl]
      exact Nat.le_refl _
  | succ j ih =>
    intro i N hj hN hv
    have hi : i < D 0 * D 1 := by omega
    have e89N : N 89 = N0 89 := by
      rw [← e89]
      funext q
      exact hN 89 q (by decide)
    have h80 := fun Q => t_80 (ko := ko) (d := d) (D := D) (N := N) (I := I) (J := J) (x := x) (Q := Q) (p := p) (f := i) hF.1 hi hp9 hw e89N
    have h28 := fun Q => t_28 (ko := ko) (d := d) (D := D) (N := N) (I := I) (J := J) (x := x) (Q := Q) (f := i) (by omega) hF.2.1 hF.1
    have el : wyL D N0 p 0 i = (wyA D i && wyO D N0 p i) := rfl
    have hfin : ∀ v, v = (if wyL D N0 p 0 i = true then 1 else 1000000) → (∀ b q, b ≠ 112 → u2 N 112 i v b q = M b q) ∧ ∀ f, f < i + 1 → u2 N 112 i v 112 f = if wyL D N0 p 0 f = true then 1 else 1000000 := by
      intro v hvv
      refine ⟨fun b q z => by rw [u2_ab z]; exact hN b q z, fun f hf => ?_⟩
      by_cases e : f = i
      · rw [e, u2_same]; exact hvv
      · rw [u2_aq e]; exact hv f (by omega)
    rw [al_5058]
    by_cases z1 : D 0 * D 1 - D 1 ≤ i
    · by_cases z2 : wyO D N0 p i = true
      · obtain ⟨f1, f2⟩ := hfin 1 (by
          rw [if_pos]
          rw [el, z2]
          unfold wyA
          simp [z1])
        simp (disch := (first | omega | exact aCat_8 (by with_unfolding_all rfl) | exact rk_lt (by with_unfolding_all rfl) | exact aCat_16 (by with_unfolding_all rfl) | exact rk_eq (by with_unfolding_all rfl) | assumption | exact b2n_lt _ | exact id_b (by with_unfolding_all rfl) | (simp (disch := omega) only [u2_same, u2_ab, u2_aq]; done) | (simp (disch := omega) only [u2_same, u2_ab, u2_aq]; omega) | fail)) only [al_5056, wp_aloadr_0, wp_aloadk_0, wk_0, hp_86_0, wp_iload_1, wp_i2l, wl_1, wl_9, wc_4, t_4, lN_le, wz_ne_t, wz_ne_f, wb_ne_t, wb_ne_f, wm_ne_1, wm_ne_2, wk_m1, wp_ireturn, al_5057, wp_istore_2, wp_jsr, wp_iload_2, wc_10, t_10, wn_ge_t, wn_ge_f, hg_86_43, ha_112l, ha_112s, wc_28, wz_eq_t, wz_eq_f, wb_eq_t, wb_eq_f, wm_eq_1, wm_eq_2, wc_80, wk_1, wp_goto, al_5059, wk_1000000, al_5060, wp_iinc_2_1, wp_istore_3, wp_iload_3, wp_istore_4, wp_iload_4, wk_4, wc_29, wp_istore_5, wp_iload_5, wz_lt_t, wz_lt_f, wm_lt_1, wm_lt_2, wp_iadd, wp_min, al_5065, al_5066, wp_iinc_4_1, al_5067, wp_iinc_3_1, al_5068, al_5069, hg_86_8, ha_89l, ha_89s, wk_108, wn_lt_t, wn_lt_f, wk_m2, al_5070, hp_86_1, wc_43, t_43, wp_isub, wz_le_t, wz_le_f, wm_le_1, wm_le_2, wp_istore_6, wp_iload_6, wp_istore_7, wp_iload_7, wn_ne_t, wn_ne_f, al_5073, al_5074, al_5075, wp_iinc_6_1, al_5076, wp_idec_4_1, al_5077, nl_i, nl_r, nl_k, nl_j, nl_l, nI_add, pk_mul, pk_sub, tl_s, tl_n, aL_inl, u2_same, u2_ab, u2_aq, nI_l, lN_i, Nat.add_zero, Nat.zero_add, Nat.zero_le, true_and, and_true, b2n_10, b2n_T, b2n_F, b2n_0, Decidable.not_not, not_true_eq_false, not_false_eq_true, Nat.reduceAdd, Nat.reduceMul, Nat.reduceSub, h28, h80, b2n_t z1, b2n_t z2]
        exact ih (i + 1) _ (by omega) f1 f2
      · obtain ⟨f1, f2⟩ := hfin 1000000 (by
          rw [if_neg]
          rw [el]
          have : wyO D N0 p i = false := by simpa using z2
          rw [this]
          simp)
        simp (disch := (first | omega | exact aCat_8 (by with_unfolding_all rfl) | exact rk_lt (by with_unfolding_all rfl) | exact aCat_16 (by with_unfolding_all rfl) | exact rk_eq (by with_unfolding_all rfl) | assumption | exact b2n_lt _ | exact id_b (by with_unfolding_all rfl) | (simp (disch := omega) only [u2_same, u2_ab, u2_aq]; done) | (simp (disch := omega) only [u2_same, u2_ab, u2_aq]; omega) | fail)) only [al_5056, wp_aloadr_0, wp_aloadk_0, wk_0, hp_86_0, wp_iload_1, wp_i2l, wl_1, wl_9, wc_4, t_4, lN_le, wz_ne_t, wz_ne_f, wb_ne_t, wb_ne_f, wm_ne_1, wm_ne_2, wk_m1, wp_ireturn, al_5057, wp_istore_2, wp_jsr, wp_iload_2, wc_10, t_10, wn_ge_t, wn_ge_f, hg_86_43, ha_112l, ha_112s, wc_28, wz_eq_t, wz_eq_f, wb_eq_t, wb_eq_f, wm_eq_1, wm_eq_2, wc_80, wk_1, wp_goto, al_5059, wk_1000000, al_5060, wp_iinc_2_1, wp_istore_3, wp_iload_3, wp_istore_4, wp_iload_4, wk_4, wc_29, wp_istore_5, wp_iload_5, wz_lt_t, wz_lt_f, wm_lt_1, wm_lt_2, wp_iadd, wp_min, al_5065, al_5066, wp_iinc_4_1, al_5067, wp_iinc_3_1, al_5068, al_5069, hg_86_8, ha_89l, ha_89s, wk_108, wn_lt_t, wn_lt_f, wk_m2, al_5070, hp_86_1, wc_43, t_43, wp_isub, wz_le_t, wz_le_f, wm_le_1, wm_le_2, wp_istore_6, wp_iload_6, wp_istore_7, wp_iload_7, wn_ne_t, wn_ne_f, al_5073, al_5074, al_5075, wp_iinc_6_1, al_5076, wp_idec_4_1, al_5077, nl_i, nl_r, nl_k, nl_j, nl_l, nI_add, pk_mul, pk_sub, tl_s, tl_n, aL_inl, u2_same, u2_ab, u2_aq, nI_l, lN_i, Nat.add_zero, Nat.zero_add, Nat.zero_le, true_and, and_true, b2n_10, b2n_T, b2n_F, b2n_0, Decidable.not_not, not_true_eq_false, not_false_eq_true, Nat.reduceAdd, Nat.reduceMul, Nat.reduceSub, h28, h80, b2n_t z1, b2n_f z2]
        exact ih (i + 1) _ (by omega) f1 f2
    · obtain ⟨f1, f2⟩ := hfin 1000000 (by
        rw [if_neg]
        rw [el]
        unfold wyA
        simp [z1])
      simp (disch := (first | omega | exact aCat_8 (by with_unfolding_all rfl) | exact rk_lt (by with_unfolding_all rfl) | exact aCat_16 (by with_unfolding_all rfl) | exact rk_eq (by with_unfolding_all rfl) | assumption | exact b2n_lt _ | exact id_b (by with_unfolding_all rfl) | (simp (disch := omega) only [u2_same, u2_ab, u2_aq]; done) | (simp (disch := omega) only [u2_same, u2_ab, u2_aq]; omega) | fail)) only [al_5056, wp_aloadr_0, wp_aloadk_0, wk_0, hp_86_0, wp_iload_1, wp_i2l, wl_1, wl_9, wc_4, t_4, lN_le, wz_ne_t, wz_ne_f, wb_ne_t, wb_ne_f, wm_ne_1, wm_ne_2, wk_m1, wp_ireturn, al_5057, wp_istore_2, wp_jsr, wp_iload_2, wc_10, t_10, wn_ge_t, wn_ge_f, hg_86_43, ha_112l, ha_112s, wc_28, wz_eq_t, wz_eq_f, wb_eq_t, wb_eq_f, wm_eq_1, wm_eq_2, wc_80, wk_1, wp_goto, al_5059, wk_1000000, al_5060, wp_iinc_2_1, wp_istore_3, wp_iload_3, wp_istore_4, wp_iload_4, wk_4, wc_29, wp_istore_5, wp_iload_5, wz_lt_t, wz_lt_f, wm_lt_1, wm_lt_2, wp_iadd, wp_min, al_5065, al_5066, wp_iinc_4_1, al_5067, wp_iinc_3_1, al_5068, al_5069, hg_86_8, ha_89l, ha_89s, wk_108, wn_lt_t, wn_lt_f, wk_m2, al_5070, hp_86_1, wc_43, t_43, wp_isub, wz_le_t, wz_le_f, wm_le_1, wm_le_2, wp_istore_6, wp_iload_6, wp_istore_7, wp_iload_7, wn_ne_t, wn_ne_f, al_5073, al_5074, al_5075, wp_iinc_6_1, al_5076, wp_idec_4_1, al_5077, nl_i, nl_r, nl_k, nl_j, nl_l, nI_add, pk_mul, pk_sub, tl_s, tl_n, aL_inl, u2_same, u2_ab, u2_aq, nI_l, lN_i, Nat.add_zero, Nat.zero_add, Nat.zero_le, true_and, and_true, b2n_10, b2n_T, b2n_F, b2n_0, Decidable.not_not, not_true_eq_false, not_false_eq_true, Nat.reduceAdd, Nat.reduceMul, Nat.reduceSub, h28, b2n_f z1]
      exact ih (i + 1) _ (by omega) f1 f2
theorem rl_S {N0 : Nat → Nat → Nat} {p f g w : Nat} {e : Nat → Nat} (h : wyS D N0 p e) (hf : f < D 0 * D 1) (hg : g < D 0 * D 1) (hO : wyO D N0 p f = true) (hw : w < 4) (hb : bsd (D 0) (D 1) f w = some g) : wyS D N0 p (upn e f (min (e f) (e g + 1))) := by
  intro y hy
  by_cases z : y = f
  · subst z
    rw [upn, if_pos rfl]
    obtain ⟨a1, a2⟩ := h y hf
    obtain ⟨b1, b2⟩ := h g hg
    refine ⟨by omega, fun hlt => ?_⟩
    by_cases c : e y ≤ e g + 1
    · rw [show min (e y) (e g + 1) = e y by omega] at hlt ⊢
      exact a2 hlt
    · rw [show min (e y) (e g + 1) = e g + 1 by omega] at hlt ⊢
      obtain ⟨k, k1, k2⟩ := b2 (by omega)
      exact ⟨k + 1, by omega, fl_step hO hw hb k2⟩
  · rw [upn, if_neg z]
    exact h y hy
theorem rl_le {e : Nat → Nat} {f v : Nat} (hv : v ≤ e f) : ∀ y, upn e f v y ≤ e y := by
  intro y
  unfold upn
  split
  · rename_i z
    rw [z]; exact hv
  · exact Nat.le_refl _
theorem wyC_le {N0 : Nat → Nat → Nat} {p r : Nat} {e e' : Nat → Nat} (h : wyC D N0 p r e) (hle : ∀ y, e' y ≤ e y) : wyC D N0 p r e' := fun k hk f hf hl => Nat.le_trans (hle f) (h k hk f hf hl)
theorem u2_112 {f v : Nat} : u2 N 112 f v 112 = upn (N 112) f v := by
  funext q
  rw [u2_rd, upn]
  by_cases z : q = f
  · rw [if_pos ⟨rfl, z⟩, if_pos z]
  · rw [if_neg (fun y => z y.2), if_neg z]
/-- the state while round r is at field f -/
def wyI (D : Nat → Nat) (N0 M N : Nat → Nat → Nat) (p r f : Nat) : Prop := (∀ b q, b ≠ 112 → N b q = M b q) ∧ wyS D N0 p (N 112) ∧ wyC D N0 p r (N 112) ∧ ∀ y, y < f → wyL D N0 p (r + 1) y = true → N 112 y ≤ r + 2
theorem wyI_u {N0 M : Nat → Nat → Nat} {p r f g w : Nat} (h : wyI D N0 M N p r f) (hf : f < D 0 * D 1) (hg : g < D 0 * D 1) (hO : wyO D N0 p f = true) (hw : w < 4) (hb : bsd (D 0) (D 1) f w = some g) : wyI D N0 M (u2 N 112 f (min (N 112 f) (N 112 g + 1))) p r f := by
  obtain ⟨a1, a2, a3, a4⟩ := h
  refine ⟨fun b q z => by rw [u2_ab z]; exact a1 b q z, ?_, ?_, ?_⟩
  · rw [u2_112]; exact rl_S a2 hf hg hO hw hb
  · rw [u2_112]; exact wyC_le a3 (rl_le (by omega))
  · intro y hy hl
    rw [u2_aq (by omega)]
    exact a4 y hy hl
theorem l_79w {N0 M : Nat → Nat → Nat} {p r f : Nat} {w6 w7 : Value} (hd : dmO D) (hp9 : p ≤ 9) (hwr : rwO (D 1) (N0 89)) (e89 : M 89 = N0 89) (hf : f < D 0 * D 1)
    (hK : ∀ (N : Nat → Nat → Nat) (w4 w5 : Value), wyI D N0 M N p r (f + 1) → aWp ko d 79 (aP.1 (Int.toNat 5067)) [.ref 86, .int (nI p), .int (nI r), .int (nI f), w4, w5, w6, w7] [] (hp D N I J x) (aL Q)) :
    ∀ (j w : Nat) (N : Nat → Nat → Nat) (w5 : Value), w + j = 4 → wyI D N0 M N p r f → (∀ v y, v < w → bsd (D 0) (D 1) f v = some y → wyL D N0 p r y = true → N 112 f ≤ r + 2) → aWp ko d 79 (aP.1 (Int.toNat 5064)) [.ref 86, .int (nI p), .int (nI r), .int (nI f), .int (nI w), w5, w6, w7] [] (hp D N I J x) (aL Q) := by
  have hF := dm_F hd
  have hC := hd.2.2.1
  have hend : ∀ N : Nat → Nat → Nat, wyI D N0 M N p r f → (wyO D N0 p f = true → ∀ v y, v < 4 → bsd (D 0) (D 1) f v = some y → wyL D N0 p r y = true → N 112 f ≤ r + 2) → wyI D N0 M N p r (f + 1) := by
    intro N hI hv
    refine ⟨hI.1, hI.2.1, hI.2.2.1, fun y hy hl => ?_⟩
    by_cases e : y = f
    · subst e
      have hO := fl_open _ hl
      have hl' : (wyL D N0 p r y || (wyO D N0 p y && besW (D 0) (D 1) (wyL D N0 p r) y 4)) = true := hl
      rcases Bool.or_eq_true _ _ |>.mp hl' with h1 | h1
      · have := hI.2.2.1 r (Nat.le_refl _) y hf h1
        omega
      · obtain ⟨v, g, a1, a2, a3⟩ := (besW_iff 4).mp (Bool.and_eq_true _ _ |>.mp h1).2
        exact hv hO v g a1 a2 a3
    · exact hI.2.2.2 y (by omega) hl
  intro j
  induction j with
  | zero =>
    intro w N w5 hj hI hv
    have e : w = 4 := by omega
    subst e
    rw [al_5064]
    simp (disch := (first | omega | exact aCat_8 (by with_unfolding_all rfl) | exact rk_lt (by with_unfolding_all rfl) | exact aCat_16 (by with_unfolding_all rfl) | exact rk_eq (by with_unfolding_all rfl) | assumption | exact b2n_lt _ | exact id_b (by with_unfolding_all rfl) | (simp (disch := omega) only [u2_same, u2_ab, u2_aq]; done) | (simp (disch := omega) only [u2_same, u2_ab, u2_aq]; omega) | fail)) only [al_5056, wp_aloadr_0, wp_aloadk_0, wk_0, hp_86_0, wp_iload_1, wp_i2l, wl_1, wl_9, wc_4, t_4, lN_le, wz_ne_t, wz_ne_f, wb_ne_t, wb_ne_f, wm_ne_1, wm_ne_2, wk_m1, wp_ireturn, al_5057, wp_istore_2, wp_jsr, wp_iload_2, wc_10, t_10, wn_ge_t, wn_ge_f, hg_86_43, ha_112l, ha_112s, wc_28, wz_eq_t, wz_eq_f, wb_eq_t, wb_eq_f, wm_eq_1, wm_eq_2, wc_80, wk_1, wp_goto, al_5059, wk_1000000, al_5060, wp_iinc_2_1, al_5061, wp_istore_3, wp_iload_3, wp_istore_4, wp_iload_4, wk_4, wc_29, wp_istore_5, wp_iload_5, wz_lt_t, wz_lt_f, wm_lt_1, wm_lt_2, wp_iadd, wp_min, al_5065, al_5066, wp_iinc_4_1, wp_iinc_3_1, al_5068, al_5069, hg_86_8, ha_89l, ha_89s, wk_108, wn_lt_t, wn_lt_f, wk_m2, al_5070, hp_86_1, wc_43, t_43, wp_isub, wz_le_t, wz_le_f, wm_le_1, wm_le_2, wp_istore_6, wp_iload_6, wp_istore_7, wp_iload_7, wn_ne_t, wn_ne_f, al_5073, al_5074, al_5075, wp_iinc_6_1, al_5076, wp_idec_4_1, al_5077, nl_i, nl_r, nl_k, nl_j, nl_l, nI_add, pk_mul, pk_sub, tl_s, tl_n, aL_inl, u2_same, u2_ab, u2_aq, nI_l, lN_i, Nat.add_zero, Nat.zero_add, Nat.zero_le, true_and, and_true, b2n_10, b2n_T, b2n_F, b2n_0, Decidable.not_not, not_true_eq_false, not_false_eq_true, Nat.reduceAdd, Nat.reduceMul, Nat.reduceSub]
    exact hK N _ _ (hend N hI (fun _ => hv))
  | succ j ih =>
    intro w N w5 hj hI hv
    have e89N : N 89 = N0 89 := by
      rw [← e89]
      funext q
      exact hI.1 89 q (by decide)
    have h80 := fun Q => t_80 (ko := ko) (d := d) (D := D) (N := N) (I := I) (J := J) (x := x) (Q := Q) (p := p) (f := f) hF.1 hf hp9 hwr e89N
    have h29 := fun Q => t_29 (ko := ko) (d := d) (D := D) (N := N) (I := I) (J := J) (x := x) (Q := Q) (f := f) (w := w) hd.1 hd.2.2.1 hd.2.2.2 hd.2.1 hf (by omega)
    have hb6 := (hI.2.1 f hf).1
    rw [al_5064]
    by_cases hO : wyO D N0 p f = true
    · cases hbs : bsd (D 0) (D 1) f w with
      | none =>
        rw [hbs] at h29
        simp (disch := (first | omega | exact aCat_8 (by with_unfolding_all rfl) | exact rk_lt (by with_unfolding_all rfl) | exact aCat_16 (by with_unfolding_all rfl) | exact rk_eq (by with_unfolding_all rfl) | assumption | exact b2n_lt _ | exact id_b (by with_unfolding_all rfl) | (simp (disch := omega) only [u2_same, u2_ab, u2_aq]; done) | (simp (disch := omega) only [u2_same, u2_ab, u2_aq]; omega) | fail)) only [al_5056, wp_aloadr_0, wp_aloadk_0, wk_0, hp_86_0, wp_iload_1, wp_i2l, wl_1, wl_9, wc_4, t_4, lN_le, wz_ne_t, wz_ne_f, wb_ne_t, wb_ne_f, wm_ne_1, wm_ne_2, wk_m1, wp_ireturn, al_5057, wp_istore_2, wp_jsr, wp_iload_2, wc_10, t_10, wn_ge_t, wn_ge_f, hg_86_43, ha_112l, ha_112s, wc_28, wz_eq_t, wz_eq_f, wb_eq_t, wb_eq_f, wm_eq_1, wm_eq_2, wc_80, wk_1, wp_goto, al_5059, wk_1000000, al_5060, wp_iinc_2_1, al_5061, wp_istore_3, wp_iload_3, wp_istore_4, wp_iload_4, wk_4, wc_29, wp_istore_5, wp_iload_5, wz_lt_t, wz_lt_f, wm_lt_1, wm_lt_2, wp_iadd, wp_min, al_5065, al_5066, wp_iinc_4_1, wp_iinc_3_1, al_5068, al_5069, hg_86_8, ha_89l, ha_89s, wk_108, wn_lt_t, wn_lt_f, wk_m2, al_5070, hp_86_1, wc_43, t_43, wp_isub, wz_le_t, wz_le_f, wm_le_1, wm_le_2, wp_istore_6, wp_iload_6, wp_istore_7, wp_iload_7, wn_ne_t, wn_ne_f, al_5073, al_5074, al_5075, wp_iinc_6_1, al_5076, wp_idec_4_1, al_5077, nl_i, nl_r, nl_k, nl_j, nl_l, nI_add, pk_mul, pk_sub, tl_s, tl_n, aL_inl, u2_same, u2_ab, u2_aq, nI_l, lN_i, Nat.add_zero, Nat.zero_add, Nat.zero_le, true_and, and_true, b2n_10, b2n_T, b2n_F, b2n_0, Decidable.not_not, not_true_eq_false, not_false_eq_true, Nat.reduceAdd, Nat.reduceMul, Nat.reduceSub, h80, b2n_t hO, h29, oI_n, qe_n1, qe_m1, qn_n1, qn_m1, qe_n2, qe_m2, qn_n2, qn_m2]
        rw [u2_id rfl]
        refine ih (w + 1) N _ (by omega) hI ?_
        intro v y h1 h2 h3
        by_cases e : v = w
        · rw [e, hbs] at h2; cases h2
        · exact hv v y (by omega) h2 h3
      | some g =>
        rw [hbs] at h29
        have hg : g < D 0 * D 1 := bsd_lt (by omega) hf hbs
        have hg6 := (hI.2.1 g hg).1
        have hI2 := wyI_u hI hf hg hO (show w < 4 by omega) hbs
        simp (disch := (first | omega | exact aCat_8 (by with_unfolding_all rfl) | exact rk_lt (by with_unfolding_all rfl) | exact aCat_16 (by with_unfolding_all rfl) | exact rk_eq (by with_unfolding_all rfl) | assumption | exact b2n_lt _ | exact id_b (by with_unfolding_all rfl) | (simp (disch := omega) only [u2_same, u2_ab, u2_aq]; done) | (simp (disch := omega) only [u2_same, u2_ab, u2_aq]; omega) | fail)) only [al_5056, wp_aloadr_0, wp_aloadk_0, wk_0, hp_86_0, wp_iload_1, wp_i2l, wl_1, wl_9, wc_4, t_4, lN_le, wz_ne_t, wz_ne_f, wb_ne_t, wb_ne_f, wm_ne_1, wm_ne_2, wk_m1, wp_ireturn, al_5057, wp_istore_2, wp_jsr, wp_iload_2, wc_10, t_10, wn_ge_t, wn_ge_f, hg_86_43, ha_112l, ha_112s, wc_28, wz_eq_t, wz_eq_f, wb_eq_t, wb_eq_f, wm_eq_1, wm_eq_2, wc_80, wk_1, wp_goto, al_5059, wk_1000000, al_5060, wp_iinc_2_1, al_5061, wp_istore_3, wp_iload_3, wp_istore_4, wp_iload_4, wk_4, wc_29, wp_istore_5, wp_iload_5, wz_lt_t, wz_lt_f, wm_lt_1, wm_lt_2, wp_iadd, wp_min, al_5065, al_5066, wp_iinc_4_1, wp_iinc_3_1, al_5068, al_5069, hg_86_8, ha_89l, ha_89s, wk_108, wn_lt_t, wn_lt_f, wk_m2, al_5070, hp_86_1, wc_43, t_43, wp_isub, wz_le_t, wz_le_f, wm_le_1, wm_le_2, wp_istore_6, wp_iload_6, wp_istore_7, wp_iload_7, wn_ne_t, wn_ne_f, al_5073, al_5074, al_5075, wp_iinc_6_1, al_5076, wp_idec_4_1, al_5077, nl_i, nl_r, nl_k, nl_j, nl_l, nI_add, pk_mul, pk_sub, tl_s, tl_n, aL_inl, u2_same, u2_ab, u2_aq, nI_l, lN_i, Nat.add_zero, Nat.zero_add, Nat.zero_le, true_and, and_true, b2n_10, b2n_T, b2n_F, b2n_0, Decidable.not_not, not_true_eq_false, not_false_eq_true, Nat.reduceAdd, Nat.reduceMul, Nat.reduceSub, h80, b2n_t hO, h29, oI_s, qe_n1, qe_m1, qn_n1, qn_m1, qe_n2, qe_m2, qn_n2, qn_m2]
        refine ih (w + 1) _ _ (by omega) hI2 ?_
        intro v y h1 h2 h3
        rw [u2_same]
        by_cases e : v = w
        · rw [e, hbs] at h2
          cases h2
          have := hI.2.2.1 r (Nat.le_refl _) g hg h3
          omega
        · have := hv v y (by omega) h2 h3
          omega
    · simp (disch := (first | omega | exact aCat_8 (by with_unfolding_all rfl) | exact rk_lt (by with_unfolding_all rfl) | exact aCat_16 (by with_unfolding_all rfl) | exact rk_eq (by with_unfolding_all rfl) | assumption | exact b2n_lt _ | exact id_b (by with_unfolding_all rfl) | (simp (disch := omega) only [u2_same, u2_ab, u2_aq]; done) | (simp (disch := omega) only [u2_same, u2_ab, u2_aq]; omega) | fail)) only [al_5056, wp_aloadr_0, wp_aloadk_0, wk_0, hp_86_0, wp_iload_1, wp_i2l, wl_1, wl_9, wc_4, t_4, lN_le, wz_ne_t, wz_ne_f, wb_ne_t, wb_ne_f, wm_ne_1, wm_ne_2, wk_m1, wp_ireturn, al_5057, wp_istore_2, wp_jsr, wp_iload_2, wc_10, t_10, wn_ge_t, wn_ge_f, hg_86_43, ha_112l, ha_112s, wc_28, wz_eq_t, wz_eq_f, wb_eq_t, wb_eq_f, wm_eq_1, wm_eq_2, wc_80, wk_1, wp_goto, al_5059, wk_1000000, al_5060, wp_iinc_2_1, al_5061, wp_istore_3, wp_iload_3, wp_istore_4, wp_iload_4, wk_4, wc_29, wp_istore_5, wp_iload_5, wz_lt_t, wz_lt_f, wm_lt_1, wm_lt_2, wp_iadd, wp_min, al_5065, al_5066, wp_iinc_4_1, wp_iinc_3_1, al_5068, al_5069, hg_86_8, ha_89l, ha_89s, wk_108, wn_lt_t, wn_lt_f, wk_m2, al_5070, hp_86_1, wc_43, t_43, wp_isub, wz_le_t, wz_le_f, wm_le_1, wm_le_2, wp_istore_6, wp_iload_6, wp_istore_7, wp_iload_7, wn_ne_t, wn_ne_f, al_5073, al_5074, al_5075, wp_iinc_6_1, al_5076, wp_idec_4_1, al_5077, nl_i, nl_r, nl_k, nl_j, nl_l, nI_add, pk_mul, pk_sub, tl_s, tl_n, aL_inl, u2_same, u2_ab, u2_aq, nI_l, lN_i, Nat.add_zero, Nat.zero_add, Nat.zero_le, true_and, and_true, b2n_10, b2n_T, b2n_F, b2n_0, Decidable.not_not, not_true_eq_false, not_false_eq_true, Nat.reduceAdd, Nat.reduceMul, Nat.reduceSub, h80, b2n_f hO]
      exact hK N _ _ (hend N hI (fun z => absurd z hO))
end Y3
