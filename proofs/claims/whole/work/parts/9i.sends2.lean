/-! sends, stops: the reference. From wip/whole/src. -/
section W1
variable {ko : aKo} {d k : Nat} {is : List Instr} {ls st : List Value} {σ : aH} {D : Nat → Nat} {N : Nat → Nat → Nat} {I : Nat → Nat → Int32} {J : Nat → Nat → Int64} {x t : Nat} {Q : Option Value → aH → Prop} {P : (Option Value ⊕ Unit) → aH → Prop}
theorem isS {l : List Nat} : b2n ((some l).isSome = true) = 1 := rfl
theorem isN : b2n ((none : Option (List Nat)).isSome = true) = 0 := rfl
/-- what a search of the reference leaves -/
def rdR (N0 N' N : Nat → Nat → Nat) (i : Nat) (A : Nat → Bool) (r : Option (List Nat)) : Prop := (∀ k, k < i → N' 106 k = N 106 k) ∧ (r = none → N' 90 = waS (N0 89) A) ∧ ∀ l, r = some l → ∀ k, k < l.length → N' 106 (i + k) = l.getD k 0
theorem t_70b {N0 : Nat → Nat → Nat} {I0 : Nat → Nat → Int32} {J0 : Nat → Nat → Int64} {m : Int32} {A : Nat → Bool} {n j : Nat} {w : Int32} (h : invB D N0 I0 J0 t) (hn : n ≤ 3) (hT : thO N0 N I0 I (waS (N0 89) A))
    (hQ : ∀ (N' : Nat → Nat → Nat) (I' : Nat → Nat → Int32), rqO N0 N' I0 I' → rdR N0 N' N n A (fnd D N0 (N0 89) m j 0 A) → Q (some (.int (nI (b2n ((fnd D N0 (N0 89) m j 0 A).isSome = true))))) (hp D N' I' J x)) :
    aMm ko d 70 [.ref 86, .int (nI n), .int (nI n), .int w, .int m] (hp D N I J x) Q := by
  have h89 := h.2.2.2.2.1
  have hO := wa_O (A := A) h89.1
  rw [me_70]
  simp (disch := (first | omega | exact aCat_8 (by with_unfolding_all rfl) | exact rk_lt (by with_unfolding_all rfl) | exact aCat_16 (by with_unfolding_all rfl) | exact rk_eq (by with_unfolding_all rfl) | assumption | exact b2n_lt _ | exact id_b (by with_unfolding_all rfl) | (simp (disch := omega) only [u2_same, u2_ab, u2_aq]; done) | (simp (disch := omega) only [u2_same, u2_ab, u2_aq]; omega) | fail)) only [al_4480, wp_iload_1, wp_iload_2, wn_ne_t, wn_ne_f, wp_aloadr_0, wp_aloadk_0, hg_86_9, ha_90l, ha_90s, wc_25, wc_58, wp_iload_4, wk_1, wp_goto, al_4481, wk_0, wp_jsr, al_4482, wp_freturn0, wp_freturn1, wp_freturnb, al_4483, wp_iload_3, wp_istore_5, wp_iload_5, wc_10, t_10, wn_ge_t, wn_ge_f, wc_26, wz_ne_t, wz_ne_f, wb_ne_t, wb_ne_f, wm_ne_1, wm_ne_2, wk_108, wn_eq_t, wn_eq_f, wk_36, wp_iadd, hg_86_36, ha_106l, ha_106s, wc_70, wz_eq_t, wz_eq_f, wb_eq_t, wb_eq_f, wm_eq_1, wm_eq_2, al_4485, al_4486, wp_iinc_5_1, al_4487, nl_i, nl_r, nl_k, nl_j, nl_l, nI_add, pk_mul, pk_sub, tl_s, tl_n, aL_inl, u2_same, u2_ab, u2_aq, nI_l, lN_i, Nat.add_zero, Nat.zero_add, Nat.zero_le, true_and, and_true, b2n_10, b2n_T, b2n_F, b2n_0, Decidable.not_not, not_true_eq_false, not_false_eq_true, Nat.reduceAdd, Nat.reduceMul, Nat.reduceSub]
  refine th_cf h hO hT ?_
  intro N1 I1 hT1 hc1 hN1
  have hK := crsS_K (N := N0) h.1.1 hO
  have hq := hQ N1 I1 (th_rq hT1) ⟨fun k _ => hN1 106 k rfl, fun _ => hT1.1, fun l hl => by
    rw [fnd_0] at hl
    unfold bse at hl
    split at hl
    · cases hl
      intro k hk
      exact absurd hk (Nat.not_lt_zero k)
    · cases hl⟩
  rw [fnd_0] at hq
  unfold bse at hq
  rw [← wa_crs h.1.1 h89.1.2.1] at hq
  by_cases z : mth (D 1) (crsS D N0 (waS (N0 89) A)) = m
  · rw [if_pos z, isS] at hq
    simp (disch := (first | omega | exact aCat_8 (by with_unfolding_all rfl) | exact rk_lt (by with_unfolding_all rfl) | exact aCat_16 (by with_unfolding_all rfl) | exact rk_eq (by with_unfolding_all rfl) | assumption | exact b2n_lt _ | exact id_b (by with_unfolding_all rfl) | (simp (disch := omega) only [u2_same, u2_ab, u2_aq]; done) | (simp (disch := omega) only [u2_same, u2_ab, u2_aq]; omega) | fail)) only [al_4480, wp_iload_1, wp_iload_2, wn_ne_t, wn_ne_f, wp_aloadr_0, wp_aloadk_0, hg_86_9, ha_90l, ha_90s, wc_25, wc_58, wp_iload_4, wk_1, wp_goto, al_4481, wk_0, wp_jsr, al_4482, wp_freturn0, wp_freturn1, wp_freturnb, al_4483, wp_iload_3, wp_istore_5, wp_iload_5, wc_10, t_10, wn_ge_t, wn_ge_f, wc_26, wz_ne_t, wz_ne_f, wb_ne_t, wb_ne_f, wm_ne_1, wm_ne_2, wk_108, wn_eq_t, wn_eq_f, wk_36, wp_iadd, hg_86_36, ha_106l, ha_106s, wc_70, wz_eq_t, wz_eq_f, wb_eq_t, wb_eq_f, wm_eq_1, wm_eq_2, al_4485, al_4486, wp_iinc_5_1, al_4487, nl_i, nl_r, nl_k, nl_j, nl_l, nI_add, pk_mul, pk_sub, tl_s, tl_n, aL_inl, u2_same, u2_ab, u2_aq, nI_l, lN_i, Nat.add_zero, Nat.zero_add, Nat.zero_le, true_and, and_true, b2n_10, b2n_T, b2n_F, b2n_0, Decidable.not_not, not_true_eq_false, not_false_eq_true, Nat.reduceAdd, Nat.reduceMul, Nat.reduceSub, t_58 h.1.1 hc1 hK, wx_ne_f (not_not_intro z)]
    exact hq
  · rw [if_neg z, isN] at hq
    simp (disch := (first | omega | exact aCat_8 (by with_unfolding_all rfl) | exact rk_lt (by with_unfolding_all rfl) | exact aCat_16 (by with_unfolding_all rfl) | exact rk_eq (by with_unfolding_all rfl) | assumption | exact b2n_lt _ | exact id_b (by with_unfolding_all rfl) | (simp (disch := omega) only [u2_same, u2_ab, u2_aq]; done) | (simp (disch := omega) only [u2_same, u2_ab, u2_aq]; omega) | fail)) only [al_4480, wp_iload_1, wp_iload_2, wn_ne_t, wn_ne_f, wp_aloadr_0, wp_aloadk_0, hg_86_9, ha_90l, ha_90s, wc_25, wc_58, wp_iload_4, wk_1, wp_goto, al_4481, wk_0, wp_jsr, al_4482, wp_freturn0, wp_freturn1, wp_freturnb, al_4483, wp_iload_3, wp_istore_5, wp_iload_5, wc_10, t_10, wn_ge_t, wn_ge_f, wc_26, wz_ne_t, wz_ne_f, wb_ne_t, wb_ne_f, wm_ne_1, wm_ne_2, wk_108, wn_eq_t, wn_eq_f, wk_36, wp_iadd, hg_86_36, ha_106l, ha_106s, wc_70, wz_eq_t, wz_eq_f, wb_eq_t, wb_eq_f, wm_eq_1, wm_eq_2, al_4485, al_4486, wp_iinc_5_1, al_4487, nl_i, nl_r, nl_k, nl_j, nl_l, nI_add, pk_mul, pk_sub, tl_s, tl_n, aL_inl, u2_same, u2_ab, u2_aq, nI_l, lN_i, Nat.add_zero, Nat.zero_add, Nat.zero_le, true_and, and_true, b2n_10, b2n_T, b2n_F, b2n_0, Decidable.not_not, not_true_eq_false, not_false_eq_true, Nat.reduceAdd, Nat.reduceMul, Nat.reduceSub, t_58 h.1.1 hc1 hK, wx_ne_t z]
    exact hq
theorem l_70 {N0 : Nat → Nat → Nat} {I0 : Nat → Nat → Int32} {J0 : Nat → Nat → Int64} {m w3 : Int32} {A : Nat → Bool} {n i r : Nat} (h : invB D N0 I0 J0 t) (hn : n ≤ 3) (hi : i + (r + 1) = n)
    (hrec : ∀ (j : Nat) (A : Nat → Bool) (N : Nat → Nat → Nat) (I : Nat → Nat → Int32) (Q : Option Value → aH → Prop), j ≤ D 0 * D 1 → (∀ g, A g = true → g < D 0 * D 1 - j) → thO N0 N I0 I (waS (N0 89) A) → (∀ (N' : Nat → Nat → Nat) (I' : Nat → Nat → Int32), rqO N0 N' I0 I' → rdR N0 N' N (i + 1) A (fnd D N0 (N0 89) m j r A) → Q (some (.int (nI (b2n ((fnd D N0 (N0 89) m j r A).isSome = true))))) (hp D N' I' J x)) → aMm ko d 70 [.ref 86, .int (nI (i + 1)), .int (nI n), .int (nI (D 0 * D 1 - j)), .int m] (hp D N I J x) Q)
    {M : Nat → Nat → Nat} {R : Option (List Nat)} (hQ : ∀ (N' : Nat → Nat → Nat) (I' : Nat → Nat → Int32), rqO N0 N' I0 I' → rdR N0 N' M i A R → Q (some (.int (nI (b2n (R.isSome = true))))) (hp D N' I' J x)) :
    ∀ (j : Nat) (N : Nat → Nat → Nat) (I : Nat → Nat → Int32), j ≤ D 0 * D 1 → (∀ g, A g = true → g < D 0 * D 1 - j) → R = fnd D N0 (N0 89) m j (r + 1) A → (∀ k, k < i → N 106 k = M 106 k) → thO N0 N I0 I (waS (N0 89) A) → aWp ko (d + 1) 70 (aP.1 (Int.toNat 4484)) [.ref 86, .int (nI i), .int (nI n), .int w3, .int m, .int (nI (D 0 * D 1 - j))] [] (hp D N I J x) (aL Q) := by
  have hF := dm_F h.1.1
  have h89 := h.2.2.2.2.1
  intro j
  induction j with
  | zero =>
    intro N I _ _ hR hM hT
    rw [fnd_e] at hR
    have hq := hQ N I (th_rq hT) ⟨hM, fun _ => hT.1, fun l hl => by rw [hR] at hl; cases hl⟩
    rw [hR, isN] at hq
    rw [al_4484]
    simp (disch := (first | omega | exact aCat_8 (by with_unfolding_all rfl) | exact rk_lt (by with_unfolding_all rfl) | exact aCat_16 (by with_unfolding_all rfl) | exact rk_eq (by with_unfolding_all rfl) | assumption | exact b2n_lt _ | exact id_b (by with_unfolding_all rfl) | (simp (disch := omega) only [u2_same, u2_ab, u2_aq]; done) | (simp (disch := omega) only [u2_same, u2_ab, u2_aq]; omega) | fail)) only [al_4480, wp_iload_1, wp_iload_2, wn_ne_t, wn_ne_f, wp_aloadr_0, wp_aloadk_0, hg_86_9, ha_90l, ha_90s, wc_25, wc_58, wp_iload_4, wk_1, wp_goto, al_4481, wk_0, wp_jsr, al_4482, wp_freturn0, wp_freturn1, wp_freturnb, al_4483, wp_iload_3, wp_istore_5, wp_iload_5, wc_10, t_10, wn_ge_t, wn_ge_f, wc_26, wz_ne_t, wz_ne_f, wb_ne_t, wb_ne_f, wm_ne_1, wm_ne_2, wk_108, wn_eq_t, wn_eq_f, wk_36, wp_iadd, hg_86_36, ha_106l, ha_106s, wc_70, wz_eq_t, wz_eq_f, wb_eq_t, wb_eq_f, wm_eq_1, wm_eq_2, al_4485, al_4486, wp_iinc_5_1, al_4487, nl_i, nl_r, nl_k, nl_j, nl_l, nI_add, pk_mul, pk_sub, tl_s, tl_n, aL_inl, u2_same, u2_ab, u2_aq, nI_l, lN_i, Nat.add_zero, Nat.zero_add, Nat.zero_le, true_and, and_true, b2n_10, b2n_T, b2n_F, b2n_0, Decidable.not_not, not_true_eq_false, not_false_eq_true, Nat.reduceAdd, Nat.reduceMul, Nat.reduceSub]
    exact hq
  | succ j ih =>
    intro N I hj hA hR hM hT
    have hg : D 0 * D 1 - (j + 1) < D 0 * D 1 := by omega
    have hA' : ∀ g, A g = true → g < D 0 * D 1 - j := fun g hg => by have := hA g hg; omega
    have e1 : D 0 * D 1 - (j + 1) + 1 = D 0 * D 1 - j := by omega
    have ih1 := fun N I => ih N I (by omega) hA'
    have hAg : A (D 0 * D 1 - (j + 1)) = false := by
      cases hq : A (D 0 * D 1 - (j + 1)) with
      | false => rfl
      | true =>
        have := hA _ hq
        omega
    generalize hgd : D 0 * D 1 - (j + 1) = g at *
    have hg36 : g < 36 := by omega
    have hwl := (h89.1.1 g hg36).2.1
    have ew : N 90 (36 + g) = N0 89 (36 + g) := by
      rw [hT.1, wa_w hg36, if_neg (by rw [hAg]; decide)]
    have es : N 90 108 = N0 89 108 := by rw [hT.1, wa_o (by omega)]
    have hsC := h89.1.2.1
    rw [al_4484]
    by_cases hw : N0 89 (36 + g) = 1
    · rw [fnd_k (by rw [hgd]; exact Or.inl hw)] at hR
      have ht26 := fun Q => t_26 (ko := ko) (d := d + 1) (D := D) (N := N) (I := I) (J := J) (x := x) (Q := Q) (r := 90) (f := g) (Or.inr rfl) (by omega) (by rw [ew]; exact hwl)
      rw [ew] at ht26
      simp (disch := (first | omega | exact aCat_8 (by with_unfolding_all rfl) | exact rk_lt (by with_unfolding_all rfl) | exact aCat_16 (by with_unfolding_all rfl) | exact rk_eq (by with_unfolding_all rfl) | assumption | exact b2n_lt _ | exact id_b (by with_unfolding_all rfl) | (simp (disch := omega) only [u2_same, u2_ab, u2_aq]; done) | (simp (disch := omega) only [u2_same, u2_ab, u2_aq]; omega) | fail)) only [al_4480, wp_iload_1, wp_iload_2, wn_ne_t, wn_ne_f, wp_aloadr_0, wp_aloadk_0, hg_86_9, ha_90l, ha_90s, wc_25, wc_58, wp_iload_4, wk_1, wp_goto, al_4481, wk_0, wp_jsr, al_4482, wp_freturn0, wp_freturn1, wp_freturnb, al_4483, wp_iload_3, wp_istore_5, wp_iload_5, wc_10, t_10, wn_ge_t, wn_ge_f, wc_26, wz_ne_t, wz_ne_f, wb_ne_t, wb_ne_f, wm_ne_1, wm_ne_2, wk_108, wn_eq_t, wn_eq_f, wk_36, wp_iadd, hg_86_36, ha_106l, ha_106s, wc_70, wz_eq_t, wz_eq_f, wb_eq_t, wb_eq_f, wm_eq_1, wm_eq_2, al_4485, al_4486, wp_iinc_5_1, al_4487, nl_i, nl_r, nl_k, nl_j, nl_l, nI_add, pk_mul, pk_sub, tl_s, tl_n, aL_inl, u2_same, u2_ab, u2_aq, nI_l, lN_i, Nat.add_zero, Nat.zero_add, Nat.zero_le, true_and, and_true, b2n_10, b2n_T, b2n_F, b2n_0, Decidable.not_not, not_true_eq_false, not_false_eq_true, Nat.reduceAdd, Nat.reduceMul, Nat.reduceSub, ht26, b2n_t hw, e1]
      exact ih1 N I hR hM hT
    · by_cases hs : g = N0 89 108
      · rw [fnd_k (by rw [hgd]; exact Or.inr hs)] at hR
        have ht26 := fun Q => t_26 (ko := ko) (d := d + 1) (D := D) (N := N) (I := I) (J := J) (x := x) (Q := Q) (r := 90) (f := g) (Or.inr rfl) (by omega) (by rw [ew]; exact hwl)
        rw [ew] at ht26
        have hs' : N 90 108 = g := es.trans hs.symm
        simp (disch := (first | omega | exact aCat_8 (by with_unfolding_all rfl) | exact rk_lt (by with_unfolding_all rfl) | exact aCat_16 (by with_unfolding_all rfl) | exact rk_eq (by with_unfolding_all rfl) | assumption | exact b2n_lt _ | exact id_b (by with_unfolding_all rfl) | (simp (disch := omega) only [u2_same, u2_ab, u2_aq]; done) | (simp (disch := omega) only [u2_same, u2_ab, u2_aq]; omega) | fail)) only [al_4480, wp_iload_1, wp_iload_2, wn_ne_t, wn_ne_f, wp_aloadr_0, wp_aloadk_0, hg_86_9, ha_90l, ha_90s, wc_25, wc_58, wp_iload_4, wk_1, wp_goto, al_4481, wk_0, wp_jsr, al_4482, wp_freturn0, wp_freturn1, wp_freturnb, al_4483, wp_iload_3, wp_istore_5, wp_iload_5, wc_10, t_10, wn_ge_t, wn_ge_f, wc_26, wz_ne_t, wz_ne_f, wb_ne_t, wb_ne_f, wm_ne_1, wm_ne_2, wk_108, wn_eq_t, wn_eq_f, wk_36, wp_iadd, hg_86_36, ha_106l, ha_106s, wc_70, wz_eq_t, wz_eq_f, wb_eq_t, wb_eq_f, wm_eq_1, wm_eq_2, al_4485, al_4486, wp_iinc_5_1, al_4487, nl_i, nl_r, nl_k, nl_j, nl_l, nI_add, pk_mul, pk_sub, tl_s, tl_n, aL_inl, u2_same, u2_ab, u2_aq, nI_l, lN_i, Nat.add_zero, Nat.zero_add, Nat.zero_le, true_and, and_true, b2n_10, b2n_T, b2n_F, b2n_0, Decidable.not_not, not_true_eq_false, not_false_eq_true, Nat.reduceAdd, Nat.reduceMul, Nat.reduceSub, ht26, b2n_f hw, hs', e1]
        exact ih1 N I hR hM hT
      · have hk : ¬ (N0 89 (36 + (D 0 * D 1 - (j + 1))) = 1 ∨ D 0 * D 1 - (j + 1) = N0 89 108) := by
          rw [hgd]
          omega
        have ht26 := fun Q => t_26 (ko := ko) (d := d + 1) (D := D) (N := N) (I := I) (J := J) (x := x) (Q := Q) (r := 90) (f := g) (Or.inr rfl) (by omega) (by rw [ew]; exact hwl)
        rw [ew] at ht26
        have hs' : ¬ g = N 90 108 := by rw [es]; exact hs
        have hi3 : i < 3 := by omega
        simp (disch := (first | omega | exact aCat_8 (by with_unfolding_all rfl) | exact rk_lt (by with_unfolding_all rfl) | exact aCat_16 (by with_unfolding_all rfl) | exact rk_eq (by with_unfolding_all rfl) | assumption | exact b2n_lt _ | exact id_b (by with_unfolding_all rfl) | (simp (disch := omega) only [u2_same, u2_ab, u2_aq]; done) | (simp (disch := omega) only [u2_same, u2_ab, u2_aq]; omega) | fail)) only [al_4480, wp_iload_1, wp_iload_2, wn_ne_t, wn_ne_f, wp_aloadr_0, wp_aloadk_0, hg_86_9, ha_90l, ha_90s, wc_25, wc_58, wp_iload_4, wk_1, wp_goto, al_4481, wk_0, wp_jsr, al_4482, wp_freturn0, wp_freturn1, wp_freturnb, al_4483, wp_iload_3, wp_istore_5, wp_iload_5, wc_10, t_10, wn_ge_t, wn_ge_f, wc_26, wz_ne_t, wz_ne_f, wb_ne_t, wb_ne_f, wm_ne_1, wm_ne_2, wk_108, wn_eq_t, wn_eq_f, wk_36, wp_iadd, hg_86_36, ha_106l, ha_106s, wc_70, wz_eq_t, wz_eq_f, wb_eq_t, wb_eq_f, wm_eq_1, wm_eq_2, al_4485, al_4486, wp_iinc_5_1, al_4487, nl_i, nl_r, nl_k, nl_j, nl_l, nI_add, pk_mul, pk_sub, tl_s, tl_n, aL_inl, u2_same, u2_ab, u2_aq, nI_l, lN_i, Nat.add_zero, Nat.zero_add, Nat.zero_le, true_and, and_true, b2n_10, b2n_T, b2n_F, b2n_0, Decidable.not_not, not_true_eq_false, not_false_eq_true, Nat.reduceAdd, Nat.reduceMul, Nat.reduceSub, ht26, b2n_f hw, es, e1, wr_70]
        have hT1 := th_u9 (v := 1) (f := 36 + g) (by omega) hT
        rw [wa_add hg36] at hT1
        have hT2 : thO N0 (u2 (u2 N 90 (36 + g) 1) 106 i g) I0 I (waS (N0 89) (adA A g)) := ⟨by rw [u2_nb (by decide)]; exact hT1.1, qN_u hT1.2.1 rfl, hT1.2.2.1, by rw [u2_ab (by decide)]; exact hT1.2.2.2⟩
        refine hrec j (adA A g) _ I _ (by omega) ?_ hT2 ?_
        · intro y hy
          unfold adA at hy
          rcases Bool.or_eq_true _ _ |>.mp hy with hy | hy
          · exact hA' y hy
          · have := of_decide_eq_true hy
            omega
        · intro N1 I1 hr1 hrd
          cases hq : fnd D N0 (N0 89) m j r (adA A g) with
          | some l =>
            rw [hq] at hrd
            rw [fnd_s hk (by rw [hgd]; exact hq), hgd] at hR
            have hqq := hQ N1 I1 hr1 ⟨fun k hk2 => by
              rw [hrd.1 k (by omega), u2_aq (by omega), u2_ab (by decide)]
              exact hM k hk2, (fun z => by rw [hR] at z; cases z), fun l' hl' => by
              rw [hR] at hl'
              cases hl'
              intro k hk2
              cases k with
              | zero =>
                rw [Nat.add_zero, hrd.1 i (by omega), u2_same]
                rfl
              | succ k =>
                have := hrd.2.2 l rfl k (by simpa using hk2)
                rw [show i + 1 + k = i + (k + 1) by omega] at this
                rw [this]
                rfl⟩
            rw [hR, isS] at hqq
            rw [isS]
            simp (disch := (first | omega | exact aCat_8 (by with_unfolding_all rfl) | exact rk_lt (by with_unfolding_all rfl) | exact aCat_16 (by with_unfolding_all rfl) | exact rk_eq (by with_unfolding_all rfl) | assumption | exact b2n_lt _ | exact id_b (by with_unfolding_all rfl) | (simp (disch := omega) only [u2_same, u2_ab, u2_aq]; done) | (simp (disch := omega) only [u2_same, u2_ab, u2_aq]; omega) | fail)) only [al_4480, wp_iload_1, wp_iload_2, wn_ne_t, wn_ne_f, wp_aloadr_0, wp_aloadk_0, hg_86_9, ha_90l, ha_90s, wc_25, wc_58, wp_iload_4, wk_1, wp_goto, al_4481, wk_0, wp_jsr, al_4482, wp_freturn0, wp_freturn1, wp_freturnb, al_4483, wp_iload_3, wp_istore_5, wp_iload_5, wc_10, t_10, wn_ge_t, wn_ge_f, wc_26, wz_ne_t, wz_ne_f, wb_ne_t, wb_ne_f, wm_ne_1, wm_ne_2, wk_108, wn_eq_t, wn_eq_f, wk_36, wp_iadd, hg_86_36, ha_106l, ha_106s, wc_70, wz_eq_t, wz_eq_f, wb_eq_t, wb_eq_f, wm_eq_1, wm_eq_2, al_4485, al_4486, wp_iinc_5_1, al_4487, nl_i, nl_r, nl_k, nl_j, nl_l, nI_add, pk_mul, pk_sub, tl_s, tl_n, aL_inl, u2_same, u2_ab, u2_aq, nI_l, lN_i, Nat.add_zero, Nat.zero_add, Nat.zero_le, true_and, and_true, b2n_10, b2n_T, b2n_F, b2n_0, Decidable.not_not, not_true_eq_false, not_false_eq_true, Nat.reduceAdd, Nat.reduceMul, Nat.reduceSub]
            exact hqq
          | none =>
            rw [hq] at hrd
            rw [fnd_n hk (by rw [hgd]; exact hq)] at hR
            have h0 : N0 89 (36 + g) = 0 := by omega
            have hT3 : thO N0 N1 I0 I1 (waS (N0 89) (adA A g)) := ⟨hrd.2.1 rfl, hr1⟩
            have hT4 := th_u9 (v := 0) (f := 36 + g) (by omega) hT3
            rw [wa_del hg36 hAg h0] at hT4
            rw [isN]
            simp (disch := (first | omega | exact aCat_8 (by with_unfolding_all rfl) | exact rk_lt (by with_unfolding_all rfl) | exact aCat_16 (by with_unfolding_all rfl) | exact rk_eq (by with_unfolding_all rfl) | assumption | exact b2n_lt _ | exact id_b (by with_unfolding_all rfl) | (simp (disch := omega) only [u2_same, u2_ab, u2_aq]; done) | (simp (disch := omega) only [u2_same, u2_ab, u2_aq]; omega) | fail)) only [al_4480, wp_iload_1, wp_iload_2, wn_ne_t, wn_ne_f, wp_aloadr_0, wp_aloadk_0, hg_86_9, ha_90l, ha_90s, wc_25, wc_58, wp_iload_4, wk_1, wp_goto, al_4481, wk_0, wp_jsr, al_4482, wp_freturn0, wp_freturn1, wp_freturnb, al_4483, wp_iload_3, wp_istore_5, wp_iload_5, wc_10, t_10, wn_ge_t, wn_ge_f, wc_26, wz_ne_t, wz_ne_f, wb_ne_t, wb_ne_f, wm_ne_1, wm_ne_2, wk_108, wn_eq_t, wn_eq_f, wk_36, wp_iadd, hg_86_36, ha_106l, ha_106s, wc_70, wz_eq_t, wz_eq_f, wb_eq_t, wb_eq_f, wm_eq_1, wm_eq_2, al_4485, al_4486, wp_iinc_5_1, al_4487, nl_i, nl_r, nl_k, nl_j, nl_l, nI_add, pk_mul, pk_sub, tl_s, tl_n, aL_inl, u2_same, u2_ab, u2_aq, nI_l, lN_i, Nat.add_zero, Nat.zero_add, Nat.zero_le, true_and, and_true, b2n_10, b2n_T, b2n_F, b2n_0, Decidable.not_not, not_true_eq_false, not_false_eq_true, Nat.reduceAdd, Nat.reduceMul, Nat.reduceSub, e1]
            refine ih1 _ I1 hR ?_ hT4
            intro k hk2
            rw [u2_ab (by decide), hrd.1 k (by omega), u2_aq (by omega), u2_ab (by decide)]
            exact hM k hk2
theorem t_70 {N0 : Nat → Nat → Nat} {I0 : Nat → Nat → Int32} {J0 : Nat → Nat → Int64} {m : Int32} {n : Nat} (h : invB D N0 I0 J0 t) (hn : n ≤ 3) :
    ∀ (r d i j : Nat) (A : Nat → Bool) (N : Nat → Nat → Nat) (I : Nat → Nat → Int32) (Q : Option Value → aH → Prop), i + r = n → j ≤ D 0 * D 1 → (∀ g, A g = true → g < D 0 * D 1 - j) → thO N0 N I0 I (waS (N0 89) A) → (∀ (N' : Nat → Nat → Nat) (I' : Nat → Nat → Int32), rqO N0 N' I0 I' → rdR N0 N' N i A (fnd D N0 (N0 89) m j r A) → Q (some (.int (nI (b2n ((fnd D N0 (N0 89) m j r A).isSome = true))))) (hp D N' I' J x)) → aMm ko (d + r) 70 [.ref 86, .int (nI i), .int (nI n), .int (nI (D 0 * D 1 - j)), .int m] (hp D N I J x) Q := by
  have hF := dm_F h.1.1
  intro r
  induction r with
  | zero =>
    intro d i j A N I Q hi hj hA hT hQ
    have e : i = n := by omega
    subst e
    exact t_70b h hn hT hQ
  | succ r ih =>
    intro d i j A N I Q hi hj hA hT hQ
    have hne : ¬ i = n := by omega
    rw [me_70]
    simp (disch := (first | omega | exact aCat_8 (by with_unfolding_all rfl) | exact rk_lt (by with_unfolding_all rfl) | exact aCat_16 (by with_unfolding_all rfl) | exact rk_eq (by with_unfolding_all rfl) | assumption | exact b2n_lt _ | exact id_b (by with_unfolding_all rfl) | (simp (disch := omega) only [u2_same, u2_ab, u2_aq]; done) | (simp (disch := omega) only [u2_same, u2_ab, u2_aq]; omega) | fail)) only [al_4480, wp_iload_1, wp_iload_2, wn_ne_t, wn_ne_f, wp_aloadr_0, wp_aloadk_0, hg_86_9, ha_90l, ha_90s, wc_25, wc_58, wp_iload_4, wk_1, wp_goto, al_4481, wk_0, wp_jsr, al_4482, wp_freturn0, wp_freturn1, wp_freturnb, al_4483, wp_iload_3, wp_istore_5, wp_iload_5, wc_10, t_10, wn_ge_t, wn_ge_f, wc_26, wz_ne_t, wz_ne_f, wb_ne_t, wb_ne_f, wm_ne_1, wm_ne_2, wk_108, wn_eq_t, wn_eq_f, wk_36, wp_iadd, hg_86_36, ha_106l, ha_106s, wc_70, wz_eq_t, wz_eq_f, wb_eq_t, wb_eq_f, wm_eq_1, wm_eq_2, al_4485, al_4486, wp_iinc_5_1, al_4487, nl_i, nl_r, nl_k, nl_j, nl_l, nI_add, pk_mul, pk_sub, tl_s, tl_n, aL_inl, u2_same, u2_ab, u2_aq, nI_l, lN_i, Nat.add_zero, Nat.zero_add, Nat.zero_le, true_and, and_true, b2n_10, b2n_T, b2n_F, b2n_0, Decidable.not_not, not_true_eq_false, not_false_eq_true, Nat.reduceAdd, Nat.reduceMul, Nat.reduceSub]
    have := l_70 (ko := ko) (d := d + r) (x := x) (J := J) (Q := Q) (m := m) (w3 := nI (D 0 * D 1 - j)) (A := A) h hn hi (fun j A N I Q hj hA hT hQ => ih d (i + 1) j A N I Q (by omega) hj hA hT hQ) hQ j N I hj hA rfl (fun _ _ => rfl) hT
    rw [Nat.add_assoc] at this
    exact this
end W1
