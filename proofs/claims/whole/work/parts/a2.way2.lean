/-! way: the class's flood; the reference. From wip/whole/src. -/
section Y2
variable {ko : aKo} {d k : Nat} {is : List Instr} {ls st : List Value} {σ : aH} {D : Nat → Nat} {N : Nat → Nat → Nat} {I : Nat → Nat → Int32} {J : Nat → Nat → Int64} {x t : Nat} {Q : Option Value → aH → Prop} {P : (Option Value ⊕ Unit) → aH → Prop}
theorem l_237 {J0 : Nat → Nat → Int64} {p : Nat} {dp : Int64} (h : invB D N I J0 t) (hdp : ∀ g, g < 64 → tb dp g = wyO D N p g)
    (hS : ∀ k, k < 36 → flF (D 0) (D 1) (wyO D N p) (wyA D) k (N 89 108) → ansC D N I J0 x (.int (nI (k + 1))) (k + 1) (fun e => lN (wyQ D N p k e)) Q)
    (hNo : (∀ k, k < 36 → wyL D N p k (N 89 108) = false) → ∀ (J' : Nat → Nat → Int64), rsO N N I I J0 J' → Q (some (.int (-2))) (hp D N I J' x)) :
    ∀ (j k : Nat) (J : Nat → Nat → Int64) (cur : Int64), k + j = 36 → (∀ b q, b ≠ 76 → J b q = J0 b q) → wyK D N J p k → (∀ g, g < 64 → tb cur g = wyL D N p k g) → (∀ i, i < k → wyL D N p i (N 89 108) = false) → aWp ko d 237 (aP.1 (Int.toNat 15169)) [.ref 73, .ref 5, .long dp, aJk, .int (nI (N 89 108)), .ref 3, .long cur, aJk, .int (nI k)] [] (hp D N I J x) (aL Q) := by
  have hF := dm_F h.1.1
  have hs : N 89 108 < D 0 * D 1 := by have := h.2.2.2.2.1.1.2.1; omega
  have hd6 := h.1.1.2.2.2
  intro j
  induction j with
  | zero =>
    intro k J cur hj hJ hw hc hno
    have e : k = 36 := by omega
    subst e
    have hq := hNo hno J ⟨sN_r, sI_r, fun b q z => hJ b q (by rintro rfl; cases z), ⟨rfl, fun q => hJ 4 q (by decide)⟩, ⟨rfl, fun q => hJ 87 q (by decide)⟩⟩
    rw [al_15169]
    simp (disch := (first | omega | exact aCat_8 (by with_unfolding_all rfl) | exact rk_lt (by with_unfolding_all rfl) | exact aCat_16 (by with_unfolding_all rfl) | exact rk_eq (by with_unfolding_all rfl) | assumption | exact b2n_lt _ | exact id_b (by with_unfolding_all rfl) | (simp (disch := omega) only [u2_same, u2_ab, u2_aq]; done) | (simp (disch := omega) only [u2_same, u2_ab, u2_aq]; omega) | fail)) only [al_15168, wp_aloadr_1, wp_aloadk_1, hg_5_4, wp_lload_2, wp_land, wp_lstore_6, wk_0, wp_istore_8, wp_jsr, wp_iload_8, wk_36, wn_ge_t, wn_ge_f, wp_aloadr_0, wp_aloadk_0, hg_73_2, ha_76l, ha_76s, wp_lload_6, wp_iload_4, wc_161, t_161, wk_1, wn_ne_t, wn_ne_f, wp_aloadr_5, wp_aloadk_5, wc_238, wp_iadd, wp_ireturn, al_15170, wc_243, wp_lor, wp_iinc_8_1, wp_goto, al_15171, wk_m2, nl_i, nl_r, nl_k, nl_j, nl_l, nI_add, pk_mul, pk_sub, tl_s, tl_n, aL_inl, u2_same, u2_ab, u2_aq, nI_l, lN_i, Nat.add_zero, Nat.zero_add, Nat.zero_le, true_and, and_true, b2n_10, b2n_T, b2n_F, b2n_0, Decidable.not_not, not_true_eq_false, not_false_eq_true, Nat.reduceAdd, Nat.reduceMul, Nat.reduceSub]
    exact hq
  | succ j ih =>
    intro k J cur hj hJ hw hc hno
    have hcs := hc (N 89 108) (by omega)
    have hJ2 : ∀ b q, b ≠ 76 → u2 J 76 k cur b q = J0 b q := fun b q z => by rw [u2_ab z]; exact hJ b q z
    have hw2 : wyK D N (u2 J 76 k cur) p (k + 1) := by
      intro i hi g hg
      by_cases e : i = k
      · rw [e, u2_same]; exact hc g hg
      · rw [u2_aq e]; exact hw i (by omega) g hg
    have hld : ldO D N I (u2 J 76 k cur) := ldO_f h.1.2.2.2 (fun q => ⟨rfl, rfl⟩) (fun _ => rfl) (fun q => hJ2 5 q (by decide))
    have hk36 : k < 36 := by omega
    rw [al_15169]
    by_cases hfnd : wyL D N p k (N 89 108) = true
    · rw [hfnd] at hcs
      have hfk : flF (D 0) (D 1) (wyO D N p) (wyA D) k (N 89 108) := ⟨hfnd, hno⟩
      have hkF := fl_lt (by have := h.1.1.2.2.1; omega) hs hfk
      have hmin : min k 36 = k := by omega
      have h238 : ∀ Q' : Option Value → aH → Prop, (∀ (N' : Nat → Nat → Nat) (J' : Nat → Nat → Int64), (∀ b q, b ≠ 3 → N' b q = N b q) → (∀ b q, b ≠ 4 → J' b q = u2 J 76 k cur b q) → tdC N' J' (k + 1) (fun e => lN (wyQ D N p k e)) → Q' none (hp D N' I J' x)) → aMm ko d 238 [.ref 73, .ref 5, .int (nI (N 89 108)), .int (nI k), .ref 3] (hp D N I (u2 J 76 k cur) x) Q' := by
        intro Q' hQ'
        have hx := l_238 (ko := ko) (d := d) (I := I) (x := x) (Q := Q') (p := p) (k := k) (w2 := nI (N 89 108)) (w3 := nI k) (N1 := N) (J1 := u2 J 76 k cur) h hk36 hfk hld (fun i hi => hw2 i (by omega)) hQ' k (u2 (u2 N 3 1 0) 3 1 1) (u2 (u2 J 76 k cur) 4 0 (lN (N 89 108))) (Nat.le_refl _) (fun b q z => by rw [u2_ab z, u2_ab z]) (fun b q z => u2_ab z) ⟨by rw [u2_same, Nat.sub_self], fun e he => by
          rw [Nat.sub_self] at he
          have : e = 0 := by omega
          subst this
          rw [u2_same]
          rfl⟩
        rw [Nat.sub_self] at hx
        have eq0 : wyQ D N p k 0 = N 89 108 := rfl
        rw [eq0] at hx
        rw [me_238]
        by_cases z0 : k = 0
        · subst z0
          have e0 : nI 0 - nI 1 = -1 := by decide
          simp (disch := (first | omega | exact aCat_8 (by with_unfolding_all rfl) | exact rk_lt (by with_unfolding_all rfl) | exact aCat_16 (by with_unfolding_all rfl) | exact rk_eq (by with_unfolding_all rfl) | assumption | exact b2n_lt _ | exact id_b (by with_unfolding_all rfl) | (simp (disch := omega) only [u2_same, u2_ab, u2_aq]; done) | (simp (disch := omega) only [u2_same, u2_ab, u2_aq]; omega) | fail)) only [al_15232, wp_aloadr_4, wp_aloadk_4, wc_292, t_292, wp_iload_2, wp_i2l, wc_293, t_293, wp_istore_5, wp_iload_3, wk_36, wp_min, wk_1, wp_isub, wp_istore_6, wp_jsr, wp_iload_6, wz_lt_t, wz_lt_f, wm_lt_1, wm_lt_2, wp_aloadr_1, wp_aloadk_1, wl_1, wp_iload_5, wp_lshl, wc_243, wp_aloadr_0, wp_aloadk_0, hg_73_2, ha_76l, ha_76s, wp_land, wc_123, wp_idec_6_1, wp_goto, al_15234, wp_return, nl_i, nl_r, nl_k, nl_j, nl_l, nI_add, pk_mul, pk_sub, tl_s, tl_n, aL_inl, u2_same, u2_ab, u2_aq, nI_l, lN_i, Nat.add_zero, Nat.zero_add, Nat.zero_le, true_and, and_true, b2n_10, b2n_T, b2n_F, b2n_0, Decidable.not_not, not_true_eq_false, not_false_eq_true, Nat.reduceAdd, Nat.reduceMul, Nat.reduceSub, hmin, e0]
          exact hx
        · have e2 : wyE k = nI (k - 1) := if_neg z0
          rw [e2] at hx
          simp (disch := (first | omega | exact aCat_8 (by with_unfolding_all rfl) | exact rk_lt (by with_unfolding_all rfl) | exact aCat_16 (by with_unfolding_all rfl) | exact rk_eq (by with_unfolding_all rfl) | assumption | exact b2n_lt _ | exact id_b (by with_unfolding_all rfl) | (simp (disch := omega) only [u2_same, u2_ab, u2_aq]; done) | (simp (disch := omega) only [u2_same, u2_ab, u2_aq]; omega) | fail)) only [al_15232, wp_aloadr_4, wp_aloadk_4, wc_292, t_292, wp_iload_2, wp_i2l, wc_293, t_293, wp_istore_5, wp_iload_3, wk_36, wp_min, wk_1, wp_isub, wp_istore_6, wp_jsr, wp_iload_6, wz_lt_t, wz_lt_f, wm_lt_1, wm_lt_2, wp_aloadr_1, wp_aloadk_1, wl_1, wp_iload_5, wp_lshl, wc_243, wp_aloadr_0, wp_aloadk_0, hg_73_2, ha_76l, ha_76s, wp_land, wc_123, wp_idec_6_1, wp_goto, al_15234, wp_return, nl_i, nl_r, nl_k, nl_j, nl_l, nI_add, pk_mul, pk_sub, tl_s, tl_n, aL_inl, u2_same, u2_ab, u2_aq, nI_l, lN_i, Nat.add_zero, Nat.zero_add, Nat.zero_le, true_and, and_true, b2n_10, b2n_T, b2n_F, b2n_0, Decidable.not_not, not_true_eq_false, not_false_eq_true, Nat.reduceAdd, Nat.reduceMul, Nat.reduceSub, hmin]
          exact hx
      simp (disch := (first | omega | exact aCat_8 (by with_unfolding_all rfl) | exact rk_lt (by with_unfolding_all rfl) | exact aCat_16 (by with_unfolding_all rfl) | exact rk_eq (by with_unfolding_all rfl) | assumption | exact b2n_lt _ | exact id_b (by with_unfolding_all rfl) | (simp (disch := omega) only [u2_same, u2_ab, u2_aq]; done) | (simp (disch := omega) only [u2_same, u2_ab, u2_aq]; omega) | fail)) only [al_15168, wp_aloadr_1, wp_aloadk_1, hg_5_4, wp_lload_2, wp_land, wp_lstore_6, wk_0, wp_istore_8, wp_jsr, wp_iload_8, wk_36, wn_ge_t, wn_ge_f, wp_aloadr_0, wp_aloadk_0, hg_73_2, ha_76l, ha_76s, wp_lload_6, wp_iload_4, wc_161, t_161, wk_1, wn_ne_t, wn_ne_f, wp_aloadr_5, wp_aloadk_5, wc_238, wp_iadd, wp_ireturn, al_15170, wc_243, wp_lor, wp_iinc_8_1, wp_goto, al_15171, wk_m2, nl_i, nl_r, nl_k, nl_j, nl_l, nI_add, pk_mul, pk_sub, tl_s, tl_n, aL_inl, u2_same, u2_ab, u2_aq, nI_l, lN_i, Nat.add_zero, Nat.zero_add, Nat.zero_le, true_and, and_true, b2n_10, b2n_T, b2n_F, b2n_0, Decidable.not_not, not_true_eq_false, not_false_eq_true, Nat.reduceAdd, Nat.reduceMul, Nat.reduceSub, b2n_t hcs]
      refine h238 _ ?_
      intro N' J' hN' hJ' ht'
      simp (disch := (first | omega | exact aCat_8 (by with_unfolding_all rfl) | exact rk_lt (by with_unfolding_all rfl) | exact aCat_16 (by with_unfolding_all rfl) | exact rk_eq (by with_unfolding_all rfl) | assumption | exact b2n_lt _ | exact id_b (by with_unfolding_all rfl) | (simp (disch := omega) only [u2_same, u2_ab, u2_aq]; done) | (simp (disch := omega) only [u2_same, u2_ab, u2_aq]; omega) | fail)) only [al_15168, wp_aloadr_1, wp_aloadk_1, hg_5_4, wp_lload_2, wp_land, wp_lstore_6, wk_0, wp_istore_8, wp_jsr, wp_iload_8, wk_36, wn_ge_t, wn_ge_f, wp_aloadr_0, wp_aloadk_0, hg_73_2, ha_76l, ha_76s, wp_lload_6, wp_iload_4, wc_161, t_161, wk_1, wn_ne_t, wn_ne_f, wp_aloadr_5, wp_aloadk_5, wc_238, wp_iadd, wp_ireturn, al_15170, wc_243, wp_lor, wp_iinc_8_1, wp_goto, al_15171, wk_m2, nl_i, nl_r, nl_k, nl_j, nl_l, nI_add, pk_mul, pk_sub, tl_s, tl_n, aL_inl, u2_same, u2_ab, u2_aq, nI_l, lN_i, Nat.add_zero, Nat.zero_add, Nat.zero_le, true_and, and_true, b2n_10, b2n_T, b2n_F, b2n_0, Decidable.not_not, not_true_eq_false, not_false_eq_true, Nat.reduceAdd, Nat.reduceMul, Nat.reduceSub]
      refine hS k hk36 hfk N' I J' (fun b q z => hN' b q (by rintro rfl; cases z)) sI_r (fun b q z => ?_) ht'
      rw [hJ' b q (by rintro rfl; cases z)]
      exact hJ2 b q (by rintro rfl; cases z)
    · have hff : wyL D N p k (N 89 108) = false := by simpa using hfnd
      rw [hff] at hcs
      have hcs' : ¬ tb cur (N 89 108) = true := by rw [hcs]; decide
      simp (disch := (first | omega | exact aCat_8 (by with_unfolding_all rfl) | exact rk_lt (by with_unfolding_all rfl) | exact aCat_16 (by with_unfolding_all rfl) | exact rk_eq (by with_unfolding_all rfl) | assumption | exact b2n_lt _ | exact id_b (by with_unfolding_all rfl) | (simp (disch := omega) only [u2_same, u2_ab, u2_aq]; done) | (simp (disch := omega) only [u2_same, u2_ab, u2_aq]; omega) | fail)) only [al_15168, wp_aloadr_1, wp_aloadk_1, hg_5_4, wp_lload_2, wp_land, wp_lstore_6, wk_0, wp_istore_8, wp_jsr, wp_iload_8, wk_36, wn_ge_t, wn_ge_f, wp_aloadr_0, wp_aloadk_0, hg_73_2, ha_76l, ha_76s, wp_lload_6, wp_iload_4, wc_161, t_161, wk_1, wn_ne_t, wn_ne_f, wp_aloadr_5, wp_aloadk_5, wc_238, wp_iadd, wp_ireturn, al_15170, wc_243, wp_lor, wp_iinc_8_1, wp_goto, al_15171, wk_m2, nl_i, nl_r, nl_k, nl_j, nl_l, nI_add, pk_mul, pk_sub, tl_s, tl_n, aL_inl, u2_same, u2_ab, u2_aq, nI_l, lN_i, Nat.add_zero, Nat.zero_add, Nat.zero_le, true_and, and_true, b2n_10, b2n_T, b2n_F, b2n_0, Decidable.not_not, not_true_eq_false, not_false_eq_true, Nat.reduceAdd, Nat.reduceMul, Nat.reduceSub, b2n_f hcs', t_243 (show D 3 ≤ 6 by rw [h.1.2.2.1]; exact hd6)]
      refine ih (k + 1) _ _ (by omega) hJ2 hw2 ?_ (fun i hi => ?_)
      · intro g hg
        rw [tb_or, tb_and, hc g hg, tb_sets hld h.1.2.1 h.1.2.2.1 hc (fun g hg => by
          cases hq : wyL D N p k g with
          | false => rfl
          | true =>
            have := wy_in hq
            omega) hg, hdp g hg]
        show _ = (wyL D N p k g || (wyO D N p g && besW (D 0) (D 1) (wyL D N p k) g 4))
        congr 1
        by_cases z : g < D 0 * D 1
        · simp only [z, decide_true, Bool.true_and]
          rw [Bool.and_comm]
        · have : wyO D N p g = false := by
            unfold wyO
            simp [z]
          rw [this]
          simp [z]
      · by_cases e : i = k
        · rw [e]; exact hff
        · exact hno i (by omega)
theorem l_193 {p : Nat} (h : invB D N I J t) (hp1 : 1 ≤ p) (hp9 : p ≤ 9)
    (hK : ∀ w : Int64, (∀ g, g < 64 → tb w g = decide (g < D 0 * D 1 ∧ N 89 g ≤ 9 - p)) → aWp ko d 193 (aP.1 (Int.toNat 12357)) [.ref 0, .int (nI p), .long w, aJk, .int (nI (D 0 * D 1))] [] (hp D N I J x) (aL Q)) :
    ∀ (j i : Nat) (w : Int64), i + j = D 0 * D 1 → (∀ g, g < 64 → tb w g = decide (g < i ∧ N 89 g ≤ 9 - p)) → aWp ko d 193 (aP.1 (Int.toNat 12355)) [.ref 0, .int (nI p), .long w, aJk, .int (nI i)] [] (hp D N I J x) (aL Q) := by
  have hF := dm_F h.1.1
  have h4 := inv_d4 h
  have h89 := h.2.2.2.2.1
  intro j
  induction j with
  | zero =>
    intro i w hj hw
    have e : i = D 0 * D 1 := by omega
    subst e
    rw [al_12355]
    simp (disch := (first | omega | exact aCat_8 (by with_unfolding_all rfl) | exact rk_lt (by with_unfolding_all rfl) | exact aCat_16 (by with_unfolding_all rfl) | exact rk_eq (by with_unfolding_all rfl) | assumption | exact b2n_lt _ | exact id_b (by with_unfolding_all rfl) | (simp (disch := omega) only [u2_same, u2_ab, u2_aq]; done) | (simp (disch := omega) only [u2_same, u2_ab, u2_aq]; omega) | fail)) only [al_12352, wp_iload_1, wk_1, wn_lt_t, wn_lt_f, wk_9, wn_le_t, wn_le_f, wp_jsr, al_12353, wk_m1, wp_ireturn, al_12354, wl_0, wp_lstore_2, wk_0, wp_istore_4, wp_iload_4, wp_aloadr_0, wp_aloadk_0, hg_0_2, hg_5_2, wn_ge_t, wn_ge_f, hg_0_7, hg_20_0, ha_21l, ha_21s, hg_22_0, ha_23l, ha_23s, hg_24_0, ha_25l, ha_25s, wp_isub, wn_gt_t, wn_gt_f, wp_lload_2, wl_1, wp_lshl, wp_lor, al_12356, wp_iinc_4_1, wp_goto, hg_0_16, hg_20_1, hg_22_1, hg_24_1, wl_m1, wp_lxor, wp_land, hg_20_3, hg_22_3, hg_24_3, hg_0_1, wc_237, nl_i, nl_r, nl_k, nl_j, nl_l, nI_add, pk_mul, pk_sub, tl_s, tl_n, aL_inl, u2_same, u2_ab, u2_aq, nI_l, lN_i, Nat.add_zero, Nat.zero_add, Nat.zero_le, true_and, and_true, b2n_10, b2n_T, b2n_F, b2n_0, Decidable.not_not, not_true_eq_false, not_false_eq_true, Nat.reduceAdd, Nat.reduceMul, Nat.reduceSub, h4]
    exact hK w hw
  | succ j ih =>
    intro i w hj hw
    have e21 : N 21 i = N 89 i := h89.2.2.2.1 i (by omega)
    have h9 := (h89.1.1 i (by omega)).1
    rw [al_12355]
    by_cases z : N 89 i ≤ 9 - p
    · simp (disch := (first | omega | exact aCat_8 (by with_unfolding_all rfl) | exact rk_lt (by with_unfolding_all rfl) | exact aCat_16 (by with_unfolding_all rfl) | exact rk_eq (by with_unfolding_all rfl) | assumption | exact b2n_lt _ | exact id_b (by with_unfolding_all rfl) | (simp (disch := omega) only [u2_same, u2_ab, u2_aq]; done) | (simp (disch := omega) only [u2_same, u2_ab, u2_aq]; omega) | fail)) only [al_12352, wp_iload_1, wk_1, wn_lt_t, wn_lt_f, wk_9, wn_le_t, wn_le_f, wp_jsr, al_12353, wk_m1, wp_ireturn, al_12354, wl_0, wp_lstore_2, wk_0, wp_istore_4, wp_iload_4, wp_aloadr_0, wp_aloadk_0, hg_0_2, hg_5_2, wn_ge_t, wn_ge_f, hg_0_7, hg_20_0, ha_21l, ha_21s, hg_22_0, ha_23l, ha_23s, hg_24_0, ha_25l, ha_25s, wp_isub, wn_gt_t, wn_gt_f, wp_lload_2, wl_1, wp_lshl, wp_lor, al_12356, wp_iinc_4_1, wp_goto, hg_0_16, hg_20_1, hg_22_1, hg_24_1, wl_m1, wp_lxor, wp_land, hg_20_3, hg_22_3, hg_24_3, hg_0_1, wc_237, nl_i, nl_r, nl_k, nl_j, nl_l, nI_add, pk_mul, pk_sub, tl_s, tl_n, aL_inl, u2_same, u2_ab, u2_aq, nI_l, lN_i, Nat.add_zero, Nat.zero_add, Nat.zero_le, true_and, and_true, b2n_10, b2n_T, b2n_F, b2n_0, Decidable.not_not, not_true_eq_false, not_false_eq_true, Nat.reduceAdd, Nat.reduceMul, Nat.reduceSub, h4, e21]
      refine ih (i + 1) _ (by omega) ?_
      intro g hg
      rw [tb_or, hw g hg, tb_p2 (by omega) hg]
      by_cases e : g = i
      · subst e
        simp [z]
      · by_cases l : g < i
        · have : g < i + 1 := by omega
          simp [l, this, e]
        · have : ¬ g < i + 1 := by omega
          simp [l, this, e]
    · simp (disch := (first | omega | exact aCat_8 (by with_unfolding_all rfl) | exact rk_lt (by with_unfolding_all rfl) | exact aCat_16 (by with_unfolding_all rfl) | exact rk_eq (by with_unfolding_all rfl) | assumption | exact b2n_lt _ | exact id_b (by with_unfolding_all rfl) | (simp (disch := omega) only [u2_same, u2_ab, u2_aq]; done) | (simp (disch := omega) only [u2_same, u2_ab, u2_aq]; omega) | fail)) only [al_12352, wp_iload_1, wk_1, wn_lt_t, wn_lt_f, wk_9, wn_le_t, wn_le_f, wp_jsr, al_12353, wk_m1, wp_ireturn, al_12354, wl_0, wp_lstore_2, wk_0, wp_istore_4, wp_iload_4, wp_aloadr_0, wp_aloadk_0, hg_0_2, hg_5_2, wn_ge_t, wn_ge_f, hg_0_7, hg_20_0, ha_21l, ha_21s, hg_22_0, ha_23l, ha_23s, hg_24_0, ha_25l, ha_25s, wp_isub, wn_gt_t, wn_gt_f, wp_lload_2, wl_1, wp_lshl, wp_lor, al_12356, wp_iinc_4_1, wp_goto, hg_0_16, hg_20_1, hg_22_1, hg_24_1, wl_m1, wp_lxor, wp_land, hg_20_3, hg_22_3, hg_24_3, hg_0_1, wc_237, nl_i, nl_r, nl_k, nl_j, nl_l, nI_add, pk_mul, pk_sub, tl_s, tl_n, aL_inl, u2_same, u2_ab, u2_aq, nI_l, lN_i, Nat.add_zero, Nat.zero_add, Nat.zero_le, true_and, and_true, b2n_10, b2n_T, b2n_F, b2n_0, Decidable.not_not, not_true_eq_false, not_false_eq_true, Nat.reduceAdd, Nat.reduceMul, Nat.reduceSub, h4, e21]
      refine ih (i + 1) _ (by omega) ?_
      intro g hg
      rw [hw g hg]
      by_cases e : g = i
      · subst e
        simp [z]
      · by_cases l : g < i
        · have : g < i + 1 := by omega
          simp [l, this]
        · have : ¬ g < i + 1 := by omega
          simp [l, this]
theorem k_193 {p : Nat} (h : invB D N I J t) (hp1 : 1 ≤ p) (hp9 : p ≤ 9)
    (hS : ∀ k, k < 36 → flF (D 0) (D 1) (wyO D N p) (wyA D) k (N 89 108) → ansC D N I J x (.int (nI (k + 1))) (k + 1) (fun e => lN (wyQ D N p k e)) (qInt Q))
    (hNo : (∀ k, k < 36 → wyL D N p k (N 89 108) = false) → ∀ (J' : Nat → Nat → Int64), rsO N N I I J J' → qInt Q (some (.int (-2))) (hp D N I J' x)) : aMm ko d 193 [.ref 0, .int (nI p)] (hp D N I J x) Q := by
  have hF := dm_F h.1.1
  have h89 := h.2.2.2.2.1
  have hA := inv_rv h
  have hx := l_193 (ko := ko) (d := d) (x := x) (Q := Q) h hp1 hp9 (by
    intro w hw
    have e203 : N 20 3 = N 89 108 := hA.2.1.2.2.1
    have hdp : ∀ g, g < 64 → tb (w &&& (J 20 1 ^^^ -1)) g = wyO D N p g := by
      intro g hg
      rw [tb_and, hw g hg, tb_not hg]
      unfold wyO
      by_cases z : g < D 0 * D 1
      · rw [wl_tb (R := D 0) (C := D 1) hA.2.1 hF.1 g z]
        by_cases y : N 89 g ≤ 9 - p
        · simp [z, y]
        · simp [z, y]
      · simp [z]
    have hl0 : ∀ g, g < 64 → tb (J 5 4 &&& (w &&& (J 20 1 ^^^ -1))) g = wyL D N p 0 g := by
      intro g hg
      rw [tb_and, hdp g hg, (h.1.2.2.2.2.2.2 g hg).2.1, h.1.2.1, h.1.2.2.1]
      show _ = (wyA D g && wyO D N p g)
      unfold wyA wyO
      by_cases z : g < D 0 * D 1
      · simp [z]
      · simp [z]
    have hy := l_237 (ko := ko) (d := d) (x := x) (Q := qInt Q) h hdp hS hNo 36 0 J (J 5 4 &&& (w &&& (J 20 1 ^^^ -1))) rfl (fun _ _ _ => rfl) (fun i hi => absurd hi (Nat.not_lt_zero i)) hl0 (fun i hi => absurd hi (Nat.not_lt_zero i))
    rw [al_12357]
    simp (disch := (first | omega | exact aCat_8 (by with_unfolding_all rfl) | exact rk_lt (by with_unfolding_all rfl) | exact aCat_16 (by with_unfolding_all rfl) | exact rk_eq (by with_unfolding_all rfl) | assumption | exact b2n_lt _ | exact id_b (by with_unfolding_all rfl) | (simp (disch := omega) only [u2_same, u2_ab, u2_aq]; done) | (simp (disch := omega) only [u2_same, u2_ab, u2_aq]; omega) | fail)) only [al_12352, wp_iload_1, wk_1, wn_lt_t, wn_lt_f, wk_9, wn_le_t, wn_le_f, wp_jsr, al_12353, wk_m1, wp_ireturn, al_12354, wl_0, wp_lstore_2, wk_0, wp_istore_4, wp_iload_4, wp_aloadr_0, wp_aloadk_0, hg_0_2, hg_5_2, wn_ge_t, wn_ge_f, hg_0_7, hg_20_0, ha_21l, ha_21s, hg_22_0, ha_23l, ha_23s, hg_24_0, ha_25l, ha_25s, wp_isub, wn_gt_t, wn_gt_f, wp_lload_2, wl_1, wp_lshl, wp_lor, al_12356, wp_iinc_4_1, wp_goto, al_12357, hg_0_16, hg_20_1, hg_22_1, hg_24_1, wl_m1, wp_lxor, wp_land, hg_20_3, hg_22_3, hg_24_3, hg_0_1, wc_237, nl_i, nl_r, nl_k, nl_j, nl_l, nI_add, pk_mul, pk_sub, tl_s, tl_n, aL_inl, u2_same, u2_ab, u2_aq, nI_l, lN_i, Nat.add_zero, Nat.zero_add, Nat.zero_le, true_and, and_true, b2n_10, b2n_T, b2n_F, b2n_0, Decidable.not_not, not_true_eq_false, not_false_eq_true, Nat.reduceAdd, Nat.reduceMul, Nat.reduceSub, e203]
    refine mm_mono (Q := qInt Q) ?_ ?_
    · rw [me_237]
      simp (disch := (first | omega | exact aCat_8 (by with_unfolding_all rfl) | exact rk_lt (by with_unfolding_all rfl) | exact aCat_16 (by with_unfolding_all rfl) | exact rk_eq (by with_unfolding_all rfl) | assumption | exact b2n_lt _ | exact id_b (by with_unfolding_all rfl) | (simp (disch := omega) only [u2_same, u2_ab, u2_aq]; done) | (simp (disch := omega) only [u2_same, u2_ab, u2_aq]; omega) | fail)) only [al_15168, wp_aloadr_1, wp_aloadk_1, hg_5_4, wp_lload_2, wp_land, wp_lstore_6, wk_0, wp_istore_8, wp_jsr, wp_iload_8, wk_36, wn_ge_t, wn_ge_f, wp_aloadr_0, wp_aloadk_0, hg_73_2, ha_76l, ha_76s, wp_lload_6, wp_iload_4, wc_161, t_161, wk_1, wn_ne_t, wn_ne_f, wp_aloadr_5, wp_aloadk_5, wc_238, wp_iadd, wp_ireturn, al_15170, wc_243, wp_lor, wp_iinc_8_1, wp_goto, al_15171, wk_m2, nl_i, nl_r, nl_k, nl_j, nl_l, nI_add, pk_mul, pk_sub, tl_s, tl_n, aL_inl, u2_same, u2_ab, u2_aq, nI_l, lN_i, Nat.add_zero, Nat.zero_add, Nat.zero_le, true_and, and_true, b2n_10, b2n_T, b2n_F, b2n_0, Decidable.not_not, not_true_eq_false, not_false_eq_true, Nat.reduceAdd, Nat.reduceMul, Nat.reduceSub]
      exact hy
    · rintro v σ1 ⟨⟨z, rfl⟩, hq⟩
      simp (disch := (first | omega | exact aCat_8 (by with_unfolding_all rfl) | exact rk_lt (by with_unfolding_all rfl) | exact aCat_16 (by with_unfolding_all rfl) | exact rk_eq (by with_unfolding_all rfl) | assumption | exact b2n_lt _ | exact id_b (by with_unfolding_all rfl) | (simp (disch := omega) only [u2_same, u2_ab, u2_aq]; done) | (simp (disch := omega) only [u2_same, u2_ab, u2_aq]; omega) | fail)) only [al_12352, wp_iload_1, wk_1, wn_lt_t, wn_lt_f, wk_9, wn_le_t, wn_le_f, wp_jsr, al_12353, wk_m1, wp_ireturn, al_12354, wl_0, wp_lstore_2, wk_0, wp_istore_4, wp_iload_4, wp_aloadr_0, wp_aloadk_0, hg_0_2, hg_5_2, wn_ge_t, wn_ge_f, hg_0_7, hg_20_0, ha_21l, ha_21s, hg_22_0, ha_23l, ha_23s, hg_24_0, ha_25l, ha_25s, wp_isub, wn_gt_t, wn_gt_f, wp_lload_2, wl_1, wp_lshl, wp_lor, al_12356, wp_iinc_4_1, wp_goto, al_12357, hg_0_16, hg_20_1, hg_22_1, hg_24_1, wl_m1, wp_lxor, wp_land, hg_20_3, hg_22_3, hg_24_3, hg_0_1, wc_237, nl_i, nl_r, nl_k, nl_j, nl_l, nI_add, pk_mul, pk_sub, tl_s, tl_n, aL_inl, u2_same, u2_ab, u2_aq, nI_l, lN_i, Nat.add_zero, Nat.zero_add, Nat.zero_le, true_and, and_true, b2n_10, b2n_T, b2n_F, b2n_0, Decidable.not_not, not_true_eq_false, not_false_eq_true, Nat.reduceAdd, Nat.reduceMul, Nat.reduceSub]
      exact hq) (D 0 * D 1) 0 (lN 0) (by omega) (fun g hg => by rw [tb_0]; simp)
  rw [me_193]
  simp (disch := (first | omega | exact aCat_8 (by with_unfolding_all rfl) | exact rk_lt (by with_unfolding_all rfl) | exact aCat_16 (by with_unfolding_all rfl) | exact rk_eq (by with_unfolding_all rfl) | assumption | exact b2n_lt _ | exact id_b (by with_unfolding_all rfl) | (simp (disch := omega) only [u2_same, u2_ab, u2_aq]; done) | (simp (disch := omega) only [u2_same, u2_ab, u2_aq]; omega) | fail)) only [al_12352, wp_iload_1, wk_1, wn_lt_t, wn_lt_f, wk_9, wn_le_t, wn_le_f, wp_jsr, al_12353, wk_m1, wp_ireturn, al_12354, wl_0, wp_lstore_2, wk_0, wp_istore_4, wp_iload_4, wp_aloadr_0, wp_aloadk_0, hg_0_2, hg_5_2, wn_ge_t, wn_ge_f, hg_0_7, hg_20_0, ha_21l, ha_21s, hg_22_0, ha_23l, ha_23s, hg_24_0, ha_25l, ha_25s, wp_isub, wn_gt_t, wn_gt_f, wp_lload_2, wl_1, wp_lshl, wp_lor, al_12356, wp_iinc_4_1, wp_goto, al_12357, hg_0_16, hg_20_1, hg_22_1, hg_24_1, wl_m1, wp_lxor, wp_land, hg_20_3, hg_22_3, hg_24_3, hg_0_1, wc_237, nl_i, nl_r, nl_k, nl_j, nl_l, nI_add, pk_mul, pk_sub, tl_s, tl_n, aL_inl, u2_same, u2_ab, u2_aq, nI_l, lN_i, Nat.add_zero, Nat.zero_add, Nat.zero_le, true_and, and_true, b2n_10, b2n_T, b2n_F, b2n_0, Decidable.not_not, not_true_eq_false, not_false_eq_true, Nat.reduceAdd, Nat.reduceMul, Nat.reduceSub]
  exact hx
end Y2
