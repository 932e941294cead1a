/-! fits: the reference, the pair. From wip/whole/src. -/
section F3
variable {ko : aKo} {d k : Nat} {is : List Instr} {ls st : List Value} {σ : aH} {D : Nat → Nat} {N : Nat → Nat → Nat} {I : Nat → Nat → Int32} {J : Nat → Nat → Int64} {x t : Nat} {Q : Option Value → aH → Prop} {P : (Option Value ⊕ Unit) → aH → Prop}
/-- only scratch of the reference has changed, and no row was told -/
def rqO (N0 N : Nat → Nat → Nat) (I0 I : Nat → Nat → Int32) : Prop := qN N N0 ∧ sI I I0 ∧ N 86 1 = N0 86 1
theorem th_rq {N0 : Nat → Nat → Nat} {I0 : Nat → Nat → Int32} {S : Nat → Nat} (h : thO N0 N I0 I S) : rqO N0 N I0 I := h.2
theorem th_col {N0 : Nat → Nat → Nat} {I0 : Nat → Nat → Int32} {J0 : Nat → Nat → Int64} {c : Nat} (h : invB D N0 I0 J0 t) (hr : rqO N0 N I0 I) : thO N0 (u2 (setRow N 90 (N 89)) 90 108 c) I0 I (upn (N0 89) 108 c) := by
  have e : N 89 = N0 89 := by funext q; exact hr.1 89 q rfl
  refine ⟨?_, qN_u (qN_w90 hr.1 (fun q hq => ?_)) rfl, hr.2.1, ?_⟩
  · funext q
    rw [u2_rd, setRow_s, e, upn]
    by_cases z : q = 108
    · rw [if_pos ⟨rfl, z⟩, if_pos z]
    · rw [if_neg (fun y => z y.2), if_neg z]
  · rw [e, h.2.2.2.2.1.1.2.2.2.2 q hq, h.2.2.2.2.2.2.2.2.2 q hq]
  · rw [u2_ab (by decide), setRow_n (by decide)]; exact hr.2.2
theorem th_cg {N0 : Nat → Nat → Nat} {I0 : Nat → Nat → Int32} {J0 : Nat → Nat → Int64} {S : Nat → Nat} {u : Nat} (h : invB D N0 I0 J0 t) (hS : rwG D u S) (hT : thO N0 N I0 I S)
    (hQ : ∀ (N' : Nat → Nat → Nat) (I' : Nat → Nat → Int32), thO N0 N' I0 I' S → crO N' (crsS D N0 S) → Q none (hp D N' I' J x)) :
    aMm ko d 25 [.ref 86, .ref 90] (hp D N I J x) Q := by
  obtain ⟨h9, hN, hI, h1⟩ := hT
  have hs := sN_sm (qN_s hN)
  refine t_25 (r := 90) (Or.inr rfl) h.1.1 (by rw [h9]; exact hS.1) (smR_rl hs (inv_rl h)) ?_
  intro N' I' hc hN' hI'
  have hcc : crs0 (D 0) (D 1) (dsl (D 1) N (N 90)) (wlS (N 90)) (N 90 108) = crsS D N0 S := by
    rw [h9, smR_dsl hs]
    rfl
  rw [hcc] at hc
  refine hQ N' I' ⟨?_, qN_t (rN_q hN') hN, sI_t (rI_s hI') hI, (hN' 86 1 rfl).trans h1⟩ hc
  rw [← h9]
  funext q
  exact hN' 90 q rfl
theorem th_1g {N0 : Nat → Nat → Nat} {I0 : Nat → Nat → Int32} {J0 : Nat → Nat → Int64} {S : Nat → Nat} {u : Nat} (h : invB D N0 I0 J0 t) (hS : rwG D u S) (hu : u + 1 < 1000000000) (hT : thO N0 N I0 I S)
    (hQ : ∀ (N' : Nat → Nat → Nat) (I' : Nat → Nat → Int32), thO N0 N' I0 I' (itS D N0 S 1) → crO N' (crsS D N0 S) → Q none (hp D N' I' J x)) :
    aMm ko d 41 [.ref 86, .ref 90] (hp D N I J x) Q := by
  obtain ⟨h9, hN, hI, h1⟩ := hT
  have hs := sN_sm (qN_s hN)
  have hw1 := itS_O (N := N0) h.1.1 hS.1 1 (by have := hS.2.2.1; omega)
  refine t_41 (r := 90) (Or.inr rfl) h.1.1 (by rw [h9]; exact hS.1) (smR_rl hs (inv_rl h)) ?_
  intro N' I' hc hS' hN' hI'
  rw [h9, smR_crs hs] at hc
  rw [h9, smR_td hs] at hS'
  refine hQ N' I' ⟨hS', qN_t (rN_q9 hN' ?_) hN, sI_t (rI_s hI') hI, (hN' 86 1 rfl (by decide)).trans h1⟩ hc
  intro q hq
  rw [hS', h9, hS.1.2.2.2.2 q hq]
  exact hw1.2.2.2.2 q hq
theorem l_89i {N0 : Nat → Nat → Nat} {I0 : Nat → Nat → Int32} {J0 : Nat → Nat → Int64} {c i : Nat} (h : invB D N0 I0 J0 t) (hN : qN N N0) (hi : i ≤ 20) (hO : crO N (fcS D N0 c i))
    (hK : aWp ko d 89 (aP.1 (Int.toNat 5702)) [.ref 86, .int (nI c), .int (nI (b2n (okO (N0 114) (senB D N0 c) (N0 86 46) (i + 1) = true))), .int (nI i), .int (nI (N0 86 46))] [] (hp D N I J x) (aL Q)) :
    ∀ (m j : Nat), j + m = N0 86 46 → aWp ko d 89 (aP.1 (Int.toNat 5698)) [.ref 86, .int (nI c), .int (nI (b2n (okI (N0 114) (senB D N0 c) (N0 86 46) i j = true))), .int (nI i), .int (nI j)] [] (hp D N I J x) (aL Q) := by
  have hS := h.2.2.2.2.2.2.2.1
  have h10 := hS.2.1
  have hF := dm_F h.1.1
  have e46 : N 86 46 = N0 86 46 := hN 86 46 rfl
  intro m
  induction m with
  | zero =>
    intro j hj
    have e : j = N0 86 46 := by omega
    subst e
    rw [okI_e, al_5698]
    simp (disch := (first | omega | exact aCat_8 (by with_unfolding_all rfl) | exact rk_lt (by with_unfolding_all rfl) | exact aCat_16 (by with_unfolding_all rfl) | exact rk_eq (by with_unfolding_all rfl) | assumption | exact b2n_lt _ | exact id_b (by with_unfolding_all rfl) | (simp (disch := omega) only [u2_same, u2_ab, u2_aq]; done) | (simp (disch := omega) only [u2_same, u2_ab, u2_aq]; omega) | fail)) only [al_5696, wp_aloadr_0, wp_aloadk_0, wc_60, hg_86_9, ha_90l, ha_90s, wk_108, wp_iload_1, wk_1, wp_istore_2, wk_0, wp_istore_3, wp_jsr, wp_iload_3, wk_20, wn_gt_t, wn_gt_f, wc_25, wp_istore_4, wp_iload_4, hg_86_46, wn_ge_t, wn_ge_f, wp_iload_2, wz_eq_t, wz_eq_f, wb_eq_t, wb_eq_f, wm_eq_1, wm_eq_2, hg_86_47, ha_114l, ha_114s, wn_ne_t, wn_ne_f, hg_86_23, ha_98l, ha_98s, hg_86_48, ha_115l, ha_115s, wc_17, t_17, hg_86_49, ha_116l, ha_116s, al_5699, wp_goto, al_5700, al_5701, wp_iinc_4_1, wc_41, wp_iinc_3_1, al_5703, wp_freturn0, wp_freturn1, wp_freturnb, nl_i, nl_r, nl_k, nl_j, nl_l, nI_add, pk_mul, pk_sub, tl_s, tl_n, aL_inl, u2_same, u2_ab, u2_aq, nI_l, lN_i, Nat.add_zero, Nat.zero_add, Nat.zero_le, true_and, and_true, b2n_10, b2n_T, b2n_F, b2n_0, Decidable.not_not, not_true_eq_false, not_false_eq_true, Nat.reduceAdd, Nat.reduceMul, Nat.reduceSub, e46]
    exact hK
  | succ m ih =>
    intro j hj
    obtain ⟨s1, s2, s3, s4, s5, s6⟩ := hS.2.2 j (by omega)
    have e114 : N 114 j = N0 114 j := hN 114 j rfl
    have e115 : N 115 j = N0 115 j := hN 115 j rfl
    have e116 : N 116 j = N0 116 j := hN 116 j rfl
    have e98 := hO.2.2.2 (N0 115 j) (by omega)
    have ih1 := ih (j + 1) (by omega)
    rw [okI_s] at ih1
    rw [al_5698]
    by_cases hb : okI (N0 114) (senB D N0 c) (N0 86 46) i j = true
    · rw [hb, Bool.true_and] at ih1
      rw [b2n_t hb]
      by_cases hT : N0 114 j = i
      · have hs : senB D N0 c j = decide (b2n (fcO D N0 c i (N0 115 j) = true) = N0 116 j) := by
          unfold senB
          rw [hT]
        rw [hs, decide_eq_true hT, Bool.not_true, Bool.false_or] at ih1
        have hfo : b2n (onP (fcS D N0 c i).1 (fcS D N0 c i).2.1 (N0 115 j) = true) = b2n (fcO D N0 c i (N0 115 j) = true) := rfl
        rw [hfo] at e98
        have hle := b2n_le (fcO D N0 c i (N0 115 j) = true)
        generalize b2n (fcO D N0 c i (N0 115 j) = true) = v at e98 hle ih1
        have hvv : b2n (¬ v = 0) = v := by
          have hv2 : v = 0 ∨ v = 1 := by omega
          rcases hv2 with rfl | rfl <;> rfl
        by_cases z : v = N0 116 j
        · rw [decide_eq_true z, b2n_t rfl] at ih1
          simp (disch := (first | omega | exact aCat_8 (by with_unfolding_all rfl) | exact rk_lt (by with_unfolding_all rfl) | exact aCat_16 (by with_unfolding_all rfl) | exact rk_eq (by with_unfolding_all rfl) | assumption | exact b2n_lt _ | exact id_b (by with_unfolding_all rfl) | (simp (disch := omega) only [u2_same, u2_ab, u2_aq]; done) | (simp (disch := omega) only [u2_same, u2_ab, u2_aq]; omega) | fail)) only [al_5696, wp_aloadr_0, wp_aloadk_0, wc_60, hg_86_9, ha_90l, ha_90s, wk_108, wp_iload_1, wk_1, wp_istore_2, wk_0, wp_istore_3, wp_jsr, wp_iload_3, wk_20, wn_gt_t, wn_gt_f, wc_25, wp_istore_4, wp_iload_4, hg_86_46, wn_ge_t, wn_ge_f, wp_iload_2, wz_eq_t, wz_eq_f, wb_eq_t, wb_eq_f, wm_eq_1, wm_eq_2, hg_86_47, ha_114l, ha_114s, wn_ne_t, wn_ne_f, hg_86_23, ha_98l, ha_98s, hg_86_48, ha_115l, ha_115s, wc_17, t_17, hg_86_49, ha_116l, ha_116s, al_5699, wp_goto, al_5700, al_5701, wp_iinc_4_1, wc_41, wp_iinc_3_1, al_5703, wp_freturn0, wp_freturn1, wp_freturnb, nl_i, nl_r, nl_k, nl_j, nl_l, nI_add, pk_mul, pk_sub, tl_s, tl_n, aL_inl, u2_same, u2_ab, u2_aq, nI_l, lN_i, Nat.add_zero, Nat.zero_add, Nat.zero_le, true_and, and_true, b2n_10, b2n_T, b2n_F, b2n_0, Decidable.not_not, not_true_eq_false, not_false_eq_true, Nat.reduceAdd, Nat.reduceMul, Nat.reduceSub, e46, e114, e115, e116, e98, hT, hvv]
          exact ih1
        · rw [decide_eq_false z, b2n_f (by decide)] at ih1
          simp (disch := (first | omega | exact aCat_8 (by with_unfolding_all rfl) | exact rk_lt (by with_unfolding_all rfl) | exact aCat_16 (by with_unfolding_all rfl) | exact rk_eq (by with_unfolding_all rfl) | assumption | exact b2n_lt _ | exact id_b (by with_unfolding_all rfl) | (simp (disch := omega) only [u2_same, u2_ab, u2_aq]; done) | (simp (disch := omega) only [u2_same, u2_ab, u2_aq]; omega) | fail)) only [al_5696, wp_aloadr_0, wp_aloadk_0, wc_60, hg_86_9, ha_90l, ha_90s, wk_108, wp_iload_1, wk_1, wp_istore_2, wk_0, wp_istore_3, wp_jsr, wp_iload_3, wk_20, wn_gt_t, wn_gt_f, wc_25, wp_istore_4, wp_iload_4, hg_86_46, wn_ge_t, wn_ge_f, wp_iload_2, wz_eq_t, wz_eq_f, wb_eq_t, wb_eq_f, wm_eq_1, wm_eq_2, hg_86_47, ha_114l, ha_114s, wn_ne_t, wn_ne_f, hg_86_23, ha_98l, ha_98s, hg_86_48, ha_115l, ha_115s, wc_17, t_17, hg_86_49, ha_116l, ha_116s, al_5699, wp_goto, al_5700, al_5701, wp_iinc_4_1, wc_41, wp_iinc_3_1, al_5703, wp_freturn0, wp_freturn1, wp_freturnb, nl_i, nl_r, nl_k, nl_j, nl_l, nI_add, pk_mul, pk_sub, tl_s, tl_n, aL_inl, u2_same, u2_ab, u2_aq, nI_l, lN_i, Nat.add_zero, Nat.zero_add, Nat.zero_le, true_and, and_true, b2n_10, b2n_T, b2n_F, b2n_0, Decidable.not_not, not_true_eq_false, not_false_eq_true, Nat.reduceAdd, Nat.reduceMul, Nat.reduceSub, e46, e114, e115, e116, e98, hT, hvv]
          exact ih1
      · rw [decide_eq_false hT, Bool.not_false, Bool.true_or, b2n_t rfl] at ih1
        simp (disch := (first | omega | exact aCat_8 (by with_unfolding_all rfl) | exact rk_lt (by with_unfolding_all rfl) | exact aCat_16 (by with_unfolding_all rfl) | exact rk_eq (by with_unfolding_all rfl) | assumption | exact b2n_lt _ | exact id_b (by with_unfolding_all rfl) | (simp (disch := omega) only [u2_same, u2_ab, u2_aq]; done) | (simp (disch := omega) only [u2_same, u2_ab, u2_aq]; omega) | fail)) only [al_5696, wp_aloadr_0, wp_aloadk_0, wc_60, hg_86_9, ha_90l, ha_90s, wk_108, wp_iload_1, wk_1, wp_istore_2, wk_0, wp_istore_3, wp_jsr, wp_iload_3, wk_20, wn_gt_t, wn_gt_f, wc_25, wp_istore_4, wp_iload_4, hg_86_46, wn_ge_t, wn_ge_f, wp_iload_2, wz_eq_t, wz_eq_f, wb_eq_t, wb_eq_f, wm_eq_1, wm_eq_2, hg_86_47, ha_114l, ha_114s, wn_ne_t, wn_ne_f, hg_86_23, ha_98l, ha_98s, hg_86_48, ha_115l, ha_115s, wc_17, t_17, hg_86_49, ha_116l, ha_116s, al_5699, wp_goto, al_5700, al_5701, wp_iinc_4_1, wc_41, wp_iinc_3_1, al_5703, wp_freturn0, wp_freturn1, wp_freturnb, nl_i, nl_r, nl_k, nl_j, nl_l, nI_add, pk_mul, pk_sub, tl_s, tl_n, aL_inl, u2_same, u2_ab, u2_aq, nI_l, lN_i, Nat.add_zero, Nat.zero_add, Nat.zero_le, true_and, and_true, b2n_10, b2n_T, b2n_F, b2n_0, Decidable.not_not, not_true_eq_false, not_false_eq_true, Nat.reduceAdd, Nat.reduceMul, Nat.reduceSub, e46, e114]
        exact ih1
    · have hbf : okI (N0 114) (senB D N0 c) (N0 86 46) i j = false := by simpa using hb
      rw [hbf, Bool.false_and, b2n_f (by decide)] at ih1
      rw [b2n_f hb]
      simp (disch := (first | omega | exact aCat_8 (by with_unfolding_all rfl) | exact rk_lt (by with_unfolding_all rfl) | exact aCat_16 (by with_unfolding_all rfl) | exact rk_eq (by with_unfolding_all rfl) | assumption | exact b2n_lt _ | exact id_b (by with_unfolding_all rfl) | (simp (disch := omega) only [u2_same, u2_ab, u2_aq]; done) | (simp (disch := omega) only [u2_same, u2_ab, u2_aq]; omega) | fail)) only [al_5696, wp_aloadr_0, wp_aloadk_0, wc_60, hg_86_9, ha_90l, ha_90s, wk_108, wp_iload_1, wk_1, wp_istore_2, wk_0, wp_istore_3, wp_jsr, wp_iload_3, wk_20, wn_gt_t, wn_gt_f, wc_25, wp_istore_4, wp_iload_4, hg_86_46, wn_ge_t, wn_ge_f, wp_iload_2, wz_eq_t, wz_eq_f, wb_eq_t, wb_eq_f, wm_eq_1, wm_eq_2, hg_86_47, ha_114l, ha_114s, wn_ne_t, wn_ne_f, hg_86_23, ha_98l, ha_98s, hg_86_48, ha_115l, ha_115s, wc_17, t_17, hg_86_49, ha_116l, ha_116s, al_5699, wp_goto, al_5700, al_5701, wp_iinc_4_1, wc_41, wp_iinc_3_1, al_5703, wp_freturn0, wp_freturn1, wp_freturnb, nl_i, nl_r, nl_k, nl_j, nl_l, nI_add, pk_mul, pk_sub, tl_s, tl_n, aL_inl, u2_same, u2_ab, u2_aq, nI_l, lN_i, Nat.add_zero, Nat.zero_add, Nat.zero_le, true_and, and_true, b2n_10, b2n_T, b2n_F, b2n_0, Decidable.not_not, not_true_eq_false, not_false_eq_true, Nat.reduceAdd, Nat.reduceMul, Nat.reduceSub, e46]
      exact ih1
theorem l_89 {N0 : Nat → Nat → Nat} {I0 : Nat → Nat → Int32} {J0 : Nat → Nat → Int64} {c : Nat} (h : invB D N0 I0 J0 t) (ht : t + 300 < 1000000000) (hc : c < D 1)
    (hQ : ∀ (N' : Nat → Nat → Nat) (I' : Nat → Nat → Int32), rqO N0 N' I0 I' → Q (some (.int (nI (b2n (asn D N0 c = true))))) (hp D N' I' J x)) :
    ∀ (m i : Nat) (N : Nat → Nat → Nat) (I : Nat → Nat → Int32) (w : Value), i + m = 21 → thO N0 N I0 I (itS D N0 (upn (N0 89) 108 c) i) → aWp ko d 89 (aP.1 (Int.toNat 5697)) [.ref 86, .int (nI c), .int (nI (b2n (okO (N0 114) (senB D N0 c) (N0 86 46) i = true))), .int (nI i), w] [] (hp D N I J x) (aL Q) := by
  have hS := h.2.2.2.2.2.2.2.1
  have h10 := hS.2.1
  intro m
  induction m with
  | zero =>
    intro i N I w hj hT
    have e : i = 21 := by omega
    subst e
    rw [okO_e (fun k hk => (hS.2.2 k hk).2.2.2.1), al_5697]
    simp (disch := (first | omega | exact aCat_8 (by with_unfolding_all rfl) | exact rk_lt (by with_unfolding_all rfl) | exact aCat_16 (by with_unfolding_all rfl) | exact rk_eq (by with_unfolding_all rfl) | assumption | exact b2n_lt _ | exact id_b (by with_unfolding_all rfl) | (simp (disch := omega) only [u2_same, u2_ab, u2_aq]; done) | (simp (disch := omega) only [u2_same, u2_ab, u2_aq]; omega) | fail)) only [al_5696, wp_aloadr_0, wp_aloadk_0, wc_60, hg_86_9, ha_90l, ha_90s, wk_108, wp_iload_1, wk_1, wp_istore_2, wk_0, wp_istore_3, wp_jsr, wp_iload_3, wk_20, wn_gt_t, wn_gt_f, wc_25, wp_istore_4, wp_iload_4, hg_86_46, wn_ge_t, wn_ge_f, wp_iload_2, wz_eq_t, wz_eq_f, wb_eq_t, wb_eq_f, wm_eq_1, wm_eq_2, hg_86_47, ha_114l, ha_114s, wn_ne_t, wn_ne_f, hg_86_23, ha_98l, ha_98s, hg_86_48, ha_115l, ha_115s, wc_17, t_17, hg_86_49, ha_116l, ha_116s, al_5699, wp_goto, al_5700, al_5701, wp_iinc_4_1, al_5702, wc_41, wp_iinc_3_1, al_5703, wp_freturn0, wp_freturn1, wp_freturnb, nl_i, nl_r, nl_k, nl_j, nl_l, nI_add, pk_mul, pk_sub, tl_s, tl_n, aL_inl, u2_same, u2_ab, u2_aq, nI_l, lN_i, Nat.add_zero, Nat.zero_add, Nat.zero_le, true_and, and_true, b2n_10, b2n_T, b2n_F, b2n_0, Decidable.not_not, not_true_eq_false, not_false_eq_true, Nat.reduceAdd, Nat.reduceMul, Nat.reduceSub]
    exact hQ N I (th_rq hT)
  | succ m ih =>
    intro i N I w hj hT
    have hG := col_it h hc (show i ≤ 30 by omega) ht
    rw [al_5697]
    simp (disch := (first | omega | exact aCat_8 (by with_unfolding_all rfl) | exact rk_lt (by with_unfolding_all rfl) | exact aCat_16 (by with_unfolding_all rfl) | exact rk_eq (by with_unfolding_all rfl) | assumption | exact b2n_lt _ | exact id_b (by with_unfolding_all rfl) | (simp (disch := omega) only [u2_same, u2_ab, u2_aq]; done) | (simp (disch := omega) only [u2_same, u2_ab, u2_aq]; omega) | fail)) only [al_5696, wp_aloadr_0, wp_aloadk_0, wc_60, hg_86_9, ha_90l, ha_90s, wk_108, wp_iload_1, wk_1, wp_istore_2, wk_0, wp_istore_3, wp_jsr, wp_iload_3, wk_20, wn_gt_t, wn_gt_f, wc_25, wp_istore_4, wp_iload_4, hg_86_46, wn_ge_t, wn_ge_f, wp_iload_2, wz_eq_t, wz_eq_f, wb_eq_t, wb_eq_f, wm_eq_1, wm_eq_2, hg_86_47, ha_114l, ha_114s, wn_ne_t, wn_ne_f, hg_86_23, ha_98l, ha_98s, hg_86_48, ha_115l, ha_115s, wc_17, t_17, hg_86_49, ha_116l, ha_116s, al_5699, wp_goto, al_5700, al_5701, wp_iinc_4_1, al_5702, wc_41, wp_iinc_3_1, al_5703, wp_freturn0, wp_freturn1, wp_freturnb, nl_i, nl_r, nl_k, nl_j, nl_l, nI_add, pk_mul, pk_sub, tl_s, tl_n, aL_inl, u2_same, u2_ab, u2_aq, nI_l, lN_i, Nat.add_zero, Nat.zero_add, Nat.zero_le, true_and, and_true, b2n_10, b2n_T, b2n_F, b2n_0, Decidable.not_not, not_true_eq_false, not_false_eq_true, Nat.reduceAdd, Nat.reduceMul, Nat.reduceSub]
    refine th_cg h hG hT ?_
    intro N1 I1 hT1 hc1
    simp (disch := (first | omega | exact aCat_8 (by with_unfolding_all rfl) | exact rk_lt (by with_unfolding_all rfl) | exact aCat_16 (by with_unfolding_all rfl) | exact rk_eq (by with_unfolding_all rfl) | assumption | exact b2n_lt _ | exact id_b (by with_unfolding_all rfl) | (simp (disch := omega) only [u2_same, u2_ab, u2_aq]; done) | (simp (disch := omega) only [u2_same, u2_ab, u2_aq]; omega) | fail)) only [al_5696, wp_aloadr_0, wp_aloadk_0, wc_60, hg_86_9, ha_90l, ha_90s, wk_108, wp_iload_1, wk_1, wp_istore_2, wk_0, wp_istore_3, wp_jsr, wp_iload_3, wk_20, wn_gt_t, wn_gt_f, wc_25, wp_istore_4, wp_iload_4, hg_86_46, wn_ge_t, wn_ge_f, wp_iload_2, wz_eq_t, wz_eq_f, wb_eq_t, wb_eq_f, wm_eq_1, wm_eq_2, hg_86_47, ha_114l, ha_114s, wn_ne_t, wn_ne_f, hg_86_23, ha_98l, ha_98s, hg_86_48, ha_115l, ha_115s, wc_17, t_17, hg_86_49, ha_116l, ha_116s, al_5699, wp_goto, al_5700, al_5701, wp_iinc_4_1, al_5702, wc_41, wp_iinc_3_1, al_5703, wp_freturn0, wp_freturn1, wp_freturnb, nl_i, nl_r, nl_k, nl_j, nl_l, nI_add, pk_mul, pk_sub, tl_s, tl_n, aL_inl, u2_same, u2_ab, u2_aq, nI_l, lN_i, Nat.add_zero, Nat.zero_add, Nat.zero_le, true_and, and_true, b2n_10, b2n_T, b2n_F, b2n_0, Decidable.not_not, not_true_eq_false, not_false_eq_true, Nat.reduceAdd, Nat.reduceMul, Nat.reduceSub]
    have hx := l_89i (ko := ko) (d := d) (x := x) (Q := Q) (I := I1) (J := J) (c := c) (i := i) (N := N1) h hT1.2.1 (by omega) hc1 (by
      rw [al_5702]
      simp (disch := (first | omega | exact aCat_8 (by with_unfolding_all rfl) | exact rk_lt (by with_unfolding_all rfl) | exact aCat_16 (by with_unfolding_all rfl) | exact rk_eq (by with_unfolding_all rfl) | assumption | exact b2n_lt _ | exact id_b (by with_unfolding_all rfl) | (simp (disch := omega) only [u2_same, u2_ab, u2_aq]; done) | (simp (disch := omega) only [u2_same, u2_ab, u2_aq]; omega) | fail)) only [al_5696, wp_aloadr_0, wp_aloadk_0, wc_60, hg_86_9, ha_90l, ha_90s, wk_108, wp_iload_1, wk_1, wp_istore_2, wk_0, wp_istore_3, wp_jsr, wp_iload_3, wk_20, wn_gt_t, wn_gt_f, wc_25, wp_istore_4, wp_iload_4, hg_86_46, wn_ge_t, wn_ge_f, wp_iload_2, wz_eq_t, wz_eq_f, wb_eq_t, wb_eq_f, wm_eq_1, wm_eq_2, hg_86_47, ha_114l, ha_114s, wn_ne_t, wn_ne_f, hg_86_23, ha_98l, ha_98s, hg_86_48, ha_115l, ha_115s, wc_17, t_17, hg_86_49, ha_116l, ha_116s, al_5699, wp_goto, al_5700, al_5701, wp_iinc_4_1, al_5702, wc_41, wp_iinc_3_1, al_5703, wp_freturn0, wp_freturn1, wp_freturnb, nl_i, nl_r, nl_k, nl_j, nl_l, nI_add, pk_mul, pk_sub, tl_s, tl_n, aL_inl, u2_same, u2_ab, u2_aq, nI_l, lN_i, Nat.add_zero, Nat.zero_add, Nat.zero_le, true_and, and_true, b2n_10, b2n_T, b2n_F, b2n_0, Decidable.not_not, not_true_eq_false, not_false_eq_true, Nat.reduceAdd, Nat.reduceMul, Nat.reduceSub]
      refine th_1g h hG (by omega) hT1 ?_
      intro N2 I2 hT2 _
      simp (disch := (first | omega | exact aCat_8 (by with_unfolding_all rfl) | exact rk_lt (by with_unfolding_all rfl) | exact aCat_16 (by with_unfolding_all rfl) | exact rk_eq (by with_unfolding_all rfl) | assumption | exact b2n_lt _ | exact id_b (by with_unfolding_all rfl) | (simp (disch := omega) only [u2_same, u2_ab, u2_aq]; done) | (simp (disch := omega) only [u2_same, u2_ab, u2_aq]; omega) | fail)) only [al_5696, wp_aloadr_0, wp_aloadk_0, wc_60, hg_86_9, ha_90l, ha_90s, wk_108, wp_iload_1, wk_1, wp_istore_2, wk_0, wp_istore_3, wp_jsr, wp_iload_3, wk_20, wn_gt_t, wn_gt_f, wc_25, wp_istore_4, wp_iload_4, hg_86_46, wn_ge_t, wn_ge_f, wp_iload_2, wz_eq_t, wz_eq_f, wb_eq_t, wb_eq_f, wm_eq_1, wm_eq_2, hg_86_47, ha_114l, ha_114s, wn_ne_t, wn_ne_f, hg_86_23, ha_98l, ha_98s, hg_86_48, ha_115l, ha_115s, wc_17, t_17, hg_86_49, ha_116l, ha_116s, al_5699, wp_goto, al_5700, al_5701, wp_iinc_4_1, al_5702, wc_41, wp_iinc_3_1, al_5703, wp_freturn0, wp_freturn1, wp_freturnb, nl_i, nl_r, nl_k, nl_j, nl_l, nI_add, pk_mul, pk_sub, tl_s, tl_n, aL_inl, u2_same, u2_ab, u2_aq, nI_l, lN_i, Nat.add_zero, Nat.zero_add, Nat.zero_le, true_and, and_true, b2n_10, b2n_T, b2n_F, b2n_0, Decidable.not_not, not_true_eq_false, not_false_eq_true, Nat.reduceAdd, Nat.reduceMul, Nat.reduceSub]
      exact ih (i + 1) N2 I2 _ (by omega) hT2) (N0 86 46) 0 (by omega)
    rw [okI_0] at hx
    exact hx
theorem t_89 {N0 : Nat → Nat → Nat} {I0 : Nat → Nat → Int32} {J0 : Nat → Nat → Int64} {c : Nat} (h : invB D N0 I0 J0 t) (ht : t + 300 < 1000000000) (hc : c < D 1) (hr : rqO N0 N I0 I)
    (hQ : ∀ (N' : Nat → Nat → Nat) (I' : Nat → Nat → Int32), rqO N0 N' I0 I' → Q (some (.int (nI (b2n (asn D N0 c = true))))) (hp D N' I' J x)) :
    aMm ko d 89 [.ref 86, .int (nI c)] (hp D N I J x) Q := by
  have hd6 := h.1.1.2.2.2
  have hz1 : ∀ q, 111 ≤ q → N 89 q = 0 := fun q hq => by rw [hr.1 89 q rfl]; exact h.2.2.2.2.1.1.2.2.2.2 q hq
  have hz2 : ∀ q, 111 ≤ q → N 90 q = 0 := fun q hq => by rw [qN_s hr.1 90 q (kp_90 hq)]; exact h.2.2.2.2.2.2.2.2.2 q hq
  have hx := fun w => l_89 (ko := ko) (d := d) (x := x) (J := J) (Q := Q) h ht hc hQ 21 0 _ _ w (by omega) (th_col (c := c) h hr)
  rw [okO_0, b2n_t rfl] at hx
  rw [me_89]
  simp (disch := (first | omega | exact aCat_8 (by with_unfolding_all rfl) | exact rk_lt (by with_unfolding_all rfl) | exact aCat_16 (by with_unfolding_all rfl) | exact rk_eq (by with_unfolding_all rfl) | assumption | exact b2n_lt _ | exact id_b (by with_unfolding_all rfl) | (simp (disch := omega) only [u2_same, u2_ab, u2_aq]; done) | (simp (disch := omega) only [u2_same, u2_ab, u2_aq]; omega) | fail)) only [al_5696, wp_aloadr_0, wp_aloadk_0, wc_60, hg_86_9, ha_90l, ha_90s, wk_108, wp_iload_1, wk_1, wp_istore_2, wk_0, wp_istore_3, wp_jsr, wp_iload_3, wk_20, wn_gt_t, wn_gt_f, wc_25, wp_istore_4, wp_iload_4, hg_86_46, wn_ge_t, wn_ge_f, wp_iload_2, wz_eq_t, wz_eq_f, wb_eq_t, wb_eq_f, wm_eq_1, wm_eq_2, hg_86_47, ha_114l, ha_114s, wn_ne_t, wn_ne_f, hg_86_23, ha_98l, ha_98s, hg_86_48, ha_115l, ha_115s, wc_17, t_17, hg_86_49, ha_116l, ha_116s, al_5699, wp_goto, al_5700, al_5701, wp_iinc_4_1, al_5702, wc_41, wp_iinc_3_1, al_5703, wp_freturn0, wp_freturn1, wp_freturnb, nl_i, nl_r, nl_k, nl_j, nl_l, nI_add, pk_mul, pk_sub, tl_s, tl_n, aL_inl, u2_same, u2_ab, u2_aq, nI_l, lN_i, Nat.add_zero, Nat.zero_add, Nat.zero_le, true_and, and_true, b2n_10, b2n_T, b2n_F, b2n_0, Decidable.not_not, not_true_eq_false, not_false_eq_true, Nat.reduceAdd, Nat.reduceMul, Nat.reduceSub, t_60 hz1 hz2]
  exact hx _
theorem or_0 (a : Int32) : a ||| nI 0 = a := by
  apply b_ext
  intro i hi
  have e0 : bt (nI 0) i = false := b_zero i
  rw [b_or, e0, Bool.or_false]
theorem l_88 {N0 : Nat → Nat → Nat} {I0 : Nat → Nat → Int32} {J0 : Nat → Nat → Int64} (h : invB D N0 I0 J0 t) (ht : t + 300 < 1000000000)
    (hQ : ∀ (N' : Nat → Nat → Nat) (I' : Nat → Nat → Int32), rqO N0 N' I0 I' → Q (some (.int (nI (fitN D N0 (D 1))))) (hp D N' I' J x)) :
    ∀ (m c : Nat) (N : Nat → Nat → Nat) (I : Nat → Nat → Int32), c + m = D 1 → rqO N0 N I0 I → aWp ko d 88 (aP.1 (Int.toNat 5633)) [.ref 86, .int (nI (fitN D N0 c)), .int (nI c)] [] (hp D N I J x) (aL Q) := by
  have hd6 := h.1.1.2.2.2
  intro m
  induction m with
  | zero =>
    intro c N I hj hr
    have e : c = D 1 := by omega
    subst e
    rw [al_5633]
    simp (disch := (first | omega | exact aCat_8 (by with_unfolding_all rfl) | exact rk_lt (by with_unfolding_all rfl) | exact aCat_16 (by with_unfolding_all rfl) | exact rk_eq (by with_unfolding_all rfl) | assumption | exact b2n_lt _ | exact id_b (by with_unfolding_all rfl) | (simp (disch := omega) only [u2_same, u2_ab, u2_aq]; done) | (simp (disch := omega) only [u2_same, u2_ab, u2_aq]; omega) | fail)) only [al_5632, wk_0, wp_istore_1, wp_istore_2, wp_jsr, wp_iload_2, wp_aloadr_0, wp_aloadk_0, hg_86_4, wn_ge_t, wn_ge_f, wp_iload_1, wc_89, wz_eq_t, wz_eq_f, wb_eq_t, wb_eq_f, wm_eq_1, wm_eq_2, wk_1, wp_ishl, wp_goto, al_5634, al_5635, wp_ior, wp_iinc_2_1, al_5636, wp_ireturn, nl_i, nl_r, nl_k, nl_j, nl_l, nI_add, pk_mul, pk_sub, tl_s, tl_n, aL_inl, u2_same, u2_ab, u2_aq, nI_l, lN_i, Nat.add_zero, Nat.zero_add, Nat.zero_le, true_and, and_true, b2n_10, b2n_T, b2n_F, b2n_0, Decidable.not_not, not_true_eq_false, not_false_eq_true, Nat.reduceAdd, Nat.reduceMul, Nat.reduceSub]
    exact hQ N I hr
  | succ m ih =>
    intro c N I hj hr
    have hc : c < D 1 := by omega
    have hfl := fit_lt (D := D) (N := N0) c
    have h2c : 2 ^ c ≤ 2 ^ 5 := Nat.pow_le_pow_right (by decide) (by omega)
    have h25 : (2 : Nat) ^ 5 = 32 := by decide
    rw [al_5633]
    simp (disch := (first | omega | exact aCat_8 (by with_unfolding_all rfl) | exact rk_lt (by with_unfolding_all rfl) | exact aCat_16 (by with_unfolding_all rfl) | exact rk_eq (by with_unfolding_all rfl) | assumption | exact b2n_lt _ | exact id_b (by with_unfolding_all rfl) | (simp (disch := omega) only [u2_same, u2_ab, u2_aq]; done) | (simp (disch := omega) only [u2_same, u2_ab, u2_aq]; omega) | fail)) only [al_5632, wk_0, wp_istore_1, wp_istore_2, wp_jsr, wp_iload_2, wp_aloadr_0, wp_aloadk_0, hg_86_4, wn_ge_t, wn_ge_f, wp_iload_1, wc_89, wz_eq_t, wz_eq_f, wb_eq_t, wb_eq_f, wm_eq_1, wm_eq_2, wk_1, wp_ishl, wp_goto, al_5634, al_5635, wp_ior, wp_iinc_2_1, al_5636, wp_ireturn, nl_i, nl_r, nl_k, nl_j, nl_l, nI_add, pk_mul, pk_sub, tl_s, tl_n, aL_inl, u2_same, u2_ab, u2_aq, nI_l, lN_i, Nat.add_zero, Nat.zero_add, Nat.zero_le, true_and, and_true, b2n_10, b2n_T, b2n_F, b2n_0, Decidable.not_not, not_true_eq_false, not_false_eq_true, Nat.reduceAdd, Nat.reduceMul, Nat.reduceSub]
    refine t_89 h ht hc hr ?_
    intro N1 I1 hr1
    have hih := ih (c + 1) N1 I1 (by omega) hr1
    by_cases z : asn D N0 c = true
    · have ef : fitN D N0 (c + 1) = fitN D N0 c + 2 ^ c := by rw [fitN, if_pos z]
      have ho := fit_or c (by omega) _ hfl
      rw [ef] at hih
      simp (disch := (first | omega | exact aCat_8 (by with_unfolding_all rfl) | exact rk_lt (by with_unfolding_all rfl) | exact aCat_16 (by with_unfolding_all rfl) | exact rk_eq (by with_unfolding_all rfl) | assumption | exact b2n_lt _ | exact id_b (by with_unfolding_all rfl) | (simp (disch := omega) only [u2_same, u2_ab, u2_aq]; done) | (simp (disch := omega) only [u2_same, u2_ab, u2_aq]; omega) | fail)) only [al_5632, wk_0, wp_istore_1, wp_istore_2, wp_jsr, wp_iload_2, wp_aloadr_0, wp_aloadk_0, hg_86_4, wn_ge_t, wn_ge_f, wp_iload_1, wc_89, wz_eq_t, wz_eq_f, wb_eq_t, wb_eq_f, wm_eq_1, wm_eq_2, wk_1, wp_ishl, wp_goto, al_5634, al_5635, wp_ior, wp_iinc_2_1, al_5636, wp_ireturn, nl_i, nl_r, nl_k, nl_j, nl_l, nI_add, pk_mul, pk_sub, tl_s, tl_n, aL_inl, u2_same, u2_ab, u2_aq, nI_l, lN_i, Nat.add_zero, Nat.zero_add, Nat.zero_le, true_and, and_true, b2n_10, b2n_T, b2n_F, b2n_0, Decidable.not_not, not_true_eq_false, not_false_eq_true, Nat.reduceAdd, Nat.reduceMul, Nat.reduceSub, b2n_t z, ho]
      exact hih
    · have ef : fitN D N0 (c + 1) = fitN D N0 c := by rw [fitN, if_neg z]; rfl
      rw [ef] at hih
      simp (disch := (first | omega | exact aCat_8 (by with_unfolding_all rfl) | exact rk_lt (by with_unfolding_all rfl) | exact aCat_16 (by with_unfolding_all rfl) | exact rk_eq (by with_unfolding_all rfl) | assumption | exact b2n_lt _ | exact id_b (by with_unfolding_all rfl) | (simp (disch := omega) only [u2_same, u2_ab, u2_aq]; done) | (simp (disch := omega) only [u2_same, u2_ab, u2_aq]; omega) | fail)) only [al_5632, wk_0, wp_istore_1, wp_istore_2, wp_jsr, wp_iload_2, wp_aloadr_0, wp_aloadk_0, hg_86_4, wn_ge_t, wn_ge_f, wp_iload_1, wc_89, wz_eq_t, wz_eq_f, wb_eq_t, wb_eq_f, wm_eq_1, wm_eq_2, wk_1, wp_ishl, wp_goto, al_5634, al_5635, wp_ior, wp_iinc_2_1, al_5636, wp_ireturn, nl_i, nl_r, nl_k, nl_j, nl_l, nI_add, pk_mul, pk_sub, tl_s, tl_n, aL_inl, u2_same, u2_ab, u2_aq, nI_l, lN_i, Nat.add_zero, Nat.zero_add, Nat.zero_le, true_and, and_true, b2n_10, b2n_T, b2n_F, b2n_0, Decidable.not_not, not_true_eq_false, not_false_eq_true, Nat.reduceAdd, Nat.reduceMul, Nat.reduceSub, b2n_f z, or_0]
      exact hih
theorem t_88 {N0 : Nat → Nat → Nat} {I0 : Nat → Nat → Int32} {J0 : Nat → Nat → Int64} (h : invB D N0 I0 J0 t) (ht : t + 300 < 1000000000) (hr : rqO N0 N I0 I)
    (hQ : ∀ (N' : Nat → Nat → Nat) (I' : Nat → Nat → Int32), rqO N0 N' I0 I' → Q (some (.int (nI (fitN D N0 (D 1))))) (hp D N' I' J x)) :
    aMm ko d 88 [.ref 86] (hp D N I J x) Q := by
  have hx := l_88 (ko := ko) (d := d) (x := x) (J := J) (Q := Q) h ht hQ (D 1) 0 N I (by omega) hr
  have e0 : fitN D N0 0 = 0 := rfl
  rw [e0] at hx
  rw [me_88]
  simp (disch := (first | omega | exact aCat_8 (by with_unfolding_all rfl) | exact rk_lt (by with_unfolding_all rfl) | exact aCat_16 (by with_unfolding_all rfl) | exact rk_eq (by with_unfolding_all rfl) | assumption | exact b2n_lt _ | exact id_b (by with_unfolding_all rfl) | (simp (disch := omega) only [u2_same, u2_ab, u2_aq]; done) | (simp (disch := omega) only [u2_same, u2_ab, u2_aq]; omega) | fail)) only [al_5632, wk_0, wp_istore_1, wp_istore_2, wp_jsr, wp_iload_2, wp_aloadr_0, wp_aloadk_0, hg_86_4, wn_ge_t, wn_ge_f, wp_iload_1, wc_89, wz_eq_t, wz_eq_f, wb_eq_t, wb_eq_f, wm_eq_1, wm_eq_2, wk_1, wp_ishl, wp_goto, al_5634, al_5635, wp_ior, wp_iinc_2_1, al_5636, wp_ireturn, nl_i, nl_r, nl_k, nl_j, nl_l, nI_add, pk_mul, pk_sub, tl_s, tl_n, aL_inl, u2_same, u2_ab, u2_aq, nI_l, lN_i, Nat.add_zero, Nat.zero_add, Nat.zero_le, true_and, and_true, b2n_10, b2n_T, b2n_F, b2n_0, Decidable.not_not, not_true_eq_false, not_false_eq_true, Nat.reduceAdd, Nat.reduceMul, Nat.reduceSub]
  exact hx
theorem lt_m1 (i : Nat) (hi : i < 2147483648) : (-1 : Int32) < nI i := by
  rw [Int32.lt_iff_toInt_lt, nI_toInt hi]
  show (-1 : Int) < _
  omega
theorem lim_iff {v : Int32} {n : Nat} (hn : n ≤ 21) (hv : v = -1 ∧ n = 0 ∨ (0 < n ∧ v = nI (n - 1))) : ∀ i, i < 22 → (v < nI i ↔ n ≤ i) := by
  intro i hi
  rcases hv with ⟨rfl, rfl⟩ | ⟨h0, rfl⟩
  · exact ⟨fun _ => Nat.zero_le _, fun _ => lt_m1 i (by omega)⟩
  · rw [Int32.lt_iff_toInt_lt, nI_toInt (by omega), nI_toInt (by omega)]
    omega
theorem asn_sm {N1 : Nat → Nat → Nat} (hN : sN N1 N) (c : Nat) : asn D N1 c = asn D N c := by
  have hs := sN_sm hN
  have e : ∀ j, senB D N1 c j = senB D N c j := by
    intro j
    unfold senB fcO fcS
    rw [sN_89 hN, smR_it hs, smR_crs hs, hN 114 j rfl, hN 115 j rfl, hN 116 j rfl]
  have e2 : ∀ n, asnT D N1 c n = asnT D N c n := by
    intro n
    induction n with
    | zero => rfl
    | succ n ih => rw [asnT, asnT, ih, e]
  unfold asn
  rw [e2, hN 86 46 rfl]
theorem fit_sm {N1 : Nat → Nat → Nat} (hN : sN N1 N) : ∀ c, fitN D N1 c = fitN D N c
  | 0 => rfl
  | c + 1 => by rw [fitN, fitN, fit_sm hN c, asn_sm hN]
theorem fit_64 (h : invB D N I J t) : fitN D N (D 1) < 64 := by
  have hd6 := h.1.1.2.2.2
  have h1 := fit_lt (D := D) (N := N) (D 1)
  have h2 : 2 ^ D 1 ≤ 2 ^ 6 := Nat.pow_le_pow_right (by decide) hd6
  have h3 : (2 : Nat) ^ 6 = 64 := by decide
  omega
theorem o_fits (h : inv D N I J t) (ht : t + 300 < 1000000000) : opO ko d 199 87 [] D N I J x (t + 300) := by
  have h64 := fit_64 h.1
  have hp6 := pop_le 6 (fitN D N (D 1))
  refine op_ans (v := .int (nI (fitN D N (D 1)))) (m := 1) (f := fun _ => lN (popN 6 (fitN D N (D 1)))) h (by decide) (by omega) ?_ ?_
  · intro Q hQ
    rw [me_199]
    simp (disch := (first | omega | exact aCat_8 (by with_unfolding_all rfl) | exact rk_lt (by with_unfolding_all rfl) | exact aCat_16 (by with_unfolding_all rfl) | exact rk_eq (by with_unfolding_all rfl) | assumption | exact b2n_lt _ | exact id_b (by with_unfolding_all rfl) | (simp (disch := omega) only [u2_same, u2_ab, u2_aq]; done) | (simp (disch := omega) only [u2_same, u2_ab, u2_aq]; omega) | fail)) only [al_12736, wp_aloadr_0, wp_aloadk_0, hg_0_14, wc_200, wp_istore_1, hg_0_1, wc_292, t_292, wp_iload_1, wc_121, wp_i2l, wc_293, t_293, wp_ireturn, nl_i, nl_r, nl_k, nl_j, nl_l, nI_add, pk_mul, pk_sub, tl_s, tl_n, aL_inl, u2_same, u2_ab, u2_aq, nI_l, lN_i, Nat.add_zero, Nat.zero_add, Nat.zero_le, true_and, and_true, b2n_10, b2n_T, b2n_F, b2n_0, Decidable.not_not, not_true_eq_false, not_false_eq_true, Nat.reduceAdd, Nat.reduceMul, Nat.reduceSub, wc_248 (m := 65) rfl]
    have hx := fun (Q : Option Value → aH → Prop) hQ => l_248 (ko := ko) (d := d) (D := D) (N := N) (I := I) (J := J) (x := x) (Q := Q) (N0 := N) (I0 := I) (J0 := J) h.1 sN_r hQ (N 86 46) 0 (-1) 0 (by omega) (by decide) (Or.inl ⟨rfl, rfl⟩) (fun k hk => absurd hk (Nat.not_lt_zero k))
    rw [me_248]
    simp (disch := (first | omega | exact aCat_8 (by with_unfolding_all rfl) | exact rk_lt (by with_unfolding_all rfl) | exact aCat_16 (by with_unfolding_all rfl) | exact rk_eq (by with_unfolding_all rfl) | assumption | exact b2n_lt _ | exact id_b (by with_unfolding_all rfl) | (simp (disch := omega) only [u2_same, u2_ab, u2_aq]; done) | (simp (disch := omega) only [u2_same, u2_ab, u2_aq]; omega) | fail)) only [al_15872, wk_m1, wp_istore_1, wk_0, wp_istore_2, wp_jsr, wp_iload_2, wp_aloadr_0, wp_aloadk_0, hg_65_3, hg_69_3, wn_ge_t, wn_ge_f, wp_iload_1, hg_65_0, ha_66l, ha_66s, hg_69_0, ha_70l, ha_70s, wp_max, wp_iinc_2_1, wp_goto, al_15874, wp_ireturn, nl_i, nl_r, nl_k, nl_j, nl_l, nI_add, pk_mul, pk_sub, tl_s, tl_n, aL_inl, u2_same, u2_ab, u2_aq, nI_l, lN_i, Nat.add_zero, Nat.zero_add, Nat.zero_le, true_and, and_true, b2n_10, b2n_T, b2n_F, b2n_0, Decidable.not_not, not_true_eq_false, not_false_eq_true, Nat.reduceAdd, Nat.reduceMul, Nat.reduceSub]
    refine hx _ ?_
    intro v n hn hv hs
    simp (disch := (first | omega | exact aCat_8 (by with_unfolding_all rfl) | exact rk_lt (by with_unfolding_all rfl) | exact aCat_16 (by with_unfolding_all rfl) | exact rk_eq (by with_unfolding_all rfl) | assumption | exact b2n_lt _ | exact id_b (by with_unfolding_all rfl) | (simp (disch := omega) only [u2_same, u2_ab, u2_aq]; done) | (simp (disch := omega) only [u2_same, u2_ab, u2_aq]; omega) | fail)) only [al_12736, wp_aloadr_0, wp_aloadk_0, hg_0_14, wc_200, wp_istore_1, hg_0_1, wc_292, t_292, wp_iload_1, wc_121, wp_i2l, wc_293, t_293, wp_ireturn, nl_i, nl_r, nl_k, nl_j, nl_l, nI_add, pk_mul, pk_sub, tl_s, tl_n, aL_inl, u2_same, u2_ab, u2_aq, nI_l, lN_i, Nat.add_zero, Nat.zero_add, Nat.zero_le, true_and, and_true, b2n_10, b2n_T, b2n_F, b2n_0, Decidable.not_not, not_true_eq_false, not_false_eq_true, Nat.reduceAdd, Nat.reduceMul, Nat.reduceSub]
    refine t_200 h.1 ht hn (lim_iff hn hv) hs ?_
    intro N1 I1 J1 hr1 _
    simp (disch := (first | omega | exact aCat_8 (by with_unfolding_all rfl) | exact rk_lt (by with_unfolding_all rfl) | exact aCat_16 (by with_unfolding_all rfl) | exact rk_eq (by with_unfolding_all rfl) | assumption | exact b2n_lt _ | exact id_b (by with_unfolding_all rfl) | (simp (disch := omega) only [u2_same, u2_ab, u2_aq]; done) | (simp (disch := omega) only [u2_same, u2_ab, u2_aq]; omega) | fail)) only [al_12736, wp_aloadr_0, wp_aloadk_0, hg_0_14, wc_200, wp_istore_1, hg_0_1, wc_292, t_292, wp_iload_1, wc_121, wp_i2l, wc_293, t_293, wp_ireturn, nl_i, nl_r, nl_k, nl_j, nl_l, nI_add, pk_mul, pk_sub, tl_s, tl_n, aL_inl, u2_same, u2_ab, u2_aq, nI_l, lN_i, Nat.add_zero, Nat.zero_add, Nat.zero_le, true_and, and_true, b2n_10, b2n_T, b2n_F, b2n_0, Decidable.not_not, not_true_eq_false, not_false_eq_true, Nat.reduceAdd, Nat.reduceMul, Nat.reduceSub, t_121 h64]
    exact hQ _ _ _ (sN_u (sN_u hr1.1 rfl) rfl) hr1.2.1 (sJ_u hr1.2.2.1 rfl) td1C
  · intro N1 I1 J1 h1 hN hI hJ Q hQ
    rw [me_87]
    simp (disch := (first | omega | exact aCat_8 (by with_unfolding_all rfl) | exact rk_lt (by with_unfolding_all rfl) | exact aCat_16 (by with_unfolding_all rfl) | exact rk_eq (by with_unfolding_all rfl) | assumption | exact b2n_lt _ | exact id_b (by with_unfolding_all rfl) | (simp (disch := omega) only [u2_same, u2_ab, u2_aq]; done) | (simp (disch := omega) only [u2_same, u2_ab, u2_aq]; omega) | fail)) only [al_5568, wp_aloadr_0, wp_aloadk_0, wk_0, hp_86_0, wc_88, wp_istore_1, hp_86_1, wp_iload_1, wc_121, wp_i2l, wc_43, t_43, wp_ireturn, nl_i, nl_r, nl_k, nl_j, nl_l, nI_add, pk_mul, pk_sub, tl_s, tl_n, aL_inl, u2_same, u2_ab, u2_aq, nI_l, lN_i, Nat.add_zero, Nat.zero_add, Nat.zero_le, true_and, and_true, b2n_10, b2n_T, b2n_F, b2n_0, Decidable.not_not, not_true_eq_false, not_false_eq_true, Nat.reduceAdd, Nat.reduceMul, Nat.reduceSub]
    refine t_88 (N0 := N1) (I0 := I1) h1 ht ⟨qN_u qN_r rfl, sI_r, u2_aq (by decide)⟩ ?_
    intro N2 I2 hr2
    rw [fit_sm hN]
    simp (disch := (first | omega | exact aCat_8 (by with_unfolding_all rfl) | exact rk_lt (by with_unfolding_all rfl) | exact aCat_16 (by with_unfolding_all rfl) | exact rk_eq (by with_unfolding_all rfl) | assumption | exact b2n_lt _ | exact id_b (by with_unfolding_all rfl) | (simp (disch := omega) only [u2_same, u2_ab, u2_aq]; done) | (simp (disch := omega) only [u2_same, u2_ab, u2_aq]; omega) | fail)) only [al_5568, wp_aloadr_0, wp_aloadk_0, wk_0, hp_86_0, wc_88, wp_istore_1, hp_86_1, wp_iload_1, wc_121, wp_i2l, wc_43, t_43, wp_ireturn, nl_i, nl_r, nl_k, nl_j, nl_l, nI_add, pk_mul, pk_sub, tl_s, tl_n, aL_inl, u2_same, u2_ab, u2_aq, nI_l, lN_i, Nat.add_zero, Nat.zero_add, Nat.zero_le, true_and, and_true, b2n_10, b2n_T, b2n_F, b2n_0, Decidable.not_not, not_true_eq_false, not_false_eq_true, Nat.reduceAdd, Nat.reduceMul, Nat.reduceSub, t_121 h64]
    exact hQ _ _ _ (qN_u (qN_u hr2.1 rfl) rfl) hr2.2.1 (qJ_u qJ_r rfl) td1R
end F3
