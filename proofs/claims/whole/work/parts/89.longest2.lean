/-! longest: the pair. From wip/whole/src. -/
section L2
variable {ko : aKo} {d k : Nat} {is : List Instr} {ls st : List Value} {σ : aH} {D : Nat → Nat} {N : Nat → Nat → Nat} {I : Nat → Nat → Int32} {J : Nat → Nat → Int64} {x t : Nat} {Q : Option Value → aH → Prop} {P : (Option Value ⊕ Unit) → aH → Prop}
theorem n1_lt {L : Nat} (h : L < 2147483648) : (-1 : Int32) < nI L := by
  rw [Int32.lt_iff_toInt_lt, nI_toInt h]
  have : (-1 : Int32).toInt = -1 := rfl
  omega
theorem wp_max_n {L : Nat} (hL : L < 2147483648) (h : aCat (.int (nI L) :: .int (-1) :: st) ≤ 16) : aWp ko d k (.invokedynamic 6 :: is) ls (.int (nI L) :: .int (-1) :: st) σ P = aWp ko d k is ls (.int (nI L) :: st) σ P := by
  rw [wp_maxx h, if_pos (n1_lt hL)]
def rB (o : Option (Nat × Nat)) : Int32 := match o with
  | none => -2
  | some (b, _) => nI b
def rL (o : Option (Nat × Nat)) : Int32 := match o with
  | none => -1
  | some (_, l) => nI l
theorem l_72 {N0 : Nat → Nat → Nat} {I0 : Nat → Nat → Int32} {J0 : Nat → Nat → Int64} (h : invB D N0 I0 J0 t)
    (hN : lgS D N0 (N0 89) (D 0 * D 1) = none → ∀ (N' : Nat → Nat → Nat) (I' : Nat → Nat → Int32), qN N' N0 → sI I' I0 → N' 86 1 = N0 86 1 → Q (some (.int (-2))) (hp D N' I' J0 x))
    (hS : ∀ b l, lgS D N0 (N0 89) (D 0 * D 1) = some (b, l) → ansR D N0 I0 J0 x (.int (nI b)) 2 (fun i => if i = 0 then lN l else lN (crsS D N0 (N0 89)).1) Q) :
    ∀ (j i : Nat) (N : Nat → Nat → Nat) (I : Nat → Nat → Int32), i + j = D 0 * D 1 → thO N0 N I0 I (N0 89) → aWp ko d 72 (aP.1 (Int.toNat 4609)) [.ref 86, .int (rB (lgS D N0 (N0 89) i)), .int (rL (lgS D N0 (N0 89) i)), .int (nI i)] [] (hp D N I J0 x) (aL Q) := by
  have hF := dm_F h.1.1
  have h89 := h.2.2.2.2.1
  intro j
  induction j with
  | zero =>
    intro i N I hi hT
    have e : i = D 0 * D 1 := by omega
    subst e
    obtain ⟨t1, t2, t3, t4⟩ := id hT
    cases hq : lgS D N0 (N0 89) (D 0 * D 1) with
    | none =>
      have e1 : rB none = -2 := rfl
      have e2 : rL none = -1 := rfl
      rw [e1, e2]
      simp (disch := (first | omega | exact aCat_8 (by with_unfolding_all rfl) | exact rk_lt (by with_unfolding_all rfl) | exact aCat_16 (by with_unfolding_all rfl) | exact rk_eq (by with_unfolding_all rfl) | assumption | exact b2n_lt _ | exact id_b (by with_unfolding_all rfl) | (simp (disch := omega) only [u2_same, u2_ab, u2_aq]; done) | (simp (disch := omega) only [u2_same, u2_ab, u2_aq]; omega) | fail)) only [al_4608, wp_aloadr_0, wp_aloadk_0, wk_0, hp_86_0, wc_60, wk_m2, wp_istore_1, wk_m1, wp_istore_2, wp_istore_3, wp_jsr, al_4609, wp_iload_3, wc_10, t_10, wn_ge_t, wn_ge_f, hg_86_8, ha_89l, ha_89s, wc_26, wz_ne_t, wz_ne_f, wb_ne_t, wb_ne_f, wm_ne_1, wm_ne_2, wk_108, wn_eq_t, wn_eq_f, hg_86_9, ha_90l, ha_90s, wk_36, wp_iadd, wk_1, wc_25, hg_86_24, wp_iload_2, wn_le_t, wn_le_f, wp_goto, al_4610, wp_iload_1, al_4611, wp_max, al_4612, wp_iinc_3_1, al_4613, wz_lt_t, wz_lt_f, wm_lt_1, wm_lt_2, hp_86_1, wp_i2l, wc_43, t_43, al_4614, wp_ireturn, nl_i, nl_r, nl_k, nl_j, nl_l, nI_add, pk_mul, pk_sub, tl_s, tl_n, aL_inl, u2_same, u2_ab, u2_aq, nI_l, lN_i, Nat.add_zero, Nat.zero_add, Nat.zero_le, true_and, and_true, b2n_10, b2n_T, b2n_F, b2n_0, Decidable.not_not, not_true_eq_false, not_false_eq_true, Nat.reduceAdd, Nat.reduceMul, Nat.reduceSub, wy_lt_t (x := (-2 : Int32)) (by decide), qe_n1, qe_m1, qn_n1, qn_m1, qe_n2, qe_m2, qn_n2, qn_m2]
      exact hN hq N I t2 t3 t4
    | some p =>
      obtain ⟨b, l⟩ := p
      obtain ⟨b1, l1⟩ := lg_b h _ (Nat.le_refl _) b l hq
      have e1 : rB (some (b, l)) = nI b := rfl
      have e2 : rL (some (b, l)) = nI l := rfl
      have e89 : N 89 = N0 89 := by funext q; exact t2 89 q rfl
      have hs := sN_sm (qN_s t2)
      have hK := crsS_K (N := N0) h.1.1 h89.1
      have hL := hK.1
      rw [e1, e2]
      simp (disch := (first | omega | exact aCat_8 (by with_unfolding_all rfl) | exact rk_lt (by with_unfolding_all rfl) | exact aCat_16 (by with_unfolding_all rfl) | exact rk_eq (by with_unfolding_all rfl) | assumption | exact b2n_lt _ | exact id_b (by with_unfolding_all rfl) | (simp (disch := omega) only [u2_same, u2_ab, u2_aq]; done) | (simp (disch := omega) only [u2_same, u2_ab, u2_aq]; omega) | fail)) only [al_4608, wp_aloadr_0, wp_aloadk_0, wk_0, hp_86_0, wc_60, wk_m2, wp_istore_1, wk_m1, wp_istore_2, wp_istore_3, wp_jsr, al_4609, wp_iload_3, wc_10, t_10, wn_ge_t, wn_ge_f, hg_86_8, ha_89l, ha_89s, wc_26, wz_ne_t, wz_ne_f, wb_ne_t, wb_ne_f, wm_ne_1, wm_ne_2, wk_108, wn_eq_t, wn_eq_f, hg_86_9, ha_90l, ha_90s, wk_36, wp_iadd, wk_1, wc_25, hg_86_24, wp_iload_2, wn_le_t, wn_le_f, wp_goto, al_4610, wp_iload_1, al_4611, wp_max, al_4612, wp_iinc_3_1, al_4613, wz_lt_t, wz_lt_f, wm_lt_1, wm_lt_2, hp_86_1, wp_i2l, wc_43, t_43, al_4614, wp_ireturn, nl_i, nl_r, nl_k, nl_j, nl_l, nI_add, pk_mul, pk_sub, tl_s, tl_n, aL_inl, u2_same, u2_ab, u2_aq, nI_l, lN_i, Nat.add_zero, Nat.zero_add, Nat.zero_le, true_and, and_true, b2n_10, b2n_T, b2n_F, b2n_0, Decidable.not_not, not_true_eq_false, not_false_eq_true, Nat.reduceAdd, Nat.reduceMul, Nat.reduceSub, qe_n1, qe_m1, qn_n1, qn_m1, qe_n2, qe_m2, qn_n2, qn_m2]
      refine t_25 (r := 89) (Or.inl rfl) h.1.1 (by rw [e89]; exact h89.1) (smR_rl hs (inv_rl h)) ?_
      intro N' I' hc hN' hI'
      have hcc : crs0 (D 0) (D 1) (dsl (D 1) N (N 89)) (wlS (N 89)) (N 89 108) = crsS D N0 (N0 89) := by
        rw [e89, smR_dsl hs]
        rfl
      rw [hcc] at hc
      have h24 := hc.1
      simp (disch := (first | omega | exact aCat_8 (by with_unfolding_all rfl) | exact rk_lt (by with_unfolding_all rfl) | exact aCat_16 (by with_unfolding_all rfl) | exact rk_eq (by with_unfolding_all rfl) | assumption | exact b2n_lt _ | exact id_b (by with_unfolding_all rfl) | (simp (disch := omega) only [u2_same, u2_ab, u2_aq]; done) | (simp (disch := omega) only [u2_same, u2_ab, u2_aq]; omega) | fail)) only [al_4608, wp_aloadr_0, wp_aloadk_0, wk_0, hp_86_0, wc_60, wk_m2, wp_istore_1, wk_m1, wp_istore_2, wp_istore_3, wp_jsr, wp_iload_3, wc_10, t_10, wn_ge_t, wn_ge_f, hg_86_8, ha_89l, ha_89s, wc_26, wz_ne_t, wz_ne_f, wb_ne_t, wb_ne_f, wm_ne_1, wm_ne_2, wk_108, wn_eq_t, wn_eq_f, hg_86_9, ha_90l, ha_90s, wk_36, wp_iadd, wk_1, wc_25, hg_86_24, wp_iload_2, wn_le_t, wn_le_f, wp_goto, al_4610, wp_iload_1, al_4611, wp_max, al_4612, wp_iinc_3_1, al_4613, wz_lt_t, wz_lt_f, wm_lt_1, wm_lt_2, hp_86_1, wp_i2l, wc_43, t_43, al_4614, wp_ireturn, nl_i, nl_r, nl_k, nl_j, nl_l, nI_add, pk_mul, pk_sub, tl_s, tl_n, aL_inl, u2_same, u2_ab, u2_aq, nI_l, lN_i, Nat.add_zero, Nat.zero_add, Nat.zero_le, true_and, and_true, b2n_10, b2n_T, b2n_F, b2n_0, Decidable.not_not, not_true_eq_false, not_false_eq_true, Nat.reduceAdd, Nat.reduceMul, Nat.reduceSub, h24]
      refine hS b l hq _ _ _ ?_ (sI_t (rI_s hI') t3) ?_ td2R
      · exact qN_u (qN_u (qN_u (qN_t (rN_q hN') t2) rfl) rfl) rfl
      · exact qJ_u (qJ_u qJ_r rfl) rfl
  | succ j ih =>
    intro i N I hi hT
    have hif : i < D 0 * D 1 := by omega
    have ih1 := fun N I => ih (i + 1) N I (by omega)
    obtain ⟨t1, t2, t3, t4⟩ := id hT
    have e89 : N 89 = N0 89 := by funext q; exact t2 89 q rfl
    have h108 := h89.1.2.1
    have hwl := (h89.1.1 i (by omega)).2.1
    have hw1 : N 89 (36 + i) ≤ 1 := by rw [e89]; exact hwl
    have hL := (wc_K h hif).1
    have hs := sN_sm (qN_s t2)
    have hc6 := h.1.1
    have hd6 : D 1 ≤ 6 := hc6.2.2.2
    rw [al_4609]
    by_cases hw : N0 89 (36 + i) = 1
    · rw [lg_skip (Or.inl hw)] at ih1
      simp (disch := (first | omega | exact aCat_8 (by with_unfolding_all rfl) | exact rk_lt (by with_unfolding_all rfl) | exact aCat_16 (by with_unfolding_all rfl) | exact rk_eq (by with_unfolding_all rfl) | assumption | exact b2n_lt _ | exact id_b (by with_unfolding_all rfl) | (simp (disch := omega) only [u2_same, u2_ab, u2_aq]; done) | (simp (disch := omega) only [u2_same, u2_ab, u2_aq]; omega) | fail)) only [al_4608, wp_aloadr_0, wp_aloadk_0, wk_0, hp_86_0, wc_60, wk_m2, wp_istore_1, wk_m1, wp_istore_2, wp_istore_3, wp_jsr, wp_iload_3, wc_10, t_10, wn_ge_t, wn_ge_f, hg_86_8, ha_89l, ha_89s, wc_26, wz_ne_t, wz_ne_f, wb_ne_t, wb_ne_f, wm_ne_1, wm_ne_2, wk_108, wn_eq_t, wn_eq_f, hg_86_9, ha_90l, ha_90s, wk_36, wp_iadd, wk_1, wc_25, hg_86_24, wp_iload_2, wn_le_t, wn_le_f, wp_goto, al_4610, wp_iload_1, al_4611, wp_max, al_4612, wp_iinc_3_1, al_4613, wz_lt_t, wz_lt_f, wm_lt_1, wm_lt_2, hp_86_1, wp_i2l, wc_43, t_43, al_4614, wp_ireturn, nl_i, nl_r, nl_k, nl_j, nl_l, nI_add, pk_mul, pk_sub, tl_s, tl_n, aL_inl, u2_same, u2_ab, u2_aq, nI_l, lN_i, Nat.add_zero, Nat.zero_add, Nat.zero_le, true_and, and_true, b2n_10, b2n_T, b2n_F, b2n_0, Decidable.not_not, not_true_eq_false, not_false_eq_true, Nat.reduceAdd, Nat.reduceMul, Nat.reduceSub, t_26, e89, b2n_t hw]
      exact ih1 N I hT
    · by_cases hsrc : i = N0 89 108
      · rw [lg_skip (Or.inr hsrc)] at ih1
        have e108 : N0 89 108 = i := hsrc.symm
        simp (disch := (first | omega | exact aCat_8 (by with_unfolding_all rfl) | exact rk_lt (by with_unfolding_all rfl) | exact aCat_16 (by with_unfolding_all rfl) | exact rk_eq (by with_unfolding_all rfl) | assumption | exact b2n_lt _ | exact id_b (by with_unfolding_all rfl) | (simp (disch := omega) only [u2_same, u2_ab, u2_aq]; done) | (simp (disch := omega) only [u2_same, u2_ab, u2_aq]; omega) | fail)) only [al_4608, wp_aloadr_0, wp_aloadk_0, wk_0, hp_86_0, wc_60, wk_m2, wp_istore_1, wk_m1, wp_istore_2, wp_istore_3, wp_jsr, wp_iload_3, wc_10, t_10, wn_ge_t, wn_ge_f, hg_86_8, ha_89l, ha_89s, wc_26, wz_ne_t, wz_ne_f, wb_ne_t, wb_ne_f, wm_ne_1, wm_ne_2, wk_108, wn_eq_t, wn_eq_f, hg_86_9, ha_90l, ha_90s, wk_36, wp_iadd, wk_1, wc_25, hg_86_24, wp_iload_2, wn_le_t, wn_le_f, wp_goto, al_4610, wp_iload_1, al_4611, wp_max, al_4612, wp_iinc_3_1, al_4613, wz_lt_t, wz_lt_f, wm_lt_1, wm_lt_2, hp_86_1, wp_i2l, wc_43, t_43, al_4614, wp_ireturn, nl_i, nl_r, nl_k, nl_j, nl_l, nI_add, pk_mul, pk_sub, tl_s, tl_n, aL_inl, u2_same, u2_ab, u2_aq, nI_l, lN_i, Nat.add_zero, Nat.zero_add, Nat.zero_le, true_and, and_true, b2n_10, b2n_T, b2n_F, b2n_0, Decidable.not_not, not_true_eq_false, not_false_eq_true, Nat.reduceAdd, Nat.reduceMul, Nat.reduceSub, t_26, e89, b2n_f hw, e108]
        exact ih1 N I hT
      · have hskip : ¬ (N0 89 (36 + i) = 1 ∨ i = N0 89 108) := by omega
        have h0 : N0 89 (36 + i) = 0 := by omega
        have hup := up_rw h.1.1 h89.1 h89.2.1 hif
        have er : u2 N 90 (36 + i) 1 = setRow N 90 (upn (N0 89) (36 + i) 1) := by rw [u2_row, t1]
        have hT1 : thO N0 (setRow N 90 (upn (N0 89) (36 + i) 1)) I0 I (upn (N0 89) (36 + i) 1) := th_set hT h89.1 hup sI_r
        have hs1 := sN_sm (qN_s hT1.2.1)
        -- laying the course by the row with a wall more
        have t25 : ∀ Q : Option Value → aH → Prop, (∀ (N' : Nat → Nat → Nat) (I' : Nat → Nat → Int32), N' 86 24 = (wcS D N0 (N0 89) i).1 → thO N0 N' I0 I' (upn (N0 89) (36 + i) 1) → Q none (hp D N' I' J0 x)) → aMm ko d 25 [.ref 86, .ref 90] (hp D (setRow N 90 (upn (N0 89) (36 + i) 1)) I J0 x) Q := by
          intro Q hQ
          refine t_25 (r := 90) (Or.inr rfl) h.1.1 (by rw [setRow_s]; exact hup) (smR_rl hs1 (inv_rl h)) ?_
          intro N' I' hc hN' hI'
          have hcc : crs0 (D 0) (D 1) (dsl (D 1) (setRow N 90 (upn (N0 89) (36 + i) 1)) (setRow N 90 (upn (N0 89) (36 + i) 1) 90)) (wlS (setRow N 90 (upn (N0 89) (36 + i) 1) 90)) (setRow N 90 (upn (N0 89) (36 + i) 1) 90 108) = wcS D N0 (N0 89) i := by
            rw [setRow_s, smR_dsl hs1]
            rfl
          rw [hcc] at hc
          refine hQ N' I' hc.1 ⟨?_, qN_t (rN_q hN') hT1.2.1, sI_t (rI_s hI') hT1.2.2.1, (hN' 86 1 rfl).trans hT1.2.2.2⟩
          funext q
          rw [hN' 90 q rfl, setRow_s]
        have hback : ∀ (N' : Nat → Nat → Nat) (I' : Nat → Nat → Int32), thO N0 N' I0 I' (upn (N0 89) (36 + i) 1) → thO N0 (u2 N' 90 (36 + i) 0) I0 I' (N0 89) := by
          intro N' I' hT'
          have e2 : upn (upn (N0 89) (36 + i) 1) (36 + i) 0 = N0 89 := by
            funext q
            unfold upn
            by_cases z : q = 36 + i
            · rw [if_pos z, z, h0]
            · rw [if_neg z, if_neg z]
          have := th_set (S' := N0 89) hT' hup h89.1 sI_r
          rw [u2_row, hT'.1, e2]
          exact this
        cases hq : lgS D N0 (N0 89) i with
        | none =>
          rw [lg_none hskip hq] at ih1
          have e1 : rB none = -2 := rfl
          have e2 : rL none = -1 := rfl
          have e3 : rB (some (i, (wcS D N0 (N0 89) i).1)) = nI i := rfl
          have e4 : rL (some (i, (wcS D N0 (N0 89) i).1)) = nI (wcS D N0 (N0 89) i).1 := rfl
          rw [e3, e4] at ih1
          rw [e1, e2]
          simp (disch := (first | omega | exact aCat_8 (by with_unfolding_all rfl) | exact rk_lt (by with_unfolding_all rfl) | exact aCat_16 (by with_unfolding_all rfl) | exact rk_eq (by with_unfolding_all rfl) | assumption | exact b2n_lt _ | exact id_b (by with_unfolding_all rfl) | (simp (disch := omega) only [u2_same, u2_ab, u2_aq]; done) | (simp (disch := omega) only [u2_same, u2_ab, u2_aq]; omega) | fail)) only [al_4608, wp_aloadr_0, wp_aloadk_0, wk_0, hp_86_0, wc_60, wk_m2, wp_istore_1, wk_m1, wp_istore_2, wp_istore_3, wp_jsr, wp_iload_3, wc_10, t_10, wn_ge_t, wn_ge_f, hg_86_8, ha_89l, ha_89s, wc_26, wz_ne_t, wz_ne_f, wb_ne_t, wb_ne_f, wm_ne_1, wm_ne_2, wk_108, wn_eq_t, wn_eq_f, hg_86_9, ha_90l, ha_90s, wk_36, wp_iadd, wk_1, wc_25, hg_86_24, wp_iload_2, wn_le_t, wn_le_f, wp_goto, al_4610, wp_iload_1, al_4611, wp_max, al_4612, wp_iinc_3_1, al_4613, wz_lt_t, wz_lt_f, wm_lt_1, wm_lt_2, hp_86_1, wp_i2l, wc_43, t_43, al_4614, wp_ireturn, nl_i, nl_r, nl_k, nl_j, nl_l, nI_add, pk_mul, pk_sub, tl_s, tl_n, aL_inl, u2_same, u2_ab, u2_aq, nI_l, lN_i, Nat.add_zero, Nat.zero_add, Nat.zero_le, true_and, and_true, b2n_10, b2n_T, b2n_F, b2n_0, Decidable.not_not, not_true_eq_false, not_false_eq_true, Nat.reduceAdd, Nat.reduceMul, Nat.reduceSub, t_26, e89, b2n_f hw, er]
          refine t25 _ ?_
          intro N' I' h24 hT'
          have hle : ¬ nI (wcS D N0 (N0 89) i).1 ≤ -1 := Int32.not_le.mpr (n1_lt (by omega))
          simp (disch := (first | omega | exact aCat_8 (by with_unfolding_all rfl) | exact rk_lt (by with_unfolding_all rfl) | exact aCat_16 (by with_unfolding_all rfl) | exact rk_eq (by with_unfolding_all rfl) | assumption | exact b2n_lt _ | exact id_b (by with_unfolding_all rfl) | (simp (disch := omega) only [u2_same, u2_ab, u2_aq]; done) | (simp (disch := omega) only [u2_same, u2_ab, u2_aq]; omega) | fail)) only [al_4608, wp_aloadr_0, wp_aloadk_0, wk_0, hp_86_0, wc_60, wk_m2, wp_istore_1, wk_m1, wp_istore_2, wp_istore_3, wp_jsr, wp_iload_3, wc_10, t_10, wn_ge_t, wn_ge_f, hg_86_8, ha_89l, ha_89s, wc_26, wz_ne_t, wz_ne_f, wb_ne_t, wb_ne_f, wm_ne_1, wm_ne_2, wk_108, wn_eq_t, wn_eq_f, hg_86_9, ha_90l, ha_90s, wk_36, wp_iadd, wk_1, wc_25, hg_86_24, wp_iload_2, wn_le_t, wn_le_f, wp_goto, al_4610, wp_iload_1, al_4611, wp_max, al_4612, wp_iinc_3_1, al_4613, wz_lt_t, wz_lt_f, wm_lt_1, wm_lt_2, hp_86_1, wp_i2l, wc_43, t_43, al_4614, wp_ireturn, nl_i, nl_r, nl_k, nl_j, nl_l, nI_add, pk_mul, pk_sub, tl_s, tl_n, aL_inl, u2_same, u2_ab, u2_aq, nI_l, lN_i, Nat.add_zero, Nat.zero_add, Nat.zero_le, true_and, and_true, b2n_10, b2n_T, b2n_F, b2n_0, Decidable.not_not, not_true_eq_false, not_false_eq_true, Nat.reduceAdd, Nat.reduceMul, Nat.reduceSub, h24, wx_le_f hle, wp_max_n]
          exact ih1 _ _ (hback N' I' hT')
        | some p =>
          obtain ⟨b, l⟩ := p
          obtain ⟨b1, l1⟩ := lg_b h i (by omega) b l hq
          have e1 : rB (some (b, l)) = nI b := rfl
          have e2 : rL (some (b, l)) = nI l := rfl
          rw [e1, e2]
          simp (disch := (first | omega | exact aCat_8 (by with_unfolding_all rfl) | exact rk_lt (by with_unfolding_all rfl) | exact aCat_16 (by with_unfolding_all rfl) | exact rk_eq (by with_unfolding_all rfl) | assumption | exact b2n_lt _ | exact id_b (by with_unfolding_all rfl) | (simp (disch := omega) only [u2_same, u2_ab, u2_aq]; done) | (simp (disch := omega) only [u2_same, u2_ab, u2_aq]; omega) | fail)) only [al_4608, wp_aloadr_0, wp_aloadk_0, wk_0, hp_86_0, wc_60, wk_m2, wp_istore_1, wk_m1, wp_istore_2, wp_istore_3, wp_jsr, wp_iload_3, wc_10, t_10, wn_ge_t, wn_ge_f, hg_86_8, ha_89l, ha_89s, wc_26, wz_ne_t, wz_ne_f, wb_ne_t, wb_ne_f, wm_ne_1, wm_ne_2, wk_108, wn_eq_t, wn_eq_f, hg_86_9, ha_90l, ha_90s, wk_36, wp_iadd, wk_1, wc_25, hg_86_24, wp_iload_2, wn_le_t, wn_le_f, wp_goto, al_4610, wp_iload_1, al_4611, wp_max, al_4612, wp_iinc_3_1, al_4613, wz_lt_t, wz_lt_f, wm_lt_1, wm_lt_2, hp_86_1, wp_i2l, wc_43, t_43, al_4614, wp_ireturn, nl_i, nl_r, nl_k, nl_j, nl_l, nI_add, pk_mul, pk_sub, tl_s, tl_n, aL_inl, u2_same, u2_ab, u2_aq, nI_l, lN_i, Nat.add_zero, Nat.zero_add, Nat.zero_le, true_and, and_true, b2n_10, b2n_T, b2n_F, b2n_0, Decidable.not_not, not_true_eq_false, not_false_eq_true, Nat.reduceAdd, Nat.reduceMul, Nat.reduceSub, t_26, e89, b2n_f hw, er]
          refine t25 _ ?_
          intro N' I' h24 hT'
          by_cases h3 : l < (wcS D N0 (N0 89) i).1
          · rw [lg_more hskip hq h3] at ih1
            have e3 : rB (some (i, (wcS D N0 (N0 89) i).1)) = nI i := rfl
            have e4 : rL (some (i, (wcS D N0 (N0 89) i).1)) = nI (wcS D N0 (N0 89) i).1 := rfl
            rw [e3, e4] at ih1
            have em : max l (wcS D N0 (N0 89) i).1 = (wcS D N0 (N0 89) i).1 := Nat.max_eq_right (by omega)
            simp (disch := (first | omega | exact aCat_8 (by with_unfolding_all rfl) | exact rk_lt (by with_unfolding_all rfl) | exact aCat_16 (by with_unfolding_all rfl) | exact rk_eq (by with_unfolding_all rfl) | assumption | exact b2n_lt _ | exact id_b (by with_unfolding_all rfl) | (simp (disch := omega) only [u2_same, u2_ab, u2_aq]; done) | (simp (disch := omega) only [u2_same, u2_ab, u2_aq]; omega) | fail)) only [al_4608, wp_aloadr_0, wp_aloadk_0, wk_0, hp_86_0, wc_60, wk_m2, wp_istore_1, wk_m1, wp_istore_2, wp_istore_3, wp_jsr, wp_iload_3, wc_10, t_10, wn_ge_t, wn_ge_f, hg_86_8, ha_89l, ha_89s, wc_26, wz_ne_t, wz_ne_f, wb_ne_t, wb_ne_f, wm_ne_1, wm_ne_2, wk_108, wn_eq_t, wn_eq_f, hg_86_9, ha_90l, ha_90s, wk_36, wp_iadd, wk_1, wc_25, hg_86_24, wp_iload_2, wn_le_t, wn_le_f, wp_goto, al_4610, wp_iload_1, al_4611, wp_max, al_4612, wp_iinc_3_1, al_4613, wz_lt_t, wz_lt_f, wm_lt_1, wm_lt_2, hp_86_1, wp_i2l, wc_43, t_43, al_4614, wp_ireturn, nl_i, nl_r, nl_k, nl_j, nl_l, nI_add, pk_mul, pk_sub, tl_s, tl_n, aL_inl, u2_same, u2_ab, u2_aq, nI_l, lN_i, Nat.add_zero, Nat.zero_add, Nat.zero_le, true_and, and_true, b2n_10, b2n_T, b2n_F, b2n_0, Decidable.not_not, not_true_eq_false, not_false_eq_true, Nat.reduceAdd, Nat.reduceMul, Nat.reduceSub, h24, em]
            exact ih1 _ _ (hback N' I' hT')
          · rw [lg_less hskip hq h3, e1, e2] at ih1
            have em : max l (wcS D N0 (N0 89) i).1 = l := Nat.max_eq_left (by omega)
            simp (disch := (first | omega | exact aCat_8 (by with_unfolding_all rfl) | exact rk_lt (by with_unfolding_all rfl) | exact aCat_16 (by with_unfolding_all rfl) | exact rk_eq (by with_unfolding_all rfl) | assumption | exact b2n_lt _ | exact id_b (by with_unfolding_all rfl) | (simp (disch := omega) only [u2_same, u2_ab, u2_aq]; done) | (simp (disch := omega) only [u2_same, u2_ab, u2_aq]; omega) | fail)) only [al_4608, wp_aloadr_0, wp_aloadk_0, wk_0, hp_86_0, wc_60, wk_m2, wp_istore_1, wk_m1, wp_istore_2, wp_istore_3, wp_jsr, wp_iload_3, wc_10, t_10, wn_ge_t, wn_ge_f, hg_86_8, ha_89l, ha_89s, wc_26, wz_ne_t, wz_ne_f, wb_ne_t, wb_ne_f, wm_ne_1, wm_ne_2, wk_108, wn_eq_t, wn_eq_f, hg_86_9, ha_90l, ha_90s, wk_36, wp_iadd, wk_1, wc_25, hg_86_24, wp_iload_2, wn_le_t, wn_le_f, wp_goto, al_4610, wp_iload_1, al_4611, wp_max, al_4612, wp_iinc_3_1, al_4613, wz_lt_t, wz_lt_f, wm_lt_1, wm_lt_2, hp_86_1, wp_i2l, wc_43, t_43, al_4614, wp_ireturn, nl_i, nl_r, nl_k, nl_j, nl_l, nI_add, pk_mul, pk_sub, tl_s, tl_n, aL_inl, u2_same, u2_ab, u2_aq, nI_l, lN_i, Nat.add_zero, Nat.zero_add, Nat.zero_le, true_and, and_true, b2n_10, b2n_T, b2n_F, b2n_0, Decidable.not_not, not_true_eq_false, not_false_eq_true, Nat.reduceAdd, Nat.reduceMul, Nat.reduceSub, h24, em]
            exact ih1 _ _ (hback N' I' hT')
theorem smR_lg {M N0 : Nat → Nat → Nat} {S : Nat → Nat} (h : smR M N0) : ∀ i, lgS D M S i = lgS D N0 S i
  | 0 => rfl
  | i + 1 => by
    have e : wcS D M S i = wcS D N0 S i := by unfold wcS; rw [smR_crs h]
    rw [lgS, lgS, smR_lg h i, e]
theorem rv_g {N' : Nat → Nat → Nat} {I' : Nat → Nat → Int32} {J' : Nat → Nat → Int64} {n : Nat} {c S : Nat → Nat} (hA : rvA D N I J 20 11 c n S) (hN : gN N' N) (hI : fI I' I) (hJ : fJ J' J) : rvA D N' I' J' 20 11 c n S := by
  obtain ⟨a1, a2, a3, a4, a5⟩ := hA
  refine ⟨ldO_f a1 (fun q => ⟨hN 6 q (by decide) (by omega), hN 7 q (by decide) (by omega)⟩) (fun q => hI 8 q (by decide) (by decide) (by decide) (by decide) (by omega)) (fun q => hJ 5 q (by decide) (by omega)), clS_c a2 (fun q => hN 20 q (by decide) (by omega)) (fun q => hN 21 q (by decide) (by omega)) (fun q => hJ 20 q (by decide) (by omega)), a3, ⟨(hN 11 2 (by decide) (by omega)).trans a4.1, fun k hk => ?_⟩, a5⟩
  rw [hI (11 + 1) k (by decide) (by decide) (by decide) (by decide) (by omega)]
  exact a4.2 k hk
theorem k_187 (h : invB D N I J t)
    (hN : lgS D N (N 89) (D 0 * D 1) = none → ∀ (N' : Nat → Nat → Nat) (I' : Nat → Nat → Int32) (J' : Nat → Nat → Int64), sN N' N → sI I' I → sJ J' J → tdSC N' N J' J → tdSR N' N J' J → Q (some (.int (-2))) (hp D N' I' J' x))
    (hS : ∀ b l, lgS D N (N 89) (D 0 * D 1) = some (b, l) → ansC D N I J x (.int (nI b)) 2 (fun i => if i = 0 then lN l else lN (crsS D N (N 89)).1) Q) : aMm ko d 187 [.ref 0] (hp D N I J x) Q := by
  have h89 := h.2.2.2.2.1
  have hF := dm_F h.1.1
  have hL := (crsS_K (N := N) h.1.1 h89.1).1
  rw [me_187]
  simp (disch := (first | omega | exact aCat_8 (by with_unfolding_all rfl) | exact rk_lt (by with_unfolding_all rfl) | exact aCat_16 (by with_unfolding_all rfl) | exact rk_eq (by with_unfolding_all rfl) | assumption | exact b2n_lt _ | exact id_b (by with_unfolding_all rfl) | (simp (disch := omega) only [u2_same, u2_ab, u2_aq]; done) | (simp (disch := omega) only [u2_same, u2_ab, u2_aq]; omega) | fail)) only [al_11968, wp_aloadr_0, wp_aloadk_0, hg_0_10, hg_0_7, hg_0_4, wc_260, hg_26_9, wp_istore_1, wk_m1, wp_istore_2, wk_0, wp_istore_3, wp_istore_4, wp_jsr, wp_iload_4, hg_0_2, hg_5_2, wn_ge_t, wn_ge_f, hg_20_3, hg_22_3, hg_24_3, wn_eq_t, wn_eq_f, hg_20_1, hg_22_1, hg_24_1, wc_161, t_161, wk_1, wn_ne_t, wn_ne_f, wp_goto, al_11970, wl_1, wp_lshl, wp_lor, wc_256, wp_iload_2, wp_iload_3, wn_le_t, wn_le_f, al_11971, al_11972, wp_iinc_4_1, al_11973, wk_m2, wp_ireturn, al_11974, hg_0_1, wc_292, t_292, wp_i2l, wc_293, t_293, wp_iload_1, nl_i, nl_r, nl_k, nl_j, nl_l, nI_add, pk_mul, pk_sub, tl_s, tl_n, aL_inl, u2_same, u2_ab, u2_aq, nI_l, lN_i, Nat.add_zero, Nat.zero_add, Nat.zero_le, true_and, and_true, b2n_10, b2n_T, b2n_F, b2n_0, Decidable.not_not, not_true_eq_false, not_false_eq_true, Nat.reduceAdd, Nat.reduceMul, Nat.reduceSub]
  refine t_260 (s := 20) (ru := 11) rfl rfl (inv_rv h) (inv_s1 h) (inv_s2 h) ?_
  intro N1 I1 J1 hv1 hN1 hI1 hJ1 hc1
  rw [inv_G h] at hc1
  have h9 := hc1.1
  have hO : lgO D N N1 I I1 J J1 := ⟨rv_g (inv_rv h) hN1 hI1 hJ1, hv1, gN_s hN1, fI_s hI1, fJ_s hJ1, ⟨hN1 3 1 (by decide) (by omega), fun q => hJ1 4 q (by decide) (by omega)⟩, ⟨hN1 86 1 (by decide) (by omega), fun q => hJ1 87 q (by decide) (by omega)⟩⟩
  have hx := l_187 (ko := ko) (d := d) (L0 := (crsS D N (N 89)).1) h (by omega) hN hS (D 0 * D 1) 0 N1 I1 J1 (by omega) hO
  have e1 : oB (lgS D N (N 89) 0) = -1 := rfl
  have e2 : oL (lgS D N (N 89) 0) = nI 0 := rfl
  rw [e1, e2] at hx
  simp (disch := (first | omega | exact aCat_8 (by with_unfolding_all rfl) | exact rk_lt (by with_unfolding_all rfl) | exact aCat_16 (by with_unfolding_all rfl) | exact rk_eq (by with_unfolding_all rfl) | assumption | exact b2n_lt _ | exact id_b (by with_unfolding_all rfl) | (simp (disch := omega) only [u2_same, u2_ab, u2_aq]; done) | (simp (disch := omega) only [u2_same, u2_ab, u2_aq]; omega) | fail)) only [al_11968, wp_aloadr_0, wp_aloadk_0, hg_0_10, hg_0_7, hg_0_4, wc_260, hg_26_9, wp_istore_1, wk_m1, wp_istore_2, wk_0, wp_istore_3, wp_istore_4, wp_jsr, wp_iload_4, hg_0_2, hg_5_2, wn_ge_t, wn_ge_f, hg_20_3, hg_22_3, hg_24_3, wn_eq_t, wn_eq_f, hg_20_1, hg_22_1, hg_24_1, wc_161, t_161, wk_1, wn_ne_t, wn_ne_f, wp_goto, al_11970, wl_1, wp_lshl, wp_lor, wc_256, wp_iload_2, wp_iload_3, wn_le_t, wn_le_f, al_11971, al_11972, wp_iinc_4_1, al_11973, wk_m2, wp_ireturn, al_11974, hg_0_1, wc_292, t_292, wp_i2l, wc_293, t_293, wp_iload_1, nl_i, nl_r, nl_k, nl_j, nl_l, nI_add, pk_mul, pk_sub, tl_s, tl_n, aL_inl, u2_same, u2_ab, u2_aq, nI_l, lN_i, Nat.add_zero, Nat.zero_add, Nat.zero_le, true_and, and_true, b2n_10, b2n_T, b2n_F, b2n_0, Decidable.not_not, not_true_eq_false, not_false_eq_true, Nat.reduceAdd, Nat.reduceMul, Nat.reduceSub, h9]
  exact hx
theorem r_72 (h : invB D N I J t)
    (hN : lgS D N (N 89) (D 0 * D 1) = none → ∀ (N' : Nat → Nat → Nat) (I' : Nat → Nat → Int32), qN N' N → sI I' I → N' 86 1 = N 86 1 → Q (some (.int (-2))) (hp D N' I' J x))
    (hS : ∀ b l, lgS D N (N 89) (D 0 * D 1) = some (b, l) → ansR D N I J x (.int (nI b)) 2 (fun i => if i = 0 then lN l else lN (crsS D N (N 89)).1) Q) : aMm ko d 72 [.ref 86] (hp D N I J x) Q := by
  have hz1 : ∀ q, 111 ≤ q → u2 N 86 0 0 89 q = 0 := fun q hq => by rw [u2_ab (by decide)]; exact h.2.2.2.2.1.1.2.2.2.2 q hq
  have hz2 : ∀ q, 111 ≤ q → u2 N 86 0 0 90 q = 0 := fun q hq => by rw [u2_ab (by decide)]; exact h.2.2.2.2.2.2.2.2.2 q hq
  have hT := th_0 h (M := u2 N 86 0 0) (qN_u qN_r rfl) (u2_aq (by decide)) hz1
  have hx := l_72 (ko := ko) (d := d) h hN hS (D 0 * D 1) 0 _ _ (by omega) hT
  have e1 : rB (lgS D N (N 89) 0) = -2 := rfl
  have e2 : rL (lgS D N (N 89) 0) = -1 := rfl
  rw [e1, e2] at hx
  rw [me_72]
  simp (disch := (first | omega | exact aCat_8 (by with_unfolding_all rfl) | exact rk_lt (by with_unfolding_all rfl) | exact aCat_16 (by with_unfolding_all rfl) | exact rk_eq (by with_unfolding_all rfl) | assumption | exact b2n_lt _ | exact id_b (by with_unfolding_all rfl) | (simp (disch := omega) only [u2_same, u2_ab, u2_aq]; done) | (simp (disch := omega) only [u2_same, u2_ab, u2_aq]; omega) | fail)) only [al_4608, wp_aloadr_0, wp_aloadk_0, wk_0, hp_86_0, wc_60, wk_m2, wp_istore_1, wk_m1, wp_istore_2, wp_istore_3, wp_jsr, wp_iload_3, wc_10, t_10, wn_ge_t, wn_ge_f, hg_86_8, ha_89l, ha_89s, wc_26, wz_ne_t, wz_ne_f, wb_ne_t, wb_ne_f, wm_ne_1, wm_ne_2, wk_108, wn_eq_t, wn_eq_f, hg_86_9, ha_90l, ha_90s, wk_36, wp_iadd, wk_1, wc_25, hg_86_24, wp_iload_2, wn_le_t, wn_le_f, wp_goto, al_4610, wp_iload_1, al_4611, wp_max, al_4612, wp_iinc_3_1, al_4613, wz_lt_t, wz_lt_f, wm_lt_1, wm_lt_2, hp_86_1, wp_i2l, wc_43, t_43, al_4614, wp_ireturn, nl_i, nl_r, nl_k, nl_j, nl_l, nI_add, pk_mul, pk_sub, tl_s, tl_n, aL_inl, u2_same, u2_ab, u2_aq, nI_l, lN_i, Nat.add_zero, Nat.zero_add, Nat.zero_le, true_and, and_true, b2n_10, b2n_T, b2n_F, b2n_0, Decidable.not_not, not_true_eq_false, not_false_eq_true, Nat.reduceAdd, Nat.reduceMul, Nat.reduceSub, t_60 hz1 hz2]
  exact hx
theorem o_longest (h : inv D N I J t) : opO ko d 187 72 [] D N I J x (t + 300) := by
  cases hq : lgS D N (N 89) (D 0 * D 1) with
  | none =>
    refine op_same (v := .int (-2)) h (by omega) ?_ ?_
    · intro Q hQ
      refine k_187 h.1 (fun _ N' I' J' a1 a2 a3 a4 a5 => hQ N' I' J' a1 a2 a3 a4 a5) (fun b l e => ?_)
      rw [hq] at e
      cases e
    · intro N1 I1 J1 h1 hN hI hJ Q hQ
      refine r_72 h1 (fun _ N' I' a1 a2 a3 => hQ N' I' J1 a1 a2 qJ_r ⟨a3, fun _ => rfl⟩) (fun b l e => ?_)
      rw [sN_89 hN, smR_lg (sN_sm hN), hq] at e
      cases e
  | some p =>
    obtain ⟨b, l⟩ := p
    refine op_ans (v := .int (nI b)) (m := 2) (f := fun i => if i = 0 then lN l else lN (crsS D N (N 89)).1) h (by decide) (by omega) ?_ ?_
    · intro Q hQ
      refine k_187 h.1 (fun e => ?_) (fun b' l' e => ?_)
      · rw [hq] at e
        cases e
      · rw [hq] at e
        cases e
        exact hQ
    · intro N1 I1 J1 h1 hN hI hJ Q hQ
      refine r_72 h1 (fun e => ?_) (fun b' l' e => ?_)
      · rw [sN_89 hN, smR_lg (sN_sm hN), hq] at e
        cases e
      · rw [sN_89 hN, smR_lg (sN_sm hN), hq] at e
        cases e
        rw [sN_89 hN, smR_crs (sN_sm hN)]
        exact hQ
end L2
