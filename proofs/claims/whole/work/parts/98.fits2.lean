/-! fits: both sides. From wip/whole/src. -/
def popN : Nat → Nat → Nat
  | 0, _ => 0
  | k + 1, m => popN k m + (m / 2 ^ k) % 2
theorem pop_le : ∀ k m, popN k m ≤ k
  | 0, _ => Nat.le_refl _
  | k + 1, m => by
    have := pop_le k m
    rw [popN]
    omega
def bcI (a : Int32) : Int32 :=
  let b := a - ((a.toUInt32 >>> ((nI 1).toUInt32 &&& Int32.toUInt32 31)).toInt32 &&& nI 1431655765)
  let c := (b &&& nI 858993459) + ((b.toUInt32 >>> ((nI 2).toUInt32 &&& Int32.toUInt32 31)).toInt32 &&& nI 858993459)
  let e := (c + (c.toUInt32 >>> ((nI 4).toUInt32 &&& Int32.toUInt32 31)).toInt32) &&& nI 252645135
  let f := e + (e.toUInt32 >>> ((nI 8).toUInt32 &&& Int32.toUInt32 31)).toInt32
  let g := f + (f.toUInt32 >>> ((nI 16).toUInt32 &&& Int32.toUInt32 31)).toInt32
  g &&& nI 63
theorem bcI_n : ∀ m, m < 64 → bcI (nI m) = nI (popN 6 m) := by decide +kernel
section F2
variable {ko : aKo} {d k : Nat} {is : List Instr} {ls st : List Value} {σ : aH} {D : Nat → Nat} {N : Nat → Nat → Nat} {I : Nat → Nat → Int32} {J : Nat → Nat → Int64} {x t : Nat} {Q : Option Value → aH → Prop} {P : (Option Value ⊕ Unit) → aH → Prop}
theorem t_121 {m : Nat} (hm : m < 64) : aMm ko d 121 [.int (nI m)] σ Q = Q (some (.int (nI (popN 6 m)))) σ := by
  have h : aMm ko d 121 [.int (nI m)] σ Q = Q (some (.int (bcI (nI m)))) σ := by
    rw [me_121]
    generalize nI m = z
    simp (disch := (first | omega | exact aCat_8 (by with_unfolding_all rfl) | exact rk_lt (by with_unfolding_all rfl) | exact aCat_16 (by with_unfolding_all rfl) | exact rk_eq (by with_unfolding_all rfl) | assumption | exact b2n_lt _ | exact id_b (by with_unfolding_all rfl) | (simp (disch := omega) only [u2_same, u2_ab, u2_aq]; done) | (simp (disch := omega) only [u2_same, u2_ab, u2_aq]; omega) | fail)) only [al_7744, wp_iload_0, wk_1, wp_iushr, wk_1431655765, wp_iand, wp_isub, wp_istore_0, wk_858993459, wk_2, wp_iadd, wk_4, wk_252645135, wk_8, wk_16, wk_63, wp_ireturn, nl_i, nl_r, nl_k, nl_j, nl_l, nI_add, pk_mul, pk_sub, tl_s, tl_n, aL_inl, u2_same, u2_ab, u2_aq, nI_l, lN_i, Nat.add_zero, Nat.zero_add, Nat.zero_le, true_and, and_true, b2n_10, b2n_T, b2n_F, b2n_0, Decidable.not_not, not_true_eq_false, not_false_eq_true, Nat.reduceAdd, Nat.reduceMul, Nat.reduceSub]
    rfl
  rw [h, bcI_n m hm]
theorem wp_maxm {b : Nat} (hb : b < 2147483648) (h : aCat (.int (nI b) :: .int (-1) :: st) ≤ 16) : aWp ko d k (.invokedynamic 6 :: is) ls (.int (nI b) :: .int (-1) :: st) σ P = aWp ko d k is ls (.int (nI b) :: st) σ P := by
  rw [wp_maxx h, if_pos]
  rw [Int32.lt_iff_toInt_lt, nI_toInt hb]
  show (-1 : Int) < _
  omega
theorem l_202 {N0 : Nat → Nat → Nat} {I0 : Nat → Nat → Int32} {J0 : Nat → Nat → Int64} {c n : Nat} (h : invB D N0 I0 J0 t) (hc : c < D 1) (hr : rsO N0 N I0 I J0 J) (hn : ∀ j, j < N0 86 46 → N0 114 j < n) (hw : drwn D N0 J n (c + 1) 0) :
    ∀ (j i : Nat) (w : Value), i + j = N0 86 46 → asnT D N0 c i = true → aWp ko d 202 (aP.1 (Int.toNat 12929)) [.ref 0, .int (nI c), .int (nI i), w, .float 0] [] (hp D N I J x) (aL Q) = Q (some (.int (nI (b2n (asn D N0 c = true))))) (hp D N I J x) := by
  have hS := h.2.2.2.2.2.2.2.1
  have hF := dm_F h.1.1
  have hd6 := h.1.1.2.2.2
  have e3 : N 65 3 = N0 86 46 := (hr.1 65 3 rfl).trans hS.1
  intro j
  induction j with
  | zero =>
    intro i w hj ha
    have e : i = N0 86 46 := by omega
    have hb : asn D N0 c = true := by
      unfold asn
      rw [← e]
      exact ha
    have h10 := hS.2.1
    rw [al_12929, b2n_t hb]
    simp (disch := (first | omega | exact aCat_8 (by with_unfolding_all rfl) | exact rk_lt (by with_unfolding_all rfl) | exact aCat_16 (by with_unfolding_all rfl) | exact rk_eq (by with_unfolding_all rfl) | assumption | exact b2n_lt _ | exact id_b (by with_unfolding_all rfl) | (simp (disch := omega) only [u2_same, u2_ab, u2_aq]; done) | (simp (disch := omega) only [u2_same, u2_ab, u2_aq]; omega) | fail)) only [al_12928, wk_0, wp_istore_2, wp_jsr, wp_iload_2, wp_aloadr_0, wp_aloadk_0, hg_0_14, hg_65_3, hg_69_3, wn_ge_t, wn_ge_f, hg_0_17, ha_77l, ha_77s, wp_iload_1, hg_65_0, ha_66l, ha_66s, hg_69_0, ha_70l, ha_70s, wc_201, wp_lstore_3, wp_lload_3, hg_65_1, ha_67l, ha_67s, hg_69_1, ha_71l, ha_71s, wc_161, t_161, hg_65_2, ha_68l, ha_68s, hg_69_2, ha_72l, ha_72s, wn_eq_t, wn_eq_f, wp_freturn0, wp_freturn1, wp_freturnb, al_12930, wp_iinc_2_1, wp_goto, al_12931, wk_1, nl_i, nl_r, nl_k, nl_j, nl_l, nI_add, pk_mul, pk_sub, tl_s, tl_n, aL_inl, u2_same, u2_ab, u2_aq, nI_l, lN_i, Nat.add_zero, Nat.zero_add, Nat.zero_le, true_and, and_true, b2n_10, b2n_T, b2n_F, b2n_0, Decidable.not_not, not_true_eq_false, not_false_eq_true, Nat.reduceAdd, Nat.reduceMul, Nat.reduceSub, e3]
  | succ j ih =>
    intro i w hj ha
    obtain ⟨s1, s2, s3, s4, s5, s6⟩ := hS.2.2 i (by omega)
    have h10 := hS.2.1
    have e66 : N 66 i = N0 114 i := (hr.1 66 i rfl).trans s1
    have e67 : N 67 i = N0 115 i := (hr.1 67 i rfl).trans s2
    have e68 : N 68 i = N0 116 i := (hr.1 68 i rfl).trans s3
    have hb := hw c (N0 114 i) (hn i (by omega)) (Or.inl (Nat.lt_succ_self c)) (N0 115 i) (by omega)
    have hs : senB D N0 c i = decide (b2n (fcO D N0 c (N0 114 i) (N0 115 i) = true) = N0 116 i) := rfl
    rw [al_12929]
    by_cases z : b2n (fcO D N0 c (N0 114 i) (N0 115 i) = true) = N0 116 i
    · simp (disch := (first | omega | exact aCat_8 (by with_unfolding_all rfl) | exact rk_lt (by with_unfolding_all rfl) | exact aCat_16 (by with_unfolding_all rfl) | exact rk_eq (by with_unfolding_all rfl) | assumption | exact b2n_lt _ | exact id_b (by with_unfolding_all rfl) | (simp (disch := omega) only [u2_same, u2_ab, u2_aq]; done) | (simp (disch := omega) only [u2_same, u2_ab, u2_aq]; omega) | fail)) only [al_12928, wk_0, wp_istore_2, wp_jsr, wp_iload_2, wp_aloadr_0, wp_aloadk_0, hg_0_14, hg_65_3, hg_69_3, wn_ge_t, wn_ge_f, hg_0_17, ha_77l, ha_77s, wp_iload_1, hg_65_0, ha_66l, ha_66s, hg_69_0, ha_70l, ha_70s, wc_201, wp_lstore_3, wp_lload_3, hg_65_1, ha_67l, ha_67s, hg_69_1, ha_71l, ha_71s, wc_161, t_161, hg_65_2, ha_68l, ha_68s, hg_69_2, ha_72l, ha_72s, wn_eq_t, wn_eq_f, wp_freturn0, wp_freturn1, wp_freturnb, al_12930, wp_iinc_2_1, wp_goto, al_12931, wk_1, nl_i, nl_r, nl_k, nl_j, nl_l, nI_add, pk_mul, pk_sub, tl_s, tl_n, aL_inl, u2_same, u2_ab, u2_aq, nI_l, lN_i, Nat.add_zero, Nat.zero_add, Nat.zero_le, true_and, and_true, b2n_10, b2n_T, b2n_F, b2n_0, Decidable.not_not, not_true_eq_false, not_false_eq_true, Nat.reduceAdd, Nat.reduceMul, Nat.reduceSub, e3, e66, e67, e68, t_201 (show c ≤ 6 by omega) (show N0 114 i ≤ 21 by omega), hb, z]
      refine ih (i + 1) _ (by omega) ?_
      show (asnT D N0 c i && senB D N0 c i) = true
      rw [ha, hs, decide_eq_true z]
      rfl
    · have hf : ¬ asn D N0 c = true := by
        intro y
        have := (asn_all _).mp y i (by omega)
        rw [hs, decide_eq_false z] at this
        cases this
      have hle := b2n_le (fcO D N0 c (N0 114 i) (N0 115 i) = true)
      rw [b2n_f hf]
      simp (disch := (first | omega | exact aCat_8 (by with_unfolding_all rfl) | exact rk_lt (by with_unfolding_all rfl) | exact aCat_16 (by with_unfolding_all rfl) | exact rk_eq (by with_unfolding_all rfl) | assumption | exact b2n_lt _ | exact id_b (by with_unfolding_all rfl) | (simp (disch := omega) only [u2_same, u2_ab, u2_aq]; done) | (simp (disch := omega) only [u2_same, u2_ab, u2_aq]; omega) | fail)) only [al_12928, wk_0, wp_istore_2, wp_jsr, wp_iload_2, wp_aloadr_0, wp_aloadk_0, hg_0_14, hg_65_3, hg_69_3, wn_ge_t, wn_ge_f, hg_0_17, ha_77l, ha_77s, wp_iload_1, hg_65_0, ha_66l, ha_66s, hg_69_0, ha_70l, ha_70s, wc_201, wp_lstore_3, wp_lload_3, hg_65_1, ha_67l, ha_67s, hg_69_1, ha_71l, ha_71s, wc_161, t_161, hg_65_2, ha_68l, ha_68s, hg_69_2, ha_72l, ha_72s, wn_eq_t, wn_eq_f, wp_freturn0, wp_freturn1, wp_freturnb, al_12930, wp_iinc_2_1, wp_goto, al_12931, wk_1, nl_i, nl_r, nl_k, nl_j, nl_l, nI_add, pk_mul, pk_sub, tl_s, tl_n, aL_inl, u2_same, u2_ab, u2_aq, nI_l, lN_i, Nat.add_zero, Nat.zero_add, Nat.zero_le, true_and, and_true, b2n_10, b2n_T, b2n_F, b2n_0, Decidable.not_not, not_true_eq_false, not_false_eq_true, Nat.reduceAdd, Nat.reduceMul, Nat.reduceSub, e3, e66, e67, e68, t_201 (show c ≤ 6 by omega) (show N0 114 i ≤ 21 by omega), hb]
theorem t_202 {N0 : Nat → Nat → Nat} {I0 : Nat → Nat → Int32} {J0 : Nat → Nat → Int64} {c n : Nat} (h : invB D N0 I0 J0 t) (hc : c < D 1) (hr : rsO N0 N I0 I J0 J) (hn : ∀ j, j < N0 86 46 → N0 114 j < n) (hw : drwn D N0 J n (c + 1) 0) :
    aMm ko d 202 [.ref 0, .int (nI c)] (hp D N I J x) Q = Q (some (.int (nI (b2n (asn D N0 c = true))))) (hp D N I J x) := by
  have hx := fun w => l_202 (ko := ko) (d := d) (x := x) (Q := Q) h hc hr hn hw (N0 86 46) 0 w (by omega) rfl
  rw [me_202]
  simp (disch := (first | omega | exact aCat_8 (by with_unfolding_all rfl) | exact rk_lt (by with_unfolding_all rfl) | exact aCat_16 (by with_unfolding_all rfl) | exact rk_eq (by with_unfolding_all rfl) | assumption | exact b2n_lt _ | exact id_b (by with_unfolding_all rfl) | (simp (disch := omega) only [u2_same, u2_ab, u2_aq]; done) | (simp (disch := omega) only [u2_same, u2_ab, u2_aq]; omega) | fail)) only [al_12928, wk_0, wp_istore_2, wp_jsr, wp_iload_2, wp_aloadr_0, wp_aloadk_0, hg_0_14, hg_65_3, hg_69_3, wn_ge_t, wn_ge_f, hg_0_17, ha_77l, ha_77s, wp_iload_1, hg_65_0, ha_66l, ha_66s, hg_69_0, ha_70l, ha_70s, wc_201, wp_lstore_3, wp_lload_3, hg_65_1, ha_67l, ha_67s, hg_69_1, ha_71l, ha_71s, wc_161, t_161, hg_65_2, ha_68l, ha_68s, hg_69_2, ha_72l, ha_72s, wn_eq_t, wn_eq_f, wp_freturn0, wp_freturn1, wp_freturnb, al_12930, wp_iinc_2_1, wp_goto, al_12931, wk_1, nl_i, nl_r, nl_k, nl_j, nl_l, nI_add, pk_mul, pk_sub, tl_s, tl_n, aL_inl, u2_same, u2_ab, u2_aq, nI_l, lN_i, Nat.add_zero, Nat.zero_add, Nat.zero_le, true_and, and_true, b2n_10, b2n_T, b2n_F, b2n_0, Decidable.not_not, not_true_eq_false, not_false_eq_true, Nat.reduceAdd, Nat.reduceMul, Nat.reduceSub]
  exact hx _
theorem l_200 {N0 : Nat → Nat → Nat} {I0 : Nat → Nat → Int32} {J0 : Nat → Nat → Int64} {v : Int32} {n : Nat} (h : invB D N0 I0 J0 t) (ht : t + 300 < 1000000000) (hn : n ≤ 21) (hv : ∀ i, i < 22 → (v < nI i ↔ n ≤ i)) (hs : ∀ j, j < N0 86 46 → N0 114 j < n)
    (hQ : ∀ (N : Nat → Nat → Nat) (I : Nat → Nat → Int32) (J : Nat → Nat → Int64), rsO N0 N I0 I J0 J → drwn D N0 J n (D 1) 0 → Q (some (.int (nI (fitN D N0 (D 1))))) (hp D N I J x)) :
    ∀ (j c : Nat) (N : Nat → Nat → Nat) (I : Nat → Nat → Int32) (J : Nat → Nat → Int64) (w : Value), c + j = D 1 → rsO N0 N I0 I J0 J → drwn D N0 J n c 0 → aWp ko d 200 (aP.1 (Int.toNat 12801)) [.ref 0, .int v, .int (nI (fitN D N0 c)), .int (nI c), w] [] (hp D N I J x) (aL Q) := by
  have hd6 := h.1.1.2.2.2
  have hd3 := h.1.2.2.1
  intro j
  induction j with
  | zero =>
    intro c N I J w hj hr hw
    have e : c = D 1 := by omega
    subst e
    rw [al_12801]
    simp (disch := (first | omega | exact aCat_8 (by with_unfolding_all rfl) | exact rk_lt (by with_unfolding_all rfl) | exact aCat_16 (by with_unfolding_all rfl) | exact rk_eq (by with_unfolding_all rfl) | assumption | exact b2n_lt _ | exact id_b (by with_unfolding_all rfl) | (simp (disch := omega) only [u2_same, u2_ab, u2_aq]; done) | (simp (disch := omega) only [u2_same, u2_ab, u2_aq]; omega) | fail)) only [al_12800, wk_0, wp_istore_2, wp_istore_3, wp_jsr, wp_iload_3, wp_aloadr_0, wp_aloadk_0, hg_0_2, hg_5_1, wn_ge_t, wn_ge_f, hg_0_9, hg_0_7, hp_20_3, hp_22_3, hp_24_3, wp_istore_4, wp_iload_4, wp_iload_1, wn_gt_t, wn_gt_f, wk_20, hg_0_10, hg_0_4, wk_1, wc_254, wp_pop, hg_0_17, ha_77l, ha_77s, wc_201, hg_26_10, wp_iinc_4_1, wp_goto, al_12803, wc_202, wz_eq_t, wz_eq_f, wb_eq_t, wb_eq_f, wm_eq_1, wm_eq_2, wp_iload_2, wp_ishl, wp_ior, al_12804, wp_iinc_3_1, al_12805, wp_ireturn, nl_i, nl_r, nl_k, nl_j, nl_l, nI_add, pk_mul, pk_sub, tl_s, tl_n, aL_inl, u2_same, u2_ab, u2_aq, nI_l, lN_i, Nat.add_zero, Nat.zero_add, Nat.zero_le, true_and, and_true, b2n_10, b2n_T, b2n_F, b2n_0, Decidable.not_not, not_true_eq_false, not_false_eq_true, Nat.reduceAdd, Nat.reduceMul, Nat.reduceSub, hd3]
    exact hQ N I J hr hw
  | succ j ih =>
    intro c N I J w hj hr hw
    have hc : c < D 1 := by omega
    have hfl := fit_lt (D := D) (N := N0) c
    have h2c : 2 ^ c ≤ 2 ^ 5 := Nat.pow_le_pow_right (by decide) (by omega)
    have h25 : (2 : Nat) ^ 5 = 32 := by decide
    rw [al_12801]
    simp (disch := (first | omega | exact aCat_8 (by with_unfolding_all rfl) | exact rk_lt (by with_unfolding_all rfl) | exact aCat_16 (by with_unfolding_all rfl) | exact rk_eq (by with_unfolding_all rfl) | assumption | exact b2n_lt _ | exact id_b (by with_unfolding_all rfl) | (simp (disch := omega) only [u2_same, u2_ab, u2_aq]; done) | (simp (disch := omega) only [u2_same, u2_ab, u2_aq]; omega) | fail)) only [al_12800, wk_0, wp_istore_2, wp_istore_3, wp_jsr, wp_iload_3, wp_aloadr_0, wp_aloadk_0, hg_0_2, hg_5_1, wn_ge_t, wn_ge_f, hg_0_9, hg_0_7, hp_20_3, hp_22_3, hp_24_3, wp_istore_4, wp_iload_4, wp_iload_1, wn_gt_t, wn_gt_f, wk_20, hg_0_10, hg_0_4, wk_1, wc_254, wp_pop, hg_0_17, ha_77l, ha_77s, wc_201, hg_26_10, wp_iinc_4_1, wp_goto, al_12803, wc_202, wz_eq_t, wz_eq_f, wb_eq_t, wb_eq_f, wm_eq_1, wm_eq_2, wp_iload_2, wp_ishl, wp_ior, al_12804, wp_iinc_3_1, al_12805, wp_ireturn, nl_i, nl_r, nl_k, nl_j, nl_l, nI_add, pk_mul, pk_sub, tl_s, tl_n, aL_inl, u2_same, u2_ab, u2_aq, nI_l, lN_i, Nat.add_zero, Nat.zero_add, Nat.zero_le, true_and, and_true, b2n_10, b2n_T, b2n_F, b2n_0, Decidable.not_not, not_true_eq_false, not_false_eq_true, Nat.reduceAdd, Nat.reduceMul, Nat.reduceSub, hd3, wc_283 (m := 24) rfl, t_283 (s := 24) (s' := 20) rfl rfl (by decide)]
    have hcol := col_G h hc
    refine l_200i h ht hc hn hv ?_ n 0 _ _ _ (by omega) (dr_set (dr_n h hr) (by rw [hd3]; exact hcol.1) (cl_col (dr_n h hr).1.2.1) (fun b q z1 z2 => u2_ab z1) (fun _ _ _ => rfl)) ?_
    · intro N1 I1 J1 hr1 hw1
      have ht2 := fun Q => t_202 (ko := ko) (d := d) (x := x) (N := N1) (I := I1) (J := J1) (n := n) (Q := Q) h hc hr1 hs hw1
      rw [al_12803]
      by_cases z : asn D N0 c = true
      · have ef : fitN D N0 (c + 1) = fitN D N0 c + 2 ^ c := by rw [fitN, if_pos z]
        have ho := fit_or c (by omega) _ hfl
        have hih := ih (c + 1) N1 I1 J1 (.int (nI n)) (by omega) hr1 hw1
        rw [ef] at hih
        simp (disch := (first | omega | exact aCat_8 (by with_unfolding_all rfl) | exact rk_lt (by with_unfolding_all rfl) | exact aCat_16 (by with_unfolding_all rfl) | exact rk_eq (by with_unfolding_all rfl) | assumption | exact b2n_lt _ | exact id_b (by with_unfolding_all rfl) | (simp (disch := omega) only [u2_same, u2_ab, u2_aq]; done) | (simp (disch := omega) only [u2_same, u2_ab, u2_aq]; omega) | fail)) only [al_12800, wk_0, wp_istore_2, wp_istore_3, wp_jsr, wp_iload_3, wp_aloadr_0, wp_aloadk_0, hg_0_2, hg_5_1, wn_ge_t, wn_ge_f, hg_0_9, hg_0_7, hp_20_3, hp_22_3, hp_24_3, wp_istore_4, wp_iload_4, wp_iload_1, wn_gt_t, wn_gt_f, wk_20, hg_0_10, hg_0_4, wk_1, wc_254, wp_pop, hg_0_17, ha_77l, ha_77s, wc_201, hg_26_10, wp_iinc_4_1, wp_goto, al_12803, wc_202, wz_eq_t, wz_eq_f, wb_eq_t, wb_eq_f, wm_eq_1, wm_eq_2, wp_iload_2, wp_ishl, wp_ior, al_12804, wp_iinc_3_1, al_12805, wp_ireturn, nl_i, nl_r, nl_k, nl_j, nl_l, nI_add, pk_mul, pk_sub, tl_s, tl_n, aL_inl, u2_same, u2_ab, u2_aq, nI_l, lN_i, Nat.add_zero, Nat.zero_add, Nat.zero_le, true_and, and_true, b2n_10, b2n_T, b2n_F, b2n_0, Decidable.not_not, not_true_eq_false, not_false_eq_true, Nat.reduceAdd, Nat.reduceMul, Nat.reduceSub, ht2, b2n_t z, ho]
        exact hih
      · have ef : fitN D N0 (c + 1) = fitN D N0 c := by rw [fitN, if_neg z]; rfl
        have hih := ih (c + 1) N1 I1 J1 (.int (nI n)) (by omega) hr1 hw1
        rw [ef] at hih
        simp (disch := (first | omega | exact aCat_8 (by with_unfolding_all rfl) | exact rk_lt (by with_unfolding_all rfl) | exact aCat_16 (by with_unfolding_all rfl) | exact rk_eq (by with_unfolding_all rfl) | assumption | exact b2n_lt _ | exact id_b (by with_unfolding_all rfl) | (simp (disch := omega) only [u2_same, u2_ab, u2_aq]; done) | (simp (disch := omega) only [u2_same, u2_ab, u2_aq]; omega) | fail)) only [al_12800, wk_0, wp_istore_2, wp_istore_3, wp_jsr, wp_iload_3, wp_aloadr_0, wp_aloadk_0, hg_0_2, hg_5_1, wn_ge_t, wn_ge_f, hg_0_9, hg_0_7, hp_20_3, hp_22_3, hp_24_3, wp_istore_4, wp_iload_4, wp_iload_1, wn_gt_t, wn_gt_f, wk_20, hg_0_10, hg_0_4, wk_1, wc_254, wp_pop, hg_0_17, ha_77l, ha_77s, wc_201, hg_26_10, wp_iinc_4_1, wp_goto, al_12803, wc_202, wz_eq_t, wz_eq_f, wb_eq_t, wb_eq_f, wm_eq_1, wm_eq_2, wp_iload_2, wp_ishl, wp_ior, al_12804, wp_iinc_3_1, al_12805, wp_ireturn, nl_i, nl_r, nl_k, nl_j, nl_l, nI_add, pk_mul, pk_sub, tl_s, tl_n, aL_inl, u2_same, u2_ab, u2_aq, nI_l, lN_i, Nat.add_zero, Nat.zero_add, Nat.zero_le, true_and, and_true, b2n_10, b2n_T, b2n_F, b2n_0, Decidable.not_not, not_true_eq_false, not_false_eq_true, Nat.reduceAdd, Nat.reduceMul, Nat.reduceSub, ht2, b2n_f z]
        exact hih
    · intro a b hb hab f hf
      rw [cp_J (by decide)]
      exact hw a b hb (by omega) f hf
theorem t_200 {v : Int32} {n : Nat} (h : invB D N I J t) (ht : t + 300 < 1000000000) (hn : n ≤ 21) (hv : ∀ i, i < 22 → (v < nI i ↔ n ≤ i)) (hs : ∀ j, j < N 86 46 → N 114 j < n)
    (hQ : ∀ (N' : Nat → Nat → Nat) (I' : Nat → Nat → Int32) (J' : Nat → Nat → Int64), rsO N N' I I' J J' → drwn D N J' n (D 1) 0 → Q (some (.int (nI (fitN D N (D 1))))) (hp D N' I' J' x)) :
    aMm ko d 200 [.ref 0, .int v] (hp D N I J x) Q := by
  have hx := fun w => l_200 (ko := ko) (d := d) (x := x) (Q := Q) h ht hn hv hs hQ (D 1) 0 N I J w (by omega) rs_r (fun a b _ hab => by omega)
  rw [me_200]
  simp (disch := (first | omega | exact aCat_8 (by with_unfolding_all rfl) | exact rk_lt (by with_unfolding_all rfl) | exact aCat_16 (by with_unfolding_all rfl) | exact rk_eq (by with_unfolding_all rfl) | assumption | exact b2n_lt _ | exact id_b (by with_unfolding_all rfl) | (simp (disch := omega) only [u2_same, u2_ab, u2_aq]; done) | (simp (disch := omega) only [u2_same, u2_ab, u2_aq]; omega) | fail)) only [al_12800, wk_0, wp_istore_2, wp_istore_3, wp_jsr, wp_iload_3, wp_aloadr_0, wp_aloadk_0, hg_0_2, hg_5_1, wn_ge_t, wn_ge_f, hg_0_9, hg_0_7, hp_20_3, hp_22_3, hp_24_3, wp_istore_4, wp_iload_4, wp_iload_1, wn_gt_t, wn_gt_f, wk_20, hg_0_10, hg_0_4, wk_1, wc_254, wp_pop, hg_0_17, ha_77l, ha_77s, wc_201, hg_26_10, wp_iinc_4_1, wp_goto, al_12803, wc_202, wz_eq_t, wz_eq_f, wb_eq_t, wb_eq_f, wm_eq_1, wm_eq_2, wp_iload_2, wp_ishl, wp_ior, al_12804, wp_iinc_3_1, al_12805, wp_ireturn, nl_i, nl_r, nl_k, nl_j, nl_l, nI_add, pk_mul, pk_sub, tl_s, tl_n, aL_inl, u2_same, u2_ab, u2_aq, nI_l, lN_i, Nat.add_zero, Nat.zero_add, Nat.zero_le, true_and, and_true, b2n_10, b2n_T, b2n_F, b2n_0, Decidable.not_not, not_true_eq_false, not_false_eq_true, Nat.reduceAdd, Nat.reduceMul, Nat.reduceSub]
  exact hx _
/-- the latest tide of which something was seen: n tides must be drawn -/
theorem l_248 {N0 : Nat → Nat → Nat} {I0 : Nat → Nat → Int32} {J0 : Nat → Nat → Int64} (h : invB D N0 I0 J0 t) (hN : sN N N0)
    (hQ : ∀ (v : Int32) (n : Nat), n ≤ 21 → (v = -1 ∧ n = 0 ∨ (0 < n ∧ v = nI (n - 1))) → (∀ j, j < N0 86 46 → N0 114 j < n) → Q (some (.int v)) (hp D N I J x)) :
    ∀ (j i : Nat) (v : Int32) (n : Nat), i + j = N0 86 46 → n ≤ 21 → (v = -1 ∧ n = 0 ∨ (0 < n ∧ v = nI (n - 1))) → (∀ k, k < i → N0 114 k < n) → aWp ko d 248 (aP.1 (Int.toNat 15873)) [.ref 65, .int v, .int (nI i)] [] (hp D N I J x) (aL Q) := by
  have hS := h.2.2.2.2.2.2.2.1
  have h10 := hS.2.1
  have e3 : N 65 3 = N0 86 46 := (hN 65 3 rfl).trans hS.1
  intro j
  induction j with
  | zero =>
    intro i v n hj hn hv hk
    have e : i = N0 86 46 := by omega
    subst e
    rw [al_15873]
    simp (disch := (first | omega | exact aCat_8 (by with_unfolding_all rfl) | exact rk_lt (by with_unfolding_all rfl) | exact aCat_16 (by with_unfolding_all rfl) | exact rk_eq (by with_unfolding_all rfl) | assumption | exact b2n_lt _ | exact id_b (by with_unfolding_all rfl) | (simp (disch := omega) only [u2_same, u2_ab, u2_aq]; done) | (simp (disch := omega) only [u2_same, u2_ab, u2_aq]; omega) | fail)) only [al_15872, wk_m1, wp_istore_1, wk_0, wp_istore_2, wp_jsr, wp_iload_2, wp_aloadr_0, wp_aloadk_0, hg_65_3, hg_69_3, wn_ge_t, wn_ge_f, wp_iload_1, hg_65_0, ha_66l, ha_66s, hg_69_0, ha_70l, ha_70s, wp_max, wp_iinc_2_1, wp_goto, al_15874, wp_ireturn, nl_i, nl_r, nl_k, nl_j, nl_l, nI_add, pk_mul, pk_sub, tl_s, tl_n, aL_inl, u2_same, u2_ab, u2_aq, nI_l, lN_i, Nat.add_zero, Nat.zero_add, Nat.zero_le, true_and, and_true, b2n_10, b2n_T, b2n_F, b2n_0, Decidable.not_not, not_true_eq_false, not_false_eq_true, Nat.reduceAdd, Nat.reduceMul, Nat.reduceSub, e3]
    exact hQ v n hn hv hk
  | succ j ih =>
    intro i v n hj hn hv hk
    obtain ⟨s1, s2, s3, s4, s5, s6⟩ := hS.2.2 i (by omega)
    have e66 : N 66 i = N0 114 i := (hN 66 i rfl).trans s1
    rw [al_15873]
    rcases hv with ⟨hv, h0⟩ | ⟨hpos, hv⟩
    · subst hv
      simp (disch := (first | omega | exact aCat_8 (by with_unfolding_all rfl) | exact rk_lt (by with_unfolding_all rfl) | exact aCat_16 (by with_unfolding_all rfl) | exact rk_eq (by with_unfolding_all rfl) | assumption | exact b2n_lt _ | exact id_b (by with_unfolding_all rfl) | (simp (disch := omega) only [u2_same, u2_ab, u2_aq]; done) | (simp (disch := omega) only [u2_same, u2_ab, u2_aq]; omega) | fail)) only [al_15872, wk_m1, wp_istore_1, wk_0, wp_istore_2, wp_jsr, wp_iload_2, wp_aloadr_0, wp_aloadk_0, hg_65_3, hg_69_3, wn_ge_t, wn_ge_f, wp_iload_1, hg_65_0, ha_66l, ha_66s, hg_69_0, ha_70l, ha_70s, wp_max, wp_iinc_2_1, wp_goto, al_15874, wp_ireturn, nl_i, nl_r, nl_k, nl_j, nl_l, nI_add, pk_mul, pk_sub, tl_s, tl_n, aL_inl, u2_same, u2_ab, u2_aq, nI_l, lN_i, Nat.add_zero, Nat.zero_add, Nat.zero_le, true_and, and_true, b2n_10, b2n_T, b2n_F, b2n_0, Decidable.not_not, not_true_eq_false, not_false_eq_true, Nat.reduceAdd, Nat.reduceMul, Nat.reduceSub, e3, e66, wp_maxm]
      refine ih (i + 1) _ (N0 114 i + 1) (by omega) (by omega) (Or.inr ⟨by omega, rfl⟩) ?_
      intro k hk'
      by_cases e : k = i
      · rw [e]; omega
      · have := hk k (by omega)
        omega
    · subst hv
      simp (disch := (first | omega | exact aCat_8 (by with_unfolding_all rfl) | exact rk_lt (by with_unfolding_all rfl) | exact aCat_16 (by with_unfolding_all rfl) | exact rk_eq (by with_unfolding_all rfl) | assumption | exact b2n_lt _ | exact id_b (by with_unfolding_all rfl) | (simp (disch := omega) only [u2_same, u2_ab, u2_aq]; done) | (simp (disch := omega) only [u2_same, u2_ab, u2_aq]; omega) | fail)) only [al_15872, wk_m1, wp_istore_1, wk_0, wp_istore_2, wp_jsr, wp_iload_2, wp_aloadr_0, wp_aloadk_0, hg_65_3, hg_69_3, wn_ge_t, wn_ge_f, wp_iload_1, hg_65_0, ha_66l, ha_66s, hg_69_0, ha_70l, ha_70s, wp_max, wp_iinc_2_1, wp_goto, al_15874, wp_ireturn, nl_i, nl_r, nl_k, nl_j, nl_l, nI_add, pk_mul, pk_sub, tl_s, tl_n, aL_inl, u2_same, u2_ab, u2_aq, nI_l, lN_i, Nat.add_zero, Nat.zero_add, Nat.zero_le, true_and, and_true, b2n_10, b2n_T, b2n_F, b2n_0, Decidable.not_not, not_true_eq_false, not_false_eq_true, Nat.reduceAdd, Nat.reduceMul, Nat.reduceSub, e3, e66]
      refine ih (i + 1) _ (max (n - 1) (N0 114 i) + 1) (by omega) (by omega) (Or.inr ⟨by omega, by rw [Nat.add_sub_cancel]⟩) ?_
      intro k hk'
      by_cases e : k = i
      · rw [e]; omega
      · have := hk k (by omega)
        omega
end F2
