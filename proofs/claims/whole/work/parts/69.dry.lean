/-! dry. From wip/whole/src. -/
/-- what Long.bitCount answers, as it reckons -/
def bcL (v : Int64) : Int32 :=
  let a := v - (((v.toUInt64 >>> ((lN 1).toUInt64 &&& Int64.toUInt64 63)).toInt64) &&& lN 6148914691236517205)
  let b := (a &&& lN 3689348814741910323) + (((a.toUInt64 >>> ((lN 2).toUInt64 &&& Int64.toUInt64 63)).toInt64) &&& lN 3689348814741910323)
  let c := (b + (b.toUInt64 >>> ((lN 4).toUInt64 &&& Int64.toUInt64 63)).toInt64) &&& lN 1085102592571150095
  let e := c + (c.toUInt64 >>> ((lN 8).toUInt64 &&& Int64.toUInt64 63)).toInt64
  let f := e + (e.toUInt64 >>> ((lN 16).toUInt64 &&& Int64.toUInt64 63)).toInt64
  let g := f + (f.toUInt64 >>> ((lN 32).toUInt64 &&& Int64.toUInt64 63)).toInt64
  g.toInt32 &&& nI 127
/-- the bits of a set of fields -/
def cbJ (o : Nat → Bool) : Nat → Int64
  | 0 => lN 0
  | f + 1 => cbJ o f ||| (if o f = true then lN 1 <<< (lN f &&& 63) else lN 0)
theorem tb_cb {o : Nat → Bool} {i : Nat} (hi : i < 64) : ∀ n, n ≤ 64 → tb (cbJ o n) i = (decide (i < n) && o i) := by
  intro n
  induction n with
  | zero =>
    intro _
    rw [cbJ, tb_0]
    simp
  | succ n ih =>
    intro hn
    rw [cbJ, tb_or, ih (by omega)]
    by_cases h : o n = true
    · rw [if_pos h, tb_p2 (by omega) hi]
      by_cases e : i = n
      · subst e; simp [h]
      · by_cases e2 : i < n
        · have : i < n + 1 := by omega
          simp [e, e2, this]
        · have : ¬ i < n + 1 := by omega
          simp [e, e2, this]
    · rw [if_neg h, tb_0]
      by_cases e : i = n
      · subst e; simp [h]
      · by_cases e2 : i < n
        · have : i < n + 1 := by omega
          simp [e2, this]
        · have : ¬ i < n + 1 := by omega
          simp [e2, this]
theorem tb_nat {n i : Nat} (hn : n < 2 ^ 64) : tb (lN n) i = n.testBit i := by
  show (BitVec.ofNat 64 n).getLsbD i = _
  rw [BitVec.getLsbD_ofNat]
  by_cases h : i < 64
  · simp [h]
  · have : n.testBit i = false := Nat.testBit_lt_two_pow (Nat.lt_of_lt_of_le hn (Nat.pow_le_pow_right (by decide) (by omega)))
    simp [h, this]
theorem sh_lN {F : Nat} (hF : F < 63) : lN 1 <<< (lN F &&& 63) - lN 1 = lN (2 ^ F - 1) := by
  have e : lN 1 <<< (lN F &&& 63) = lN (2 ^ F) := by
    apply tb_ext
    intro i hi
    rw [tb_p2 (by omega) hi, tb_nat (Nat.pow_lt_pow_right (by decide) (by omega)), Nat.testBit_two_pow]
    exact decide_eq_decide.mpr ⟨fun z => z.symm, fun z => z.symm⟩
  rw [e]
  have h1 : 1 ≤ 2 ^ F := Nat.one_le_two_pow
  apply Int64.toBitVec_inj.mp
  rw [Int64.toBitVec_sub]
  apply BitVec.eq_of_toNat_eq
  have h2 : 2 ^ F < 2 ^ 64 := Nat.pow_lt_pow_right (by decide) (by omega)
  show (BitVec.ofNat 64 (2 ^ F) - BitVec.ofNat 64 1).toNat = (BitVec.ofNat 64 (2 ^ F - 1)).toNat
  rw [BitVec.toNat_sub, BitVec.toNat_ofNat, BitVec.toNat_ofNat, BitVec.toNat_ofNat]
  omega
theorem tb_all {F i : Nat} (hF : F < 63) : tb (lN 1 <<< (lN F &&& 63) - lN 1) i = decide (i < F) := by
  rw [sh_lN hF, tb_nat (by have := Nat.pow_lt_pow_right (a := 2) (by decide) (show F < 64 by omega); omega), Nat.testBit_two_pow_sub_one]
/-- fields on which it never, always is, in the first k tides -/
def nvr (cs : Nat → Nat × (Nat → Nat) × Bool) (i : Nat) : Nat → Bool
  | 0 => true
  | k + 1 => nvr cs i k && !onP (cs k).1 (cs k).2.1 i
def alw (cs : Nat → Nat × (Nat → Nat) × Bool) (i : Nat) : Nat → Bool
  | 0 => true
  | k + 1 => alw cs i k && onP (cs k).1 (cs k).2.1 i
section O8
variable {ko : aKo} {d k : Nat} {is : List Instr} {ls st : List Value} {σ : aH} {D : Nat → Nat} {N : Nat → Nat → Nat} {I : Nat → Nat → Int32} {J : Nat → Nat → Int64} {x t : Nat} {Q : Option Value → aH → Prop} {P : (Option Value ⊕ Unit) → aH → Prop}
theorem t_122 {v : Int64} : aMm ko d 122 [.long v] σ Q = Q (some (.int (bcL v))) σ := by
  rw [me_122]
  simp (disch := (first | omega | exact aCat_8 (by with_unfolding_all rfl) | exact rk_lt (by with_unfolding_all rfl) | exact aCat_16 (by with_unfolding_all rfl) | exact rk_eq (by with_unfolding_all rfl) | assumption | exact b2n_lt _ | exact id_b (by with_unfolding_all rfl) | (simp (disch := omega) only [u2_same, u2_ab, u2_aq]; done) | (simp (disch := omega) only [u2_same, u2_ab, u2_aq]; omega) | fail)) only [al_7808, wp_lload_0, wk_1, wp_lushr, wl_6148914691236517205, wp_land, wp_lsub, wp_lstore_0, wl_3689348814741910323, wk_2, wp_ladd, wk_4, wl_1085102592571150095, wk_8, wk_16, wk_32, wp_l2i, wk_127, wp_iand, wp_ireturn, nl_i, nl_r, nl_k, nl_j, nl_l, nI_add, pk_mul, pk_sub, tl_s, tl_n, aL_inl, u2_same, u2_ab, u2_aq, nI_l, lN_i, Nat.add_zero, Nat.zero_add, Nat.zero_le, true_and, and_true, b2n_10, b2n_T, b2n_F, b2n_0, Decidable.not_not, not_true_eq_false, not_false_eq_true, Nat.reduceAdd, Nat.reduceMul]
  rfl
theorem l_67 {o : Nat → Bool} (hF : D 0 * D 1 ≤ 36) (ho : ∀ g, g < 36 → N 98 g = b2n (o g = true)) : ∀ j i : Nat, i + j = D 0 * D 1 → aWp ko d 67 (aP.1 (Int.toNat 4289)) [.ref 86, .long (cbJ o i), aJk, .int (nI i)] [] (hp D N I J x) (aL Q) = Q (some (.long (cbJ o (D 0 * D 1)))) (hp D N I J x) := by
  intro j
  induction j with
  | zero =>
    intro i hi
    have e : i = D 0 * D 1 := by omega
    subst e
    simp (disch := (first | omega | exact aCat_8 (by with_unfolding_all rfl) | exact rk_lt (by with_unfolding_all rfl) | exact aCat_16 (by with_unfolding_all rfl) | exact rk_eq (by with_unfolding_all rfl) | assumption | exact b2n_lt _ | exact id_b (by with_unfolding_all rfl) | (simp (disch := omega) only [u2_same, u2_ab, u2_aq]; done) | (simp (disch := omega) only [u2_same, u2_ab, u2_aq]; omega) | fail)) only [al_4288, wl_0, wp_lstore_1, wk_0, wp_istore_3, wp_jsr, al_4289, wp_iload_3, wp_aloadr_0, wp_aloadk_0, wc_10, t_10, wn_ge_t, wn_ge_f, wp_lload_1, hg_86_23, ha_98l, ha_98s, wz_eq_t, wz_eq_f, wb_eq_t, wb_eq_f, wm_eq_1, wm_eq_2, wl_1, wp_lshl, wp_goto, al_4290, al_4291, wp_lor, wp_iinc_3_1, al_4292, wp_lreturn, nl_i, nl_r, nl_k, nl_j, nl_l, nI_add, pk_mul, pk_sub, tl_s, tl_n, aL_inl, u2_same, u2_ab, u2_aq, nI_l, lN_i, Nat.add_zero, Nat.zero_add, Nat.zero_le, true_and, and_true, b2n_10, b2n_T, b2n_F, b2n_0, Decidable.not_not, not_true_eq_false, not_false_eq_true, Nat.reduceAdd, Nat.reduceMul]
  | succ j ih =>
    intro i hi
    have h98 := ho i (by omega)
    have := ih (i + 1) (by omega)
    rw [al_4289]
    by_cases h : o i = true
    · rw [b2n_t h] at h98
      rw [cbJ, if_pos h] at this
      simp (disch := (first | omega | exact aCat_8 (by with_unfolding_all rfl) | exact rk_lt (by with_unfolding_all rfl) | exact aCat_16 (by with_unfolding_all rfl) | exact rk_eq (by with_unfolding_all rfl) | assumption | exact b2n_lt _ | exact id_b (by with_unfolding_all rfl) | (simp (disch := omega) only [u2_same, u2_ab, u2_aq]; done) | (simp (disch := omega) only [u2_same, u2_ab, u2_aq]; omega) | fail)) only [al_4288, wl_0, wp_lstore_1, wk_0, wp_istore_3, wp_jsr, wp_iload_3, wp_aloadr_0, wp_aloadk_0, wc_10, t_10, wn_ge_t, wn_ge_f, wp_lload_1, hg_86_23, ha_98l, ha_98s, wz_eq_t, wz_eq_f, wb_eq_t, wb_eq_f, wm_eq_1, wm_eq_2, wl_1, wp_lshl, wp_goto, al_4290, al_4291, wp_lor, wp_iinc_3_1, al_4292, wp_lreturn, nl_i, nl_r, nl_k, nl_j, nl_l, nI_add, pk_mul, pk_sub, tl_s, tl_n, aL_inl, u2_same, u2_ab, u2_aq, nI_l, lN_i, Nat.add_zero, Nat.zero_add, Nat.zero_le, true_and, and_true, b2n_10, b2n_T, b2n_F, b2n_0, Decidable.not_not, not_true_eq_false, not_false_eq_true, Nat.reduceAdd, Nat.reduceMul]
      exact this
    · rw [b2n_f h] at h98
      rw [cbJ, if_neg h] at this
      simp (disch := (first | omega | exact aCat_8 (by with_unfolding_all rfl) | exact rk_lt (by with_unfolding_all rfl) | exact aCat_16 (by with_unfolding_all rfl) | exact rk_eq (by with_unfolding_all rfl) | assumption | exact b2n_lt _ | exact id_b (by with_unfolding_all rfl) | (simp (disch := omega) only [u2_same, u2_ab, u2_aq]; done) | (simp (disch := omega) only [u2_same, u2_ab, u2_aq]; omega) | fail)) only [al_4288, wl_0, wp_lstore_1, wk_0, wp_istore_3, wp_jsr, wp_iload_3, wp_aloadr_0, wp_aloadk_0, wc_10, t_10, wn_ge_t, wn_ge_f, wp_lload_1, hg_86_23, ha_98l, ha_98s, wz_eq_t, wz_eq_f, wb_eq_t, wb_eq_f, wm_eq_1, wm_eq_2, wl_1, wp_lshl, wp_goto, al_4290, al_4291, wp_lor, wp_iinc_3_1, al_4292, wp_lreturn, nl_i, nl_r, nl_k, nl_j, nl_l, nI_add, pk_mul, pk_sub, tl_s, tl_n, aL_inl, u2_same, u2_ab, u2_aq, nI_l, lN_i, Nat.add_zero, Nat.zero_add, Nat.zero_le, true_and, and_true, b2n_10, b2n_T, b2n_F, b2n_0, Decidable.not_not, not_true_eq_false, not_false_eq_true, Nat.reduceAdd, Nat.reduceMul]
      exact this
theorem t_67 {o : Nat → Bool} (hF : D 0 * D 1 ≤ 36) (ho : ∀ g, g < 36 → N 98 g = b2n (o g = true)) : aMm ko d 67 [.ref 86] (hp D N I J x) Q = Q (some (.long (cbJ o (D 0 * D 1)))) (hp D N I J x) := by
  rw [me_67]
  simp (disch := (first | omega | exact aCat_8 (by with_unfolding_all rfl) | exact rk_lt (by with_unfolding_all rfl) | exact aCat_16 (by with_unfolding_all rfl) | exact rk_eq (by with_unfolding_all rfl) | assumption | exact b2n_lt _ | exact id_b (by with_unfolding_all rfl) | (simp (disch := omega) only [u2_same, u2_ab, u2_aq]; done) | (simp (disch := omega) only [u2_same, u2_ab, u2_aq]; omega) | fail)) only [al_4288, wl_0, wp_lstore_1, wk_0, wp_istore_3, wp_jsr, wp_iload_3, wp_aloadr_0, wp_aloadk_0, wc_10, t_10, wn_ge_t, wn_ge_f, wp_lload_1, hg_86_23, ha_98l, ha_98s, wz_eq_t, wz_eq_f, wb_eq_t, wb_eq_f, wm_eq_1, wm_eq_2, wl_1, wp_lshl, wp_goto, al_4290, al_4291, wp_lor, wp_iinc_3_1, al_4292, wp_lreturn, nl_i, nl_r, nl_k, nl_j, nl_l, nI_add, pk_mul, pk_sub, tl_s, tl_n, aL_inl, u2_same, u2_ab, u2_aq, nI_l, lN_i, Nat.add_zero, Nat.zero_add, Nat.zero_le, true_and, and_true, b2n_10, b2n_T, b2n_F, b2n_0, Decidable.not_not, not_true_eq_false, not_false_eq_true, Nat.reduceAdd, Nat.reduceMul]
  exact l_67 hF ho (D 0 * D 1) 0 (by omega)
theorem l_182 {N0 : Nat → Nat → Nat} {I0 : Nat → Nat → Int32} {J0 : Nat → Nat → Int64} {n : Nat} {ne al : Int64} (h : invB D N0 I0 J0 t) (ht : t + 300 < 1000000000) (hn : n ≤ 99)
    (hne : ∀ i, i < 64 → tb ne i = (decide (i < D 0 * D 1) && nvr (fun k => crsS D N0 (itS D N0 (N0 89) k)) i n)) (hal : ∀ i, i < 64 → tb al i = (decide (i < D 0 * D 1) && alw (fun k => crsS D N0 (itS D N0 (N0 89) k)) i n))
    (hQ : ansC D N0 I0 J0 x (.long ne) 2 (fun i => if i = 0 then (bcL ne).toInt64 else (bcL al).toInt64) Q) :
    ∀ (j k : Nat) (N : Nat → Nat → Nat) (I : Nat → Nat → Int32) (J : Nat → Nat → Int64) (a b : Int64), k + j = n → drO D N0 N I0 I J0 J (itS D N0 (N0 89) k) → (∀ i, i < 64 → tb a i = (decide (i < D 0 * D 1) && nvr (fun k => crsS D N0 (itS D N0 (N0 89) k)) i k)) → (∀ i, i < 64 → tb b i = (decide (i < D 0 * D 1) && alw (fun k => crsS D N0 (itS D N0 (N0 89) k)) i k)) → aWp ko d 182 (aP.1 (Int.toNat 11650)) [.ref 0, .int (nI n), .long a, aJk, .long b, aJk, .int (nI k)] [] (hp D N I J x) (aL Q) := by
  intro j
  induction j with
  | zero =>
    intro k N I J a b hj hD ha hb
    have e : k = n := by omega
    subst e
    have e1 : a = ne := tb_ext (fun i hi => by rw [ha i hi, hne i hi])
    have e2 : b = al := tb_ext (fun i hi => by rw [hb i hi, hal i hi])
    subst e1
    subst e2
    rw [al_11650]
    simp (disch := (first | omega | exact aCat_8 (by with_unfolding_all rfl) | exact rk_lt (by with_unfolding_all rfl) | exact aCat_16 (by with_unfolding_all rfl) | exact rk_eq (by with_unfolding_all rfl) | assumption | exact b2n_lt _ | exact id_b (by with_unfolding_all rfl) | (simp (disch := omega) only [u2_same, u2_ab, u2_aq]; done) | (simp (disch := omega) only [u2_same, u2_ab, u2_aq]; omega) | fail)) only [al_11648, wp_iload_1, wc_180, wz_eq_t, wz_eq_f, wb_eq_t, wb_eq_f, wm_eq_1, wm_eq_2, wl_m1, wp_lreturn, al_11649, wp_aloadr_0, wp_aloadk_0, hg_0_2, hg_5_3, wp_lstore_2, wp_lstore_4, hg_0_9, hg_0_7, wk_0, wp_istore_6, wp_jsr, wp_iload_6, wn_ge_t, wn_ge_f, hg_0_10, hg_0_4, wk_1, wc_254, wp_pop, wp_lload_2, hg_26_10, wp_lxor, wp_land, wp_lload_4, wp_iinc_6_1, wp_goto, al_11651, hg_0_1, wc_292, t_292, wc_122, wp_i2l, wc_293, t_293, nl_i, nl_r, nl_k, nl_j, nl_l, nI_add, pk_mul, pk_sub, tl_s, tl_n, aL_inl, u2_same, u2_ab, u2_aq, nI_l, lN_i, Nat.add_zero, Nat.zero_add, Nat.zero_le, true_and, and_true, b2n_10, b2n_T, b2n_F, b2n_0, Decidable.not_not, not_true_eq_false, not_false_eq_true, Nat.reduceAdd, Nat.reduceMul, t_122]
    exact hQ _ _ _ (sN_u (sN_u (sN_u hD.2.2.2.1 rfl) rfl) rfl) hD.2.2.2.2.1 (sJ_u (sJ_u hD.2.2.2.2.2.1 rfl) rfl) td2C
  | succ j ih =>
    intro k N I J a b hj hD ha hb
    rw [al_11650]
    simp (disch := (first | omega | exact aCat_8 (by with_unfolding_all rfl) | exact rk_lt (by with_unfolding_all rfl) | exact aCat_16 (by with_unfolding_all rfl) | exact rk_eq (by with_unfolding_all rfl) | assumption | exact b2n_lt _ | exact id_b (by with_unfolding_all rfl) | (simp (disch := omega) only [u2_same, u2_ab, u2_aq]; done) | (simp (disch := omega) only [u2_same, u2_ab, u2_aq]; omega) | fail)) only [al_11648, wp_iload_1, wc_180, wz_eq_t, wz_eq_f, wb_eq_t, wb_eq_f, wm_eq_1, wm_eq_2, wl_m1, wp_lreturn, al_11649, wp_aloadr_0, wp_aloadk_0, hg_0_2, hg_5_3, wp_lstore_2, wp_lstore_4, hg_0_9, hg_0_7, wk_0, wp_istore_6, wp_jsr, wp_iload_6, wn_ge_t, wn_ge_f, hg_0_10, hg_0_4, wk_1, wc_254, wp_pop, wp_lload_2, hg_26_10, wp_lxor, wp_land, wp_lload_4, wp_iinc_6_1, wp_goto, al_11651, hg_0_1, wc_292, t_292, wc_122, wp_i2l, wc_293, t_293, nl_i, nl_r, nl_k, nl_j, nl_l, nI_add, pk_mul, pk_sub, tl_s, tl_n, aL_inl, u2_same, u2_ab, u2_aq, nI_l, lN_i, Nat.add_zero, Nat.zero_add, Nat.zero_le, true_and, and_true, b2n_10, b2n_T, b2n_F, b2n_0, Decidable.not_not, not_true_eq_false, not_false_eq_true, Nat.reduceAdd, Nat.reduceMul]
    refine dr_1 h (by omega) ht hD ?_
    intro N' I' J' hD' hc' _ _ _
    simp (disch := (first | omega | exact aCat_8 (by with_unfolding_all rfl) | exact rk_lt (by with_unfolding_all rfl) | exact aCat_16 (by with_unfolding_all rfl) | exact rk_eq (by with_unfolding_all rfl) | assumption | exact b2n_lt _ | exact id_b (by with_unfolding_all rfl) | (simp (disch := omega) only [u2_same, u2_ab, u2_aq]; done) | (simp (disch := omega) only [u2_same, u2_ab, u2_aq]; omega) | fail)) only [al_11648, wp_iload_1, wc_180, wz_eq_t, wz_eq_f, wb_eq_t, wb_eq_f, wm_eq_1, wm_eq_2, wl_m1, wp_lreturn, al_11649, wp_aloadr_0, wp_aloadk_0, hg_0_2, hg_5_3, wp_lstore_2, wp_lstore_4, hg_0_9, hg_0_7, wk_0, wp_istore_6, wp_jsr, wp_iload_6, wn_ge_t, wn_ge_f, hg_0_10, hg_0_4, wk_1, wc_254, wp_pop, wp_lload_2, hg_26_10, wp_lxor, wp_land, wp_lload_4, wp_iinc_6_1, wp_goto, al_11651, hg_0_1, wc_292, t_292, wc_122, wp_i2l, wc_293, t_293, nl_i, nl_r, nl_k, nl_j, nl_l, nI_add, pk_mul, pk_sub, tl_s, tl_n, aL_inl, u2_same, u2_ab, u2_aq, nI_l, lN_i, Nat.add_zero, Nat.zero_add, Nat.zero_le, true_and, and_true, b2n_10, b2n_T, b2n_F, b2n_0, Decidable.not_not, not_true_eq_false, not_false_eq_true, Nat.reduceAdd, Nat.reduceMul]
    refine ih (k + 1) N' I' J' _ _ (by omega) hD' ?_ ?_
    · intro i hi
      rw [tb_and, tb_not hi, ha i hi, hc'.2.2.1 i hi, nvr, Bool.and_assoc]
    · intro i hi
      rw [tb_and, hb i hi, hc'.2.2.1 i hi, alw, Bool.and_assoc]
theorem l_66 {N0 : Nat → Nat → Nat} {I0 : Nat → Nat → Int32} {J0 : Nat → Nat → Int64} {n : Nat} {ne al : Int64} (h : invB D N0 I0 J0 t) (ht : t + 300 < 1000000000) (hn : n ≤ 99)
    (hne : ∀ i, i < 64 → tb ne i = (decide (i < D 0 * D 1) && nvr (fun k => crsS D N0 (itS D N0 (N0 89) k)) i n)) (hal : ∀ i, i < 64 → tb al i = (decide (i < D 0 * D 1) && alw (fun k => crsS D N0 (itS D N0 (N0 89) k)) i n))
    (hQ : ansR D N0 I0 J0 x (.long ne) 2 (fun i => if i = 0 then (bcL ne).toInt64 else (bcL al).toInt64) Q) :
    ∀ (j k : Nat) (N : Nat → Nat → Nat) (I : Nat → Nat → Int32) (a b : Int64), k + j = n → thO N0 N I0 I (itS D N0 (N0 89) k) → (∀ i, i < 64 → tb a i = (decide (i < D 0 * D 1) && alw (fun k => crsS D N0 (itS D N0 (N0 89) k)) i k)) → (∀ i, i < 64 → tb b i = (decide (i < D 0 * D 1) && !nvr (fun k => crsS D N0 (itS D N0 (N0 89) k)) i k)) → aWp ko d 66 (aP.1 (Int.toNat 4226)) [.ref 86, .int (nI n), .long a, aJk, .long b, aJk, .int (nI k), aJk] [] (hp D N I J0 x) (aL Q) := by
  have hF := dm_F h.1.1
  intro j
  induction j with
  | zero =>
    intro k N I a b hj hT ha hb
    have e : k = n := by omega
    subst e
    have e2 : a = al := tb_ext (fun i hi => by rw [ha i hi, hal i hi])
    subst e2
    have e1 : (lN 1 <<< (lN (D 0 * D 1) &&& 63) - lN 1) &&& (b ^^^ -1) = ne := tb_ext (fun i hi => by
      rw [tb_and, tb_all (by omega), tb_not hi, hb i hi, hne i hi]
      cases decide (i < D 0 * D 1) <;> simp)
    rw [al_4226]
    simp (disch := (first | omega | exact aCat_8 (by with_unfolding_all rfl) | exact rk_lt (by with_unfolding_all rfl) | exact aCat_16 (by with_unfolding_all rfl) | exact rk_eq (by with_unfolding_all rfl) | assumption | exact b2n_lt _ | exact id_b (by with_unfolding_all rfl) | (simp (disch := omega) only [u2_same, u2_ab, u2_aq]; done) | (simp (disch := omega) only [u2_same, u2_ab, u2_aq]; omega) | fail)) only [al_4224, wp_aloadr_0, wp_aloadk_0, wk_0, hp_86_0, wp_iload_1, wp_i2l, wl_1, wl_99, wc_4, t_4, lN_le, wz_ne_t, wz_ne_f, wb_ne_t, wb_ne_f, wm_ne_1, wm_ne_2, wl_m1, wp_lreturn, al_4225, wc_60, wc_10, t_10, wp_lshl, wp_lsub, wp_lstore_2, wl_0, wp_lstore_4, wp_istore_6, wp_jsr, wp_iload_6, wn_ge_t, wn_ge_f, hg_86_9, ha_90l, ha_90s, wc_41, wp_lload_2, wc_67, wp_land, wp_lload_4, wp_lor, wp_iinc_6_1, wp_goto, al_4227, wp_lxor, wp_lstore_6, hp_86_1, wp_lload_6, wc_122, wc_43, t_43, nl_i, nl_r, nl_k, nl_j, nl_l, nI_add, pk_mul, pk_sub, tl_s, tl_n, aL_inl, u2_same, u2_ab, u2_aq, nI_l, lN_i, Nat.add_zero, Nat.zero_add, Nat.zero_le, true_and, and_true, b2n_10, b2n_T, b2n_F, b2n_0, Decidable.not_not, not_true_eq_false, not_false_eq_true, Nat.reduceAdd, Nat.reduceMul, t_122, e1]
    exact hQ _ _ _ (qN_u (qN_u (qN_u hT.2.1 rfl) rfl) rfl) hT.2.2.1 (qJ_u (qJ_u qJ_r rfl) rfl) td2R
  | succ j ih =>
    intro k N I a b hj hT ha hb
    rw [al_4226]
    simp (disch := (first | omega | exact aCat_8 (by with_unfolding_all rfl) | exact rk_lt (by with_unfolding_all rfl) | exact aCat_16 (by with_unfolding_all rfl) | exact rk_eq (by with_unfolding_all rfl) | assumption | exact b2n_lt _ | exact id_b (by with_unfolding_all rfl) | (simp (disch := omega) only [u2_same, u2_ab, u2_aq]; done) | (simp (disch := omega) only [u2_same, u2_ab, u2_aq]; omega) | fail)) only [al_4224, wp_aloadr_0, wp_aloadk_0, wk_0, hp_86_0, wp_iload_1, wp_i2l, wl_1, wl_99, wc_4, t_4, lN_le, wz_ne_t, wz_ne_f, wb_ne_t, wb_ne_f, wm_ne_1, wm_ne_2, wl_m1, wp_lreturn, al_4225, wc_60, wc_10, t_10, wp_lshl, wp_lsub, wp_lstore_2, wl_0, wp_lstore_4, wp_istore_6, wp_jsr, wp_iload_6, wn_ge_t, wn_ge_f, hg_86_9, ha_90l, ha_90s, wc_41, wp_lload_2, wc_67, wp_land, wp_lload_4, wp_lor, wp_iinc_6_1, wp_goto, al_4227, wp_lxor, wp_lstore_6, hp_86_1, wp_lload_6, wc_122, wc_43, t_43, nl_i, nl_r, nl_k, nl_j, nl_l, nI_add, pk_mul, pk_sub, tl_s, tl_n, aL_inl, u2_same, u2_ab, u2_aq, nI_l, lN_i, Nat.add_zero, Nat.zero_add, Nat.zero_le, true_and, and_true, b2n_10, b2n_T, b2n_F, b2n_0, Decidable.not_not, not_true_eq_false, not_false_eq_true, Nat.reduceAdd, Nat.reduceMul]
    refine th_1 h (by omega) ht hT ?_
    intro N1 I1 hT1 hc1 _ _
    have ho : ∀ g, g < 36 → N1 98 g = b2n (onP (crsS D N0 (itS D N0 (N0 89) k)).1 (crsS D N0 (itS D N0 (N0 89) k)).2.1 g = true) := hc1.2.2.2
    simp (disch := (first | omega | exact aCat_8 (by with_unfolding_all rfl) | exact rk_lt (by with_unfolding_all rfl) | exact aCat_16 (by with_unfolding_all rfl) | exact rk_eq (by with_unfolding_all rfl) | assumption | exact b2n_lt _ | exact id_b (by with_unfolding_all rfl) | (simp (disch := omega) only [u2_same, u2_ab, u2_aq]; done) | (simp (disch := omega) only [u2_same, u2_ab, u2_aq]; omega) | fail)) only [al_4224, wp_aloadr_0, wp_aloadk_0, wk_0, hp_86_0, wp_iload_1, wp_i2l, wl_1, wl_99, wc_4, t_4, lN_le, wz_ne_t, wz_ne_f, wb_ne_t, wb_ne_f, wm_ne_1, wm_ne_2, wl_m1, wp_lreturn, al_4225, wc_60, wc_10, t_10, wp_lshl, wp_lsub, wp_lstore_2, wl_0, wp_lstore_4, wp_istore_6, wp_jsr, wp_iload_6, wn_ge_t, wn_ge_f, hg_86_9, ha_90l, ha_90s, wc_41, wp_lload_2, wc_67, wp_land, wp_lload_4, wp_lor, wp_iinc_6_1, wp_goto, al_4227, wp_lxor, wp_lstore_6, hp_86_1, wp_lload_6, wc_122, wc_43, t_43, nl_i, nl_r, nl_k, nl_j, nl_l, nI_add, pk_mul, pk_sub, tl_s, tl_n, aL_inl, u2_same, u2_ab, u2_aq, nI_l, lN_i, Nat.add_zero, Nat.zero_add, Nat.zero_le, true_and, and_true, b2n_10, b2n_T, b2n_F, b2n_0, Decidable.not_not, not_true_eq_false, not_false_eq_true, Nat.reduceAdd, Nat.reduceMul, t_67 hF.1 ho]
    refine ih (k + 1) N1 I1 _ _ (by omega) hT1 ?_ ?_
    · intro i hi
      rw [tb_and, ha i hi, tb_cb hi _ (by omega), alw]
      cases decide (i < D 0 * D 1) <;> simp
    · intro i hi
      rw [tb_or, hb i hi, tb_cb hi _ (by omega), nvr]
      cases decide (i < D 0 * D 1) <;> simp
theorem o_dry {a : Int32} (h : inv D N I J t) (ht : t + 300 < 1000000000) : opO ko d 182 66 [.int a] D N I J x (t + 300) := by
  have hF := dm_F h.1.1.1
  rcases rng3 a 1 (b := 99) (by decide) (by decide) with ⟨n, hn1, hn, rfl⟩ | hbad
  · have hne : ∀ i, i < 64 → tb (cbJ (fun i => nvr (fun k => crsS D N (itS D N (N 89) k)) i n) (D 0 * D 1)) i = (decide (i < D 0 * D 1) && nvr (fun k => crsS D N (itS D N (N 89) k)) i n) := fun i hi => tb_cb hi _ (by omega)
    have hal : ∀ i, i < 64 → tb (cbJ (fun i => alw (fun k => crsS D N (itS D N (N 89) k)) i n) (D 0 * D 1)) i = (decide (i < D 0 * D 1) && alw (fun k => crsS D N (itS D N (N 89) k)) i n) := fun i hi => tb_cb hi _ (by omega)
    generalize cbJ (fun i => nvr (fun k => crsS D N (itS D N (N 89) k)) i n) (D 0 * D 1) = ne at hne
    generalize cbJ (fun i => alw (fun k => crsS D N (itS D N (N 89) k)) i n) (D 0 * D 1) = al at hal
    refine op_ans (v := .long ne) (m := 2) (f := fun i => if i = 0 then (bcL ne).toInt64 else (bcL al).toInt64) h (by decide) (by omega) ?_ ?_
    · intro Q hQ
      have hb : ¬ (n < 1 ∨ 99 < n) := by omega
      have hall : ∀ i, i < 64 → tb (J 5 3) i = decide (i < D 0 * D 1) := fun i hi => by
        have := (h.1.1.2.2.2.2.2.2 i hi).1
        rw [h.1.1.2.1, h.1.1.2.2.1] at this
        exact this
      rw [me_182]
      simp (disch := (first | omega | exact aCat_8 (by with_unfolding_all rfl) | exact rk_lt (by with_unfolding_all rfl) | exact aCat_16 (by with_unfolding_all rfl) | exact rk_eq (by with_unfolding_all rfl) | assumption | exact b2n_lt _ | exact id_b (by with_unfolding_all rfl) | (simp (disch := omega) only [u2_same, u2_ab, u2_aq]; done) | (simp (disch := omega) only [u2_same, u2_ab, u2_aq]; omega) | fail)) only [al_11648, wp_iload_1, wc_180, wz_eq_t, wz_eq_f, wb_eq_t, wb_eq_f, wm_eq_1, wm_eq_2, wl_m1, wp_lreturn, al_11649, wp_aloadr_0, wp_aloadk_0, hg_0_2, hg_5_3, wp_lstore_2, wp_lstore_4, hg_0_9, hg_0_7, wk_0, wp_istore_6, wp_jsr, wp_iload_6, wn_ge_t, wn_ge_f, hg_0_10, hg_0_4, wk_1, wc_254, wp_pop, wp_lload_2, hg_26_10, wp_lxor, wp_land, wp_lload_4, wp_iinc_6_1, wp_goto, al_11651, hg_0_1, wc_292, t_292, wc_122, wp_i2l, wc_293, t_293, nl_i, nl_r, nl_k, nl_j, nl_l, nI_add, pk_mul, pk_sub, tl_s, tl_n, aL_inl, u2_same, u2_ab, u2_aq, nI_l, lN_i, Nat.add_zero, Nat.zero_add, Nat.zero_le, true_and, and_true, b2n_10, b2n_T, b2n_F, b2n_0, Decidable.not_not, not_true_eq_false, not_false_eq_true, Nat.reduceAdd, Nat.reduceMul, t_180, b2n_f hb, wc_283 (m := 24) rfl, t_283 (s := 24) (s' := 20) rfl rfl (by decide)]
      refine l_182 h.1 ht hn hne hal hQ n 0 _ _ _ _ _ (by omega) (dr_0 h.1) ?_ ?_
      · intro i hi
        rw [hall i hi, nvr, Bool.and_true]
      · intro i hi
        rw [hall i hi, alw, Bool.and_true]
    · intro N1 I1 J1 h1 hN hI hJ Q hQ
      have ee : ∀ k, crsS D N1 (itS D N1 (N1 89) k) = crsS D N (itS D N (N 89) k) := fun k => by rw [sN_89 hN, smR_it (sN_sm hN), smR_crs (sN_sm hN)]
      have ef : (fun k => crsS D N1 (itS D N1 (N1 89) k)) = (fun k => crsS D N (itS D N (N 89) k)) := funext ee
      have hz1 : ∀ q, 111 ≤ q → u2 N1 86 0 0 89 q = 0 := fun q hq => by rw [u2_ab (by decide)]; exact h1.2.2.2.2.1.1.2.2.2.2 q hq
      have hz2 : ∀ q, 111 ≤ q → u2 N1 86 0 0 90 q = 0 := fun q hq => by rw [u2_ab (by decide)]; exact h1.2.2.2.2.2.2.2.2.2 q hq
      rw [← ef] at hne hal
      rw [me_66]
      simp (disch := (first | omega | exact aCat_8 (by with_unfolding_all rfl) | exact rk_lt (by with_unfolding_all rfl) | exact aCat_16 (by with_unfolding_all rfl) | exact rk_eq (by with_unfolding_all rfl) | assumption | exact b2n_lt _ | exact id_b (by with_unfolding_all rfl) | (simp (disch := omega) only [u2_same, u2_ab, u2_aq]; done) | (simp (disch := omega) only [u2_same, u2_ab, u2_aq]; omega) | fail)) only [al_4224, wp_aloadr_0, wp_aloadk_0, wk_0, hp_86_0, wp_iload_1, wp_i2l, wl_1, wl_99, wc_4, t_4, lN_le, wz_ne_t, wz_ne_f, wb_ne_t, wb_ne_f, wm_ne_1, wm_ne_2, wl_m1, wp_lreturn, al_4225, wc_60, wc_10, t_10, wp_lshl, wp_lsub, wp_lstore_2, wl_0, wp_lstore_4, wp_istore_6, wp_jsr, wp_iload_6, wn_ge_t, wn_ge_f, hg_86_9, ha_90l, ha_90s, wc_41, wp_lload_2, wc_67, wp_land, wp_lload_4, wp_lor, wp_iinc_6_1, wp_goto, al_4227, wp_lxor, wp_lstore_6, hp_86_1, wp_lload_6, wc_122, wc_43, t_43, nl_i, nl_r, nl_k, nl_j, nl_l, nI_add, pk_mul, pk_sub, tl_s, tl_n, aL_inl, u2_same, u2_ab, u2_aq, nI_l, lN_i, Nat.add_zero, Nat.zero_add, Nat.zero_le, true_and, and_true, b2n_10, b2n_T, b2n_F, b2n_0, Decidable.not_not, not_true_eq_false, not_false_eq_true, Nat.reduceAdd, Nat.reduceMul, t_60 hz1 hz2]
      refine l_66 h1 ht hn hne hal hQ n 0 _ _ _ _ (by omega) (th_0 h1 (qN_u qN_r rfl) (u2_aq (by decide)) hz1) ?_ ?_
      · intro i hi
        rw [tb_all (by omega), alw, Bool.and_true]
      · intro i hi
        rw [tb_0, nvr]
        simp
  · refine op_same (v := .long (-1)) h (by omega) ?_ ?_
    · intro Q hQ
      rw [me_182]
      simp (disch := (first | omega | exact aCat_8 (by with_unfolding_all rfl) | exact rk_lt (by with_unfolding_all rfl) | exact aCat_16 (by with_unfolding_all rfl) | exact rk_eq (by with_unfolding_all rfl) | assumption | exact b2n_lt _ | exact id_b (by with_unfolding_all rfl) | (simp (disch := omega) only [u2_same, u2_ab, u2_aq]; done) | (simp (disch := omega) only [u2_same, u2_ab, u2_aq]; omega) | fail)) only [al_11648, wp_iload_1, wc_180, wz_eq_t, wz_eq_f, wb_eq_t, wb_eq_f, wm_eq_1, wm_eq_2, wl_m1, wp_lreturn, al_11649, wp_aloadr_0, wp_aloadk_0, hg_0_2, hg_5_3, wp_lstore_2, wp_lstore_4, hg_0_9, hg_0_7, wk_0, wp_istore_6, wp_jsr, wp_iload_6, wn_ge_t, wn_ge_f, hg_0_10, hg_0_4, wk_1, wc_254, wp_pop, wp_lload_2, hg_26_10, wp_lxor, wp_land, wp_lload_4, wp_iinc_6_1, wp_goto, al_11651, hg_0_1, wc_292, t_292, wc_122, wp_i2l, wc_293, t_293, nl_i, nl_r, nl_k, nl_j, nl_l, nI_add, pk_mul, pk_sub, tl_s, tl_n, aL_inl, u2_same, u2_ab, u2_aq, nI_l, lN_i, Nat.add_zero, Nat.zero_add, Nat.zero_le, true_and, and_true, b2n_10, b2n_T, b2n_F, b2n_0, Decidable.not_not, not_true_eq_false, not_false_eq_true, Nat.reduceAdd, Nat.reduceMul, t_180x hbad]
      exact hQ N I J sN_r sI_r sJ_r ⟨rfl, fun _ => rfl⟩ ⟨rfl, fun _ => rfl⟩
    · intro N1 I1 J1 h1 hN hI hJ Q hQ
      have hin := in_f (a := 1) (b := 99) (by decide) (by decide) hbad
      rw [me_66]
      simp (disch := (first | omega | exact aCat_8 (by with_unfolding_all rfl) | exact rk_lt (by with_unfolding_all rfl) | exact aCat_16 (by with_unfolding_all rfl) | exact rk_eq (by with_unfolding_all rfl) | assumption | exact b2n_lt _ | exact id_b (by with_unfolding_all rfl) | (simp (disch := omega) only [u2_same, u2_ab, u2_aq]; done) | (simp (disch := omega) only [u2_same, u2_ab, u2_aq]; omega) | fail)) only [al_4224, wp_aloadr_0, wp_aloadk_0, wk_0, hp_86_0, wp_iload_1, wp_i2l, wl_1, wl_99, wc_4, t_4, lN_le, wz_ne_t, wz_ne_f, wb_ne_t, wb_ne_f, wm_ne_1, wm_ne_2, wl_m1, wp_lreturn, al_4225, wc_60, wc_10, t_10, wp_lshl, wp_lsub, wp_lstore_2, wl_0, wp_lstore_4, wp_istore_6, wp_jsr, wp_iload_6, wn_ge_t, wn_ge_f, hg_86_9, ha_90l, ha_90s, wc_41, wp_lload_2, wc_67, wp_land, wp_lload_4, wp_lor, wp_iinc_6_1, wp_goto, al_4227, wp_lxor, wp_lstore_6, hp_86_1, wp_lload_6, wc_122, wc_43, t_43, nl_i, nl_r, nl_k, nl_j, nl_l, nI_add, pk_mul, pk_sub, tl_s, tl_n, aL_inl, u2_same, u2_ab, u2_aq, nI_l, lN_i, Nat.add_zero, Nat.zero_add, Nat.zero_le, true_and, and_true, b2n_10, b2n_T, b2n_F, b2n_0, Decidable.not_not, not_true_eq_false, not_false_eq_true, Nat.reduceAdd, Nat.reduceMul, b2n_f hin]
      exact hQ _ _ _ (qN_u qN_r rfl) sI_r qJ_r ⟨u2_aq (by decide), fun _ => rfl⟩
end O8
