/-! open: both. From wip/whole/src. -/
theorem sh_1n : ∀ n, n < 13 → nI 1 <<< (nI n &&& 31) = nI (2 ^ n) := by decide +kernel
section P1
variable {ko : aKo} {d k : Nat} {is : List Instr} {ls st : List Value} {σ : aH} {D : Nat → Nat} {N : Nat → Nat → Nat} {I : Nat → Nat → Int32} {J : Nat → Nat → Int64} {x t : Nat} {Q : Option Value → aH → Prop} {P : (Option Value ⊕ Unit) → aH → Prop}
theorem wp_ldivn {a b : Nat} (ha : a < 2 ^ 63) (h0 : 0 < b) (hb : b < 2 ^ 63) : aWp ko d k (.ldiv :: is) ls (.long (lN b) :: .long (lN a) :: st) σ P = aWp ko d k is ls (.long (lN (a / b)) :: st) σ P := by
  rw [wp_ldiv (fun z => by have := (pk_lEQ hb (show 0 < 2 ^ 63 by decide)).mp z; omega), pk_lDiv ha h0 hb]
theorem wp_lremn {a b : Nat} (ha : a < 2 ^ 63) (h0 : 0 < b) (hb : b < 2 ^ 63) : aWp ko d k (.lrem :: is) ls (.long (lN b) :: .long (lN a) :: st) σ P = aWp ko d k is ls (.long (lN (a % b)) :: st) σ P := by
  rw [wp_lrem (fun z => by have := (pk_lEQ hb (show 0 < 2 ^ 63 by decide)).mp z; omega), pk_lRem ha h0 hb]
theorem ln_0 {v : Nat} (hv : v < 2 ^ 63) (h : ¬ v = 0) : ¬ lN v = lN 0 := fun z => h ((pk_lEQ hv (by decide)).mp z)
theorem l_213 {w0 w2 : Int64} : ∀ (n u v i : Nat) (w9 w10 : Value), gS n u v → i + n < 200 → u < 2 ^ 63 → v < 2 ^ 63 → aWp ko d 213 (aP.1 (Int.toNat 13633)) [.long w0, aJk, .long w2, aJk, .long (lN u), aJk, .long (lN v), aJk, .int (nI i), w9, w10] [] σ (aL Q) = Q (some (.long (lN (Nat.gcd u v)))) σ := by
  intro n
  induction n with
  | zero =>
    intro u v i w9 w10 hg hi hu hv
    have e : v = 0 := hg
    rw [gcd_st, if_pos e, al_13633]
    subst e
    simp (disch := (first | omega | exact aCat_8 (by with_unfolding_all rfl) | exact rk_lt (by with_unfolding_all rfl) | exact aCat_16 (by with_unfolding_all rfl) | exact rk_eq (by with_unfolding_all rfl) | assumption | exact b2n_lt _ | exact id_b (by with_unfolding_all rfl) | (simp (disch := omega) only [u2_same, u2_ab, u2_aq]; done) | (simp (disch := omega) only [u2_same, u2_ab, u2_aq]; omega) | fail)) only [al_13632, wp_lload_0, wp_lstore_4, wp_lload_2, wp_lstore_6, wk_0, wp_istore_8, wp_jsr, wp_iload_8, wk_200, wn_ge_t, wn_ge_f, wp_lload_6, wl_0, wp_lcmp, wz_eq_t, wz_eq_f, wb_eq_t, wb_eq_f, wm_eq_1, wm_eq_2, wp_lload_4, wp_lstore_9, wp_lload_9, wp_iinc_8_1, wp_goto, al_13634, wp_lreturn, nl_i, nl_r, nl_k, nl_j, nl_l, nI_add, pk_mul, pk_sub, tl_s, tl_n, aL_inl, u2_same, u2_ab, u2_aq, nI_l, lN_i, Nat.add_zero, Nat.zero_add, Nat.zero_le, true_and, and_true, b2n_10, b2n_T, b2n_F, b2n_0, Decidable.not_not, not_true_eq_false, not_false_eq_true, Nat.reduceAdd, Nat.reduceMul, Nat.reduceSub, wy_eq_t (lc_t (@rfl _ (lN 0)))]
  | succ n ih =>
    intro u v i w9 w10 hg hi hu hv
    by_cases z : v = 0
    · rw [gcd_st, if_pos z, al_13633]
      subst z
      simp (disch := (first | omega | exact aCat_8 (by with_unfolding_all rfl) | exact rk_lt (by with_unfolding_all rfl) | exact aCat_16 (by with_unfolding_all rfl) | exact rk_eq (by with_unfolding_all rfl) | assumption | exact b2n_lt _ | exact id_b (by with_unfolding_all rfl) | (simp (disch := omega) only [u2_same, u2_ab, u2_aq]; done) | (simp (disch := omega) only [u2_same, u2_ab, u2_aq]; omega) | fail)) only [al_13632, wp_lload_0, wp_lstore_4, wp_lload_2, wp_lstore_6, wk_0, wp_istore_8, wp_jsr, wp_iload_8, wk_200, wn_ge_t, wn_ge_f, wp_lload_6, wl_0, wp_lcmp, wz_eq_t, wz_eq_f, wb_eq_t, wb_eq_f, wm_eq_1, wm_eq_2, wp_lload_4, wp_lstore_9, wp_lload_9, wp_iinc_8_1, wp_goto, al_13634, wp_lreturn, nl_i, nl_r, nl_k, nl_j, nl_l, nI_add, pk_mul, pk_sub, tl_s, tl_n, aL_inl, u2_same, u2_ab, u2_aq, nI_l, lN_i, Nat.add_zero, Nat.zero_add, Nat.zero_le, true_and, and_true, b2n_10, b2n_T, b2n_F, b2n_0, Decidable.not_not, not_true_eq_false, not_false_eq_true, Nat.reduceAdd, Nat.reduceMul, Nat.reduceSub, wy_eq_t (lc_t (@rfl _ (lN 0)))]
    · rcases hg with hg | hg
      · exact absurd hg z
      · have hm : u % v < v := Nat.mod_lt _ (by omega)
        have ih1 := fun w9 w10 => ih v (u % v) (i + 1) w9 w10 hg (by omega) hv (by omega)
        rw [gcd_st, if_neg z, al_13633]
        simp (disch := (first | omega | exact aCat_8 (by with_unfolding_all rfl) | exact rk_lt (by with_unfolding_all rfl) | exact aCat_16 (by with_unfolding_all rfl) | exact rk_eq (by with_unfolding_all rfl) | assumption | exact b2n_lt _ | exact id_b (by with_unfolding_all rfl) | (simp (disch := omega) only [u2_same, u2_ab, u2_aq]; done) | (simp (disch := omega) only [u2_same, u2_ab, u2_aq]; omega) | fail)) only [al_13632, wp_lload_0, wp_lstore_4, wp_lload_2, wp_lstore_6, wk_0, wp_istore_8, wp_jsr, wp_iload_8, wk_200, wn_ge_t, wn_ge_f, wp_lload_6, wl_0, wp_lcmp, wz_eq_t, wz_eq_f, wb_eq_t, wb_eq_f, wm_eq_1, wm_eq_2, wp_lload_4, wp_lstore_9, wp_lload_9, wp_iinc_8_1, wp_goto, al_13634, wp_lreturn, nl_i, nl_r, nl_k, nl_j, nl_l, nI_add, pk_mul, pk_sub, tl_s, tl_n, aL_inl, u2_same, u2_ab, u2_aq, nI_l, lN_i, Nat.add_zero, Nat.zero_add, Nat.zero_le, true_and, and_true, b2n_10, b2n_T, b2n_F, b2n_0, Decidable.not_not, not_true_eq_false, not_false_eq_true, Nat.reduceAdd, Nat.reduceMul, Nat.reduceSub, wy_eq_f (lc_f (ln_0 hv z)), wp_lremn hu (show 0 < v by omega) hv]
        exact ih1 _ _
theorem t_213 {u v : Nat} (hu : u < 2 ^ 63) (hv : v < 2 ^ 40) : aMm ko d 213 [.long (lN u), .long (lN v)] σ Q = Q (some (.long (lN (Nat.gcd u v)))) σ := by
  have hx := fun w9 w10 => l_213 (ko := ko) (d := d) (σ := σ) (Q := Q) (w0 := lN u) (w2 := lN v) 81 u v 0 w9 w10 (gS_k 40 u v hv) (by decide) hu (by omega)
  rw [me_213]
  simp (disch := (first | omega | exact aCat_8 (by with_unfolding_all rfl) | exact rk_lt (by with_unfolding_all rfl) | exact aCat_16 (by with_unfolding_all rfl) | exact rk_eq (by with_unfolding_all rfl) | assumption | exact b2n_lt _ | exact id_b (by with_unfolding_all rfl) | (simp (disch := omega) only [u2_same, u2_ab, u2_aq]; done) | (simp (disch := omega) only [u2_same, u2_ab, u2_aq]; omega) | fail)) only [al_13632, wp_lload_0, wp_lstore_4, wp_lload_2, wp_lstore_6, wk_0, wp_istore_8, wp_jsr, wp_iload_8, wk_200, wn_ge_t, wn_ge_f, wp_lload_6, wl_0, wp_lcmp, wz_eq_t, wz_eq_f, wb_eq_t, wb_eq_f, wm_eq_1, wm_eq_2, wp_lload_4, wp_lstore_9, wp_lload_9, wp_iinc_8_1, wp_goto, al_13634, wp_lreturn, nl_i, nl_r, nl_k, nl_j, nl_l, nI_add, pk_mul, pk_sub, tl_s, tl_n, aL_inl, u2_same, u2_ab, u2_aq, nI_l, lN_i, Nat.add_zero, Nat.zero_add, Nat.zero_le, true_and, and_true, b2n_10, b2n_T, b2n_F, b2n_0, Decidable.not_not, not_true_eq_false, not_false_eq_true, Nat.reduceAdd, Nat.reduceMul, Nat.reduceSub]
  exact hx _ _
theorem t_97 : ∀ (n u v d : Nat) (Q : Option Value → aH → Prop), gS n u v → u < 2 ^ 63 → v < 2 ^ 63 → aMm ko (d + n) 97 [.long (lN u), .long (lN v)] σ Q = Q (some (.long (lN (Nat.gcd u v)))) σ := by
  intro n
  induction n with
  | zero =>
    intro u v d Q hg hu hv
    have e : v = 0 := hg
    rw [gcd_st, if_pos e, me_97]
    subst e
    simp (disch := (first | omega | exact aCat_8 (by with_unfolding_all rfl) | exact rk_lt (by with_unfolding_all rfl) | exact aCat_16 (by with_unfolding_all rfl) | exact rk_eq (by with_unfolding_all rfl) | assumption | exact b2n_lt _ | exact id_b (by with_unfolding_all rfl) | (simp (disch := omega) only [u2_same, u2_ab, u2_aq]; done) | (simp (disch := omega) only [u2_same, u2_ab, u2_aq]; omega) | fail)) only [al_6208, wp_lload_2, wl_0, wp_lcmp, wz_ne_t, wz_ne_f, wb_ne_t, wb_ne_f, wm_ne_1, wm_ne_2, wp_lload_0, wp_goto, al_6209, wc_97, wp_jsr, al_6210, wp_lreturn, nl_i, nl_r, nl_k, nl_j, nl_l, nI_add, pk_mul, pk_sub, tl_s, tl_n, aL_inl, u2_same, u2_ab, u2_aq, nI_l, lN_i, Nat.add_zero, Nat.zero_add, Nat.zero_le, true_and, and_true, b2n_10, b2n_T, b2n_F, b2n_0, Decidable.not_not, not_true_eq_false, not_false_eq_true, Nat.reduceAdd, Nat.reduceMul, Nat.reduceSub, wy_ne_f (not_not_intro (lc_t (@rfl _ (lN 0))))]
  | succ n ih =>
    intro u v d Q hg hu hv
    by_cases z : v = 0
    · rw [gcd_st, if_pos z, me_97]
      subst z
      simp (disch := (first | omega | exact aCat_8 (by with_unfolding_all rfl) | exact rk_lt (by with_unfolding_all rfl) | exact aCat_16 (by with_unfolding_all rfl) | exact rk_eq (by with_unfolding_all rfl) | assumption | exact b2n_lt _ | exact id_b (by with_unfolding_all rfl) | (simp (disch := omega) only [u2_same, u2_ab, u2_aq]; done) | (simp (disch := omega) only [u2_same, u2_ab, u2_aq]; omega) | fail)) only [al_6208, wp_lload_2, wl_0, wp_lcmp, wz_ne_t, wz_ne_f, wb_ne_t, wb_ne_f, wm_ne_1, wm_ne_2, wp_lload_0, wp_goto, al_6209, wc_97, wp_jsr, al_6210, wp_lreturn, nl_i, nl_r, nl_k, nl_j, nl_l, nI_add, pk_mul, pk_sub, tl_s, tl_n, aL_inl, u2_same, u2_ab, u2_aq, nI_l, lN_i, Nat.add_zero, Nat.zero_add, Nat.zero_le, true_and, and_true, b2n_10, b2n_T, b2n_F, b2n_0, Decidable.not_not, not_true_eq_false, not_false_eq_true, Nat.reduceAdd, Nat.reduceMul, Nat.reduceSub, wy_ne_f (not_not_intro (lc_t (@rfl _ (lN 0))))]
    · rcases hg with hg | hg
      · exact absurd hg z
      · have hm : u % v < v := Nat.mod_lt _ (by omega)
        have ih1 := fun Q => ih v (u % v) d Q hg hv (by omega)
        rw [gcd_st, if_neg z, me_97, ← Nat.add_assoc]
        simp (disch := (first | omega | exact aCat_8 (by with_unfolding_all rfl) | exact rk_lt (by with_unfolding_all rfl) | exact aCat_16 (by with_unfolding_all rfl) | exact rk_eq (by with_unfolding_all rfl) | assumption | exact b2n_lt _ | exact id_b (by with_unfolding_all rfl) | (simp (disch := omega) only [u2_same, u2_ab, u2_aq]; done) | (simp (disch := omega) only [u2_same, u2_ab, u2_aq]; omega) | fail)) only [al_6208, wp_lload_2, wl_0, wp_lcmp, wz_ne_t, wz_ne_f, wb_ne_t, wb_ne_f, wm_ne_1, wm_ne_2, wp_lload_0, wp_goto, al_6209, wc_97, wp_jsr, al_6210, wp_lreturn, nl_i, nl_r, nl_k, nl_j, nl_l, nI_add, pk_mul, pk_sub, tl_s, tl_n, aL_inl, u2_same, u2_ab, u2_aq, nI_l, lN_i, Nat.add_zero, Nat.zero_add, Nat.zero_le, true_and, and_true, b2n_10, b2n_T, b2n_F, b2n_0, Decidable.not_not, not_true_eq_false, not_false_eq_true, Nat.reduceAdd, Nat.reduceMul, Nat.reduceSub, wy_ne_t (lc_f (ln_0 hv z)), wp_lremn hu (show 0 < v by omega) hv, wr_97, ih1]
theorem al_79 : aWp ko d k (.arraylength :: is) ls (.ref 79 :: st) (hp D N I J x) P = aWp ko d k is ls (.int (nI 13) :: st) (hp D N I J x) P := wp_alen (a := 79) (by decide) rfl
theorem l_125 {J0 : Nat → Nat → Int64} (hQ : ∀ J' : Nat → Nat → Int64, (∀ b q, b ≠ 79 → J' b q = J0 b q) → (∀ q, q < 13 → J' 79 q = lN 0) → Q none (hp D N I J' x)) :
    ∀ (j i : Nat) (J : Nat → Nat → Int64), i + j = 13 → (∀ b q, b ≠ 79 → J b q = J0 b q) → (∀ q, q < i → J 79 q = lN 0) → aWp ko d 125 (aP.1 (Int.toNat 8001)) [.ref 79, .long (lN 0), aJk, .int (nI i), .int (nI 13)] [] (hp D N I J x) (aL Q) := by
  intro j
  induction j with
  | zero =>
    intro i J hj hN hz
    have e : i = 13 := by omega
    subst e
    rw [al_8001]
    simp (disch := (first | omega | exact aCat_8 (by with_unfolding_all rfl) | exact rk_lt (by with_unfolding_all rfl) | exact aCat_16 (by with_unfolding_all rfl) | exact rk_eq (by with_unfolding_all rfl) | assumption | exact b2n_lt _ | exact id_b (by with_unfolding_all rfl) | (simp (disch := omega) only [u2_same, u2_ab, u2_aq]; done) | (simp (disch := omega) only [u2_same, u2_ab, u2_aq]; omega) | fail)) only [al_8000, wk_0, wp_istore_3, wp_aloadr_0, wp_aloadk_0, wp_istore_4, wp_jsr, wp_iload_3, wp_iload_4, wn_ge_t, wn_ge_f, wp_lload_1, wp_iinc_3_1, wp_goto, al_8002, wp_return, nl_i, nl_r, nl_k, nl_j, nl_l, nI_add, pk_mul, pk_sub, tl_s, tl_n, aL_inl, u2_same, u2_ab, u2_aq, nI_l, lN_i, Nat.add_zero, Nat.zero_add, Nat.zero_le, true_and, and_true, b2n_10, b2n_T, b2n_F, b2n_0, Decidable.not_not, not_true_eq_false, not_false_eq_true, Nat.reduceAdd, Nat.reduceMul, Nat.reduceSub]
    exact hQ J hN hz
  | succ j ih =>
    intro i J hj hN hz
    rw [al_8001]
    simp (disch := (first | omega | exact aCat_8 (by with_unfolding_all rfl) | exact rk_lt (by with_unfolding_all rfl) | exact aCat_16 (by with_unfolding_all rfl) | exact rk_eq (by with_unfolding_all rfl) | assumption | exact b2n_lt _ | exact id_b (by with_unfolding_all rfl) | (simp (disch := omega) only [u2_same, u2_ab, u2_aq]; done) | (simp (disch := omega) only [u2_same, u2_ab, u2_aq]; omega) | fail)) only [al_8000, wk_0, wp_istore_3, wp_aloadr_0, wp_aloadk_0, wp_istore_4, wp_jsr, wp_iload_3, wp_iload_4, wn_ge_t, wn_ge_f, wp_lload_1, wp_iinc_3_1, wp_goto, al_8002, wp_return, nl_i, nl_r, nl_k, nl_j, nl_l, nI_add, pk_mul, pk_sub, tl_s, tl_n, aL_inl, u2_same, u2_ab, u2_aq, nI_l, lN_i, Nat.add_zero, Nat.zero_add, Nat.zero_le, true_and, and_true, b2n_10, b2n_T, b2n_F, b2n_0, Decidable.not_not, not_true_eq_false, not_false_eq_true, Nat.reduceAdd, Nat.reduceMul, Nat.reduceSub, ha_79s]
    refine ih (i + 1) _ (by omega) (fun b q z => by rw [u2_ab z]; exact hN b q z) ?_
    intro q hq
    by_cases e : q = i
    · rw [e, u2_same]
    · rw [u2_aq e]
      exact hz q (by omega)
theorem l_211i {J0 : Nat → Nat → Int64} {n m p i : Nat} {a s : Int64} (h10 : p ≤ 10) (hm1 : 1 ≤ m) (hm : m ≤ 12)
    (hK : ∀ J : Nat → Nat → Int64, (∀ b q, b ≠ 79 → J b q = J0 b q) → (∀ e, 0 < e → e < m → J 79 e = lN (opC p m (i + 1) e)) → aWp ko d 211 (aP.1 (Int.toNat 13509)) [.ref 0, .int (nI n), .int (nI m), .int (nI p), .long a, aJk, .long s, aJk, .int (nI i), .long (lN (opF p m i)), aJk, .int (nI 0)] [] (hp D N I J x) (aL Q)) :
    ∀ (k : Nat) (J : Nat → Nat → Int64), k < m → (∀ b q, b ≠ 79 → J b q = J0 b q) → (∀ e, e < m → (k < e → J 79 e = lN (opC p m (i + 1) e)) ∧ (e ≤ k → J 79 e = lN (opC p m i e))) → aWp ko d 211 (aP.1 (Int.toNat 13508)) [.ref 0, .int (nI n), .int (nI m), .int (nI p), .long a, aJk, .long s, aJk, .int (nI i), .long (lN (opF p m i)), aJk, .int (nI k)] [] (hp D N I J x) (aL Q) := by
  intro k
  induction k with
  | zero =>
    intro J _ hJ hv
    rw [al_13508]
    simp (disch := (first | omega | exact aCat_8 (by with_unfolding_all rfl) | exact rk_lt (by with_unfolding_all rfl) | exact aCat_16 (by with_unfolding_all rfl) | exact rk_eq (by with_unfolding_all rfl) | assumption | exact b2n_lt _ | exact id_b (by with_unfolding_all rfl) | (simp (disch := omega) only [u2_same, u2_ab, u2_aq]; done) | (simp (disch := omega) only [u2_same, u2_ab, u2_aq]; omega) | fail)) only [al_13504, wp_iload_1, wk_1, wn_lt_t, wn_lt_f, wk_12, wn_gt_t, wn_gt_f, wp_iload_2, wp_iload_3, wz_lt_t, wz_lt_f, wm_lt_1, wm_lt_2, wk_10, wn_le_t, wn_le_f, wp_jsr, al_13505, wk_m1, wp_ireturn, al_13506, wp_aloadr_0, wp_aloadk_0, hg_0_19, ha_79l, ha_79s, wl_0, wc_125, wk_0, wl_1, wp_lstore_4, wp_lstore_6, wp_istore_8, wp_iload_8, wn_ge_t, wn_ge_f, wp_lload_4, wp_lload_6, wp_lsub, wp_lstore_9, wl_10, wp_lmul, wp_isub, wp_i2l, wp_ladd, wp_istore_11, wp_iload_11, wz_le_t, wz_le_f, wm_le_1, wm_le_2, wp_idec_11_1, wp_goto, wp_lload_9, wp_iinc_8_1, al_13510, wc_212, nl_i, nl_r, nl_k, nl_j, nl_l, nI_add, pk_mul, pk_sub, tl_s, tl_n, aL_inl, u2_same, u2_ab, u2_aq, nI_l, lN_i, Nat.add_zero, Nat.zero_add, Nat.zero_le, true_and, and_true, b2n_10, b2n_T, b2n_F, b2n_0, Decidable.not_not, not_true_eq_false, not_false_eq_true, Nat.reduceAdd, Nat.reduceMul, Nat.reduceSub]
    exact hK J hJ (fun e h0 he => (hv e he).1 h0)
  | succ k ih =>
    intro J hk hJ hv
    have e1 := (hv k (by omega)).2 (by omega)
    have es := opC_s (p := p) (m := m) (i := i) (k := k) hk
    rw [al_13508]
    simp (disch := (first | omega | exact aCat_8 (by with_unfolding_all rfl) | exact rk_lt (by with_unfolding_all rfl) | exact aCat_16 (by with_unfolding_all rfl) | exact rk_eq (by with_unfolding_all rfl) | assumption | exact b2n_lt _ | exact id_b (by with_unfolding_all rfl) | (simp (disch := omega) only [u2_same, u2_ab, u2_aq]; done) | (simp (disch := omega) only [u2_same, u2_ab, u2_aq]; omega) | fail)) only [al_13504, wp_iload_1, wk_1, wn_lt_t, wn_lt_f, wk_12, wn_gt_t, wn_gt_f, wp_iload_2, wp_iload_3, wz_lt_t, wz_lt_f, wm_lt_1, wm_lt_2, wk_10, wn_le_t, wn_le_f, wp_jsr, al_13505, wk_m1, wp_ireturn, al_13506, wp_aloadr_0, wp_aloadk_0, hg_0_19, ha_79l, ha_79s, wl_0, wc_125, wk_0, wl_1, wp_lstore_4, wp_lstore_6, wp_istore_8, wp_iload_8, wn_ge_t, wn_ge_f, wp_lload_4, wp_lload_6, wp_lsub, wp_lstore_9, wl_10, wp_lmul, wp_isub, wp_i2l, wp_ladd, wp_istore_11, wp_iload_11, wz_le_t, wz_le_f, wm_le_1, wm_le_2, wp_idec_11_1, wp_goto, wp_lload_9, wp_iinc_8_1, al_13510, wc_212, nl_i, nl_r, nl_k, nl_j, nl_l, nI_add, pk_mul, pk_sub, tl_s, tl_n, aL_inl, u2_same, u2_ab, u2_aq, nI_l, lN_i, Nat.add_zero, Nat.zero_add, Nat.zero_le, true_and, and_true, b2n_10, b2n_T, b2n_F, b2n_0, Decidable.not_not, not_true_eq_false, not_false_eq_true, Nat.reduceAdd, Nat.reduceMul, Nat.reduceSub, e1, lN_mul, Nat.add_sub_cancel]
    refine ih _ (by omega) (fun b q z => by rw [u2_ab z]; exact hJ b q z) ?_
    intro e he
    by_cases z : e = k + 1
    · refine ⟨fun _ => by rw [z, u2_same, es], fun y => by omega⟩
    · rw [u2_aq z]
      exact ⟨fun y => (hv e he).1 (by omega), fun y => (hv e he).2 (by omega)⟩
theorem l_211 {J0 : Nat → Nat → Int64} {n m p : Nat} (hn : n ≤ 12) (h10 : p ≤ 10) (hm1 : 1 ≤ m) (hm : m ≤ 12)
    (hK : ∀ (J : Nat → Nat → Int64) (w9 w10 w11 : Value), (∀ b q, b ≠ 79 → J b q = J0 b q) → aWp ko d 211 (aP.1 (Int.toNat 13510)) [.ref 0, .int (nI n), .int (nI m), .int (nI p), .long (lN (10 ^ n)), aJk, .long (lN (opS p m n)), aJk, .int (nI n), w9, w10, w11] [] (hp D N I J x) (aL Q)) :
    ∀ (j i : Nat) (J : Nat → Nat → Int64) (w9 w10 w11 : Value), i + j = n → (∀ b q, b ≠ 79 → J b q = J0 b q) → (∀ e, e < m → J 79 e = lN (opC p m i e)) → aWp ko d 211 (aP.1 (Int.toNat 13507)) [.ref 0, .int (nI n), .int (nI m), .int (nI p), .long (lN (10 ^ i)), aJk, .long (lN (opS p m i)), aJk, .int (nI i), w9, w10, w11] [] (hp D N I J x) (aL Q) := by
  intro j
  induction j with
  | zero =>
    intro i J w9 w10 w11 hj hJ hv
    have e : i = n := by omega
    subst e
    rw [al_13507]
    simp (disch := (first | omega | exact aCat_8 (by with_unfolding_all rfl) | exact rk_lt (by with_unfolding_all rfl) | exact aCat_16 (by with_unfolding_all rfl) | exact rk_eq (by with_unfolding_all rfl) | assumption | exact b2n_lt _ | exact id_b (by with_unfolding_all rfl) | (simp (disch := omega) only [u2_same, u2_ab, u2_aq]; done) | (simp (disch := omega) only [u2_same, u2_ab, u2_aq]; omega) | fail)) only [al_13504, wp_iload_1, wk_1, wn_lt_t, wn_lt_f, wk_12, wn_gt_t, wn_gt_f, wp_iload_2, wp_iload_3, wz_lt_t, wz_lt_f, wm_lt_1, wm_lt_2, wk_10, wn_le_t, wn_le_f, wp_jsr, al_13505, wk_m1, wp_ireturn, al_13506, wp_aloadr_0, wp_aloadk_0, hg_0_19, ha_79l, ha_79s, wl_0, wc_125, wk_0, wl_1, wp_lstore_4, wp_lstore_6, wp_istore_8, wp_iload_8, wn_ge_t, wn_ge_f, wp_lload_4, wp_lload_6, wp_lsub, wp_lstore_9, wl_10, wp_lmul, wp_isub, wp_i2l, wp_ladd, wp_istore_11, wp_iload_11, wz_le_t, wz_le_f, wm_le_1, wm_le_2, wp_idec_11_1, wp_goto, al_13509, wp_lload_9, wp_iinc_8_1, wc_212, nl_i, nl_r, nl_k, nl_j, nl_l, nI_add, pk_mul, pk_sub, tl_s, tl_n, aL_inl, u2_same, u2_ab, u2_aq, nI_l, lN_i, Nat.add_zero, Nat.zero_add, Nat.zero_le, true_and, and_true, b2n_10, b2n_T, b2n_F, b2n_0, Decidable.not_not, not_true_eq_false, not_false_eq_true, Nat.reduceAdd, Nat.reduceMul, Nat.reduceSub]
    exact hK J w9 w10 w11 hJ
  | succ j ih =>
    intro i J w9 w10 w11 hj hJ hv
    have hsf := opSF (p := p) (m := m) (i := i)
    rw [opA_e h10] at hsf
    have hle : opS p m i ≤ 10 ^ i := by omega
    have hfe : 10 ^ i - opS p m i = opF p m i := by omega
    have e1 := hv (m - 1) (by omega)
    have es := opS_s (p := p) (m := m) (i := i) h10 hm1
    have ea : 10 ^ (i + 1) = 10 ^ i * 10 := Nat.pow_succ ..
    rw [al_13507]
    simp (disch := (first | omega | exact aCat_8 (by with_unfolding_all rfl) | exact rk_lt (by with_unfolding_all rfl) | exact aCat_16 (by with_unfolding_all rfl) | exact rk_eq (by with_unfolding_all rfl) | assumption | exact b2n_lt _ | exact id_b (by with_unfolding_all rfl) | (simp (disch := omega) only [u2_same, u2_ab, u2_aq]; done) | (simp (disch := omega) only [u2_same, u2_ab, u2_aq]; omega) | fail)) only [al_13504, wp_iload_1, wk_1, wn_lt_t, wn_lt_f, wk_12, wn_gt_t, wn_gt_f, wp_iload_2, wp_iload_3, wz_lt_t, wz_lt_f, wm_lt_1, wm_lt_2, wk_10, wn_le_t, wn_le_f, wp_jsr, al_13505, wk_m1, wp_ireturn, al_13506, wp_aloadr_0, wp_aloadk_0, hg_0_19, ha_79l, ha_79s, wl_0, wc_125, wk_0, wl_1, wp_lstore_4, wp_lstore_6, wp_istore_8, wp_iload_8, wn_ge_t, wn_ge_f, wp_lload_4, wp_lload_6, wp_lsub, wp_lstore_9, wl_10, wp_lmul, wp_isub, wp_i2l, wp_ladd, wp_istore_11, wp_iload_11, wz_le_t, wz_le_f, wm_le_1, wm_le_2, wp_idec_11_1, wp_goto, al_13509, wp_lload_9, wp_iinc_8_1, al_13510, wc_212, nl_i, nl_r, nl_k, nl_j, nl_l, nI_add, pk_mul, pk_sub, tl_s, tl_n, aL_inl, u2_same, u2_ab, u2_aq, nI_l, lN_i, Nat.add_zero, Nat.zero_add, Nat.zero_le, true_and, and_true, b2n_10, b2n_T, b2n_F, b2n_0, Decidable.not_not, not_true_eq_false, not_false_eq_true, Nat.reduceAdd, Nat.reduceMul, Nat.reduceSub, e1, lN_mul, lN_add, lN_sub hle, hfe]
    refine l_211i h10 hm1 hm ?_ (m - 1) J (by omega) hJ (fun e he => ⟨fun y => by omega, fun y => hv e he⟩)
    intro J1 hJ1 hv1
    have e0 := opC_0 (p := p) (m := m) (i := i) hm1
    have ih1 := ih (i + 1) (u2 J1 79 0 (lN (opF p m i * (10 - p)))) (.long (lN (opF p m i))) aJk (.int (nI 0)) (by omega) (fun b q z => by rw [u2_ab z]; exact hJ1 b q z) (by
      intro e he
      by_cases z : e = 0
      · rw [z, u2_same, e0]
      · rw [u2_aq z]
        exact hv1 e (by omega) he)
    rw [ea, es] at ih1
    rw [al_13509]
    simp (disch := (first | omega | exact aCat_8 (by with_unfolding_all rfl) | exact rk_lt (by with_unfolding_all rfl) | exact aCat_16 (by with_unfolding_all rfl) | exact rk_eq (by with_unfolding_all rfl) | assumption | exact b2n_lt _ | exact id_b (by with_unfolding_all rfl) | (simp (disch := omega) only [u2_same, u2_ab, u2_aq]; done) | (simp (disch := omega) only [u2_same, u2_ab, u2_aq]; omega) | fail)) only [al_13504, wp_iload_1, wk_1, wn_lt_t, wn_lt_f, wk_12, wn_gt_t, wn_gt_f, wp_iload_2, wp_iload_3, wz_lt_t, wz_lt_f, wm_lt_1, wm_lt_2, wk_10, wn_le_t, wn_le_f, wp_jsr, al_13505, wk_m1, wp_ireturn, al_13506, wp_aloadr_0, wp_aloadk_0, hg_0_19, ha_79l, ha_79s, wl_0, wc_125, wk_0, wl_1, wp_lstore_4, wp_lstore_6, wp_istore_8, wp_iload_8, wn_ge_t, wn_ge_f, wp_lload_4, wp_lload_6, wp_lsub, wp_lstore_9, wl_10, wp_lmul, wp_isub, wp_i2l, wp_ladd, wp_istore_11, wp_iload_11, wz_le_t, wz_le_f, wm_le_1, wm_le_2, wp_idec_11_1, wp_goto, al_13509, wp_lload_9, wp_iinc_8_1, al_13510, wc_212, nl_i, nl_r, nl_k, nl_j, nl_l, nI_add, pk_mul, pk_sub, tl_s, tl_n, aL_inl, u2_same, u2_ab, u2_aq, nI_l, lN_i, Nat.add_zero, Nat.zero_add, Nat.zero_le, true_and, and_true, b2n_10, b2n_T, b2n_F, b2n_0, Decidable.not_not, not_true_eq_false, not_false_eq_true, Nat.reduceAdd, Nat.reduceMul, Nat.reduceSub, lN_mul]
    exact ih1
end P1
