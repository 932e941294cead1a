/-! land: the reference, the pair. From wip/whole/src. -/
theorem sub48 : ∀ c, c < 48 → ¬ (lN 2 ≤ (nI c - nI 48).toInt64 ∧ (nI c - nI 48).toInt64 ≤ lN 6) := by decide +kernel
section D4
variable {ko : aKo} {d k : Nat} {is : List Instr} {ls st : List Value} {σ : aH} {D : Nat → Nat} {N : Nat → Nat → Nat} {I : Nat → Nat → Int32} {J : Nat → Nat → Int64} {x t : Nat} {Q : Option Value → aH → Prop} {P : (Option Value ⊕ Unit) → aH → Prop}
theorem t_7 {N0 : Nat → Nat → Nat} {n pos : Nat} (hx : txR N0 N n pos) (hn : n ≤ 80) (hd : d26 (N0 91) n pos)
    (hQ : ∀ N' : Nat → Nat → Nat, txR N0 N' n (pos + 1) → Q (some (.int (nI (N0 91 pos - 48)))) (hp D N' I J x)) : aMm ko d 7 [.ref 86, .int (nI 2), .int (nI 6)] (hp D N I J x) Q := by
  obtain ⟨x1, x2, x3, x4⟩ := hx
  obtain ⟨a1, a2, a3⟩ := hd
  have e91 : N 91 pos = N0 91 pos := x4 91 pos (by decide) (by omega)
  have hb : 2 ≤ N0 91 pos - 48 ∧ N0 91 pos - 48 ≤ 6 := by omega
  have hq := hQ (u2 N 86 12 (pos + 1)) ⟨by rw [u2_aq (by decide)]; exact x1, u2_same _ _ _ _, by rw [u2_aq (by decide)]; exact x3, fun b q z1 z2 => by rw [u2_rd, if_neg (by omega)]; exact x4 b q z1 z2⟩
  rw [me_7]
  simp (disch := (first | omega | exact aCat_8 (by with_unfolding_all rfl) | exact rk_lt (by with_unfolding_all rfl) | exact aCat_16 (by with_unfolding_all rfl) | exact rk_eq (by with_unfolding_all rfl) | assumption | exact b2n_lt _ | exact id_b (by with_unfolding_all rfl) | (simp (disch := omega) only [u2_same, u2_ab, u2_aq]; done) | (simp (disch := omega) only [u2_same, u2_ab, u2_aq]; omega) | fail)) only [al_448, wp_aloadr_0, wp_aloadk_0, hg_86_12, hg_86_13, wn_ge_t, wn_ge_f, hg_86_10, ha_91l, ha_91s, wk_48, wp_isub, wp_i2l, wp_iload_1, wp_iload_2, wc_4, t_4, lN_le, wz_ne_t, wz_ne_f, wb_ne_t, wb_ne_f, wm_ne_1, wm_ne_2, wp_jsr, al_449, wk_m1, wp_ireturn, al_450, wp_dupi, wp_dupr, wk_1, wp_iadd, hp_86_12, nl_i, nl_r, nl_k, nl_j, nl_l, nI_add, pk_mul, pk_sub, tl_s, tl_n, aL_inl, u2_same, u2_ab, u2_aq, nI_l, lN_i, Nat.add_zero, Nat.zero_add, Nat.zero_le, true_and, and_true, b2n_10, b2n_T, b2n_F, b2n_0, Decidable.not_not, not_true_eq_false, not_false_eq_true, Nat.reduceAdd, Nat.reduceMul, Nat.reduceSub, x1, x2, e91, b2n_t hb, Nat.add_sub_cancel]
  exact hq
theorem t_7n {N0 : Nat → Nat → Nat} {n pos : Nat} (hx : txR N0 N n pos) (hn : n ≤ 80) (hpn : pos ≤ n) (hb : ∀ i, i < n → N0 91 i < 256) (hd : ¬ d26 (N0 91) n pos) : aMm ko d 7 [.ref 86, .int (nI 2), .int (nI 6)] (hp D N I J x) Q = Q (some (.int (-1))) (hp D N I J x) := by
  obtain ⟨x1, x2, x3, x4⟩ := hx
  have e91 : N 91 pos = N0 91 pos := x4 91 pos (by decide) (by omega)
  rw [me_7]
  by_cases h1 : pos < n
  · have hb1 := hb pos h1
    by_cases h2 : N0 91 pos < 48
    · have hs := sub48 _ h2
      simp (disch := (first | omega | exact aCat_8 (by with_unfolding_all rfl) | exact rk_lt (by with_unfolding_all rfl) | exact aCat_16 (by with_unfolding_all rfl) | exact rk_eq (by with_unfolding_all rfl) | assumption | exact b2n_lt _ | exact id_b (by with_unfolding_all rfl) | (simp (disch := omega) only [u2_same, u2_ab, u2_aq]; done) | (simp (disch := omega) only [u2_same, u2_ab, u2_aq]; omega) | fail)) only [al_448, wp_aloadr_0, wp_aloadk_0, hg_86_12, hg_86_13, wn_ge_t, wn_ge_f, hg_86_10, ha_91l, ha_91s, wk_48, wp_isub, wp_i2l, wp_iload_1, wp_iload_2, wc_4, t_4, lN_le, wz_ne_t, wz_ne_f, wb_ne_t, wb_ne_f, wm_ne_1, wm_ne_2, wp_jsr, al_449, wk_m1, wp_ireturn, al_450, wp_dupi, wp_dupr, wk_1, wp_iadd, hp_86_12, nl_i, nl_r, nl_k, nl_j, nl_l, nI_add, pk_mul, pk_sub, tl_s, tl_n, aL_inl, u2_same, u2_ab, u2_aq, nI_l, lN_i, Nat.add_zero, Nat.zero_add, Nat.zero_le, true_and, and_true, b2n_10, b2n_T, b2n_F, b2n_0, Decidable.not_not, not_true_eq_false, not_false_eq_true, Nat.reduceAdd, Nat.reduceMul, Nat.reduceSub, x1, x2, e91, b2n_f hs]
    · have hf : ¬ (2 ≤ N0 91 pos - 48 ∧ N0 91 pos - 48 ≤ 6) := fun z => hd ⟨h1, by omega, by omega⟩
      simp (disch := (first | omega | exact aCat_8 (by with_unfolding_all rfl) | exact rk_lt (by with_unfolding_all rfl) | exact aCat_16 (by with_unfolding_all rfl) | exact rk_eq (by with_unfolding_all rfl) | assumption | exact b2n_lt _ | exact id_b (by with_unfolding_all rfl) | (simp (disch := omega) only [u2_same, u2_ab, u2_aq]; done) | (simp (disch := omega) only [u2_same, u2_ab, u2_aq]; omega) | fail)) only [al_448, wp_aloadr_0, wp_aloadk_0, hg_86_12, hg_86_13, wn_ge_t, wn_ge_f, hg_86_10, ha_91l, ha_91s, wk_48, wp_isub, wp_i2l, wp_iload_1, wp_iload_2, wc_4, t_4, lN_le, wz_ne_t, wz_ne_f, wb_ne_t, wb_ne_f, wm_ne_1, wm_ne_2, wp_jsr, al_449, wk_m1, wp_ireturn, al_450, wp_dupi, wp_dupr, wk_1, wp_iadd, hp_86_12, nl_i, nl_r, nl_k, nl_j, nl_l, nI_add, pk_mul, pk_sub, tl_s, tl_n, aL_inl, u2_same, u2_ab, u2_aq, nI_l, lN_i, Nat.add_zero, Nat.zero_add, Nat.zero_le, true_and, and_true, b2n_10, b2n_T, b2n_F, b2n_0, Decidable.not_not, not_true_eq_false, not_false_eq_true, Nat.reduceAdd, Nat.reduceMul, Nat.reduceSub, x1, x2, e91, b2n_f hf]
  · simp (disch := (first | omega | exact aCat_8 (by with_unfolding_all rfl) | exact rk_lt (by with_unfolding_all rfl) | exact aCat_16 (by with_unfolding_all rfl) | exact rk_eq (by with_unfolding_all rfl) | assumption | exact b2n_lt _ | exact id_b (by with_unfolding_all rfl) | (simp (disch := omega) only [u2_same, u2_ab, u2_aq]; done) | (simp (disch := omega) only [u2_same, u2_ab, u2_aq]; omega) | fail)) only [al_448, wp_aloadr_0, wp_aloadk_0, hg_86_12, hg_86_13, wn_ge_t, wn_ge_f, hg_86_10, ha_91l, ha_91s, wk_48, wp_isub, wp_i2l, wp_iload_1, wp_iload_2, wc_4, t_4, lN_le, wz_ne_t, wz_ne_f, wb_ne_t, wb_ne_f, wm_ne_1, wm_ne_2, wp_jsr, al_449, wk_m1, wp_ireturn, al_450, wp_dupi, wp_dupr, wk_1, wp_iadd, hp_86_12, nl_i, nl_r, nl_k, nl_j, nl_l, nI_add, pk_mul, pk_sub, tl_s, tl_n, aL_inl, u2_same, u2_ab, u2_aq, nI_l, lN_i, Nat.add_zero, Nat.zero_add, Nat.zero_le, true_and, and_true, b2n_10, b2n_T, b2n_F, b2n_0, Decidable.not_not, not_true_eq_false, not_false_eq_true, Nat.reduceAdd, Nat.reduceMul, Nat.reduceSub, x1, x2]
theorem l_5a {N0 : Nat → Nat → Nat} {I0 : Nat → Nat → Int32} {n r c k : Nat} (hn : n ≤ 80) (h2n : 2 ≤ n) (hb : ∀ i, i < n → N0 91 i < 256) (hrc : r * c ≤ 36) (hk : lnK (N0 91) n (2 + r * c) k)
    (hK : ∀ (N : Nat → Nat → Nat) (I : Nat → Nat → Int32) (i : Nat), txR N0 N n k → (∀ b q, b ≠ 92 → I b q = I0 b q) → (∀ a, a + 2 < k → I 92 a = nI (N0 91 (2 + a) - 48)) → aWp ko d 5 (aP.1 (Int.toNat 328)) [.ref 86, .int (nI r), .int (nI c), .int (nI (b2n (k = 2 + r * c))), .int (nI i)] [] (hp D N I J x) (aL Q)) :
    ∀ (j i : Nat) (N : Nat → Nat → Nat) (I : Nat → Nat → Int32), 2 + i + j = k → txR N0 N n (2 + i) → (∀ b q, b ≠ 92 → I b q = I0 b q) → (∀ a, a < i → I 92 a = nI (N0 91 (2 + a) - 48)) → aWp ko d 5 (aP.1 (Int.toNat 325)) [.ref 86, .int (nI r), .int (nI c), .int (nI 1), .int (nI i)] [] (hp D N I J x) (aL Q) := by
  obtain ⟨k1, k2, k3, k4⟩ := hk
  have hpn : k ≤ n := by
    by_cases z : k = 2
    · omega
    · have := (k3 (k - 1) (by omega) (by omega)).1
      omega
  intro j
  induction j with
  | zero =>
    intro i N I hj hT hI hv
    have e : 2 + i = k := by omega
    rw [e] at hT
    by_cases z : k = 2 + r * c
    · have ei : i = r * c := by omega
      have hq := hK N I i hT hI (fun a ha => hv a (by omega))
      rw [b2n_t z] at hq
      subst ei
      rw [al_325]
      simp (disch := (first | omega | exact aCat_8 (by with_unfolding_all rfl) | exact rk_lt (by with_unfolding_all rfl) | exact aCat_16 (by with_unfolding_all rfl) | exact rk_eq (by with_unfolding_all rfl) | assumption | exact b2n_lt _ | exact id_b (by with_unfolding_all rfl) | (simp (disch := omega) only [u2_same, u2_ab, u2_aq]; done) | (simp (disch := omega) only [u2_same, u2_ab, u2_aq]; omega) | fail)) only [al_320, wp_aloadr_0, wp_aloadk_0, wk_0, hp_86_0, wk_80, wc_6, wp_pop, wk_2, wk_6, wc_7, wp_istore_1, wp_iload_1, wz_ge_t, wz_ge_f, wm_ge_1, wm_ge_2, wk_m1, wp_goto, al_321, wp_jsr, al_322, wp_istore_2, wp_iload_2, wz_le_t, wz_le_f, wm_le_1, wm_le_2, wk_1, al_323, al_324, wp_istore_3, wp_istore_4, wp_iload_3, wz_eq_t, wz_eq_f, wb_eq_t, wb_eq_f, wm_eq_1, wm_eq_2, wp_iload_4, wp_imul, wn_ge_t, wn_ge_f, hg_86_15, ha_92l, ha_92s, wc_8, wz_lt_t, wz_lt_f, wm_lt_1, wm_lt_2, al_326, al_327, wp_iinc_4_1, hg_86_12, hg_86_13, al_329, wp_isub, wp_ireturn, al_330, hp_86_3, hp_86_4, wk_36, hg_86_8, ha_89l, ha_89s, al_332, al_333, wp_iadd, wk_72, al_334, wk_108, wk_109, wk_110, hp_86_26, wp_dupi, wp_dupr, hg_86_5, hp_86_5, hp_86_46, hp_86_51, wc_10, t_10, nl_i, nl_r, nl_k, nl_j, nl_l, nI_add, pk_mul, pk_sub, tl_s, tl_n, aL_inl, u2_same, u2_ab, u2_aq, nI_l, lN_i, Nat.add_zero, Nat.zero_add, Nat.zero_le, true_and, and_true, b2n_10, b2n_T, b2n_F, b2n_0, Decidable.not_not, not_true_eq_false, not_false_eq_true, Nat.reduceAdd, Nat.reduceMul, Nat.reduceSub]
      exact hq
    · have hnd : ¬ (k < n ∧ isD (N0 91 k) = true) := by
        rcases k4 with k4 | k4
        · exact absurd k4 z
        · exact k4
      have h8 := fun Q => t_8n (ko := ko) (d := d) (D := D) (I := I) (J := J) (x := x) (Q := Q) (m := nI 1) hT hn hpn hb hnd
      have hi36 : i < r * c := by omega
      rw [al_325]
      simp (disch := (first | omega | exact aCat_8 (by with_unfolding_all rfl) | exact rk_lt (by with_unfolding_all rfl) | exact aCat_16 (by with_unfolding_all rfl) | exact rk_eq (by with_unfolding_all rfl) | assumption | exact b2n_lt _ | exact id_b (by with_unfolding_all rfl) | (simp (disch := omega) only [u2_same, u2_ab, u2_aq]; done) | (simp (disch := omega) only [u2_same, u2_ab, u2_aq]; omega) | fail)) only [al_320, wp_aloadr_0, wp_aloadk_0, wk_0, hp_86_0, wk_80, wc_6, wp_pop, wk_2, wk_6, wc_7, wp_istore_1, wp_iload_1, wz_ge_t, wz_ge_f, wm_ge_1, wm_ge_2, wk_m1, wp_goto, al_321, wp_jsr, al_322, wp_istore_2, wp_iload_2, wz_le_t, wz_le_f, wm_le_1, wm_le_2, wk_1, al_323, al_324, wp_istore_3, wp_istore_4, al_325, wp_iload_3, wz_eq_t, wz_eq_f, wb_eq_t, wb_eq_f, wm_eq_1, wm_eq_2, wp_iload_4, wp_imul, wn_ge_t, wn_ge_f, hg_86_15, ha_92l, ha_92s, wc_8, wz_lt_t, wz_lt_f, wm_lt_1, wm_lt_2, al_326, al_327, wp_iinc_4_1, hg_86_12, hg_86_13, al_329, wp_isub, wp_ireturn, al_330, hp_86_3, hp_86_4, wk_36, hg_86_8, ha_89l, ha_89s, al_332, al_333, wp_iadd, wk_72, al_334, wk_108, wk_109, wk_110, hp_86_26, wp_dupi, wp_dupr, hg_86_5, hp_86_5, hp_86_46, hp_86_51, wc_10, t_10, nl_i, nl_r, nl_k, nl_j, nl_l, nI_add, pk_mul, pk_sub, tl_s, tl_n, aL_inl, u2_same, u2_ab, u2_aq, nI_l, lN_i, Nat.add_zero, Nat.zero_add, Nat.zero_le, true_and, and_true, b2n_10, b2n_T, b2n_F, b2n_0, Decidable.not_not, not_true_eq_false, not_false_eq_true, Nat.reduceAdd, Nat.reduceMul, Nat.reduceSub, h8, qe_n1, qe_m1, qn_n1, qn_m1, qe_n2, qe_m2, qn_n2, qn_m2]
      have hq := hK N (u2 I 92 i (-1)) (i + 1) hT (fun b q y => by rw [u2_ab y]; exact hI b q y) (fun a ha => by rw [u2_aq (by omega)]; exact hv a (by omega))
      rw [b2n_f z] at hq
      exact hq
  | succ j ih =>
    intro i N I hj hT hI hv
    obtain ⟨y1, y2⟩ := k3 (2 + i) (by omega) (by omega)
    have y3 := isD_iff.mp y2
    have hi36 : i < r * c := by omega
    rw [al_325]
    simp (disch := (first | omega | exact aCat_8 (by with_unfolding_all rfl) | exact rk_lt (by with_unfolding_all rfl) | exact aCat_16 (by with_unfolding_all rfl) | exact rk_eq (by with_unfolding_all rfl) | assumption | exact b2n_lt _ | exact id_b (by with_unfolding_all rfl) | (simp (disch := omega) only [u2_same, u2_ab, u2_aq]; done) | (simp (disch := omega) only [u2_same, u2_ab, u2_aq]; omega) | fail)) only [al_320, wp_aloadr_0, wp_aloadk_0, wk_0, hp_86_0, wk_80, wc_6, wp_pop, wk_2, wk_6, wc_7, wp_istore_1, wp_iload_1, wz_ge_t, wz_ge_f, wm_ge_1, wm_ge_2, wk_m1, wp_goto, al_321, wp_jsr, al_322, wp_istore_2, wp_iload_2, wz_le_t, wz_le_f, wm_le_1, wm_le_2, wk_1, al_323, al_324, wp_istore_3, wp_istore_4, wp_iload_3, wz_eq_t, wz_eq_f, wb_eq_t, wb_eq_f, wm_eq_1, wm_eq_2, wp_iload_4, wp_imul, wn_ge_t, wn_ge_f, hg_86_15, ha_92l, ha_92s, wc_8, wz_lt_t, wz_lt_f, wm_lt_1, wm_lt_2, al_326, al_327, wp_iinc_4_1, hg_86_12, hg_86_13, al_329, wp_isub, wp_ireturn, al_330, hp_86_3, hp_86_4, wk_36, hg_86_8, ha_89l, ha_89s, al_332, al_333, wp_iadd, wk_72, al_334, wk_108, wk_109, wk_110, hp_86_26, wp_dupi, wp_dupr, hg_86_5, hp_86_5, hp_86_46, hp_86_51, wc_10, t_10, nl_i, nl_r, nl_k, nl_j, nl_l, nI_add, pk_mul, pk_sub, tl_s, tl_n, aL_inl, u2_same, u2_ab, u2_aq, nI_l, lN_i, Nat.add_zero, Nat.zero_add, Nat.zero_le, true_and, and_true, b2n_10, b2n_T, b2n_F, b2n_0, Decidable.not_not, not_true_eq_false, not_false_eq_true, Nat.reduceAdd, Nat.reduceMul, Nat.reduceSub]
    refine t_8 hT hn y1 y2 ?_
    intro N1 hT1 _
    simp (disch := (first | omega | exact aCat_8 (by with_unfolding_all rfl) | exact rk_lt (by with_unfolding_all rfl) | exact aCat_16 (by with_unfolding_all rfl) | exact rk_eq (by with_unfolding_all rfl) | assumption | exact b2n_lt _ | exact id_b (by with_unfolding_all rfl) | (simp (disch := omega) only [u2_same, u2_ab, u2_aq]; done) | (simp (disch := omega) only [u2_same, u2_ab, u2_aq]; omega) | fail)) only [al_320, wp_aloadr_0, wp_aloadk_0, wk_0, hp_86_0, wk_80, wc_6, wp_pop, wk_2, wk_6, wc_7, wp_istore_1, wp_iload_1, wz_ge_t, wz_ge_f, wm_ge_1, wm_ge_2, wk_m1, wp_goto, al_321, wp_jsr, al_322, wp_istore_2, wp_iload_2, wz_le_t, wz_le_f, wm_le_1, wm_le_2, wk_1, al_323, al_324, wp_istore_3, wp_istore_4, wp_iload_3, wz_eq_t, wz_eq_f, wb_eq_t, wb_eq_f, wm_eq_1, wm_eq_2, wp_iload_4, wp_imul, wn_ge_t, wn_ge_f, hg_86_15, ha_92l, ha_92s, wc_8, wz_lt_t, wz_lt_f, wm_lt_1, wm_lt_2, al_326, al_327, wp_iinc_4_1, hg_86_12, hg_86_13, al_329, wp_isub, wp_ireturn, al_330, hp_86_3, hp_86_4, wk_36, hg_86_8, ha_89l, ha_89s, al_332, al_333, wp_iadd, wk_72, al_334, wk_108, wk_109, wk_110, hp_86_26, wp_dupi, wp_dupr, hg_86_5, hp_86_5, hp_86_46, hp_86_51, wc_10, t_10, nl_i, nl_r, nl_k, nl_j, nl_l, nI_add, pk_mul, pk_sub, tl_s, tl_n, aL_inl, u2_same, u2_ab, u2_aq, nI_l, lN_i, Nat.add_zero, Nat.zero_add, Nat.zero_le, true_and, and_true, b2n_10, b2n_T, b2n_F, b2n_0, Decidable.not_not, not_true_eq_false, not_false_eq_true, Nat.reduceAdd, Nat.reduceMul, Nat.reduceSub]
    rw [show 2 + i + 1 = 2 + (i + 1) by omega] at hT1
    refine ih (i + 1) N1 _ (by omega) hT1 (fun b q z => by rw [u2_ab z]; exact hI b q z) ?_
    intro a ha
    by_cases e : a = i
    · rw [e, u2_same]
    · rw [u2_aq e]
      exact hv a (by omega)
/-- the reference's row, told so far -/
def lnM (S0 S : Nat → Nat) (i : Nat) : Nat → Nat := fun q => if q < i ∨ (36 ≤ q ∧ q < 36 + i) ∨ (72 ≤ q ∧ q < 72 + i) then S q else S0 q
theorem l_5b {N0 : Nat → Nat → Nat} {T : Nat → Nat} {r c : Nat} {w3 : Int32} (hrc : r * c ≤ 36) (hI : ∀ a, a < r * c → I 92 a = nI (T (2 + a) - 48) ∧ T (2 + a) - 48 ≤ 9)
    (hK : ∀ N : Nat → Nat → Nat, (∀ b q, b ≠ 89 → N b q = N0 b q) → N 89 = lnM (N0 89) (lnS T (r * c)) 36 → aWp ko d 5 (aP.1 (Int.toNat 334)) [.ref 86, .int (nI r), .int (nI c), .int w3, .int (nI 36)] [] (hp D N I J x) (aL Q)) :
    ∀ (j i : Nat) (N : Nat → Nat → Nat), i + j = 36 → (∀ b q, b ≠ 89 → N b q = N0 b q) → N 89 = lnM (N0 89) (lnS T (r * c)) i → aWp ko d 5 (aP.1 (Int.toNat 331)) [.ref 86, .int (nI r), .int (nI c), .int w3, .int (nI i)] [] (hp D N I J x) (aL Q) := by
  intro j
  induction j with
  | zero =>
    intro i N hj hN hS
    have e : i = 36 := by omega
    subst e
    rw [al_331]
    simp (disch := (first | omega | exact aCat_8 (by with_unfolding_all rfl) | exact rk_lt (by with_unfolding_all rfl) | exact aCat_16 (by with_unfolding_all rfl) | exact rk_eq (by with_unfolding_all rfl) | assumption | exact b2n_lt _ | exact id_b (by with_unfolding_all rfl) | (simp (disch := omega) only [u2_same, u2_ab, u2_aq]; done) | (simp (disch := omega) only [u2_same, u2_ab, u2_aq]; omega) | fail)) only [al_320, wp_aloadr_0, wp_aloadk_0, wk_0, hp_86_0, wk_80, wc_6, wp_pop, wk_2, wk_6, wc_7, wp_istore_1, wp_iload_1, wz_ge_t, wz_ge_f, wm_ge_1, wm_ge_2, wk_m1, wp_goto, al_321, wp_jsr, al_322, wp_istore_2, wp_iload_2, wz_le_t, wz_le_f, wm_le_1, wm_le_2, wk_1, al_323, al_324, wp_istore_3, wp_istore_4, wp_iload_3, wz_eq_t, wz_eq_f, wb_eq_t, wb_eq_f, wm_eq_1, wm_eq_2, wp_iload_4, wp_imul, wn_ge_t, wn_ge_f, hg_86_15, ha_92l, ha_92s, wc_8, wz_lt_t, wz_lt_f, wm_lt_1, wm_lt_2, al_326, al_327, wp_iinc_4_1, al_328, hg_86_12, hg_86_13, al_329, wp_isub, wp_ireturn, al_330, hp_86_3, hp_86_4, wk_36, hg_86_8, ha_89l, ha_89s, al_332, al_333, wp_iadd, wk_72, wk_108, wk_109, wk_110, hp_86_26, wp_dupi, wp_dupr, hg_86_5, hp_86_5, hp_86_46, hp_86_51, wc_10, t_10, nl_i, nl_r, nl_k, nl_j, nl_l, nI_add, pk_mul, pk_sub, tl_s, tl_n, aL_inl, u2_same, u2_ab, u2_aq, nI_l, lN_i, Nat.add_zero, Nat.zero_add, Nat.zero_le, true_and, and_true, b2n_10, b2n_T, b2n_F, b2n_0, Decidable.not_not, not_true_eq_false, not_false_eq_true, Nat.reduceAdd, Nat.reduceMul, Nat.reduceSub]
    exact hK N hN hS
  | succ j ih =>
    intro i N hj hN hS
    have hfin : ∀ v, v = lnS T (r * c) i → (∀ b q, b ≠ 89 → u2 (u2 (u2 N 89 i v) 89 (36 + i) 0) 89 (72 + i) 0 b q = N0 b q) ∧ u2 (u2 (u2 N 89 i v) 89 (36 + i) 0) 89 (72 + i) 0 89 = lnM (N0 89) (lnS T (r * c)) (i + 1) := by
      intro v hv
      refine ⟨fun b q z => by rw [u2_ab z, u2_ab z, u2_ab z]; exact hN b q z, ?_⟩
      funext q
      have hz : ∀ q, 36 ≤ q → lnS T (r * c) q = 0 := fun q hq => by unfold lnS; rw [if_neg (by omega)]
      rw [u2_rd]
      by_cases e1 : q = 72 + i
      · rw [if_pos ⟨rfl, e1⟩]
        unfold lnM
        rw [if_pos (by omega), hz q (by omega)]
      · rw [if_neg (fun y => e1 y.2), u2_rd]
        by_cases e2 : q = 36 + i
        · rw [if_pos ⟨rfl, e2⟩]
          unfold lnM
          rw [if_pos (by omega), hz q (by omega)]
        · rw [if_neg (fun y => e2 y.2), u2_rd]
          by_cases e3 : q = i
          · rw [if_pos ⟨rfl, e3⟩]
            unfold lnM
            rw [if_pos (by omega), hv, e3]
          · rw [if_neg (fun y => e3 y.2), hS]
            unfold lnM
            by_cases y : q < i ∨ (36 ≤ q ∧ q < 36 + i) ∨ (72 ≤ q ∧ q < 72 + i)
            · rw [if_pos y, if_pos (by omega)]
            · rw [if_neg y, if_neg (by omega)]
    rw [al_331]
    by_cases z : i < r * c
    · obtain ⟨e92, _⟩ := hI i z
      obtain ⟨f1, f2⟩ := hfin (T (2 + i) - 48) (by unfold lnS; rw [if_pos z])
      simp (disch := (first | omega | exact aCat_8 (by with_unfolding_all rfl) | exact rk_lt (by with_unfolding_all rfl) | exact aCat_16 (by with_unfolding_all rfl) | exact rk_eq (by with_unfolding_all rfl) | assumption | exact b2n_lt _ | exact id_b (by with_unfolding_all rfl) | (simp (disch := omega) only [u2_same, u2_ab, u2_aq]; done) | (simp (disch := omega) only [u2_same, u2_ab, u2_aq]; omega) | fail)) only [al_320, wp_aloadr_0, wp_aloadk_0, wk_0, hp_86_0, wk_80, wc_6, wp_pop, wk_2, wk_6, wc_7, wp_istore_1, wp_iload_1, wz_ge_t, wz_ge_f, wm_ge_1, wm_ge_2, wk_m1, wp_goto, al_321, wp_jsr, al_322, wp_istore_2, wp_iload_2, wz_le_t, wz_le_f, wm_le_1, wm_le_2, wk_1, al_323, al_324, wp_istore_3, wp_istore_4, wp_iload_3, wz_eq_t, wz_eq_f, wb_eq_t, wb_eq_f, wm_eq_1, wm_eq_2, wp_iload_4, wp_imul, wn_ge_t, wn_ge_f, hg_86_15, ha_92l, ha_92s, wc_8, wz_lt_t, wz_lt_f, wm_lt_1, wm_lt_2, al_326, al_327, wp_iinc_4_1, al_328, hg_86_12, hg_86_13, al_329, wp_isub, wp_ireturn, al_330, hp_86_3, hp_86_4, wk_36, hg_86_8, ha_89l, ha_89s, al_332, al_333, wp_iadd, wk_72, wk_108, wk_109, wk_110, hp_86_26, wp_dupi, wp_dupr, hg_86_5, hp_86_5, hp_86_46, hp_86_51, wc_10, t_10, nl_i, nl_r, nl_k, nl_j, nl_l, nI_add, pk_mul, pk_sub, tl_s, tl_n, aL_inl, u2_same, u2_ab, u2_aq, nI_l, lN_i, Nat.add_zero, Nat.zero_add, Nat.zero_le, true_and, and_true, b2n_10, b2n_T, b2n_F, b2n_0, Decidable.not_not, not_true_eq_false, not_false_eq_true, Nat.reduceAdd, Nat.reduceMul, Nat.reduceSub, e92]
      exact ih (i + 1) _ (by omega) f1 f2
    · obtain ⟨f1, f2⟩ := hfin 0 (by unfold lnS; rw [if_neg z])
      simp (disch := (first | omega | exact aCat_8 (by with_unfolding_all rfl) | exact rk_lt (by with_unfolding_all rfl) | exact aCat_16 (by with_unfolding_all rfl) | exact rk_eq (by with_unfolding_all rfl) | assumption | exact b2n_lt _ | exact id_b (by with_unfolding_all rfl) | (simp (disch := omega) only [u2_same, u2_ab, u2_aq]; done) | (simp (disch := omega) only [u2_same, u2_ab, u2_aq]; omega) | fail)) only [al_320, wp_aloadr_0, wp_aloadk_0, wk_0, hp_86_0, wk_80, wc_6, wp_pop, wk_2, wk_6, wc_7, wp_istore_1, wp_iload_1, wz_ge_t, wz_ge_f, wm_ge_1, wm_ge_2, wk_m1, wp_goto, al_321, wp_jsr, al_322, wp_istore_2, wp_iload_2, wz_le_t, wz_le_f, wm_le_1, wm_le_2, wk_1, al_323, al_324, wp_istore_3, wp_istore_4, wp_iload_3, wz_eq_t, wz_eq_f, wb_eq_t, wb_eq_f, wm_eq_1, wm_eq_2, wp_iload_4, wp_imul, wn_ge_t, wn_ge_f, hg_86_15, ha_92l, ha_92s, wc_8, wz_lt_t, wz_lt_f, wm_lt_1, wm_lt_2, al_326, al_327, wp_iinc_4_1, al_328, hg_86_12, hg_86_13, al_329, wp_isub, wp_ireturn, al_330, hp_86_3, hp_86_4, wk_36, hg_86_8, ha_89l, ha_89s, al_332, al_333, wp_iadd, wk_72, wk_108, wk_109, wk_110, hp_86_26, wp_dupi, wp_dupr, hg_86_5, hp_86_5, hp_86_46, hp_86_51, wc_10, t_10, nl_i, nl_r, nl_k, nl_j, nl_l, nI_add, pk_mul, pk_sub, tl_s, tl_n, aL_inl, u2_same, u2_ab, u2_aq, nI_l, lN_i, Nat.add_zero, Nat.zero_add, Nat.zero_le, true_and, and_true, b2n_10, b2n_T, b2n_F, b2n_0, Decidable.not_not, not_true_eq_false, not_false_eq_true, Nat.reduceAdd, Nat.reduceMul, Nat.reduceSub]
      exact ih (i + 1) _ (by omega) f1 f2
theorem ln_end {S0 T : Nat → Nat} {F : Nat} (hF : F ≤ 36) (hz : ∀ q, 111 ≤ q → S0 q = 0) : upn (upn (upn (lnM S0 (lnS T F) 36) 108 0) 109 0) 110 0 = lnS T F := by
  funext q
  have h0 : ∀ q, 36 ≤ q → lnS T F q = 0 := fun q hq => by unfold lnS; rw [if_neg (by omega)]
  unfold upn
  by_cases e1 : q = 110
  · rw [if_pos e1, h0 q (by omega)]
  · rw [if_neg e1]
    by_cases e2 : q = 109
    · rw [if_pos e2, h0 q (by omega)]
    · rw [if_neg e2]
      by_cases e3 : q = 108
      · rw [if_pos e3, h0 q (by omega)]
      · rw [if_neg e3]
        unfold lnM
        by_cases y : q < 36 ∨ (36 ≤ q ∧ q < 36 + 36) ∨ (72 ≤ q ∧ q < 72 + 36)
        · rw [if_pos y]
        · rw [if_neg y, hz q (by omega), h0 q (by omega)]
/-- a land that is wrong at w -/
theorem r_5w {n w : Nat} (h11 : N 86 11 = n) (hn : n ≤ 80) (hb : ∀ i, i < n → N 91 i < 256) (hw : (w = 0 ∧ ¬ d26 (N 91) n 0) ∨ (w = 1 ∧ d26 (N 91) n 0 ∧ ¬ d26 (N 91) n 1) ∨ (d26 (N 91) n 0 ∧ d26 (N 91) n 1 ∧ lnK (N 91) n (2 + (N 91 0 - 48) * (N 91 1 - 48)) w ∧ ¬ (w = 2 + (N 91 0 - 48) * (N 91 1 - 48) ∧ n ≤ 2 + (N 91 0 - 48) * (N 91 1 - 48))))
    (hQ : ∀ (N' : Nat → Nat → Nat) (I' : Nat → Nat → Int32), N' 86 11 = 0 → (∀ b q, b ≠ 92 → ¬ (b = 86 ∧ (q = 0 ∨ q = 11 ∨ q = 12 ∨ q = 13 ∨ q = 14)) → N' b q = N b q) → (∀ b q, b ≠ 92 → I' b q = I b q) → Q (some (.int (-1 - nI w))) (hp D N' I' J x)) : aMm ko d 5 [.ref 86] (hp D N I J x) Q := by
  have e0 : ∀ b q, ¬ (b = 86 ∧ q = 0) → u2 N 86 0 0 b q = N b q := fun b q z => by rw [u2_rd, if_neg z]
  have e91 : u2 N 86 0 0 91 = N 91 := u2_nb (by decide)
  have hb' : ∀ i, i < n → u2 N 86 0 0 91 i < 256 := fun i hi => by rw [e91]; exact hb i hi
  rw [me_5]
  simp (disch := (first | omega | exact aCat_8 (by with_unfolding_all rfl) | exact rk_lt (by with_unfolding_all rfl) | exact aCat_16 (by with_unfolding_all rfl) | exact rk_eq (by with_unfolding_all rfl) | assumption | exact b2n_lt _ | exact id_b (by with_unfolding_all rfl) | (simp (disch := omega) only [u2_same, u2_ab, u2_aq]; done) | (simp (disch := omega) only [u2_same, u2_ab, u2_aq]; omega) | fail)) only [al_320, wp_aloadr_0, wp_aloadk_0, wk_0, hp_86_0, wk_80, wc_6, wp_pop, wk_2, wk_6, wc_7, wp_istore_1, wp_iload_1, wz_ge_t, wz_ge_f, wm_ge_1, wm_ge_2, wk_m1, wp_goto, al_321, wp_jsr, al_322, wp_istore_2, wp_iload_2, wz_le_t, wz_le_f, wm_le_1, wm_le_2, wk_1, al_323, al_324, wp_istore_3, wp_istore_4, wp_iload_3, wz_eq_t, wz_eq_f, wb_eq_t, wb_eq_f, wm_eq_1, wm_eq_2, wp_iload_4, wp_imul, wn_ge_t, wn_ge_f, hg_86_15, ha_92l, ha_92s, wc_8, wz_lt_t, wz_lt_f, wm_lt_1, wm_lt_2, al_326, al_327, wp_iinc_4_1, al_328, hg_86_12, hg_86_13, al_329, wp_isub, wp_ireturn, al_330, hp_86_3, hp_86_4, wk_36, hg_86_8, ha_89l, ha_89s, al_332, al_333, wp_iadd, wk_72, al_334, wk_108, wk_109, wk_110, hp_86_26, wp_dupi, wp_dupr, hg_86_5, hp_86_5, hp_86_46, hp_86_51, wc_10, t_10, nl_i, nl_r, nl_k, nl_j, nl_l, nI_add, pk_mul, pk_sub, tl_s, tl_n, aL_inl, u2_same, u2_ab, u2_aq, nI_l, lN_i, Nat.add_zero, Nat.zero_add, Nat.zero_le, true_and, and_true, b2n_10, b2n_T, b2n_F, b2n_0, Decidable.not_not, not_true_eq_false, not_false_eq_true, Nat.reduceAdd, Nat.reduceMul, Nat.reduceSub]
  refine t_6 (n := n) ((e0 86 11 (by omega)).trans h11) hn (by decide) hn ?_
  intro N2 hT2
  simp (disch := (first | omega | exact aCat_8 (by with_unfolding_all rfl) | exact rk_lt (by with_unfolding_all rfl) | exact aCat_16 (by with_unfolding_all rfl) | exact rk_eq (by with_unfolding_all rfl) | assumption | exact b2n_lt _ | exact id_b (by with_unfolding_all rfl) | (simp (disch := omega) only [u2_same, u2_ab, u2_aq]; done) | (simp (disch := omega) only [u2_same, u2_ab, u2_aq]; omega) | fail)) only [al_320, wp_aloadr_0, wp_aloadk_0, wk_0, hp_86_0, wk_80, wc_6, wp_pop, wk_2, wk_6, wc_7, wp_istore_1, wp_iload_1, wz_ge_t, wz_ge_f, wm_ge_1, wm_ge_2, wk_m1, wp_goto, al_321, wp_jsr, al_322, wp_istore_2, wp_iload_2, wz_le_t, wz_le_f, wm_le_1, wm_le_2, wk_1, al_323, al_324, wp_istore_3, wp_istore_4, wp_iload_3, wz_eq_t, wz_eq_f, wb_eq_t, wb_eq_f, wm_eq_1, wm_eq_2, wp_iload_4, wp_imul, wn_ge_t, wn_ge_f, hg_86_15, ha_92l, ha_92s, wc_8, wz_lt_t, wz_lt_f, wm_lt_1, wm_lt_2, al_326, al_327, wp_iinc_4_1, al_328, hg_86_12, hg_86_13, al_329, wp_isub, wp_ireturn, al_330, hp_86_3, hp_86_4, wk_36, hg_86_8, ha_89l, ha_89s, al_332, al_333, wp_iadd, wk_72, al_334, wk_108, wk_109, wk_110, hp_86_26, wp_dupi, wp_dupr, hg_86_5, hp_86_5, hp_86_46, hp_86_51, wc_10, t_10, nl_i, nl_r, nl_k, nl_j, nl_l, nI_add, pk_mul, pk_sub, tl_s, tl_n, aL_inl, u2_same, u2_ab, u2_aq, nI_l, lN_i, Nat.add_zero, Nat.zero_add, Nat.zero_le, true_and, and_true, b2n_10, b2n_T, b2n_F, b2n_0, Decidable.not_not, not_true_eq_false, not_false_eq_true, Nat.reduceAdd, Nat.reduceMul, Nat.reduceSub]
  rcases hw with ⟨rfl, hw0⟩ | ⟨rfl, hw0, hw1⟩ | ⟨hw0, hw1, hwk, hne⟩
  · have h7 := fun Q => t_7n (ko := ko) (d := d) (D := D) (I := I) (J := J) (x := x) (Q := Q) hT2 hn (Nat.zero_le _) hb' (by rw [e91]; exact hw0)
    have x2 := hT2.2.1
    have hq := hQ N2 I hT2.2.2.1 (fun b q z1 z2 => (hT2.2.2.2 b q z1 z2).trans (e0 b q (by omega))) (fun _ _ _ => rfl)
    simp (disch := (first | omega | exact aCat_8 (by with_unfolding_all rfl) | exact rk_lt (by with_unfolding_all rfl) | exact aCat_16 (by with_unfolding_all rfl) | exact rk_eq (by with_unfolding_all rfl) | assumption | exact b2n_lt _ | exact id_b (by with_unfolding_all rfl) | (simp (disch := omega) only [u2_same, u2_ab, u2_aq]; done) | (simp (disch := omega) only [u2_same, u2_ab, u2_aq]; omega) | fail)) only [al_320, wp_aloadr_0, wp_aloadk_0, wk_0, hp_86_0, wk_80, wc_6, wp_pop, wk_2, wk_6, wc_7, wp_istore_1, wp_iload_1, wz_ge_t, wz_ge_f, wm_ge_1, wm_ge_2, wk_m1, wp_goto, al_321, wp_jsr, al_322, wp_istore_2, wp_iload_2, wz_le_t, wz_le_f, wm_le_1, wm_le_2, wk_1, al_323, al_324, wp_istore_3, wp_istore_4, al_325, wp_iload_3, wz_eq_t, wz_eq_f, wb_eq_t, wb_eq_f, wm_eq_1, wm_eq_2, wp_iload_4, wp_imul, wn_ge_t, wn_ge_f, hg_86_15, ha_92l, ha_92s, wc_8, wz_lt_t, wz_lt_f, wm_lt_1, wm_lt_2, al_326, al_327, wp_iinc_4_1, al_328, hg_86_12, hg_86_13, al_329, wp_isub, wp_ireturn, al_330, hp_86_3, hp_86_4, wk_36, hg_86_8, ha_89l, ha_89s, al_332, al_333, wp_iadd, wk_72, al_334, wk_108, wk_109, wk_110, hp_86_26, wp_dupi, wp_dupr, hg_86_5, hp_86_5, hp_86_46, hp_86_51, wc_10, t_10, nl_i, nl_r, nl_k, nl_j, nl_l, nI_add, pk_mul, pk_sub, tl_s, tl_n, aL_inl, u2_same, u2_ab, u2_aq, nI_l, lN_i, Nat.add_zero, Nat.zero_add, Nat.zero_le, true_and, and_true, b2n_10, b2n_T, b2n_F, b2n_0, Decidable.not_not, not_true_eq_false, not_false_eq_true, Nat.reduceAdd, Nat.reduceMul, Nat.reduceSub, h7, x2, qe_n1, qe_m1, qn_n1, qn_m1, qe_n2, qe_m2, qn_n2, qn_m2]
    exact hq
  · refine t_7 hT2 hn (by rw [e91]; exact hw0) ?_
    intro N3 hT3
    rw [e91]
    have hd := hw0.2
    have h7 := fun Q => t_7n (ko := ko) (d := d) (D := D) (I := I) (J := J) (x := x) (Q := Q) hT3 hn hw0.1 hb' (by rw [e91]; exact hw1)
    have x2 := hT3.2.1
    have hq := hQ N3 I hT3.2.2.1 (fun b q z1 z2 => (hT3.2.2.2 b q z1 z2).trans (e0 b q (by omega))) (fun _ _ _ => rfl)
    simp (disch := (first | omega | exact aCat_8 (by with_unfolding_all rfl) | exact rk_lt (by with_unfolding_all rfl) | exact aCat_16 (by with_unfolding_all rfl) | exact rk_eq (by with_unfolding_all rfl) | assumption | exact b2n_lt _ | exact id_b (by with_unfolding_all rfl) | (simp (disch := omega) only [u2_same, u2_ab, u2_aq]; done) | (simp (disch := omega) only [u2_same, u2_ab, u2_aq]; omega) | fail)) only [al_320, wp_aloadr_0, wp_aloadk_0, wk_0, hp_86_0, wk_80, wc_6, wp_pop, wk_2, wk_6, wc_7, wp_istore_1, wp_iload_1, wz_ge_t, wz_ge_f, wm_ge_1, wm_ge_2, wk_m1, wp_goto, al_321, wp_jsr, al_322, wp_istore_2, wp_iload_2, wz_le_t, wz_le_f, wm_le_1, wm_le_2, wk_1, al_323, al_324, wp_istore_3, wp_istore_4, al_325, wp_iload_3, wz_eq_t, wz_eq_f, wb_eq_t, wb_eq_f, wm_eq_1, wm_eq_2, wp_iload_4, wp_imul, wn_ge_t, wn_ge_f, hg_86_15, ha_92l, ha_92s, wc_8, wz_lt_t, wz_lt_f, wm_lt_1, wm_lt_2, al_326, al_327, wp_iinc_4_1, al_328, hg_86_12, hg_86_13, al_329, wp_isub, wp_ireturn, al_330, hp_86_3, hp_86_4, wk_36, hg_86_8, ha_89l, ha_89s, al_332, al_333, wp_iadd, wk_72, al_334, wk_108, wk_109, wk_110, hp_86_26, wp_dupi, wp_dupr, hg_86_5, hp_86_5, hp_86_46, hp_86_51, wc_10, t_10, nl_i, nl_r, nl_k, nl_j, nl_l, nI_add, pk_mul, pk_sub, tl_s, tl_n, aL_inl, u2_same, u2_ab, u2_aq, nI_l, lN_i, Nat.add_zero, Nat.zero_add, Nat.zero_le, true_and, and_true, b2n_10, b2n_T, b2n_F, b2n_0, Decidable.not_not, not_true_eq_false, not_false_eq_true, Nat.reduceAdd, Nat.reduceMul, Nat.reduceSub, h7, x2, qe_n1, qe_m1, qn_n1, qn_m1, qe_n2, qe_m2, qn_n2, qn_m2]
    exact hq
  · refine t_7 hT2 hn (by rw [e91]; exact hw0) ?_
    intro N3 hT3
    rw [e91]
    have hd := hw0.2
    have hd1 := hw1.2
    simp (disch := (first | omega | exact aCat_8 (by with_unfolding_all rfl) | exact rk_lt (by with_unfolding_all rfl) | exact aCat_16 (by with_unfolding_all rfl) | exact rk_eq (by with_unfolding_all rfl) | assumption | exact b2n_lt _ | exact id_b (by with_unfolding_all rfl) | (simp (disch := omega) only [u2_same, u2_ab, u2_aq]; done) | (simp (disch := omega) only [u2_same, u2_ab, u2_aq]; omega) | fail)) only [al_320, wp_aloadr_0, wp_aloadk_0, wk_0, hp_86_0, wk_80, wc_6, wp_pop, wk_2, wk_6, wc_7, wp_istore_1, wp_iload_1, wz_ge_t, wz_ge_f, wm_ge_1, wm_ge_2, wk_m1, wp_goto, al_321, wp_jsr, al_322, wp_istore_2, wp_iload_2, wz_le_t, wz_le_f, wm_le_1, wm_le_2, wk_1, al_323, al_324, wp_istore_3, wp_istore_4, wp_iload_3, wz_eq_t, wz_eq_f, wb_eq_t, wb_eq_f, wm_eq_1, wm_eq_2, wp_iload_4, wp_imul, wn_ge_t, wn_ge_f, hg_86_15, ha_92l, ha_92s, wc_8, wz_lt_t, wz_lt_f, wm_lt_1, wm_lt_2, al_326, al_327, wp_iinc_4_1, al_328, hg_86_12, hg_86_13, al_329, wp_isub, wp_ireturn, al_330, hp_86_3, hp_86_4, wk_36, hg_86_8, ha_89l, ha_89s, al_332, al_333, wp_iadd, wk_72, al_334, wk_108, wk_109, wk_110, hp_86_26, wp_dupi, wp_dupr, hg_86_5, hp_86_5, hp_86_46, hp_86_51, wc_10, t_10, nl_i, nl_r, nl_k, nl_j, nl_l, nI_add, pk_mul, pk_sub, tl_s, tl_n, aL_inl, u2_same, u2_ab, u2_aq, nI_l, lN_i, Nat.add_zero, Nat.zero_add, Nat.zero_le, true_and, and_true, b2n_10, b2n_T, b2n_F, b2n_0, Decidable.not_not, not_true_eq_false, not_false_eq_true, Nat.reduceAdd, Nat.reduceMul, Nat.reduceSub]
    refine t_7 hT3 hn (by rw [e91]; exact hw1) ?_
    intro N4 hT4
    have ec : u2 N 86 0 0 91 (0 + 1) = N 91 1 := by rw [e91]
    rw [ec]
    have hm : (N 91 0 - 48) * (N 91 1 - 48) ≤ 6 * 6 := Nat.mul_le_mul (by omega) (by omega)
    have hc0 : 0 < N 91 1 - 48 := by omega
    simp (disch := (first | omega | exact aCat_8 (by with_unfolding_all rfl) | exact rk_lt (by with_unfolding_all rfl) | exact aCat_16 (by with_unfolding_all rfl) | exact rk_eq (by with_unfolding_all rfl) | assumption | exact b2n_lt _ | exact id_b (by with_unfolding_all rfl) | (simp (disch := omega) only [u2_same, u2_ab, u2_aq]; done) | (simp (disch := omega) only [u2_same, u2_ab, u2_aq]; omega) | fail)) only [al_320, wp_aloadr_0, wp_aloadk_0, wk_0, hp_86_0, wk_80, wc_6, wp_pop, wk_2, wk_6, wc_7, wp_istore_1, wp_iload_1, wz_ge_t, wz_ge_f, wm_ge_1, wm_ge_2, wk_m1, wp_goto, al_321, wp_jsr, al_322, wp_istore_2, wp_iload_2, wz_le_t, wz_le_f, wm_le_1, wm_le_2, wk_1, al_323, al_324, wp_istore_3, wp_istore_4, wp_iload_3, wz_eq_t, wz_eq_f, wb_eq_t, wb_eq_f, wm_eq_1, wm_eq_2, wp_iload_4, wp_imul, wn_ge_t, wn_ge_f, hg_86_15, ha_92l, ha_92s, wc_8, wz_lt_t, wz_lt_f, wm_lt_1, wm_lt_2, al_326, al_327, wp_iinc_4_1, al_328, hg_86_12, hg_86_13, al_329, wp_isub, wp_ireturn, al_330, hp_86_3, hp_86_4, wk_36, hg_86_8, ha_89l, ha_89s, al_332, al_333, wp_iadd, wk_72, al_334, wk_108, wk_109, wk_110, hp_86_26, wp_dupi, wp_dupr, hg_86_5, hp_86_5, hp_86_46, hp_86_51, wc_10, t_10, nl_i, nl_r, nl_k, nl_j, nl_l, nI_add, pk_mul, pk_sub, tl_s, tl_n, aL_inl, u2_same, u2_ab, u2_aq, nI_l, lN_i, Nat.add_zero, Nat.zero_add, Nat.zero_le, true_and, and_true, b2n_10, b2n_T, b2n_F, b2n_0, Decidable.not_not, not_true_eq_false, not_false_eq_true, Nat.reduceAdd, Nat.reduceMul, Nat.reduceSub]
    have hx := l_5a (ko := ko) (d := d) (D := D) (J := J) (x := x) (Q := Q) (N0 := u2 N 86 0 0) (I0 := I) (n := n) (r := N 91 0 - 48) (c := N 91 1 - 48) (k := w) hn (by have := hw1.1; omega) hb' (by omega) (by rw [e91]; exact hwk) (by
      intro N5 I5 i hT5 hI5 hv5
      have x1 := hT5.1
      have x2 := hT5.2.1
      have hq := hQ N5 I5 hT5.2.2.1 (fun b q z1 z2 => (hT5.2.2.2 b q z1 z2).trans (e0 b q (by omega))) hI5
      have hw80 : w ≤ 38 := by have := hwk.2.1; omega
      rw [al_328]
      by_cases z : w = 2 + (N 91 0 - 48) * (N 91 1 - 48)
      · have hlt : w < n := by
          have : ¬ n ≤ 2 + (N 91 0 - 48) * (N 91 1 - 48) := fun y => hne ⟨z, y⟩
          omega
        rw [b2n_t z]
        simp (disch := (first | omega | exact aCat_8 (by with_unfolding_all rfl) | exact rk_lt (by with_unfolding_all rfl) | exact aCat_16 (by with_unfolding_all rfl) | exact rk_eq (by with_unfolding_all rfl) | assumption | exact b2n_lt _ | exact id_b (by with_unfolding_all rfl) | (simp (disch := omega) only [u2_same, u2_ab, u2_aq]; done) | (simp (disch := omega) only [u2_same, u2_ab, u2_aq]; omega) | fail)) only [al_320, wp_aloadr_0, wp_aloadk_0, wk_0, hp_86_0, wk_80, wc_6, wp_pop, wk_2, wk_6, wc_7, wp_istore_1, wp_iload_1, wz_ge_t, wz_ge_f, wm_ge_1, wm_ge_2, wk_m1, wp_goto, al_321, wp_jsr, al_322, wp_istore_2, wp_iload_2, wz_le_t, wz_le_f, wm_le_1, wm_le_2, wk_1, al_323, al_324, wp_istore_3, wp_istore_4, wp_iload_3, wz_eq_t, wz_eq_f, wb_eq_t, wb_eq_f, wm_eq_1, wm_eq_2, wp_iload_4, wp_imul, wn_ge_t, wn_ge_f, hg_86_15, ha_92l, ha_92s, wc_8, wz_lt_t, wz_lt_f, wm_lt_1, wm_lt_2, al_326, al_327, wp_iinc_4_1, al_328, hg_86_12, hg_86_13, al_329, wp_isub, wp_ireturn, al_330, hp_86_3, hp_86_4, wk_36, hg_86_8, ha_89l, ha_89s, al_332, al_333, wp_iadd, wk_72, al_334, wk_108, wk_109, wk_110, hp_86_26, wp_dupi, wp_dupr, hg_86_5, hp_86_5, hp_86_46, hp_86_51, wc_10, t_10, nl_i, nl_r, nl_k, nl_j, nl_l, nI_add, pk_mul, pk_sub, tl_s, tl_n, aL_inl, u2_same, u2_ab, u2_aq, nI_l, lN_i, Nat.add_zero, Nat.zero_add, Nat.zero_le, true_and, and_true, b2n_10, b2n_T, b2n_F, b2n_0, Decidable.not_not, not_true_eq_false, not_false_eq_true, Nat.reduceAdd, Nat.reduceMul, Nat.reduceSub, x1, x2]
        exact hq
      · rw [b2n_f z]
        simp (disch := (first | omega | exact aCat_8 (by with_unfolding_all rfl) | exact rk_lt (by with_unfolding_all rfl) | exact aCat_16 (by with_unfolding_all rfl) | exact rk_eq (by with_unfolding_all rfl) | assumption | exact b2n_lt _ | exact id_b (by with_unfolding_all rfl) | (simp (disch := omega) only [u2_same, u2_ab, u2_aq]; done) | (simp (disch := omega) only [u2_same, u2_ab, u2_aq]; omega) | fail)) only [al_320, wp_aloadr_0, wp_aloadk_0, wk_0, hp_86_0, wk_80, wc_6, wp_pop, wk_2, wk_6, wc_7, wp_istore_1, wp_iload_1, wz_ge_t, wz_ge_f, wm_ge_1, wm_ge_2, wk_m1, wp_goto, al_321, wp_jsr, al_322, wp_istore_2, wp_iload_2, wz_le_t, wz_le_f, wm_le_1, wm_le_2, wk_1, al_323, al_324, wp_istore_3, wp_istore_4, wp_iload_3, wz_eq_t, wz_eq_f, wb_eq_t, wb_eq_f, wm_eq_1, wm_eq_2, wp_iload_4, wp_imul, wn_ge_t, wn_ge_f, hg_86_15, ha_92l, ha_92s, wc_8, wz_lt_t, wz_lt_f, wm_lt_1, wm_lt_2, al_326, al_327, wp_iinc_4_1, al_328, hg_86_12, hg_86_13, al_329, wp_isub, wp_ireturn, al_330, hp_86_3, hp_86_4, wk_36, hg_86_8, ha_89l, ha_89s, al_332, al_333, wp_iadd, wk_72, al_334, wk_108, wk_109, wk_110, hp_86_26, wp_dupi, wp_dupr, hg_86_5, hp_86_5, hp_86_46, hp_86_51, wc_10, t_10, nl_i, nl_r, nl_k, nl_j, nl_l, nI_add, pk_mul, pk_sub, tl_s, tl_n, aL_inl, u2_same, u2_ab, u2_aq, nI_l, lN_i, Nat.add_zero, Nat.zero_add, Nat.zero_le, true_and, and_true, b2n_10, b2n_T, b2n_F, b2n_0, Decidable.not_not, not_true_eq_false, not_false_eq_true, Nat.reduceAdd, Nat.reduceMul, Nat.reduceSub, x2]
        exact hq) (w - 2) 0 N4 I (by have := hwk.1; omega) hT4 (fun _ _ _ => rfl) (fun a ha => absurd ha (Nat.not_lt_zero a))
    exact hx
end D4
