/-! year: the reference does the acts. From wip/whole/src. -/
section ZB
variable {ko : aKo} {d k : Nat} {is : List Instr} {ls st : List Value} {σ : aH} {D : Nat → Nat} {N : Nat → Nat → Nat} {I : Nat → Nat → Int32} {J : Nat → Nat → Int64} {x t : Nat} {Q : Option Value → aH → Prop} {P : (Option Value ⊕ Unit) → aH → Prop}
theorem l_54b {N0 M : Nat → Nat → Nat} {I0 IM : Nat → Nat → Int32} {J0 : Nat → Nat → Int64} {n e K m : Nat} (h : invB D N0 I0 J0 t) (he60 : e ≤ 60) (hsm : smR M N0) (h32 : M 86 32 = K) (hg : gdA (N0 91) e K) (hK : psA (N0 91) K = e) (hM : yrM D N0 K m) (ht : t + 300 < 1000000000) (hac : ∀ i, i < K → acR (N0 91) (psA (N0 91) i) i IM)
    (hQ : ∀ (N : Nat → Nat → Nat) (I : Nat → Nat → Int32), yrR M N IM I (yrS D N0 m) → aWp ko d 54 (aP.1 (Int.toNat 3461)) [.ref 86, .int (nI n), .int (nI 1), .int (nI 0), .int (nI m)] [] (hp D N I J x) (aL Q)) :
    ∀ (j i : Nat) (N : Nat → Nat → Nat) (I : Nat → Nat → Int32), i + j = m → yrR M N IM I (yrS D N0 i) → aWp ko d 54 (aP.1 (Int.toNat 3460)) [.ref 86, .int (nI n), .int (nI 1), .int (nI 0), .int (nI i)] [] (hp D N I J x) (aL Q) := by
  obtain ⟨k1, _⟩ := gd_ps K hg
  have hmK := hM.1
  have hG := yr_G h hg hM ht (by omega)
  intro j
  induction j with
  | zero =>
    intro i N I hi hD
    have ei : i = m := by omega
    subst ei
    have e32 : N 86 32 = K := (hD.2.1 86 32 (by decide) rfl).trans h32
    have hx := hQ N I hD
    rw [al_3460]
    by_cases z : i < K
    · obtain ⟨g1, g2⟩ := hg i z
      simp (disch := (first | omega | exact aCat_8 (by with_unfolding_all rfl) | exact rk_lt (by with_unfolding_all rfl) | exact aCat_16 (by with_unfolding_all rfl) | exact rk_eq (by with_unfolding_all rfl) | assumption | exact b2n_lt _ | exact id_b (by with_unfolding_all rfl) | (simp (disch := omega) only [u2_same, u2_ab, u2_aq]; done) | (simp (disch := omega) only [u2_same, u2_ab, u2_aq]; omega) | fail)) only [al_3456, wp_aloadr_0, wp_aloadk_0, wk_0, hp_86_0, wk_60, wc_6, wp_istore_1, hp_86_32, wk_1, wp_istore_2, wp_jsr, wp_iload_2, wz_eq_t, wz_eq_f, wb_eq_t, wb_eq_f, wm_eq_1, wm_eq_2, hg_86_12, hg_86_13, wn_ge_t, wn_ge_f, wc_55, wp_goto, al_3458, wp_iload_1, wc_20, wp_istore_3, wp_iload_3, wz_ge_t, wz_ge_f, wm_ge_1, wm_ge_2, wp_ireturn, al_3459, wc_39, wp_istore_4, wp_iload_4, hg_86_32, wc_56, wp_iinc_4_1, hp_86_1, al_3462, al_3463, wc_17, t_17, wp_i2l, wc_43, t_43, hg_86_8, ha_89l, ha_89s, wk_109, wz_le_t, wz_le_f, wm_le_1, wm_le_2, wc_44, al_3464, al_3465, nl_i, nl_r, nl_k, nl_j, nl_l, nI_add, pk_mul, pk_sub, tl_s, tl_n, aL_inl, u2_same, u2_ab, u2_aq, nI_l, lN_i, Nat.add_zero, Nat.zero_add, Nat.zero_le, true_and, and_true, b2n_10, b2n_T, b2n_F, b2n_0, Decidable.not_not, not_true_eq_false, not_false_eq_true, Nat.reduceAdd, Nat.reduceMul, Nat.reduceSub, e32]
      refine t_56 h (by omega) hsm g1 g2 (hG i (Nat.le_refl _)) (by omega) (hac i z) hD ?_ ?_
      · intro S' hS'
        have := hM.2.2 z
        unfold acA at this
        rw [hS'] at this
        cases this
      · intro _
        simp (disch := (first | omega | exact aCat_8 (by with_unfolding_all rfl) | exact rk_lt (by with_unfolding_all rfl) | exact aCat_16 (by with_unfolding_all rfl) | exact rk_eq (by with_unfolding_all rfl) | assumption | exact b2n_lt _ | exact id_b (by with_unfolding_all rfl) | (simp (disch := omega) only [u2_same, u2_ab, u2_aq]; done) | (simp (disch := omega) only [u2_same, u2_ab, u2_aq]; omega) | fail)) only [al_3456, wp_aloadr_0, wp_aloadk_0, wk_0, hp_86_0, wk_60, wc_6, wp_istore_1, hp_86_32, wk_1, wp_istore_2, wp_jsr, wp_iload_2, wz_eq_t, wz_eq_f, wb_eq_t, wb_eq_f, wm_eq_1, wm_eq_2, hg_86_12, hg_86_13, wn_ge_t, wn_ge_f, wc_55, wp_goto, al_3458, wp_iload_1, wc_20, wp_istore_3, wp_iload_3, wz_ge_t, wz_ge_f, wm_ge_1, wm_ge_2, wp_ireturn, al_3459, wc_39, wp_istore_4, wp_iload_4, hg_86_32, wc_56, wp_iinc_4_1, hp_86_1, al_3462, al_3463, wc_17, t_17, wp_i2l, wc_43, t_43, hg_86_8, ha_89l, ha_89s, wk_109, wz_le_t, wz_le_f, wm_le_1, wm_le_2, wc_44, al_3464, al_3465, nl_i, nl_r, nl_k, nl_j, nl_l, nI_add, pk_mul, pk_sub, tl_s, tl_n, aL_inl, u2_same, u2_ab, u2_aq, nI_l, lN_i, Nat.add_zero, Nat.zero_add, Nat.zero_le, true_and, and_true, b2n_10, b2n_T, b2n_F, b2n_0, Decidable.not_not, not_true_eq_false, not_false_eq_true, Nat.reduceAdd, Nat.reduceMul, Nat.reduceSub]
        exact hx
    · simp (disch := (first | omega | exact aCat_8 (by with_unfolding_all rfl) | exact rk_lt (by with_unfolding_all rfl) | exact aCat_16 (by with_unfolding_all rfl) | exact rk_eq (by with_unfolding_all rfl) | assumption | exact b2n_lt _ | exact id_b (by with_unfolding_all rfl) | (simp (disch := omega) only [u2_same, u2_ab, u2_aq]; done) | (simp (disch := omega) only [u2_same, u2_ab, u2_aq]; omega) | fail)) only [al_3456, wp_aloadr_0, wp_aloadk_0, wk_0, hp_86_0, wk_60, wc_6, wp_istore_1, hp_86_32, wk_1, wp_istore_2, wp_jsr, wp_iload_2, wz_eq_t, wz_eq_f, wb_eq_t, wb_eq_f, wm_eq_1, wm_eq_2, hg_86_12, hg_86_13, wn_ge_t, wn_ge_f, wc_55, wp_goto, al_3458, wp_iload_1, wc_20, wp_istore_3, wp_iload_3, wz_ge_t, wz_ge_f, wm_ge_1, wm_ge_2, wp_ireturn, al_3459, wc_39, wp_istore_4, wp_iload_4, hg_86_32, wc_56, wp_iinc_4_1, hp_86_1, al_3462, al_3463, wc_17, t_17, wp_i2l, wc_43, t_43, hg_86_8, ha_89l, ha_89s, wk_109, wz_le_t, wz_le_f, wm_le_1, wm_le_2, wc_44, al_3464, al_3465, nl_i, nl_r, nl_k, nl_j, nl_l, nI_add, pk_mul, pk_sub, tl_s, tl_n, aL_inl, u2_same, u2_ab, u2_aq, nI_l, lN_i, Nat.add_zero, Nat.zero_add, Nat.zero_le, true_and, and_true, b2n_10, b2n_T, b2n_F, b2n_0, Decidable.not_not, not_true_eq_false, not_false_eq_true, Nat.reduceAdd, Nat.reduceMul, Nat.reduceSub, e32]
      exact hx
  | succ j ih =>
    intro i N I hi hD
    have e32 : N 86 32 = K := (hD.2.1 86 32 (by decide) rfl).trans h32
    obtain ⟨g1, g2⟩ := hg i (by omega)
    rw [al_3460]
    simp (disch := (first | omega | exact aCat_8 (by with_unfolding_all rfl) | exact rk_lt (by with_unfolding_all rfl) | exact aCat_16 (by with_unfolding_all rfl) | exact rk_eq (by with_unfolding_all rfl) | assumption | exact b2n_lt _ | exact id_b (by with_unfolding_all rfl) | (simp (disch := omega) only [u2_same, u2_ab, u2_aq]; done) | (simp (disch := omega) only [u2_same, u2_ab, u2_aq]; omega) | fail)) only [al_3456, wp_aloadr_0, wp_aloadk_0, wk_0, hp_86_0, wk_60, wc_6, wp_istore_1, hp_86_32, wk_1, wp_istore_2, wp_jsr, wp_iload_2, wz_eq_t, wz_eq_f, wb_eq_t, wb_eq_f, wm_eq_1, wm_eq_2, hg_86_12, hg_86_13, wn_ge_t, wn_ge_f, wc_55, wp_goto, al_3458, wp_iload_1, wc_20, wp_istore_3, wp_iload_3, wz_ge_t, wz_ge_f, wm_ge_1, wm_ge_2, wp_ireturn, al_3459, wc_39, wp_istore_4, wp_iload_4, hg_86_32, wc_56, wp_iinc_4_1, hp_86_1, al_3462, al_3463, wc_17, t_17, wp_i2l, wc_43, t_43, hg_86_8, ha_89l, ha_89s, wk_109, wz_le_t, wz_le_f, wm_le_1, wm_le_2, wc_44, al_3464, al_3465, nl_i, nl_r, nl_k, nl_j, nl_l, nI_add, pk_mul, pk_sub, tl_s, tl_n, aL_inl, u2_same, u2_ab, u2_aq, nI_l, lN_i, Nat.add_zero, Nat.zero_add, Nat.zero_le, true_and, and_true, b2n_10, b2n_T, b2n_F, b2n_0, Decidable.not_not, not_true_eq_false, not_false_eq_true, Nat.reduceAdd, Nat.reduceMul, Nat.reduceSub, e32]
    refine t_56 h (by omega) hsm g1 g2 (hG i (by omega)) (by omega) (hac i (by omega)) hD ?_ ?_
    · intro S' hS' N1 I1 hD1
      have := hM.2.1 i (by omega)
      unfold acA at this
      rw [hS'] at this
      have es : S' = yrS D N0 (i + 1) := Option.some.inj this
      subst es
      have hx := ih (i + 1) N1 I1 (by omega) hD1
      simp (disch := (first | omega | exact aCat_8 (by with_unfolding_all rfl) | exact rk_lt (by with_unfolding_all rfl) | exact aCat_16 (by with_unfolding_all rfl) | exact rk_eq (by with_unfolding_all rfl) | assumption | exact b2n_lt _ | exact id_b (by with_unfolding_all rfl) | (simp (disch := omega) only [u2_same, u2_ab, u2_aq]; done) | (simp (disch := omega) only [u2_same, u2_ab, u2_aq]; omega) | fail)) only [al_3456, wp_aloadr_0, wp_aloadk_0, wk_0, hp_86_0, wk_60, wc_6, wp_istore_1, hp_86_32, wk_1, wp_istore_2, wp_jsr, wp_iload_2, wz_eq_t, wz_eq_f, wb_eq_t, wb_eq_f, wm_eq_1, wm_eq_2, hg_86_12, hg_86_13, wn_ge_t, wn_ge_f, wc_55, wp_goto, al_3458, wp_iload_1, wc_20, wp_istore_3, wp_iload_3, wz_ge_t, wz_ge_f, wm_ge_1, wm_ge_2, wp_ireturn, al_3459, wc_39, wp_istore_4, wp_iload_4, hg_86_32, wc_56, wp_iinc_4_1, hp_86_1, al_3462, al_3463, wc_17, t_17, wp_i2l, wc_43, t_43, hg_86_8, ha_89l, ha_89s, wk_109, wz_le_t, wz_le_f, wm_le_1, wm_le_2, wc_44, al_3464, al_3465, nl_i, nl_r, nl_k, nl_j, nl_l, nI_add, pk_mul, pk_sub, tl_s, tl_n, aL_inl, u2_same, u2_ab, u2_aq, nI_l, lN_i, Nat.add_zero, Nat.zero_add, Nat.zero_le, true_and, and_true, b2n_10, b2n_T, b2n_F, b2n_0, Decidable.not_not, not_true_eq_false, not_false_eq_true, Nat.reduceAdd, Nat.reduceMul, Nat.reduceSub]
      exact hx
    · intro hno
      have := hM.2.1 i (by omega)
      unfold acA at this
      rw [hno] at this
      cases this
theorem ad_11 {M : Nat → Nat → Nat} {v b q : Nat} (h : ¬ (b = 86 ∧ q = 11)) : adN M b q = adN (u2 M 86 11 v) b q := by
  unfold adN
  rw [u2_aq (by decide), u2_nb (show (99 : Nat) ≠ 86 by decide)]
  split
  · rw [u2_rd, u2_rd]
    split
    · rfl
    · rw [u2_rd, if_neg h]
  · rw [u2_rd, u2_rd]
    split
    · rfl
    · by_cases z : b = 99
      · subst z
        rw [setRow_s, setRow_s]
      · rw [setRow_n z, setRow_n z, u2_rd, if_neg h]
theorem r_54 {N1 N' : Nat → Nat → Nat} {I1 I' : Nat → Nat → Int32} {J1 : Nat → Nat → Int64} {K m : Nat} (h : invB D N I J t) (ht : t + 300 < 1000000000) (hn : N 86 11 ≤ 60) (hg : gdA (N 91) (N 86 11) K) (hK : psA (N 91) K = N 86 11) (hM : yrM D N K m) (h86 : ∀ b q, 86 ≤ b → N1 b q = N b q) (hF : rdT N' N1) (h32 : N' 86 32 = K) (hI : ∀ b q, ¬ (100 ≤ b ∧ b ≤ 103) → I' b q = I1 b q) (hac : ∀ i, i < K → acR (N 91) (psA (N 91) i) i I')
    (hQ1 : 0 < m → ∀ (N2 N2r : Nat → Nat → Nat) (I2 : Nat → Nat → Int32) (J2 : Nat → Nat → Int64), actR N1 I1 J1 (yrS D N m) N2r I2 J2 → (∀ b q, ¬ (b = 86 ∧ q = 11) → N2 b q = N2r b q) → N2 86 11 = 0 → tdR N2 J2 2 (fun i => if i = 0 then lN (b2n (m < K)) else lN (yrS D N m 109)) → Q (some (.int (nI m))) (hp D N2 I2 J2 x))
    (hQ0 : m = 0 → ∀ (N2 : Nat → Nat → Nat) (I2 : Nat → Nat → Int32) (J2 : Nat → Nat → Int64), N2 86 11 = 0 → (∀ b q, kpN b q = true → b ≠ 99 → ¬ (b = 86 ∧ q = 11) → N2 b q = N1 b q) → N2 99 = puT (N1 89) (N1 99) (N1 86 26) 111 → sI I2 I1 → (∀ b q, b < 86 → N2 b q = N1 b q ∧ J2 b q = J1 b q) → tdR N2 J2 2 (fun i => if i = 0 then lN (b2n (m < K)) else lN (yrS D N m 109)) → Q (some (.int (nI m))) (hp D N2 I2 J2 x)) : aWp ko d 54 (aP.1 (Int.toNat 3459)) [.ref 86, .int (nI (N 86 11)), .int (nI 1), .int (nI 0), .float 0] [] (hp D N' I' J1 x) (aL Q) := by
  obtain ⟨k1, _⟩ := gd_ps K hg
  have hmK := hM.1
  have hu := h.2.2.2.2.2.1
  have h89 := h.2.2.2.2.1
  have hG := yr_G h hg hM ht (by omega) m (Nat.le_refl _)
  have h109 : yrS D N m 109 < 2147483648 := by have := hG.2.2.1; omega
  have hb1 := b2n_le (m < K)
  have e26 : N' 86 26 = N1 86 26 := hF.2 86 26 (by decide) (by omega)
  have hu1 : N1 86 26 ≤ 15 := by rw [h86 86 26 (by decide)]; exact hu.2.1
  have e89 : N' 89 = N1 89 := by funext q; exact hF.2 89 q (by decide) (by omega)
  have e99 : N' 99 = N1 99 := by funext q; exact hF.2 99 q (by decide) (by omega)
  have e189 : N1 89 = N 89 := by funext q; exact h86 89 q (by decide)
  have hz1 : ∀ q, 111 ≤ q → N1 89 q = 0 := fun q hq => by rw [e189]; exact h89.1.2.2.2.2 q hq
  have t39 := fun Q => @t_39 ko d D N' I' J1 x Q (by rw [e26]; exact hu1)
  rw [e26, e89, e99] at t39
  generalize hMM : setRow N' 99 (puT (N1 89) (N1 99) (N1 86 26) 111) = M at t39
  have m99 : M 99 = puT (N1 89) (N1 99) (N1 86 26) 111 := by rw [← hMM, setRow_s]
  have mo : ∀ b q, b ≠ 99 → M b q = N' b q := fun b q z => by rw [← hMM, setRow_n z]
  have mk : ∀ b q, b ≠ 99 → b ≠ 92 → ¬ (b = 86 ∧ (q = 0 ∨ q = 11 ∨ q = 12 ∨ q = 13 ∨ q = 14 ∨ q = 32)) → M b q = N1 b q := fun b q z1 z2 z3 => (mo b q z1).trans (hF.2 b q z2 z3)
  have hsm : smR M N := ⟨by funext q; rw [mk 93 q (by decide) (by decide) (by omega), h86 93 q (by decide)], by funext q; rw [mk 88 q (by decide) (by decide) (by omega), h86 88 q (by decide)], by rw [mk 86 18 (by decide) (by decide) (by omega), h86 86 18 (by decide)], by rw [mk 86 6 (by decide) (by decide) (by omega), h86 86 6 (by decide)]⟩
  have hR0 : yrR M M I' I' (yrS D N 0) := ⟨by
      funext q
      rw [mk 89 q (by decide) (by decide) (by omega), h86 89 q (by decide)]
      rfl, fun _ _ _ _ => rfl, fun _ _ _ _ => rfl⟩
  rw [al_3459]
  simp (disch := (first | omega | exact aCat_8 (by with_unfolding_all rfl) | exact rk_lt (by with_unfolding_all rfl) | exact aCat_16 (by with_unfolding_all rfl) | exact rk_eq (by with_unfolding_all rfl) | assumption | exact b2n_lt _ | exact id_b (by with_unfolding_all rfl) | (simp (disch := omega) only [u2_same, u2_ab, u2_aq]; done) | (simp (disch := omega) only [u2_same, u2_ab, u2_aq]; omega) | fail)) only [al_3456, wp_aloadr_0, wp_aloadk_0, wk_0, hp_86_0, wk_60, wc_6, wp_istore_1, hp_86_32, wk_1, wp_istore_2, wp_jsr, wp_iload_2, wz_eq_t, wz_eq_f, wb_eq_t, wb_eq_f, wm_eq_1, wm_eq_2, hg_86_12, hg_86_13, wn_ge_t, wn_ge_f, wc_55, wp_goto, al_3458, wp_iload_1, wc_20, wp_istore_3, wp_iload_3, wz_ge_t, wz_ge_f, wm_ge_1, wm_ge_2, wp_ireturn, al_3459, wc_39, wp_istore_4, wp_iload_4, hg_86_32, wc_56, wp_iinc_4_1, al_3461, hp_86_1, al_3462, al_3463, wc_17, t_17, wp_i2l, wc_43, t_43, hg_86_8, ha_89l, ha_89s, wk_109, wz_le_t, wz_le_f, wm_le_1, wm_le_2, wc_44, al_3464, al_3465, nl_i, nl_r, nl_k, nl_j, nl_l, nI_add, pk_mul, pk_sub, tl_s, tl_n, aL_inl, u2_same, u2_ab, u2_aq, nI_l, lN_i, Nat.add_zero, Nat.zero_add, Nat.zero_le, true_and, and_true, b2n_10, b2n_T, b2n_F, b2n_0, Decidable.not_not, not_true_eq_false, not_false_eq_true, Nat.reduceAdd, Nat.reduceMul, Nat.reduceSub, t39]
  refine l_54b (n := N 86 11) (e := N 86 11) h hn hsm (by rw [mo 86 32 (by decide)]; exact h32) hg hK hM ht hac ?_ m 0 _ _ (by omega) hR0
  intro N3 I3 hD
  have e32 : N3 86 32 = K := ((hD.2.1 86 32 (by decide) rfl).trans (mo 86 32 (by decide))).trans h32
  have e109 : N3 89 109 = yrS D N m 109 := by rw [hD.1]
  have e11 : N3 86 11 = 0 := ((hD.2.1 86 11 (by decide) rfl).trans (mo 86 11 (by decide))).trans hF.1
  have e326 : N3 86 26 = N1 86 26 := (hD.2.1 86 26 (by decide) rfl).trans (mk 86 26 (by decide) (by decide) (by omega))
  have hsI : sI I3 I1 := fun b q z => by
    rw [hD.2.2 b q (by rintro rfl; cases z) (by rintro rfl; cases z)]
    refine hI b q ?_
    intro y
    unfold kpI at z
    simp at z
    omega
  have hlow : ∀ b q, b < 86 → N3 b q = N1 b q := fun b q hb => by
    rw [hD.2.1 b q (by omega) ?_, mk b q (by omega) (by omega) (by omega)]
    unfold frC
    have w1 : b ≠ 97 := by omega
    have w2 : b ≠ 98 := by omega
    have w3 : b ≠ 86 := by omega
    simp [w1, w2, w3]
  have hkp : ∀ b q, kpN b q = true → b ≠ 99 → b ≠ 89 → ¬ (b = 86 ∧ q = 11) → N3 b q = N1 b q := by
    intro b q z y1 y2 y3
    rw [hD.2.1 b q y2 ?_, mk b q y1 (by rintro rfl; cases z) ?_]
    · rintro ⟨rfl, rfl | rfl | rfl | rfl | rfl | rfl⟩
      · cases z
      · exact y3 ⟨rfl, rfl⟩
      · cases z
      · cases z
      · cases z
      · cases z
    · unfold frC
      have w1 : b ≠ 97 := by rintro rfl; cases z
      have w2 : b ≠ 98 := by rintro rfl; cases z
      by_cases w3 : b = 86
      · subst w3
        have w4 : q ≠ 24 := by rintro rfl; cases z
        have w5 : q ≠ 25 := by rintro rfl; cases z
        simp [w4, w5]
      · simp [w1, w2, w3]
  have h399 : N3 99 = puT (N1 89) (N1 99) (N1 86 26) 111 := by
    rw [← m99]
    funext q
    exact hD.2.1 99 q (by decide) rfl
  generalize hT : u2 (u2 (u2 N3 86 1 0) 86 1 1) 86 1 2 = M4
  have m4 : ∀ b q, ¬ (b = 86 ∧ q = 1) → M4 b q = N3 b q := fun b q z => by rw [← hT, u2_rd, if_neg z, u2_rd, if_neg z, u2_rd, if_neg z]
  have m41 : M4 86 1 = 2 := by rw [← hT, u2_same]
  have hgo : ∀ (v w : Int64), v = lN (b2n (m < K)) → w = lN (yrS D N m 109) → (0 < m → Q (some (.int (nI m))) (hp D (adN M4) I3 (u2 (u2 J1 87 0 v) 87 1 w) x)) ∧ (m = 0 → Q (some (.int (nI 0))) (hp D M4 I3 (u2 (u2 J1 87 0 v) 87 1 w) x)) := by
    rintro v w rfl rfl
    have htd : ∀ i, i < 2 → u2 (u2 J1 87 0 (lN (b2n (m < K)))) 87 1 (lN (yrS D N m 109)) 87 i = (if i = 0 then lN (b2n (m < K)) else lN (yrS D N m 109)) := (td2R (N := N3)).2
    refine ⟨fun hm => ?_, fun hm => ?_⟩
    · have hq := hQ1 hm (adN M4) (adN (u2 M4 86 11 (N1 86 11))) I3 (u2 (u2 J1 87 0 (lN (b2n (m < K)))) 87 1 (lN (yrS D N m 109))) (ad_R hu1 hz1 ?_ ?_ ?_ ?_ hsI ?_ ?_) (fun b q z => ad_11 z) ?_ ⟨by rw [ad_1, m41], htd⟩
      · exact hq
      · rw [u2_nb (by decide), ← h399]
        funext q
        exact m4 99 q (by omega)
      · rw [u2_aq (by decide), m4 86 26 (by omega), e326]
      · intro b q z y
        rw [u2_rd]
        split
        · rename_i w
          rw [w.1, w.2]
        · rename_i w
          rw [m4 b q (by rintro ⟨rfl, rfl⟩; cases z), hkp b q z (by rintro rfl; cases y) (by rintro rfl; cases y) w]
      · intro b q hb
        rw [u2_ab (by omega), m4 b q (by omega), hlow b q hb]
      · intro b q hb
        rw [u2_ab (by omega), u2_ab (by omega)]
      · rw [u2_nb (by decide), ← hD.1]
        funext q
        exact m4 89 q (by omega)
      · unfold adN
        split
        · rw [u2_aq (by decide), m4 86 11 (by omega), e11]
        · rw [u2_aq (by decide), setRow_n (by decide), m4 86 11 (by omega), e11]
    · have hq := hQ0 hm M4 I3 (u2 (u2 J1 87 0 (lN (b2n (m < K)))) 87 1 (lN (yrS D N m 109))) (by rw [m4 86 11 (by omega), e11]) ?_ (by rw [← h399]; funext q; exact m4 99 q (by omega)) hsI (fun b q hb => ⟨by rw [m4 b q (by omega), hlow b q hb], by rw [u2_ab (by omega), u2_ab (by omega)]⟩) ⟨m41, htd⟩
      · rw [hm] at hq ⊢
        exact hq
      · intro b q z y1 y2
        rw [m4 b q (by rintro ⟨rfl, rfl⟩; cases z)]
        by_cases y3 : b = 89
        · subst y3
          rw [hD.1, hm, e189]
          rfl
        · exact hkp b q z y1 y3 y2
  have hu2 : M4 86 26 ≤ 15 := by rw [m4 86 26 (by omega), e326]; exact hu1
  rw [← hT] at hu2 hgo
  rw [al_3461]
  by_cases z : m < K
  · rw [b2n_t z] at hgo
    have e17 : b2n (¬ (1 : Nat) = 0) = 1 := b2n_t (by decide)
    have hq := hgo (lN 1) (lN (yrS D N m 109)) rfl rfl
    by_cases m0 : m = 0
    · have hq0 := hq.2 m0
      subst m0
      simp (disch := (first | omega | exact aCat_8 (by with_unfolding_all rfl) | exact rk_lt (by with_unfolding_all rfl) | exact aCat_16 (by with_unfolding_all rfl) | exact rk_eq (by with_unfolding_all rfl) | assumption | exact b2n_lt _ | exact id_b (by with_unfolding_all rfl) | (simp (disch := omega) only [u2_same, u2_ab, u2_aq]; done) | (simp (disch := omega) only [u2_same, u2_ab, u2_aq]; omega) | fail)) only [al_3456, wp_aloadr_0, wp_aloadk_0, wk_0, hp_86_0, wk_60, wc_6, wp_istore_1, hp_86_32, wk_1, wp_istore_2, wp_jsr, wp_iload_2, wz_eq_t, wz_eq_f, wb_eq_t, wb_eq_f, wm_eq_1, wm_eq_2, hg_86_12, hg_86_13, wn_ge_t, wn_ge_f, wc_55, wp_goto, al_3458, wp_iload_1, wc_20, wp_istore_3, wp_iload_3, wz_ge_t, wz_ge_f, wm_ge_1, wm_ge_2, wp_ireturn, al_3459, wc_39, wp_istore_4, wp_iload_4, hg_86_32, wc_56, wp_iinc_4_1, al_3461, hp_86_1, al_3462, al_3463, wc_17, t_17, wp_i2l, wc_43, t_43, hg_86_8, ha_89l, ha_89s, wk_109, wz_le_t, wz_le_f, wm_le_1, wm_le_2, wc_44, al_3464, al_3465, nl_i, nl_r, nl_k, nl_j, nl_l, nI_add, pk_mul, pk_sub, tl_s, tl_n, aL_inl, u2_same, u2_ab, u2_aq, nI_l, lN_i, Nat.add_zero, Nat.zero_add, Nat.zero_le, true_and, and_true, b2n_10, b2n_T, b2n_F, b2n_0, Decidable.not_not, not_true_eq_false, not_false_eq_true, Nat.reduceAdd, Nat.reduceMul, Nat.reduceSub, e32, e109, e17]
      exact hq0
    · have hq1 := hq.1 (by omega)
      simp (disch := (first | omega | exact aCat_8 (by with_unfolding_all rfl) | exact rk_lt (by with_unfolding_all rfl) | exact aCat_16 (by with_unfolding_all rfl) | exact rk_eq (by with_unfolding_all rfl) | assumption | exact b2n_lt _ | exact id_b (by with_unfolding_all rfl) | (simp (disch := omega) only [u2_same, u2_ab, u2_aq]; done) | (simp (disch := omega) only [u2_same, u2_ab, u2_aq]; omega) | fail)) only [al_3456, wp_aloadr_0, wp_aloadk_0, wk_0, hp_86_0, wk_60, wc_6, wp_istore_1, hp_86_32, wk_1, wp_istore_2, wp_jsr, wp_iload_2, wz_eq_t, wz_eq_f, wb_eq_t, wb_eq_f, wm_eq_1, wm_eq_2, hg_86_12, hg_86_13, wn_ge_t, wn_ge_f, wc_55, wp_goto, al_3458, wp_iload_1, wc_20, wp_istore_3, wp_iload_3, wz_ge_t, wz_ge_f, wm_ge_1, wm_ge_2, wp_ireturn, al_3459, wc_39, wp_istore_4, wp_iload_4, hg_86_32, wc_56, wp_iinc_4_1, al_3461, hp_86_1, al_3462, al_3463, wc_17, t_17, wp_i2l, wc_43, t_43, hg_86_8, ha_89l, ha_89s, wk_109, wz_le_t, wz_le_f, wm_le_1, wm_le_2, wc_44, al_3464, al_3465, nl_i, nl_r, nl_k, nl_j, nl_l, nI_add, pk_mul, pk_sub, tl_s, tl_n, aL_inl, u2_same, u2_ab, u2_aq, nI_l, lN_i, Nat.add_zero, Nat.zero_add, Nat.zero_le, true_and, and_true, b2n_10, b2n_T, b2n_F, b2n_0, Decidable.not_not, not_true_eq_false, not_false_eq_true, Nat.reduceAdd, Nat.reduceMul, Nat.reduceSub, e32, e109, e17, t_44 hu2]
      exact hq1
  · rw [b2n_f z] at hgo
    have e17 : b2n (¬ (0 : Nat) = 0) = 0 := b2n_f (by decide)
    have hq := hgo (lN 0) (lN (yrS D N m 109)) rfl rfl
    by_cases m0 : m = 0
    · have hq0 := hq.2 m0
      subst m0
      simp (disch := (first | omega | exact aCat_8 (by with_unfolding_all rfl) | exact rk_lt (by with_unfolding_all rfl) | exact aCat_16 (by with_unfolding_all rfl) | exact rk_eq (by with_unfolding_all rfl) | assumption | exact b2n_lt _ | exact id_b (by with_unfolding_all rfl) | (simp (disch := omega) only [u2_same, u2_ab, u2_aq]; done) | (simp (disch := omega) only [u2_same, u2_ab, u2_aq]; omega) | fail)) only [al_3456, wp_aloadr_0, wp_aloadk_0, wk_0, hp_86_0, wk_60, wc_6, wp_istore_1, hp_86_32, wk_1, wp_istore_2, wp_jsr, wp_iload_2, wz_eq_t, wz_eq_f, wb_eq_t, wb_eq_f, wm_eq_1, wm_eq_2, hg_86_12, hg_86_13, wn_ge_t, wn_ge_f, wc_55, wp_goto, al_3458, wp_iload_1, wc_20, wp_istore_3, wp_iload_3, wz_ge_t, wz_ge_f, wm_ge_1, wm_ge_2, wp_ireturn, al_3459, wc_39, wp_istore_4, wp_iload_4, hg_86_32, wc_56, wp_iinc_4_1, al_3461, hp_86_1, al_3462, al_3463, wc_17, t_17, wp_i2l, wc_43, t_43, hg_86_8, ha_89l, ha_89s, wk_109, wz_le_t, wz_le_f, wm_le_1, wm_le_2, wc_44, al_3464, al_3465, nl_i, nl_r, nl_k, nl_j, nl_l, nI_add, pk_mul, pk_sub, tl_s, tl_n, aL_inl, u2_same, u2_ab, u2_aq, nI_l, lN_i, Nat.add_zero, Nat.zero_add, Nat.zero_le, true_and, and_true, b2n_10, b2n_T, b2n_F, b2n_0, Decidable.not_not, not_true_eq_false, not_false_eq_true, Nat.reduceAdd, Nat.reduceMul, Nat.reduceSub, e32, e109, e17]
      exact hq0
    · have hq1 := hq.1 (by omega)
      simp (disch := (first | omega | exact aCat_8 (by with_unfolding_all rfl) | exact rk_lt (by with_unfolding_all rfl) | exact aCat_16 (by with_unfolding_all rfl) | exact rk_eq (by with_unfolding_all rfl) | assumption | exact b2n_lt _ | exact id_b (by with_unfolding_all rfl) | (simp (disch := omega) only [u2_same, u2_ab, u2_aq]; done) | (simp (disch := omega) only [u2_same, u2_ab, u2_aq]; omega) | fail)) only [al_3456, wp_aloadr_0, wp_aloadk_0, wk_0, hp_86_0, wk_60, wc_6, wp_istore_1, hp_86_32, wk_1, wp_istore_2, wp_jsr, wp_iload_2, wz_eq_t, wz_eq_f, wb_eq_t, wb_eq_f, wm_eq_1, wm_eq_2, hg_86_12, hg_86_13, wn_ge_t, wn_ge_f, wc_55, wp_goto, al_3458, wp_iload_1, wc_20, wp_istore_3, wp_iload_3, wz_ge_t, wz_ge_f, wm_ge_1, wm_ge_2, wp_ireturn, al_3459, wc_39, wp_istore_4, wp_iload_4, hg_86_32, wc_56, wp_iinc_4_1, al_3461, hp_86_1, al_3462, al_3463, wc_17, t_17, wp_i2l, wc_43, t_43, hg_86_8, ha_89l, ha_89s, wk_109, wz_le_t, wz_le_f, wm_le_1, wm_le_2, wc_44, al_3464, al_3465, nl_i, nl_r, nl_k, nl_j, nl_l, nI_add, pk_mul, pk_sub, tl_s, tl_n, aL_inl, u2_same, u2_ab, u2_aq, nI_l, lN_i, Nat.add_zero, Nat.zero_add, Nat.zero_le, true_and, and_true, b2n_10, b2n_T, b2n_F, b2n_0, Decidable.not_not, not_true_eq_false, not_false_eq_true, Nat.reduceAdd, Nat.reduceMul, Nat.reduceSub, e32, e109, e17, t_44 hu2]
      exact hq1
end ZB
