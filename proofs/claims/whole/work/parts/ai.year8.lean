/-! year: the acts one after another, by the class. From wip/whole/src. -/
def acA (D : Nat → Nat) (N : Nat → Nat → Nat) (i : Nat) (S : Nat → Nat) : Option (Nat → Nat) := acS D N (kdA (N 91 (psA (N 91) i))) (N 91 (psA (N 91) i + 1) - 48) (N 91 (psA (N 91) i + 2) - 48) (N 91 (psA (N 91) i + 3) - 48) S
/-- the rows of a year -/
def yrS (D : Nat → Nat) (N : Nat → Nat → Nat) : Nat → Nat → Nat
  | 0 => N 89
  | i + 1 => (acA D N i (yrS D N i)).getD (yrS D N i)
/-- m acts of K are done, then it is stuck -/
def yrM (D : Nat → Nat) (N : Nat → Nat → Nat) (K m : Nat) : Prop := m ≤ K ∧ (∀ i, i < m → acA D N i (yrS D N i) = some (yrS D N (i + 1))) ∧ (m < K → acA D N m (yrS D N m) = none)
theorem yrM_ex (D : Nat → Nat) (N : Nat → Nat → Nat) : ∀ K, ∃ m, yrM D N K m
  | 0 => ⟨0, Nat.le_refl _, fun i hi => absurd hi (Nat.not_lt_zero i), fun hi => absurd hi (Nat.lt_irrefl 0)⟩
  | K + 1 => by
    obtain ⟨m, h1, h2, h3⟩ := yrM_ex D N K
    by_cases z : m < K
    · exact ⟨m, by omega, h2, fun _ => h3 z⟩
    · have e : m = K := by omega
      subst e
      cases hq : acA D N m (yrS D N m) with
      | none => exact ⟨m, by omega, h2, fun _ => hq⟩
      | some S' =>
        refine ⟨m + 1, Nat.le_refl _, fun i hi => ?_, fun y => absurd y (by omega)⟩
        by_cases y : i = m
        · subst y
          rw [yrS, hq]
          rfl
        · exact h2 i (by omega)
section YY
variable {ko : aKo} {d k : Nat} {is : List Instr} {ls st : List Value} {σ : aH} {D : Nat → Nat} {N : Nat → Nat → Nat} {I : Nat → Nat → Int32} {J : Nat → Nat → Int64} {x t : Nat} {Q : Option Value → aH → Prop} {P : (Option Value ⊕ Unit) → aH → Prop}
theorem yr_G {e K m : Nat} (h : invB D N I J t) (hg : gdA (N 91) e K) (hM : yrM D N K m) (ht : t + 300 < 1000000000) (hK : K ≤ 30) : ∀ i, i ≤ m → rwG D (t + 9 * i) (yrS D N i) := by
  intro i
  induction i with
  | zero =>
    intro _
    obtain ⟨a1, a2, a3, _⟩ := h.2.2.2.2.1
    exact ⟨a1, a2, a3⟩
  | succ i ih =>
    intro hi
    have h1 := hM.1
    obtain ⟨g1, g2⟩ := hg i (by omega)
    have D1 := dg_j g2 (Nat.le_refl 1) (gd_len g2).1
    have i1 := isD_iff.mp D1.2
    have := acS_G h (ih (by omega)) (by omega) (by omega) (hM.2.1 i (by omega))
    rw [show t + 9 * (i + 1) = t + 9 * i + 9 by omega]
    exact this
theorem l_171 {N0 Ns : Nat → Nat → Nat} {I0 Is : Nat → Nat → Int32} {J0 Js : Nat → Nat → Int64} {e K m : Nat} (h : invB D N0 I0 J0 t) (he : N0 86 11 = e) (he60 : e ≤ 60) (hg : gdA (N0 91) e K) (hK : psA (N0 91) K = e) (hM : yrM D N0 K m) (ht : t + 300 < 1000000000)
    (hQ : ∀ (p j : Nat) (N : Nat → Nat → Nat) (I : Nat → Nat → Int32) (J : Nat → Nat → Int64), yrC D N0 N I0 I J0 J (yrS D N0 m) → (m = 0 → N = Ns ∧ I = Is ∧ J = Js) → aWp ko d 171 (aP.1 (Int.toNat 10949)) [.ref 0, .int (-1), .int (nI m), .int (nI (b2n (m < K))), .int (nI p), .int (nI j)] [] (hp D N I J x) (aL Q)) :
    ∀ (j i : Nat) (N : Nat → Nat → Nat) (I : Nat → Nat → Int32) (J : Nat → Nat → Int64), i + j = m → yrC D N0 N I0 I J0 J (yrS D N0 i) → (i = 0 → N = Ns ∧ I = Is ∧ J = Js) → aWp ko d 171 (aP.1 (Int.toNat 10946)) [.ref 0, .int (-1), .int (nI i), .int (nI 0), .int (nI (psA (N0 91) i)), .int (nI i)] [] (hp D N I J x) (aL Q) := by
  obtain ⟨t1, t2, t3⟩ := h.2.1
  obtain ⟨b1, b2⟩ := tx_N h
  obtain ⟨k1, _⟩ := gd_ps K hg
  have hmK := hM.1
  have hG := yr_G h hg hM ht (by omega)
  have hn11 : ∀ {N : Nat → Nat → Nat} {I : Nat → Nat → Int32} {J : Nat → Nat → Int64} {S : Nat → Nat}, yrC D N0 N I0 I J0 J S → N 1 1 = e := fun hD => (hD.2.2.2.1 1 1 rfl rfl).trans (t1.trans he)
  have g0 : ∀ {N : Nat → Nat → Nat} {I : Nat → Nat → Int32} {J : Nat → Nat → Int64} {S : Nat → Nat} {p : Nat}, yrC D N0 N I0 I J0 J S → p < e → ∀ Q, aMm ko d 288 [.ref 1, .int (nI p)] (hp D N I J x) Q = Q (some (.int (nI (N0 91 p)))) (hp D N I J x) := by
    intro N I J S p hD hpe Q
    have e2 : ∀ i, N 2 i = N0 2 i := fun i => hD.2.2.2.1 2 i rfl rfl
    rw [t_288 (by omega) (by rw [hn11 hD]; omega) (fun i hi => by rw [hn11 hD] at hi; rw [e2]; exact b2 i (by omega))]
    have : txC N p = txC N0 p := by unfold txC; rw [hn11 hD, e2, t1, he]
    rw [this, txC_e h (by omega)]
  have lw := @lenA_le
  intro j
  induction j with
  | zero =>
    intro i N I J hi hD h0
    have ei : i = m := by omega
    subst ei
    have e11 := hn11 hD
    rw [al_10946]
    by_cases z : i < K
    · obtain ⟨g1, g2⟩ := hg i z
      have hl := (gd_len g2).2
      have hc := (t3 (psA (N0 91) i) (by omega)).2
      rw [b2n_t z] at hQ
      simp (disch := (first | omega | exact aCat_8 (by with_unfolding_all rfl) | exact rk_lt (by with_unfolding_all rfl) | exact aCat_16 (by with_unfolding_all rfl) | exact rk_eq (by with_unfolding_all rfl) | assumption | exact b2n_lt _ | exact id_b (by with_unfolding_all rfl) | (simp (disch := omega) only [u2_same, u2_ab, u2_aq]; done) | (simp (disch := omega) only [u2_same, u2_ab, u2_aq]; omega) | fail)) only [al_10944, wp_aloadr_0, wp_aloadk_0, wc_172, wp_istore_1, wp_iload_1, wk_m1, wn_eq_t, wn_eq_f, hg_0_0, wc_289, wp_isub, wp_ireturn, al_10945, hg_0_8, hg_0_7, wk_0, wp_istore_2, wp_istore_3, wp_istore_4, wp_istore_5, wp_jsr, wp_iload_5, wk_60, wn_ge_t, wn_ge_f, wp_iload_4, hg_1_1, wp_iload_3, wz_ne_t, wz_ne_f, wb_ne_t, wb_ne_f, wm_ne_1, wm_ne_2, wc_174, wz_ge_t, wz_ge_f, wm_ge_1, wm_ge_2, wk_1, wp_goto, al_10947, wp_iinc_2_1, al_10948, wc_288, wc_173, wp_iadd, wp_iinc_5_1, wp_iload_2, wz_le_t, wz_le_f, wm_le_1, wm_le_2, hg_0_11, wc_251, al_10950, hg_0_1, wc_292, t_292, wp_i2l, wc_293, t_293, hg_20_4, hg_22_4, hg_24_4, nl_i, nl_r, nl_k, nl_j, nl_l, nI_add, pk_mul, pk_sub, tl_s, tl_n, aL_inl, u2_same, u2_ab, u2_aq, nI_l, lN_i, Nat.add_zero, Nat.zero_add, Nat.zero_le, true_and, and_true, b2n_10, b2n_T, b2n_F, b2n_0, Decidable.not_not, not_true_eq_false, not_false_eq_true, Nat.reduceAdd, Nat.reduceMul, Nat.reduceSub, e11]
      refine t_174 h (by omega) g1 g2 (hG i (Nat.le_refl _)) (by omega) hD ?_ ?_
      · intro S' hS'
        have := hM.2.2 z
        unfold acA at this
        rw [hS'] at this
        cases this
      · intro _ v hv
        have hge : ¬ (0 : Int32) ≤ v := fun w => (Int32.not_lt.mpr w) hv
        have hx := hQ (psA (N0 91) i + (1 + lenA (N0 91 (psA (N0 91) i)))) (i + 1) N I J hD h0
        generalize hq : psA (N0 91) i + (1 + lenA (N0 91 (psA (N0 91) i))) = p' at hx
        simp (disch := (first | omega | exact aCat_8 (by with_unfolding_all rfl) | exact rk_lt (by with_unfolding_all rfl) | exact aCat_16 (by with_unfolding_all rfl) | exact rk_eq (by with_unfolding_all rfl) | assumption | exact b2n_lt _ | exact id_b (by with_unfolding_all rfl) | (simp (disch := omega) only [u2_same, u2_ab, u2_aq]; done) | (simp (disch := omega) only [u2_same, u2_ab, u2_aq]; omega) | fail)) only [al_10944, wp_aloadr_0, wp_aloadk_0, wc_172, wp_istore_1, wp_iload_1, wk_m1, wn_eq_t, wn_eq_f, hg_0_0, wc_289, wp_isub, wp_ireturn, al_10945, hg_0_8, hg_0_7, wk_0, wp_istore_2, wp_istore_3, wp_istore_4, wp_istore_5, wp_jsr, wp_iload_5, wk_60, wn_ge_t, wn_ge_f, wp_iload_4, hg_1_1, wp_iload_3, wz_ne_t, wz_ne_f, wb_ne_t, wb_ne_f, wm_ne_1, wm_ne_2, wc_174, wz_ge_t, wz_ge_f, wm_ge_1, wm_ge_2, wk_1, wp_goto, al_10947, wp_iinc_2_1, al_10948, wc_288, wc_173, wp_iadd, wp_iinc_5_1, wp_iload_2, wz_le_t, wz_le_f, wm_le_1, wm_le_2, hg_0_11, wc_251, al_10950, hg_0_1, wc_292, t_292, wp_i2l, wc_293, t_293, hg_20_4, hg_22_4, hg_24_4, nl_i, nl_r, nl_k, nl_j, nl_l, nI_add, pk_mul, pk_sub, tl_s, tl_n, aL_inl, u2_same, u2_ab, u2_aq, nI_l, lN_i, Nat.add_zero, Nat.zero_add, Nat.zero_le, true_and, and_true, b2n_10, b2n_T, b2n_F, b2n_0, Decidable.not_not, not_true_eq_false, not_false_eq_true, Nat.reduceAdd, Nat.reduceMul, Nat.reduceSub, wy_ge_f hge, g0 hD g1, t_173 hc, hq]
        rw [al_10946]
        by_cases y : e ≤ p'
        · simp (disch := (first | omega | exact aCat_8 (by with_unfolding_all rfl) | exact rk_lt (by with_unfolding_all rfl) | exact aCat_16 (by with_unfolding_all rfl) | exact rk_eq (by with_unfolding_all rfl) | assumption | exact b2n_lt _ | exact id_b (by with_unfolding_all rfl) | (simp (disch := omega) only [u2_same, u2_ab, u2_aq]; done) | (simp (disch := omega) only [u2_same, u2_ab, u2_aq]; omega) | fail)) only [al_10944, wp_aloadr_0, wp_aloadk_0, wc_172, wp_istore_1, wp_iload_1, wk_m1, wn_eq_t, wn_eq_f, hg_0_0, wc_289, wp_isub, wp_ireturn, al_10945, hg_0_8, hg_0_7, wk_0, wp_istore_2, wp_istore_3, wp_istore_4, wp_istore_5, wp_jsr, wp_iload_5, wk_60, wn_ge_t, wn_ge_f, wp_iload_4, hg_1_1, wp_iload_3, wz_ne_t, wz_ne_f, wb_ne_t, wb_ne_f, wm_ne_1, wm_ne_2, wc_174, wz_ge_t, wz_ge_f, wm_ge_1, wm_ge_2, wk_1, wp_goto, al_10947, wp_iinc_2_1, al_10948, wc_288, wc_173, wp_iadd, wp_iinc_5_1, wp_iload_2, wz_le_t, wz_le_f, wm_le_1, wm_le_2, hg_0_11, wc_251, al_10950, hg_0_1, wc_292, t_292, wp_i2l, wc_293, t_293, hg_20_4, hg_22_4, hg_24_4, nl_i, nl_r, nl_k, nl_j, nl_l, nI_add, pk_mul, pk_sub, tl_s, tl_n, aL_inl, u2_same, u2_ab, u2_aq, nI_l, lN_i, Nat.add_zero, Nat.zero_add, Nat.zero_le, true_and, and_true, b2n_10, b2n_T, b2n_F, b2n_0, Decidable.not_not, not_true_eq_false, not_false_eq_true, Nat.reduceAdd, Nat.reduceMul, Nat.reduceSub, e11]
          exact hx
        · simp (disch := (first | omega | exact aCat_8 (by with_unfolding_all rfl) | exact rk_lt (by with_unfolding_all rfl) | exact aCat_16 (by with_unfolding_all rfl) | exact rk_eq (by with_unfolding_all rfl) | assumption | exact b2n_lt _ | exact id_b (by with_unfolding_all rfl) | (simp (disch := omega) only [u2_same, u2_ab, u2_aq]; done) | (simp (disch := omega) only [u2_same, u2_ab, u2_aq]; omega) | fail)) only [al_10944, wp_aloadr_0, wp_aloadk_0, wc_172, wp_istore_1, wp_iload_1, wk_m1, wn_eq_t, wn_eq_f, hg_0_0, wc_289, wp_isub, wp_ireturn, al_10945, hg_0_8, hg_0_7, wk_0, wp_istore_2, wp_istore_3, wp_istore_4, wp_istore_5, wp_jsr, wp_iload_5, wk_60, wn_ge_t, wn_ge_f, wp_iload_4, hg_1_1, wp_iload_3, wz_ne_t, wz_ne_f, wb_ne_t, wb_ne_f, wm_ne_1, wm_ne_2, wc_174, wz_ge_t, wz_ge_f, wm_ge_1, wm_ge_2, wk_1, wp_goto, al_10947, wp_iinc_2_1, al_10948, wc_288, wc_173, wp_iadd, wp_iinc_5_1, wp_iload_2, wz_le_t, wz_le_f, wm_le_1, wm_le_2, hg_0_11, wc_251, al_10950, hg_0_1, wc_292, t_292, wp_i2l, wc_293, t_293, hg_20_4, hg_22_4, hg_24_4, nl_i, nl_r, nl_k, nl_j, nl_l, nI_add, pk_mul, pk_sub, tl_s, tl_n, aL_inl, u2_same, u2_ab, u2_aq, nI_l, lN_i, Nat.add_zero, Nat.zero_add, Nat.zero_le, true_and, and_true, b2n_10, b2n_T, b2n_F, b2n_0, Decidable.not_not, not_true_eq_false, not_false_eq_true, Nat.reduceAdd, Nat.reduceMul, Nat.reduceSub, e11]
          exact hx
    · have ek : i = K := by omega
      rw [b2n_f z] at hQ
      have hx := hQ (psA (N0 91) i) i N I J hD h0
      rw [ek, hK] at hx
      rw [ek, hK]
      simp (disch := (first | omega | exact aCat_8 (by with_unfolding_all rfl) | exact rk_lt (by with_unfolding_all rfl) | exact aCat_16 (by with_unfolding_all rfl) | exact rk_eq (by with_unfolding_all rfl) | assumption | exact b2n_lt _ | exact id_b (by with_unfolding_all rfl) | (simp (disch := omega) only [u2_same, u2_ab, u2_aq]; done) | (simp (disch := omega) only [u2_same, u2_ab, u2_aq]; omega) | fail)) only [al_10944, wp_aloadr_0, wp_aloadk_0, wc_172, wp_istore_1, wp_iload_1, wk_m1, wn_eq_t, wn_eq_f, hg_0_0, wc_289, wp_isub, wp_ireturn, al_10945, hg_0_8, hg_0_7, wk_0, wp_istore_2, wp_istore_3, wp_istore_4, wp_istore_5, wp_jsr, wp_iload_5, wk_60, wn_ge_t, wn_ge_f, wp_iload_4, hg_1_1, wp_iload_3, wz_ne_t, wz_ne_f, wb_ne_t, wb_ne_f, wm_ne_1, wm_ne_2, wc_174, wz_ge_t, wz_ge_f, wm_ge_1, wm_ge_2, wk_1, wp_goto, al_10947, wp_iinc_2_1, al_10948, wc_288, wc_173, wp_iadd, wp_iinc_5_1, wp_iload_2, wz_le_t, wz_le_f, wm_le_1, wm_le_2, hg_0_11, wc_251, al_10950, hg_0_1, wc_292, t_292, wp_i2l, wc_293, t_293, hg_20_4, hg_22_4, hg_24_4, nl_i, nl_r, nl_k, nl_j, nl_l, nI_add, pk_mul, pk_sub, tl_s, tl_n, aL_inl, u2_same, u2_ab, u2_aq, nI_l, lN_i, Nat.add_zero, Nat.zero_add, Nat.zero_le, true_and, and_true, b2n_10, b2n_T, b2n_F, b2n_0, Decidable.not_not, not_true_eq_false, not_false_eq_true, Nat.reduceAdd, Nat.reduceMul, Nat.reduceSub, e11]
      exact hx
  | succ j ih =>
    intro i N I J hi hD h0
    have e11 := hn11 hD
    obtain ⟨g1, g2⟩ := hg i (by omega)
    have hl := (gd_len g2).2
    have hc := (t3 (psA (N0 91) i) (by omega)).2
    rw [al_10946]
    simp (disch := (first | omega | exact aCat_8 (by with_unfolding_all rfl) | exact rk_lt (by with_unfolding_all rfl) | exact aCat_16 (by with_unfolding_all rfl) | exact rk_eq (by with_unfolding_all rfl) | assumption | exact b2n_lt _ | exact id_b (by with_unfolding_all rfl) | (simp (disch := omega) only [u2_same, u2_ab, u2_aq]; done) | (simp (disch := omega) only [u2_same, u2_ab, u2_aq]; omega) | fail)) only [al_10944, wp_aloadr_0, wp_aloadk_0, wc_172, wp_istore_1, wp_iload_1, wk_m1, wn_eq_t, wn_eq_f, hg_0_0, wc_289, wp_isub, wp_ireturn, al_10945, hg_0_8, hg_0_7, wk_0, wp_istore_2, wp_istore_3, wp_istore_4, wp_istore_5, wp_jsr, wp_iload_5, wk_60, wn_ge_t, wn_ge_f, wp_iload_4, hg_1_1, wp_iload_3, wz_ne_t, wz_ne_f, wb_ne_t, wb_ne_f, wm_ne_1, wm_ne_2, wc_174, wz_ge_t, wz_ge_f, wm_ge_1, wm_ge_2, wk_1, wp_goto, al_10947, wp_iinc_2_1, al_10948, wc_288, wc_173, wp_iadd, wp_iinc_5_1, wp_iload_2, wz_le_t, wz_le_f, wm_le_1, wm_le_2, hg_0_11, wc_251, al_10950, hg_0_1, wc_292, t_292, wp_i2l, wc_293, t_293, hg_20_4, hg_22_4, hg_24_4, nl_i, nl_r, nl_k, nl_j, nl_l, nI_add, pk_mul, pk_sub, tl_s, tl_n, aL_inl, u2_same, u2_ab, u2_aq, nI_l, lN_i, Nat.add_zero, Nat.zero_add, Nat.zero_le, true_and, and_true, b2n_10, b2n_T, b2n_F, b2n_0, Decidable.not_not, not_true_eq_false, not_false_eq_true, Nat.reduceAdd, Nat.reduceMul, Nat.reduceSub, e11]
    refine t_174 h (by omega) g1 g2 (hG i (by omega)) (by have := hG i (by omega); omega) hD ?_ ?_
    · intro S' hS' v N1 I1 J1 hv hD1
      have := hM.2.1 i (by omega)
      unfold acA at this
      rw [hS'] at this
      have es : S' = yrS D N0 (i + 1) := Option.some.inj this
      subst es
      have hx := ih (i + 1) N1 I1 J1 (by omega) hD1 (fun y => absurd y (by omega))
      rw [psA, Nat.add_assoc] at hx
      simp (disch := (first | omega | exact aCat_8 (by with_unfolding_all rfl) | exact rk_lt (by with_unfolding_all rfl) | exact aCat_16 (by with_unfolding_all rfl) | exact rk_eq (by with_unfolding_all rfl) | assumption | exact b2n_lt _ | exact id_b (by with_unfolding_all rfl) | (simp (disch := omega) only [u2_same, u2_ab, u2_aq]; done) | (simp (disch := omega) only [u2_same, u2_ab, u2_aq]; omega) | fail)) only [al_10944, wp_aloadr_0, wp_aloadk_0, wc_172, wp_istore_1, wp_iload_1, wk_m1, wn_eq_t, wn_eq_f, hg_0_0, wc_289, wp_isub, wp_ireturn, al_10945, hg_0_8, hg_0_7, wk_0, wp_istore_2, wp_istore_3, wp_istore_4, wp_istore_5, wp_jsr, wp_iload_5, wk_60, wn_ge_t, wn_ge_f, wp_iload_4, hg_1_1, wp_iload_3, wz_ne_t, wz_ne_f, wb_ne_t, wb_ne_f, wm_ne_1, wm_ne_2, wc_174, wz_ge_t, wz_ge_f, wm_ge_1, wm_ge_2, wk_1, wp_goto, al_10947, wp_iinc_2_1, al_10948, wc_288, wc_173, wp_iadd, wp_iinc_5_1, wp_iload_2, wz_le_t, wz_le_f, wm_le_1, wm_le_2, hg_0_11, wc_251, al_10950, hg_0_1, wc_292, t_292, wp_i2l, wc_293, t_293, hg_20_4, hg_22_4, hg_24_4, nl_i, nl_r, nl_k, nl_j, nl_l, nI_add, pk_mul, pk_sub, tl_s, tl_n, aL_inl, u2_same, u2_ab, u2_aq, nI_l, lN_i, Nat.add_zero, Nat.zero_add, Nat.zero_le, true_and, and_true, b2n_10, b2n_T, b2n_F, b2n_0, Decidable.not_not, not_true_eq_false, not_false_eq_true, Nat.reduceAdd, Nat.reduceMul, Nat.reduceSub, g0 hD1 g1, t_173 hc]
      exact hx
    · intro hno
      have := hM.2.1 i (by omega)
      unfold acA at this
      rw [hno] at this
      cases this
end YY
