/-! timetable: the reference counts the most ships. From wip/whole/src. -/
theorem cnO_0 {n : Nat} : cnO n (fun _ => none) = 0 := by
  unfold cnO mR
  induction n with
  | zero => rfl
  | succ n ih =>
    rw [sumR, ih]
    rfl
theorem gM_0 {dep dr : Nat → Nat} {n a : Nat} {U : Nat → Bool} (h : ∀ q, q < n → dep q ≤ 9) : gM dep dr n a a U = 0 := by
  refine mnR_eq (v := 10) (fun v _ => Nat.zero_le _) (Nat.le_refl _) ?_
  show avS dep n U 10 + bvS dr a a 10 ≤ 0
  rw [av_10 h]
  have : bvS dr a a 10 = 0 := by
    have := sumR_z (f := fun i => b2n (a ≤ i ∧ dr i < 10)) (a := 0) a (Nat.zero_le _) (fun q _ h2 => b2n_f (fun y => by omega))
    exact this
  omega
section KB
variable {ko : aKo} {d k : Nat} {is : List Instr} {ls st : List Value} {σ : aH} {D : Nat → Nat} {N : Nat → Nat → Nat} {I : Nat → Nat → Int32} {J : Nat → Nat → Int64} {x t : Nat} {Q : Option Value → aH → Prop} {P : (Option Value ⊕ Unit) → aH → Prop}
theorem l_77a {I0 : Nat → Nat → Int32} {n a K : Nat} {w6 : Value} (hn : n ≤ 20)
    (hQ : ∀ I : Nat → Nat → Int32, fr109 I I0 → (∀ q, q < n → I 109 q = -1) → aWp ko d 77 (aP.1 (Int.toNat 4930)) [.ref 86, .int (nI a), .int (nI K), .int (nI n), .int (nI 0), .int (nI n), w6] [] (hp D N I J x) (aL Q)) :
    ∀ (j q : Nat) (I : Nat → Nat → Int32), q + j = n → fr109 I I0 → (∀ p, p < q → I 109 p = -1) → aWp ko d 77 (aP.1 (Int.toNat 4929)) [.ref 86, .int (nI a), .int (nI K), .int (nI n), .int (nI 0), .int (nI q), w6] [] (hp D N I J x) (aL Q) := by
  intro j
  induction j with
  | zero =>
    intro q I hq hf hv
    have e : q = n := by omega
    subst e
    have hx := hQ I hf hv
    rw [al_4929]
    simp (disch := (first | omega | exact aCat_8 (by with_unfolding_all rfl) | exact rk_lt (by with_unfolding_all rfl) | exact aCat_16 (by with_unfolding_all rfl) | exact rk_eq (by with_unfolding_all rfl) | assumption | exact b2n_lt _ | exact id_b (by with_unfolding_all rfl) | (simp (disch := omega) only [u2_same, u2_ab, u2_aq]; done) | (simp (disch := omega) only [u2_same, u2_ab, u2_aq]; omega) | fail)) only [al_4928, wk_0, wp_istore_4, wp_istore_5, wp_jsr, wp_iload_5, wp_iload_3, wn_ge_t, wn_ge_f, wp_aloadr_0, wp_aloadk_0, hg_86_40, ha_109l, ha_109s, wk_m1, wp_iinc_5_1, wp_goto, wp_iload_1, wp_iload_2, wp_istore_6, wp_iload_6, hg_86_41, ha_110l, ha_110s, wp_iinc_6_1, al_4933, wp_iload_4, wc_78, wc_17, t_17, wp_iadd, al_4934, wp_ireturn, nl_i, nl_r, nl_k, nl_j, nl_l, nI_add, pk_mul, pk_sub, tl_s, tl_n, aL_inl, u2_same, u2_ab, u2_aq, nI_l, lN_i, Nat.add_zero, Nat.zero_add, Nat.zero_le, true_and, and_true, b2n_10, b2n_T, b2n_F, b2n_0, Decidable.not_not, not_true_eq_false, not_false_eq_true, Nat.reduceAdd, Nat.reduceMul, Nat.reduceSub]
    exact hx
  | succ j ih =>
    intro q I hq hf hv
    rw [al_4929]
    simp (disch := (first | omega | exact aCat_8 (by with_unfolding_all rfl) | exact rk_lt (by with_unfolding_all rfl) | exact aCat_16 (by with_unfolding_all rfl) | exact rk_eq (by with_unfolding_all rfl) | assumption | exact b2n_lt _ | exact id_b (by with_unfolding_all rfl) | (simp (disch := omega) only [u2_same, u2_ab, u2_aq]; done) | (simp (disch := omega) only [u2_same, u2_ab, u2_aq]; omega) | fail)) only [al_4928, wk_0, wp_istore_4, wp_istore_5, wp_jsr, wp_iload_5, wp_iload_3, wn_ge_t, wn_ge_f, wp_aloadr_0, wp_aloadk_0, hg_86_40, ha_109l, ha_109s, wk_m1, wp_iinc_5_1, wp_goto, wp_iload_1, wp_iload_2, wp_istore_6, wp_iload_6, hg_86_41, ha_110l, ha_110s, wp_iinc_6_1, al_4933, wp_iload_4, wc_78, wc_17, t_17, wp_iadd, al_4934, wp_ireturn, nl_i, nl_r, nl_k, nl_j, nl_l, nI_add, pk_mul, pk_sub, tl_s, tl_n, aL_inl, u2_same, u2_ab, u2_aq, nI_l, lN_i, Nat.add_zero, Nat.zero_add, Nat.zero_le, true_and, and_true, b2n_10, b2n_T, b2n_F, b2n_0, Decidable.not_not, not_true_eq_false, not_false_eq_true, Nat.reduceAdd, Nat.reduceMul, Nat.reduceSub]
    refine ih (q + 1) _ (by omega) (fun b p z => by rw [u2_ab z]; exact hf b p z) (fun p hp1 => ?_)
    rw [u2_rd]
    split
    · rfl
    · rename_i y
      exact hv p (by
        have : p ≠ q := fun w => y ⟨rfl, w⟩
        omega)
theorem l_77c {N0 : Nat → Nat → Nat} {n a K c s : Nat} (hn : n ≤ 20)
    (hQ : ∀ N : Nat → Nat → Nat, fr110 N N0 → (∀ q, q < n → N 110 q = 0) → aWp ko d 77 (aP.1 (Int.toNat 4933)) [.ref 86, .int (nI a), .int (nI K), .int (nI n), .int (nI c), .int (nI s), .int (nI n)] [] (hp D N I J x) (aL Q)) :
    ∀ (j q : Nat) (N : Nat → Nat → Nat), q + j = n → fr110 N N0 → (∀ p, p < q → N 110 p = 0) → aWp ko d 77 (aP.1 (Int.toNat 4932)) [.ref 86, .int (nI a), .int (nI K), .int (nI n), .int (nI c), .int (nI s), .int (nI q)] [] (hp D N I J x) (aL Q) := by
  intro j
  induction j with
  | zero =>
    intro q N hq hf hv
    have e : q = n := by omega
    subst e
    have hx := hQ N hf hv
    rw [al_4932]
    simp (disch := (first | omega | exact aCat_8 (by with_unfolding_all rfl) | exact rk_lt (by with_unfolding_all rfl) | exact aCat_16 (by with_unfolding_all rfl) | exact rk_eq (by with_unfolding_all rfl) | assumption | exact b2n_lt _ | exact id_b (by with_unfolding_all rfl) | (simp (disch := omega) only [u2_same, u2_ab, u2_aq]; done) | (simp (disch := omega) only [u2_same, u2_ab, u2_aq]; omega) | fail)) only [al_4928, wk_0, wp_istore_4, wp_istore_5, wp_jsr, wp_iload_5, wp_iload_3, wn_ge_t, wn_ge_f, wp_aloadr_0, wp_aloadk_0, hg_86_40, ha_109l, ha_109s, wk_m1, wp_iinc_5_1, wp_goto, al_4930, wp_iload_1, wp_iload_2, wp_istore_6, wp_iload_6, hg_86_41, ha_110l, ha_110s, wp_iinc_6_1, wp_iload_4, wc_78, wc_17, t_17, wp_iadd, al_4934, wp_ireturn, nl_i, nl_r, nl_k, nl_j, nl_l, nI_add, pk_mul, pk_sub, tl_s, tl_n, aL_inl, u2_same, u2_ab, u2_aq, nI_l, lN_i, Nat.add_zero, Nat.zero_add, Nat.zero_le, true_and, and_true, b2n_10, b2n_T, b2n_F, b2n_0, Decidable.not_not, not_true_eq_false, not_false_eq_true, Nat.reduceAdd, Nat.reduceMul, Nat.reduceSub]
    exact hx
  | succ j ih =>
    intro q N hq hf hv
    rw [al_4932]
    simp (disch := (first | omega | exact aCat_8 (by with_unfolding_all rfl) | exact rk_lt (by with_unfolding_all rfl) | exact aCat_16 (by with_unfolding_all rfl) | exact rk_eq (by with_unfolding_all rfl) | assumption | exact b2n_lt _ | exact id_b (by with_unfolding_all rfl) | (simp (disch := omega) only [u2_same, u2_ab, u2_aq]; done) | (simp (disch := omega) only [u2_same, u2_ab, u2_aq]; omega) | fail)) only [al_4928, wk_0, wp_istore_4, wp_istore_5, wp_jsr, wp_iload_5, wp_iload_3, wn_ge_t, wn_ge_f, wp_aloadr_0, wp_aloadk_0, hg_86_40, ha_109l, ha_109s, wk_m1, wp_iinc_5_1, wp_goto, al_4930, wp_iload_1, wp_iload_2, wp_istore_6, wp_iload_6, hg_86_41, ha_110l, ha_110s, wp_iinc_6_1, wp_iload_4, wc_78, wc_17, t_17, wp_iadd, al_4934, wp_ireturn, nl_i, nl_r, nl_k, nl_j, nl_l, nI_add, pk_mul, pk_sub, tl_s, tl_n, aL_inl, u2_same, u2_ab, u2_aq, nI_l, lN_i, Nat.add_zero, Nat.zero_add, Nat.zero_le, true_and, and_true, b2n_10, b2n_T, b2n_F, b2n_0, Decidable.not_not, not_true_eq_false, not_false_eq_true, Nat.reduceAdd, Nat.reduceMul, Nat.reduceSub]
    refine ih (q + 1) _ (by omega) (fun b p z => by rw [u2_ab z]; exact hf b p z) (fun p hp1 => ?_)
    rw [u2_rd]
    split
    · rfl
    · rename_i y
      exact hv p (by
        have : p ≠ q := fun w => y ⟨rfl, w⟩
        omega)
theorem l_77 {dep dr : Nat → Nat} {n K a : Nat} {U : Nat → Bool} {N0 : Nat → Nat → Nat} {I0 : Nat → Nat → Int32} (hn : n ≤ 20) (hK : K ≤ 8) (hrf : rfO N0 I0 dep dr n K U)
    (hQ : ∀ (N : Nat → Nat → Nat) (I : Nat → Nat → Int32), fr110 N N0 → fr109 I I0 → Q (some (.int (nI (gM dep dr n K a U)))) (hp D N I J x)) :
    ∀ (j s : Nat) (N : Nat → Nat → Nat) (I : Nat → Nat → Int32) (o : Nat → Option Nat) (w : Value), s + j = K → a ≤ s → fr110 N N0 → fr109 I I0 → (∀ q, q < n → I 109 q = oI (o q)) → (∀ i, imO n (fun _ => false) o i → a ≤ i ∧ i < s) → vdO dep dr n U (fun _ => false) o → cnO n o = gM dep dr n s a U → aWp ko (d + 20) 77 (aP.1 (Int.toNat 4931)) [.ref 86, .int (nI a), .int (nI K), .int (nI n), .int (nI (gM dep dr n s a U)), .int (nI s), w] [] (hp D N I J x) (aL Q) := by
  intro j
  induction j with
  | zero =>
    intro s N I o w hs has hfN hfI ho hi hv hc
    have e : s = K := by omega
    subst e
    have hx := hQ N I hfN hfI
    have hg := gM_le (dr := dr) (K := s) (s := a) (U := U) (fun q hq => (hrf.1 q hq).2)
    generalize gM dep dr n s a U = G at *
    rw [al_4931]
    simp (disch := (first | omega | exact aCat_8 (by with_unfolding_all rfl) | exact rk_lt (by with_unfolding_all rfl) | exact aCat_16 (by with_unfolding_all rfl) | exact rk_eq (by with_unfolding_all rfl) | assumption | exact b2n_lt _ | exact id_b (by with_unfolding_all rfl) | (simp (disch := omega) only [u2_same, u2_ab, u2_aq]; done) | (simp (disch := omega) only [u2_same, u2_ab, u2_aq]; omega) | fail)) only [al_4928, wk_0, wp_istore_4, wp_istore_5, wp_jsr, wp_iload_5, wp_iload_3, wn_ge_t, wn_ge_f, wp_aloadr_0, wp_aloadk_0, hg_86_40, ha_109l, ha_109s, wk_m1, wp_iinc_5_1, wp_goto, al_4930, wp_iload_1, wp_iload_2, wp_istore_6, wp_iload_6, hg_86_41, ha_110l, ha_110s, wp_iinc_6_1, al_4933, wp_iload_4, wc_78, wc_17, t_17, wp_iadd, al_4934, wp_ireturn, nl_i, nl_r, nl_k, nl_j, nl_l, nI_add, pk_mul, pk_sub, tl_s, tl_n, aL_inl, u2_same, u2_ab, u2_aq, nI_l, lN_i, Nat.add_zero, Nat.zero_add, Nat.zero_le, true_and, and_true, b2n_10, b2n_T, b2n_F, b2n_0, Decidable.not_not, not_true_eq_false, not_false_eq_true, Nat.reduceAdd, Nat.reduceMul, Nat.reduceSub]
    exact hx
  | succ j ih =>
    intro s N I o w hs has hfN hfI ho hi hv hc
    have hg := gM_le (dr := dr) (K := s) (s := a) (U := U) (fun q hq => (hrf.1 q hq).2)
    have hg2 := gM_le (dr := dr) (K := s + 1) (s := a) (U := U) (fun q hq => (hrf.1 q hq).2)
    generalize hG : gM dep dr n s a U = G at *
    rw [al_4931]
    simp (disch := (first | omega | exact aCat_8 (by with_unfolding_all rfl) | exact rk_lt (by with_unfolding_all rfl) | exact aCat_16 (by with_unfolding_all rfl) | exact rk_eq (by with_unfolding_all rfl) | assumption | exact b2n_lt _ | exact id_b (by with_unfolding_all rfl) | (simp (disch := omega) only [u2_same, u2_ab, u2_aq]; done) | (simp (disch := omega) only [u2_same, u2_ab, u2_aq]; omega) | fail)) only [al_4928, wk_0, wp_istore_4, wp_istore_5, wp_jsr, wp_iload_5, wp_iload_3, wn_ge_t, wn_ge_f, wp_aloadr_0, wp_aloadk_0, hg_86_40, ha_109l, ha_109s, wk_m1, wp_iinc_5_1, wp_goto, al_4930, wp_iload_1, wp_iload_2, wp_istore_6, wp_iload_6, hg_86_41, ha_110l, ha_110s, wp_iinc_6_1, al_4933, wp_iload_4, wc_78, wc_17, t_17, wp_iadd, al_4934, wp_ireturn, nl_i, nl_r, nl_k, nl_j, nl_l, nI_add, pk_mul, pk_sub, tl_s, tl_n, aL_inl, u2_same, u2_ab, u2_aq, nI_l, lN_i, Nat.add_zero, Nat.zero_add, Nat.zero_le, true_and, and_true, b2n_10, b2n_T, b2n_F, b2n_0, Decidable.not_not, not_true_eq_false, not_false_eq_true, Nat.reduceAdd, Nat.reduceMul, Nat.reduceSub]
    refine l_77c (N0 := N0) hn ?_ n 0 N (by omega) hfN (fun p hp1 => absurd hp1 (Nat.not_lt_zero p))
    intro N1 hf1 h110
    rw [al_4933]
    simp (disch := (first | omega | exact aCat_8 (by with_unfolding_all rfl) | exact rk_lt (by with_unfolding_all rfl) | exact aCat_16 (by with_unfolding_all rfl) | exact rk_eq (by with_unfolding_all rfl) | assumption | exact b2n_lt _ | exact id_b (by with_unfolding_all rfl) | (simp (disch := omega) only [u2_same, u2_ab, u2_aq]; done) | (simp (disch := omega) only [u2_same, u2_ab, u2_aq]; omega) | fail)) only [al_4928, wk_0, wp_istore_4, wp_istore_5, wp_jsr, wp_iload_5, wp_iload_3, wn_ge_t, wn_ge_f, wp_aloadr_0, wp_aloadk_0, hg_86_40, ha_109l, ha_109s, wk_m1, wp_iinc_5_1, wp_goto, al_4930, wp_iload_1, wp_iload_2, wp_istore_6, wp_iload_6, hg_86_41, ha_110l, ha_110s, wp_iinc_6_1, al_4933, wp_iload_4, wc_78, wc_17, t_17, wp_iadd, al_4934, wp_ireturn, nl_i, nl_r, nl_k, nl_j, nl_l, nI_add, pk_mul, pk_sub, tl_s, tl_n, aL_inl, u2_same, u2_ab, u2_aq, nI_l, lN_i, Nat.add_zero, Nat.zero_add, Nat.zero_le, true_and, and_true, b2n_10, b2n_T, b2n_F, b2n_0, Decidable.not_not, not_true_eq_false, not_false_eq_true, Nat.reduceAdd, Nat.reduceMul, Nat.reduceSub]
    have hun : unV n (fun _ => false) ≤ 20 := by
      have := sum_le (S := fun q => b2n ((fun _ => false) q = false)) (c := 1) n (fun q _ => b2n_le _)
      unfold unV
      omega
    refine t_78 (d := d) hn hK 20 s N1 I (fun _ => false) o _ (by omega) (rf_f hrf hf1 hfI) ⟨fun q hq => by rw [h110 q hq]; exact (b2n_f (fun y => by cases y)).symm, ho, fun q i h1 h2 => by have := hi i ⟨q, h1, rfl, h2⟩; omega⟩ hv (fun hh => by have := hi s hh; omega) hun ?_ ?_
    · intro N2 I2 V2 o2 f1 f2 hm hA
      obtain ⟨c1, c2⟩ := kn_ok hi has (hc.trans hG.symm) hA
      have c3 := hA.2.2.2
      have hx := ih (s + 1) N2 I2 o2 (.int (nI n)) (by omega) (by omega) (fun b p z => (f1 b p z).trans (hf1 b p z)) (fun b p z => (f2 b p z).trans (hfI b p z)) hm.2.1 c2 hA.2.1 c1
      have c4 : gM dep dr n (s + 1) a U = G + 1 := by omega
      rw [c4] at hx
      simp (disch := (first | omega | exact aCat_8 (by with_unfolding_all rfl) | exact rk_lt (by with_unfolding_all rfl) | exact aCat_16 (by with_unfolding_all rfl) | exact rk_eq (by with_unfolding_all rfl) | assumption | exact b2n_lt _ | exact id_b (by with_unfolding_all rfl) | (simp (disch := omega) only [u2_same, u2_ab, u2_aq]; done) | (simp (disch := omega) only [u2_same, u2_ab, u2_aq]; omega) | fail)) only [al_4928, wk_0, wp_istore_4, wp_istore_5, wp_jsr, wp_iload_5, wp_iload_3, wn_ge_t, wn_ge_f, wp_aloadr_0, wp_aloadk_0, hg_86_40, ha_109l, ha_109s, wk_m1, wp_iinc_5_1, wp_goto, al_4930, wp_iload_1, wp_iload_2, wp_istore_6, wp_iload_6, hg_86_41, ha_110l, ha_110s, wp_iinc_6_1, al_4933, wp_iload_4, wc_78, wc_17, t_17, wp_iadd, al_4934, wp_ireturn, nl_i, nl_r, nl_k, nl_j, nl_l, nI_add, pk_mul, pk_sub, tl_s, tl_n, aL_inl, u2_same, u2_ab, u2_aq, nI_l, lN_i, Nat.add_zero, Nat.zero_add, Nat.zero_le, true_and, and_true, b2n_10, b2n_T, b2n_F, b2n_0, Decidable.not_not, not_true_eq_false, not_false_eq_true, Nat.reduceAdd, Nat.reduceMul, Nat.reduceSub]
      exact hx
    · intro N2 V2 f1 hm hC hS
      have c1 := kn_no hv hi (hrf.2.1 s (by omega)).2 (hc.trans hG.symm) hC hS
      have hx := ih (s + 1) N2 I o (.int (nI n)) (by omega) (by omega) (fun b p z => (f1 b p z).trans (hf1 b p z)) hfI ho (fun i hh => by have := hi i hh; omega) hv c1
      have c4 : gM dep dr n (s + 1) a U = G := by omega
      rw [c4] at hx
      simp (disch := (first | omega | exact aCat_8 (by with_unfolding_all rfl) | exact rk_lt (by with_unfolding_all rfl) | exact aCat_16 (by with_unfolding_all rfl) | exact rk_eq (by with_unfolding_all rfl) | assumption | exact b2n_lt _ | exact id_b (by with_unfolding_all rfl) | (simp (disch := omega) only [u2_same, u2_ab, u2_aq]; done) | (simp (disch := omega) only [u2_same, u2_ab, u2_aq]; omega) | fail)) only [al_4928, wk_0, wp_istore_4, wp_istore_5, wp_jsr, wp_iload_5, wp_iload_3, wn_ge_t, wn_ge_f, wp_aloadr_0, wp_aloadk_0, hg_86_40, ha_109l, ha_109s, wk_m1, wp_iinc_5_1, wp_goto, al_4930, wp_iload_1, wp_iload_2, wp_istore_6, wp_iload_6, hg_86_41, ha_110l, ha_110s, wp_iinc_6_1, al_4933, wp_iload_4, wc_78, wc_17, t_17, wp_iadd, al_4934, wp_ireturn, nl_i, nl_r, nl_k, nl_j, nl_l, nI_add, pk_mul, pk_sub, tl_s, tl_n, aL_inl, u2_same, u2_ab, u2_aq, nI_l, lN_i, Nat.add_zero, Nat.zero_add, Nat.zero_le, true_and, and_true, b2n_10, b2n_T, b2n_F, b2n_0, Decidable.not_not, not_true_eq_false, not_false_eq_true, Nat.reduceAdd, Nat.reduceMul, Nat.reduceSub]
      exact hx
theorem t_77 {dep dr : Nat → Nat} {n K a : Nat} {U : Nat → Bool} (hn : n ≤ 20) (hK : K ≤ 8) (ha : a ≤ K) (hrf : rfO N I dep dr n K U)
    (hQ : ∀ (N' : Nat → Nat → Nat) (I' : Nat → Nat → Int32), fr110 N' N → fr109 I' I → Q (some (.int (nI (gM dep dr n K a U)))) (hp D N' I' J x)) : aMm ko (d + 20) 77 [.ref 86, .int (nI a), .int (nI K), .int (nI n)] (hp D N I J x) Q := by
  rw [me_77]
  simp (disch := (first | omega | exact aCat_8 (by with_unfolding_all rfl) | exact rk_lt (by with_unfolding_all rfl) | exact aCat_16 (by with_unfolding_all rfl) | exact rk_eq (by with_unfolding_all rfl) | assumption | exact b2n_lt _ | exact id_b (by with_unfolding_all rfl) | (simp (disch := omega) only [u2_same, u2_ab, u2_aq]; done) | (simp (disch := omega) only [u2_same, u2_ab, u2_aq]; omega) | fail)) only [al_4928, wk_0, wp_istore_4, wp_istore_5, wp_jsr, wp_iload_5, wp_iload_3, wn_ge_t, wn_ge_f, wp_aloadr_0, wp_aloadk_0, hg_86_40, ha_109l, ha_109s, wk_m1, wp_iinc_5_1, wp_goto, al_4930, wp_iload_1, wp_iload_2, wp_istore_6, wp_iload_6, hg_86_41, ha_110l, ha_110s, wp_iinc_6_1, al_4933, wp_iload_4, wc_78, wc_17, t_17, wp_iadd, al_4934, wp_ireturn, nl_i, nl_r, nl_k, nl_j, nl_l, nI_add, pk_mul, pk_sub, tl_s, tl_n, aL_inl, u2_same, u2_ab, u2_aq, nI_l, lN_i, Nat.add_zero, Nat.zero_add, Nat.zero_le, true_and, and_true, b2n_10, b2n_T, b2n_F, b2n_0, Decidable.not_not, not_true_eq_false, not_false_eq_true, Nat.reduceAdd, Nat.reduceMul, Nat.reduceSub]
  refine l_77a (I0 := I) hn ?_ n 0 I (by omega) (fun _ _ _ => rfl) (fun p hp1 => absurd hp1 (Nat.not_lt_zero p))
  intro I1 hf hv
  have e0 := gM_0 (dr := dr) (a := a) (U := U) (fun q hq => (hrf.1 q hq).2)
  have hx := fun w => l_77 (ko := ko) (d := d) (D := D) (J := J) (x := x) (Q := Q) (a := a) (N0 := N) (I0 := I) hn hK hrf hQ (K - a) a N I1 (fun _ => none) w (by omega) (Nat.le_refl _) (fun _ _ _ => rfl) hf hv (fun i hh => by obtain ⟨q, _, _, h3⟩ := hh; cases h3) ⟨(fun q i _ _ h3 => by cases h3), (fun p q i _ _ _ _ h5 => by cases h5)⟩ (cnO_0.trans e0.symm)
  rw [e0] at hx
  rw [al_4930]
  simp (disch := (first | omega | exact aCat_8 (by with_unfolding_all rfl) | exact rk_lt (by with_unfolding_all rfl) | exact aCat_16 (by with_unfolding_all rfl) | exact rk_eq (by with_unfolding_all rfl) | assumption | exact b2n_lt _ | exact id_b (by with_unfolding_all rfl) | (simp (disch := omega) only [u2_same, u2_ab, u2_aq]; done) | (simp (disch := omega) only [u2_same, u2_ab, u2_aq]; omega) | fail)) only [al_4928, wk_0, wp_istore_4, wp_istore_5, wp_jsr, wp_iload_5, wp_iload_3, wn_ge_t, wn_ge_f, wp_aloadr_0, wp_aloadk_0, hg_86_40, ha_109l, ha_109s, wk_m1, wp_iinc_5_1, wp_goto, al_4930, wp_iload_1, wp_iload_2, wp_istore_6, wp_iload_6, hg_86_41, ha_110l, ha_110s, wp_iinc_6_1, al_4933, wp_iload_4, wc_78, wc_17, t_17, wp_iadd, al_4934, wp_ireturn, nl_i, nl_r, nl_k, nl_j, nl_l, nI_add, pk_mul, pk_sub, tl_s, tl_n, aL_inl, u2_same, u2_ab, u2_aq, nI_l, lN_i, Nat.add_zero, Nat.zero_add, Nat.zero_le, true_and, and_true, b2n_10, b2n_T, b2n_F, b2n_0, Decidable.not_not, not_true_eq_false, not_false_eq_true, Nat.reduceAdd, Nat.reduceMul, Nat.reduceSub]
  exact hx _
end KB
