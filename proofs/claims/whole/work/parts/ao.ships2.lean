/-! timetable: the class counts the most ships. From wip/whole/src. -/
theorem sumR_2 {f g h : Nat → Nat} : ∀ n, (∀ q, q < n → h q = f q + g q) → sumR h n = sumR f n + sumR g n
  | 0, _ => rfl
  | n + 1, hh => by
    rw [sumR, sumR, sumR, sumR_2 n (fun q hq => hh q (by omega)), hh n (by omega)]
    omega
def cT (dep : Nat → Nat) (U : Nat → Bool) (v : Nat) (n : Nat) : Nat := sumR (fun q => b2n (U q = false ∧ dep q = v)) n
def cS (dr : Nat → Nat) (s v : Nat) (n : Nat) : Nat := sumR (fun i => b2n (s ≤ i ∧ dr i = v)) n
theorem av_s {dep : Nat → Nat} {n v : Nat} {U : Nat → Bool} : avS dep n U v = avS dep n U (v + 1) + cT dep U v n := sumR_2 n (fun q _ => by
  by_cases h1 : U q = false
  · by_cases h2 : dep q = v
    · rw [b2n_t ⟨h1, by omega⟩, b2n_f (fun y => by omega), b2n_t ⟨h1, h2⟩]
    · rw [b2n_f (P := U q = false ∧ dep q = v) (fun y => h2 y.2)]
      exact b2n_iff ⟨fun y => ⟨h1, by omega⟩, fun y => ⟨h1, by omega⟩⟩
  · rw [b2n_f (fun y => h1 y.1), b2n_f (fun y => h1 y.1), b2n_f (fun y => h1 y.1)])
theorem bv_l {dr : Nat → Nat} {K s v : Nat} : bvS dr K s (v + 1) = bvS dr K s v + cS dr s v K := sumR_2 K (fun i _ => by
  by_cases h1 : s ≤ i
  · by_cases h2 : dr i = v
    · rw [b2n_t ⟨h1, by omega⟩, b2n_f (fun y => by omega), b2n_t ⟨h1, h2⟩]
    · rw [b2n_f (P := s ≤ i ∧ dr i = v) (fun y => h2 y.2)]
      exact b2n_iff ⟨fun y => ⟨h1, by omega⟩, fun y => ⟨h1, by omega⟩⟩
  · rw [b2n_f (fun y => h1 y.1), b2n_f (fun y => h1 y.1), b2n_f (fun y => h1 y.1)])
theorem tb_64 {z : Int32} {i : Nat} (h : i < 32) : tb z.toInt64 i = bt z i := by
  unfold tb bt
  rw [Int32.toBitVec_toInt64, BitVec.getLsbD_signExtend]
  simp [h]
  omega
/-- the harbour holds ships and tides -/
def hbO (N : Nat → Nat → Nat) (dep dr : Nat → Nat) (n K : Nat) : Prop := N 73 3 = K ∧ N 73 4 = n ∧ K ≤ 8 ∧ n ≤ 20 ∧ (∀ i, i < K → N 74 i = dr i ∧ 1 ≤ dr i ∧ dr i ≤ 9) ∧ ∀ q, q < n → N 75 q = dep q ∧ dep q ≤ 9
def tkO (z : Int32) (U : Nat → Bool) : Prop := ∀ q, q < 20 → bt z q = U q
theorem cT_le {dep : Nat → Nat} {U : Nat → Bool} {v n : Nat} : cT dep U v n ≤ n := by
  have := sum_le (S := fun q => b2n (U q = false ∧ dep q = v)) (c := 1) n (fun q _ => b2n_le _)
  unfold cT
  omega
theorem cS_le {dr : Nat → Nat} {s v n : Nat} : cS dr s v n ≤ n := by
  have := sum_le (S := fun q => b2n (s ≤ q ∧ dr q = v)) (c := 1) n (fun q _ => b2n_le _)
  unfold cS
  omega
theorem cT_s {dep : Nat → Nat} {U : Nat → Bool} {v n : Nat} : cT dep U v (n + 1) = cT dep U v n + b2n (U n = false ∧ dep n = v) := rfl
section HA
variable {ko : aKo} {d k : Nat} {is : List Instr} {ls st : List Value} {σ : aH} {D : Nat → Nat} {N : Nat → Nat → Nat} {I : Nat → Nat → Int32} {J : Nat → Nat → Int64} {x t : Nat} {Q : Option Value → aH → Prop} {P : (Option Value ⊕ Unit) → aH → Prop}
theorem l_235t {dep dr : Nat → Nat} {n K s g f v : Nat} {U : Nat → Bool} {z : Int32} (hb : hbO N dep dr n K) (hz : tkO z U) (hf : f ≤ 20) (hv : v ≤ 9) (hg : g ≤ 20) (hs : s ≤ 8) :
    ∀ (j q : Nat), q + j = n → aWp ko d 235 (aP.1 (Int.toNat 15042)) [.ref 73, .int (nI s), .int z, .int (nI g), .int (nI (f + cT dep U v q)), .int (nI v), .int (nI q)] [] (hp D N I J x) (aL Q) = aWp ko d 235 (aP.1 (Int.toNat 15045)) [.ref 73, .int (nI s), .int z, .int (nI g), .int (nI (f + cT dep U v n)), .int (nI v), .int (nI n)] [] (hp D N I J x) (aL Q) := by
  obtain ⟨h3, h4, hK, hn, h74, h75⟩ := hb
  intro j
  induction j with
  | zero =>
    intro q hq
    have e : q = n := by omega
    subst e
    have hc := cT_le (dep := dep) (U := U) (v := v) (n := q)
    rw [al_15042]
    simp (disch := (first | omega | exact aCat_8 (by with_unfolding_all rfl) | exact rk_lt (by with_unfolding_all rfl) | exact aCat_16 (by with_unfolding_all rfl) | exact rk_eq (by with_unfolding_all rfl) | assumption | exact b2n_lt _ | exact id_b (by with_unfolding_all rfl) | (simp (disch := omega) only [u2_same, u2_ab, u2_aq]; done) | (simp (disch := omega) only [u2_same, u2_ab, u2_aq]; omega) | fail)) only [al_15040, wk_0, wp_istore_3, wp_istore_4, wk_9, wp_istore_5, wp_jsr, wp_iload_5, wk_1, wn_lt_t, wn_lt_f, wp_istore_6, wp_iload_6, wp_aloadr_0, wp_aloadk_0, hg_73_4, wn_ge_t, wn_ge_f, wp_iload_4, hg_73_1, ha_75l, ha_75s, wn_ne_t, wn_ne_f, wp_iload_2, wp_i2l, wc_161, t_161, wp_isub, wp_goto, al_15043, al_15044, wp_iadd, wp_iinc_6_1, wp_iload_1, hg_73_3, hg_73_0, ha_74l, ha_74s, wz_le_t, wz_le_f, wm_le_1, wm_le_2, wp_idec_4_1, wp_iinc_3_1, al_15047, al_15048, wp_idec_5_1, al_15049, wp_iload_3, wp_ireturn, nl_i, nl_r, nl_k, nl_j, nl_l, nI_add, pk_mul, pk_sub, tl_s, tl_n, aL_inl, u2_same, u2_ab, u2_aq, nI_l, lN_i, Nat.add_zero, Nat.zero_add, Nat.zero_le, true_and, and_true, b2n_10, b2n_T, b2n_F, b2n_0, Decidable.not_not, not_true_eq_false, not_false_eq_true, Nat.reduceAdd, Nat.reduceMul, Nat.reduceSub, h4]
  | succ j ih =>
    intro q hq
    have hc := cT_le (dep := dep) (U := U) (v := v) (n := q)
    obtain ⟨e1, e2⟩ := h75 q (by omega)
    have eb : tb z.toInt64 q = U q := (tb_64 (by omega)).trans (hz q (by omega))
    have ih1 := ih (q + 1) (by omega)
    rw [cT_s, ← Nat.add_assoc] at ih1
    rw [al_15042]
    by_cases hd : dep q = v
    · cases hu : U q with
      | true =>
        rw [b2n_f (fun y => by rw [hu] at y; cases y.1), Nat.add_zero] at ih1
        rw [hu] at eb
        generalize hF : f + cT dep U v q = F at ih1 ⊢
        simp (disch := (first | omega | exact aCat_8 (by with_unfolding_all rfl) | exact rk_lt (by with_unfolding_all rfl) | exact aCat_16 (by with_unfolding_all rfl) | exact rk_eq (by with_unfolding_all rfl) | assumption | exact b2n_lt _ | exact id_b (by with_unfolding_all rfl) | (simp (disch := omega) only [u2_same, u2_ab, u2_aq]; done) | (simp (disch := omega) only [u2_same, u2_ab, u2_aq]; omega) | fail)) only [al_15040, wk_0, wp_istore_3, wp_istore_4, wk_9, wp_istore_5, wp_jsr, wp_iload_5, wk_1, wn_lt_t, wn_lt_f, wp_istore_6, wp_iload_6, wp_aloadr_0, wp_aloadk_0, hg_73_4, wn_ge_t, wn_ge_f, wp_iload_4, hg_73_1, ha_75l, ha_75s, wn_ne_t, wn_ne_f, wp_iload_2, wp_i2l, wc_161, t_161, wp_isub, wp_goto, al_15043, al_15044, wp_iadd, wp_iinc_6_1, wp_iload_1, hg_73_3, hg_73_0, ha_74l, ha_74s, wz_le_t, wz_le_f, wm_le_1, wm_le_2, wp_idec_4_1, wp_iinc_3_1, al_15047, al_15048, wp_idec_5_1, al_15049, wp_iload_3, wp_ireturn, nl_i, nl_r, nl_k, nl_j, nl_l, nI_add, pk_mul, pk_sub, tl_s, tl_n, aL_inl, u2_same, u2_ab, u2_aq, nI_l, lN_i, Nat.add_zero, Nat.zero_add, Nat.zero_le, true_and, and_true, b2n_10, b2n_T, b2n_F, b2n_0, Decidable.not_not, not_true_eq_false, not_false_eq_true, Nat.reduceAdd, Nat.reduceMul, Nat.reduceSub, h4, e1, hd, b2n_t eb]
        exact ih1
      | false =>
        rw [b2n_t ⟨hu, hd⟩] at ih1
        have eb' : ¬ tb z.toInt64 q = true := by rw [eb, hu]; decide
        generalize hF : f + cT dep U v q = F at ih1 ⊢
        simp (disch := (first | omega | exact aCat_8 (by with_unfolding_all rfl) | exact rk_lt (by with_unfolding_all rfl) | exact aCat_16 (by with_unfolding_all rfl) | exact rk_eq (by with_unfolding_all rfl) | assumption | exact b2n_lt _ | exact id_b (by with_unfolding_all rfl) | (simp (disch := omega) only [u2_same, u2_ab, u2_aq]; done) | (simp (disch := omega) only [u2_same, u2_ab, u2_aq]; omega) | fail)) only [al_15040, wk_0, wp_istore_3, wp_istore_4, wk_9, wp_istore_5, wp_jsr, wp_iload_5, wk_1, wn_lt_t, wn_lt_f, wp_istore_6, wp_iload_6, wp_aloadr_0, wp_aloadk_0, hg_73_4, wn_ge_t, wn_ge_f, wp_iload_4, hg_73_1, ha_75l, ha_75s, wn_ne_t, wn_ne_f, wp_iload_2, wp_i2l, wc_161, t_161, wp_isub, wp_goto, al_15043, al_15044, wp_iadd, wp_iinc_6_1, wp_iload_1, hg_73_3, hg_73_0, ha_74l, ha_74s, wz_le_t, wz_le_f, wm_le_1, wm_le_2, wp_idec_4_1, wp_iinc_3_1, al_15047, al_15048, wp_idec_5_1, al_15049, wp_iload_3, wp_ireturn, nl_i, nl_r, nl_k, nl_j, nl_l, nI_add, pk_mul, pk_sub, tl_s, tl_n, aL_inl, u2_same, u2_ab, u2_aq, nI_l, lN_i, Nat.add_zero, Nat.zero_add, Nat.zero_le, true_and, and_true, b2n_10, b2n_T, b2n_F, b2n_0, Decidable.not_not, not_true_eq_false, not_false_eq_true, Nat.reduceAdd, Nat.reduceMul, Nat.reduceSub, h4, e1, hd, b2n_f eb']
        exact ih1
    · rw [b2n_f (fun y => hd y.2), Nat.add_zero] at ih1
      generalize hF : f + cT dep U v q = F at ih1 ⊢
      simp (disch := (first | omega | exact aCat_8 (by with_unfolding_all rfl) | exact rk_lt (by with_unfolding_all rfl) | exact aCat_16 (by with_unfolding_all rfl) | exact rk_eq (by with_unfolding_all rfl) | assumption | exact b2n_lt _ | exact id_b (by with_unfolding_all rfl) | (simp (disch := omega) only [u2_same, u2_ab, u2_aq]; done) | (simp (disch := omega) only [u2_same, u2_ab, u2_aq]; omega) | fail)) only [al_15040, wk_0, wp_istore_3, wp_istore_4, wk_9, wp_istore_5, wp_jsr, wp_iload_5, wk_1, wn_lt_t, wn_lt_f, wp_istore_6, wp_iload_6, wp_aloadr_0, wp_aloadk_0, hg_73_4, wn_ge_t, wn_ge_f, wp_iload_4, hg_73_1, ha_75l, ha_75s, wn_ne_t, wn_ne_f, wp_iload_2, wp_i2l, wc_161, t_161, wp_isub, wp_goto, al_15043, al_15044, wp_iadd, wp_iinc_6_1, wp_iload_1, hg_73_3, hg_73_0, ha_74l, ha_74s, wz_le_t, wz_le_f, wm_le_1, wm_le_2, wp_idec_4_1, wp_iinc_3_1, al_15047, al_15048, wp_idec_5_1, al_15049, wp_iload_3, wp_ireturn, nl_i, nl_r, nl_k, nl_j, nl_l, nI_add, pk_mul, pk_sub, tl_s, tl_n, aL_inl, u2_same, u2_ab, u2_aq, nI_l, lN_i, Nat.add_zero, Nat.zero_add, Nat.zero_le, true_and, and_true, b2n_10, b2n_T, b2n_F, b2n_0, Decidable.not_not, not_true_eq_false, not_false_eq_true, Nat.reduceAdd, Nat.reduceMul, Nat.reduceSub, h4, e1]
      exact ih1
theorem l_235s {dep dr : Nat → Nat} {n K s g f v : Nat} {z : Int32} (hb : hbO N dep dr n K) (hf : f ≤ 40) (hv : v ≤ 9) (hg : g ≤ 20) :
    ∀ (j i : Nat), i + j = max s K → s ≤ i → i ≤ 9 → aWp ko d 235 (aP.1 (Int.toNat 15046)) [.ref 73, .int (nI s), .int z, .int (nI (g + min (cS dr s v i) f)), .int (nI (f - min (cS dr s v i) f)), .int (nI v), .int (nI i)] [] (hp D N I J x) (aL Q) = aWp ko d 235 (aP.1 (Int.toNat 15048)) [.ref 73, .int (nI s), .int z, .int (nI (g + min (cS dr s v K) f)), .int (nI (f - min (cS dr s v K) f)), .int (nI v), .int (nI (max s K))] [] (hp D N I J x) (aL Q) := by
  obtain ⟨h3, h4, hK, hn, h74, h75⟩ := hb
  intro j
  induction j with
  | zero =>
    intro i hi hsi hi9
    have hc := cS_le (dr := dr) (s := s) (v := v) (n := i)
    have em : max s K = i := by omega
    have e : cS dr s v i = cS dr s v K := by
      by_cases y : K ≤ i
      · exact sumR_z i y (fun q h1 h2 => b2n_f (fun w => by omega))
      · have : i = K := by omega
        rw [this]
    rw [em, ← e, al_15046]
    simp (disch := (first | omega | exact aCat_8 (by with_unfolding_all rfl) | exact rk_lt (by with_unfolding_all rfl) | exact aCat_16 (by with_unfolding_all rfl) | exact rk_eq (by with_unfolding_all rfl) | assumption | exact b2n_lt _ | exact id_b (by with_unfolding_all rfl) | (simp (disch := omega) only [u2_same, u2_ab, u2_aq]; done) | (simp (disch := omega) only [u2_same, u2_ab, u2_aq]; omega) | fail)) only [al_15040, wk_0, wp_istore_3, wp_istore_4, wk_9, wp_istore_5, wp_jsr, wp_iload_5, wk_1, wn_lt_t, wn_lt_f, wp_istore_6, wp_iload_6, wp_aloadr_0, wp_aloadk_0, hg_73_4, wn_ge_t, wn_ge_f, wp_iload_4, hg_73_1, ha_75l, ha_75s, wn_ne_t, wn_ne_f, wp_iload_2, wp_i2l, wc_161, t_161, wp_isub, wp_goto, al_15043, al_15044, wp_iadd, wp_iinc_6_1, al_15045, wp_iload_1, hg_73_3, hg_73_0, ha_74l, ha_74s, wz_le_t, wz_le_f, wm_le_1, wm_le_2, wp_idec_4_1, wp_iinc_3_1, al_15047, wp_idec_5_1, al_15049, wp_iload_3, wp_ireturn, nl_i, nl_r, nl_k, nl_j, nl_l, nI_add, pk_mul, pk_sub, tl_s, tl_n, aL_inl, u2_same, u2_ab, u2_aq, nI_l, lN_i, Nat.add_zero, Nat.zero_add, Nat.zero_le, true_and, and_true, b2n_10, b2n_T, b2n_F, b2n_0, Decidable.not_not, not_true_eq_false, not_false_eq_true, Nat.reduceAdd, Nat.reduceMul, Nat.reduceSub, h3]
  | succ j ih =>
    intro i hi hsi hi9
    have hc := cS_le (dr := dr) (s := s) (v := v) (n := i)
    obtain ⟨e1, e2, e3⟩ := h74 i (by omega)
    have ih1 := ih (i + 1) (by omega) (by omega) (by omega)
    have es : cS dr s v (i + 1) = cS dr s v i + b2n (dr i = v) := by
      rw [cS, sumR]
      congr 1
      exact b2n_iff ⟨fun y => y.2, fun y => ⟨hsi, y⟩⟩
    rw [es] at ih1
    generalize cS dr s v i = C at ih1 hc ⊢
    rw [al_15046]
    by_cases hd : dr i = v
    · rw [b2n_t hd] at ih1
      by_cases y : C < f
      · have m1 : min (C + 1) f = C + 1 := by omega
        have m2 : min C f = C := by omega
        have m3 : f - (C + 1) = f - C - 1 := by omega
        rw [m1, m3, ← Nat.add_assoc] at ih1
        rw [m2]
        simp (disch := (first | omega | exact aCat_8 (by with_unfolding_all rfl) | exact rk_lt (by with_unfolding_all rfl) | exact aCat_16 (by with_unfolding_all rfl) | exact rk_eq (by with_unfolding_all rfl) | assumption | exact b2n_lt _ | exact id_b (by with_unfolding_all rfl) | (simp (disch := omega) only [u2_same, u2_ab, u2_aq]; done) | (simp (disch := omega) only [u2_same, u2_ab, u2_aq]; omega) | fail)) only [al_15040, wk_0, wp_istore_3, wp_istore_4, wk_9, wp_istore_5, wp_jsr, wp_iload_5, wk_1, wn_lt_t, wn_lt_f, wp_istore_6, wp_iload_6, wp_aloadr_0, wp_aloadk_0, hg_73_4, wn_ge_t, wn_ge_f, wp_iload_4, hg_73_1, ha_75l, ha_75s, wn_ne_t, wn_ne_f, wp_iload_2, wp_i2l, wc_161, t_161, wp_isub, wp_goto, al_15043, al_15044, wp_iadd, wp_iinc_6_1, al_15045, wp_iload_1, hg_73_3, hg_73_0, ha_74l, ha_74s, wz_le_t, wz_le_f, wm_le_1, wm_le_2, wp_idec_4_1, wp_iinc_3_1, al_15047, wp_idec_5_1, al_15049, wp_iload_3, wp_ireturn, nl_i, nl_r, nl_k, nl_j, nl_l, nI_add, pk_mul, pk_sub, tl_s, tl_n, aL_inl, u2_same, u2_ab, u2_aq, nI_l, lN_i, Nat.add_zero, Nat.zero_add, Nat.zero_le, true_and, and_true, b2n_10, b2n_T, b2n_F, b2n_0, Decidable.not_not, not_true_eq_false, not_false_eq_true, Nat.reduceAdd, Nat.reduceMul, Nat.reduceSub, h3, e1, hd]
        exact ih1
      · have m1 : min (C + 1) f = f := by omega
        have m2 : min C f = f := by omega
        rw [m1, Nat.sub_self] at ih1
        rw [m2, Nat.sub_self]
        simp (disch := (first | omega | exact aCat_8 (by with_unfolding_all rfl) | exact rk_lt (by with_unfolding_all rfl) | exact aCat_16 (by with_unfolding_all rfl) | exact rk_eq (by with_unfolding_all rfl) | assumption | exact b2n_lt _ | exact id_b (by with_unfolding_all rfl) | (simp (disch := omega) only [u2_same, u2_ab, u2_aq]; done) | (simp (disch := omega) only [u2_same, u2_ab, u2_aq]; omega) | fail)) only [al_15040, wk_0, wp_istore_3, wp_istore_4, wk_9, wp_istore_5, wp_jsr, wp_iload_5, wk_1, wn_lt_t, wn_lt_f, wp_istore_6, wp_iload_6, wp_aloadr_0, wp_aloadk_0, hg_73_4, wn_ge_t, wn_ge_f, wp_iload_4, hg_73_1, ha_75l, ha_75s, wn_ne_t, wn_ne_f, wp_iload_2, wp_i2l, wc_161, t_161, wp_isub, wp_goto, al_15043, al_15044, wp_iadd, wp_iinc_6_1, al_15045, wp_iload_1, hg_73_3, hg_73_0, ha_74l, ha_74s, wz_le_t, wz_le_f, wm_le_1, wm_le_2, wp_idec_4_1, wp_iinc_3_1, al_15047, wp_idec_5_1, al_15049, wp_iload_3, wp_ireturn, nl_i, nl_r, nl_k, nl_j, nl_l, nI_add, pk_mul, pk_sub, tl_s, tl_n, aL_inl, u2_same, u2_ab, u2_aq, nI_l, lN_i, Nat.add_zero, Nat.zero_add, Nat.zero_le, true_and, and_true, b2n_10, b2n_T, b2n_F, b2n_0, Decidable.not_not, not_true_eq_false, not_false_eq_true, Nat.reduceAdd, Nat.reduceMul, Nat.reduceSub, h3, e1, hd]
        exact ih1
    · rw [b2n_f hd, Nat.add_zero] at ih1
      simp (disch := (first | omega | exact aCat_8 (by with_unfolding_all rfl) | exact rk_lt (by with_unfolding_all rfl) | exact aCat_16 (by with_unfolding_all rfl) | exact rk_eq (by with_unfolding_all rfl) | assumption | exact b2n_lt _ | exact id_b (by with_unfolding_all rfl) | (simp (disch := omega) only [u2_same, u2_ab, u2_aq]; done) | (simp (disch := omega) only [u2_same, u2_ab, u2_aq]; omega) | fail)) only [al_15040, wk_0, wp_istore_3, wp_istore_4, wk_9, wp_istore_5, wp_jsr, wp_iload_5, wk_1, wn_lt_t, wn_lt_f, wp_istore_6, wp_iload_6, wp_aloadr_0, wp_aloadk_0, hg_73_4, wn_ge_t, wn_ge_f, wp_iload_4, hg_73_1, ha_75l, ha_75s, wn_ne_t, wn_ne_f, wp_iload_2, wp_i2l, wc_161, t_161, wp_isub, wp_goto, al_15043, al_15044, wp_iadd, wp_iinc_6_1, al_15045, wp_iload_1, hg_73_3, hg_73_0, ha_74l, ha_74s, wz_le_t, wz_le_f, wm_le_1, wm_le_2, wp_idec_4_1, wp_iinc_3_1, al_15047, wp_idec_5_1, al_15049, wp_iload_3, wp_ireturn, nl_i, nl_r, nl_k, nl_j, nl_l, nI_add, pk_mul, pk_sub, tl_s, tl_n, aL_inl, u2_same, u2_ab, u2_aq, nI_l, lN_i, Nat.add_zero, Nat.zero_add, Nat.zero_le, true_and, and_true, b2n_10, b2n_T, b2n_F, b2n_0, Decidable.not_not, not_true_eq_false, not_false_eq_true, Nat.reduceAdd, Nat.reduceMul, Nat.reduceSub, h3, e1]
      exact ih1
theorem l_235 {dep dr : Nat → Nat} {n K s : Nat} {U : Nat → Bool} {z : Int32} (hb : hbO N dep dr n K) (hz : tkO z U) (hs : s ≤ 8) :
    ∀ (v g f : Nat) (w : Value), v ≤ 9 → g ≤ K → g + f = avS dep n U (v + 1) → (∀ u, v + 1 ≤ u → u ≤ 10 → g + bvS dr K s (v + 1) ≤ avS dep n U u + bvS dr K s u) → (∃ u, v + 1 ≤ u ∧ u ≤ 10 ∧ g + bvS dr K s (v + 1) = avS dep n U u + bvS dr K s u) → aWp ko d 235 (aP.1 (Int.toNat 15041)) [.ref 73, .int (nI s), .int z, .int (nI g), .int (nI f), .int (nI v), w] [] (hp D N I J x) (aL Q) = Q (some (.int (nI (gM dep dr n K s U)))) (hp D N I J x) := by
  obtain ⟨h3, h4, hK, hn, h74, h75⟩ := id hb
  intro v
  induction v with
  | zero =>
    intro g f w hv hg e1 h1 h2
    rw [Nat.zero_add] at e1 h1 h2
    have b1 : bvS dr K s 1 = 0 := by
      unfold bvS
      rw [sumR_congr K (g := fun _ => 0) (fun q hq => b2n_f (fun y => by have := (h74 q hq).2.1; omega))]
      have : ∀ n, sumR (fun _ => 0) n = 0 := fun n => by
        induction n with
        | zero => rfl
        | succ n ih => rw [sumR, ih]
      exact this K
    obtain ⟨u, hu1, hu2, hu3⟩ := h2
    have eg : gM dep dr n K s U = g := by
      refine mnR_eq (v := u) (fun v hv => ?_) hu2 (by omega)
      by_cases y : v = 0
      · subst y
        have a := h1 1 (by omega) (by omega)
        have m := av_mono (dep := dep) (n := n) (U := U) (show 0 ≤ 1 by omega)
        have m2 : avS dep n U 1 + bvS dr K s 1 ≤ avS dep n U 0 + bvS dr K s 0 := by omega
        omega
      · have := h1 v (by omega) hv
        omega
    rw [eg, al_15041]
    simp (disch := (first | omega | exact aCat_8 (by with_unfolding_all rfl) | exact rk_lt (by with_unfolding_all rfl) | exact aCat_16 (by with_unfolding_all rfl) | exact rk_eq (by with_unfolding_all rfl) | assumption | exact b2n_lt _ | exact id_b (by with_unfolding_all rfl) | (simp (disch := omega) only [u2_same, u2_ab, u2_aq]; done) | (simp (disch := omega) only [u2_same, u2_ab, u2_aq]; omega) | fail)) only [al_15040, wk_0, wp_istore_3, wp_istore_4, wk_9, wp_istore_5, wp_jsr, wp_iload_5, wk_1, wn_lt_t, wn_lt_f, wp_istore_6, wp_iload_6, wp_aloadr_0, wp_aloadk_0, hg_73_4, wn_ge_t, wn_ge_f, wp_iload_4, hg_73_1, ha_75l, ha_75s, wn_ne_t, wn_ne_f, wp_iload_2, wp_i2l, wc_161, t_161, wp_isub, wp_goto, al_15043, al_15044, wp_iadd, wp_iinc_6_1, al_15045, wp_iload_1, hg_73_3, hg_73_0, ha_74l, ha_74s, wz_le_t, wz_le_f, wm_le_1, wm_le_2, wp_idec_4_1, wp_iinc_3_1, al_15047, al_15048, wp_idec_5_1, al_15049, wp_iload_3, wp_ireturn, nl_i, nl_r, nl_k, nl_j, nl_l, nI_add, pk_mul, pk_sub, tl_s, tl_n, aL_inl, u2_same, u2_ab, u2_aq, nI_l, lN_i, Nat.add_zero, Nat.zero_add, Nat.zero_le, true_and, and_true, b2n_10, b2n_T, b2n_F, b2n_0, Decidable.not_not, not_true_eq_false, not_false_eq_true, Nat.reduceAdd, Nat.reduceMul, Nat.reduceSub]
  | succ v ih =>
    intro g f w hv hg e1 h1 h2
    have hav := av_s (dep := dep) (n := n) (U := U) (v := v + 1)
    have hbv := bv_l (dr := dr) (K := K) (s := s) (v := v + 1)
    have hle := av_le (dep := dep) (n := n) (U := U) (v := v + 1 + 1)
    have hle2 := av_le (dep := dep) (n := n) (U := U) (v := v + 1)
    have hcs := cS_le (dr := dr) (s := s) (v := v + 1) (n := K)
    have hbl := bv_le (dr := dr) (K := K) (s := s) (v := v + 1 + 1)
    generalize hA : avS dep n U (v + 1 + 1) = A2 at *
    have hgK : g + min (cS dr s (v + 1) K) (f + cT dep U (v + 1) n) ≤ K := by
      have a := h1 10 (by omega) (by omega)
      have b := av_10 (dep := dep) (n := n) (U := U) (fun q hq => (h75 q hq).2)
      have c := bv_le (dr := dr) (K := K) (s := s) (v := 10)
      omega
    have hx := fun w => ih (g + min (cS dr s (v + 1) K) (f + cT dep U (v + 1) n)) (f + cT dep U (v + 1) n - min (cS dr s (v + 1) K) (f + cT dep U (v + 1) n)) w (by omega) hgK (by omega) (fun u u1 u2 => by
      by_cases y : u = v + 1
      · subst y
        omega
      · have a := h1 u (by omega) u2
        omega) (by
      by_cases y : cS dr s (v + 1) K ≤ f + cT dep U (v + 1) n
      · obtain ⟨u, u1, u2, u3⟩ := h2
        exact ⟨u, by omega, u2, by omega⟩
      · exact ⟨v + 1, Nat.le_refl _, by omega, by omega⟩)
    have ht := l_235t (ko := ko) (d := d) (D := D) (I := I) (J := J) (x := x) (Q := Q) (g := g) (f := f) (v := v + 1) (s := s) hb hz (by omega) hv (by omega) hs n 0 (by omega)
    have hsh := l_235s (ko := ko) (d := d) (D := D) (I := I) (J := J) (x := x) (Q := Q) (g := g) (f := f + cT dep U (v + 1) n) (v := v + 1) (s := s) (z := z) hb (by omega) hv (by omega) (max s K - s) s (by omega) (Nat.le_refl _) (by omega)
    have e0 : cS dr s (v + 1) s = 0 := by
      have := sumR_z (f := fun i => b2n (s ≤ i ∧ dr i = v + 1)) (a := 0) s (by omega) (fun q _ h2 => b2n_f (fun y => by omega))
      exact this
    rw [e0, Nat.zero_min, Nat.add_zero, Nat.sub_zero] at hsh
    have e1' : f + cT dep U (v + 1) 0 = f := rfl
    rw [e1'] at ht
    generalize hX : g + min (cS dr s (v + 1) K) (f + cT dep U (v + 1) n) = X at *
    generalize hY : f + cT dep U (v + 1) n - min (cS dr s (v + 1) K) (f + cT dep U (v + 1) n) = Y at *
    have hF : f + cT dep U (v + 1) n ≤ 40 := by omega
    generalize f + cT dep U (v + 1) n = F at ht hsh hF
    rw [al_15041]
    simp (disch := (first | omega | exact aCat_8 (by with_unfolding_all rfl) | exact rk_lt (by with_unfolding_all rfl) | exact aCat_16 (by with_unfolding_all rfl) | exact rk_eq (by with_unfolding_all rfl) | assumption | exact b2n_lt _ | exact id_b (by with_unfolding_all rfl) | (simp (disch := omega) only [u2_same, u2_ab, u2_aq]; done) | (simp (disch := omega) only [u2_same, u2_ab, u2_aq]; omega) | fail)) only [al_15040, wk_0, wp_istore_3, wp_istore_4, wk_9, wp_istore_5, wp_jsr, wp_iload_5, wk_1, wn_lt_t, wn_lt_f, wp_istore_6, wp_iload_6, wp_aloadr_0, wp_aloadk_0, hg_73_4, wn_ge_t, wn_ge_f, wp_iload_4, hg_73_1, ha_75l, ha_75s, wn_ne_t, wn_ne_f, wp_iload_2, wp_i2l, wc_161, t_161, wp_isub, wp_goto, al_15043, al_15044, wp_iadd, wp_iinc_6_1, al_15045, wp_iload_1, hg_73_3, hg_73_0, ha_74l, ha_74s, wz_le_t, wz_le_f, wm_le_1, wm_le_2, wp_idec_4_1, wp_iinc_3_1, al_15047, al_15048, wp_idec_5_1, al_15049, wp_iload_3, wp_ireturn, nl_i, nl_r, nl_k, nl_j, nl_l, nI_add, pk_mul, pk_sub, tl_s, tl_n, aL_inl, u2_same, u2_ab, u2_aq, nI_l, lN_i, Nat.add_zero, Nat.zero_add, Nat.zero_le, true_and, and_true, b2n_10, b2n_T, b2n_F, b2n_0, Decidable.not_not, not_true_eq_false, not_false_eq_true, Nat.reduceAdd, Nat.reduceMul, Nat.reduceSub]
    rw [ht, al_15045]
    simp (disch := (first | omega | exact aCat_8 (by with_unfolding_all rfl) | exact rk_lt (by with_unfolding_all rfl) | exact aCat_16 (by with_unfolding_all rfl) | exact rk_eq (by with_unfolding_all rfl) | assumption | exact b2n_lt _ | exact id_b (by with_unfolding_all rfl) | (simp (disch := omega) only [u2_same, u2_ab, u2_aq]; done) | (simp (disch := omega) only [u2_same, u2_ab, u2_aq]; omega) | fail)) only [al_15040, wk_0, wp_istore_3, wp_istore_4, wk_9, wp_istore_5, wp_jsr, wp_iload_5, wk_1, wn_lt_t, wn_lt_f, wp_istore_6, wp_iload_6, wp_aloadr_0, wp_aloadk_0, hg_73_4, wn_ge_t, wn_ge_f, wp_iload_4, hg_73_1, ha_75l, ha_75s, wn_ne_t, wn_ne_f, wp_iload_2, wp_i2l, wc_161, t_161, wp_isub, wp_goto, al_15043, al_15044, wp_iadd, wp_iinc_6_1, al_15045, wp_iload_1, hg_73_3, hg_73_0, ha_74l, ha_74s, wz_le_t, wz_le_f, wm_le_1, wm_le_2, wp_idec_4_1, wp_iinc_3_1, al_15047, al_15048, wp_idec_5_1, al_15049, wp_iload_3, wp_ireturn, nl_i, nl_r, nl_k, nl_j, nl_l, nI_add, pk_mul, pk_sub, tl_s, tl_n, aL_inl, u2_same, u2_ab, u2_aq, nI_l, lN_i, Nat.add_zero, Nat.zero_add, Nat.zero_le, true_and, and_true, b2n_10, b2n_T, b2n_F, b2n_0, Decidable.not_not, not_true_eq_false, not_false_eq_true, Nat.reduceAdd, Nat.reduceMul, Nat.reduceSub]
    rw [hsh, al_15048]
    simp (disch := (first | omega | exact aCat_8 (by with_unfolding_all rfl) | exact rk_lt (by with_unfolding_all rfl) | exact aCat_16 (by with_unfolding_all rfl) | exact rk_eq (by with_unfolding_all rfl) | assumption | exact b2n_lt _ | exact id_b (by with_unfolding_all rfl) | (simp (disch := omega) only [u2_same, u2_ab, u2_aq]; done) | (simp (disch := omega) only [u2_same, u2_ab, u2_aq]; omega) | fail)) only [al_15040, wk_0, wp_istore_3, wp_istore_4, wk_9, wp_istore_5, wp_jsr, wp_iload_5, wk_1, wn_lt_t, wn_lt_f, wp_istore_6, wp_iload_6, wp_aloadr_0, wp_aloadk_0, hg_73_4, wn_ge_t, wn_ge_f, wp_iload_4, hg_73_1, ha_75l, ha_75s, wn_ne_t, wn_ne_f, wp_iload_2, wp_i2l, wc_161, t_161, wp_isub, wp_goto, al_15043, al_15044, wp_iadd, wp_iinc_6_1, al_15045, wp_iload_1, hg_73_3, hg_73_0, ha_74l, ha_74s, wz_le_t, wz_le_f, wm_le_1, wm_le_2, wp_idec_4_1, wp_iinc_3_1, al_15047, al_15048, wp_idec_5_1, al_15049, wp_iload_3, wp_ireturn, nl_i, nl_r, nl_k, nl_j, nl_l, nI_add, pk_mul, pk_sub, tl_s, tl_n, aL_inl, u2_same, u2_ab, u2_aq, nI_l, lN_i, Nat.add_zero, Nat.zero_add, Nat.zero_le, true_and, and_true, b2n_10, b2n_T, b2n_F, b2n_0, Decidable.not_not, not_true_eq_false, not_false_eq_true, Nat.reduceAdd, Nat.reduceMul, Nat.reduceSub, Nat.add_sub_cancel]
    exact hx _
theorem t_235 {dep dr : Nat → Nat} {n K s : Nat} {U : Nat → Bool} {z : Int32} (hb : hbO N dep dr n K) (hz : tkO z U) (hs : s ≤ 8) : aMm ko d 235 [.ref 73, .int (nI s), .int z] (hp D N I J x) Q = Q (some (.int (nI (gM dep dr n K s U)))) (hp D N I J x) := by
  have a10 : avS dep n U (9 + 1) = 0 := av_10 (dep := dep) (n := n) (U := U) (fun q hq => (hb.2.2.2.2.2 q hq).2)
  have hx := l_235 (ko := ko) (d := d) (D := D) (N := N) (I := I) (J := J) (x := x) (Q := Q) hb hz hs 9 0 0 (.float 0) (by decide) (by omega) (by omega) (fun u u1 u2 => by
    have : u = 9 + 1 := by omega
    subst this
    omega) ⟨9 + 1, by omega, by omega, by omega⟩
  rw [me_235]
  simp (disch := (first | omega | exact aCat_8 (by with_unfolding_all rfl) | exact rk_lt (by with_unfolding_all rfl) | exact aCat_16 (by with_unfolding_all rfl) | exact rk_eq (by with_unfolding_all rfl) | assumption | exact b2n_lt _ | exact id_b (by with_unfolding_all rfl) | (simp (disch := omega) only [u2_same, u2_ab, u2_aq]; done) | (simp (disch := omega) only [u2_same, u2_ab, u2_aq]; omega) | fail)) only [al_15040, wk_0, wp_istore_3, wp_istore_4, wk_9, wp_istore_5, wp_jsr, wp_iload_5, wk_1, wn_lt_t, wn_lt_f, wp_istore_6, wp_iload_6, wp_aloadr_0, wp_aloadk_0, hg_73_4, wn_ge_t, wn_ge_f, wp_iload_4, hg_73_1, ha_75l, ha_75s, wn_ne_t, wn_ne_f, wp_iload_2, wp_i2l, wc_161, t_161, wp_isub, wp_goto, al_15043, al_15044, wp_iadd, wp_iinc_6_1, al_15045, wp_iload_1, hg_73_3, hg_73_0, ha_74l, ha_74s, wz_le_t, wz_le_f, wm_le_1, wm_le_2, wp_idec_4_1, wp_iinc_3_1, al_15047, al_15048, wp_idec_5_1, al_15049, wp_iload_3, wp_ireturn, nl_i, nl_r, nl_k, nl_j, nl_l, nI_add, pk_mul, pk_sub, tl_s, tl_n, aL_inl, u2_same, u2_ab, u2_aq, nI_l, lN_i, Nat.add_zero, Nat.zero_add, Nat.zero_le, true_and, and_true, b2n_10, b2n_T, b2n_F, b2n_0, Decidable.not_not, not_true_eq_false, not_false_eq_true, Nat.reduceAdd, Nat.reduceMul, Nat.reduceSub]
  exact hx
end HA
