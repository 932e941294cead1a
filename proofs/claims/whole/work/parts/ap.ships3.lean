/-! timetable: the class plans. From wip/whole/src. -/
theorem srB_f {p : Nat → Bool} {q : Nat} (hq : p q = true) (h : ∀ i, i < q → p i = false) : ∀ n, q < n → srB p n = some q
  | 0, hn => absurd hn (Nat.not_lt_zero q)
  | n + 1, hn => by
    rw [srB]
    by_cases z : q = n
    · subst z
      cases hs : srB p q with
      | some k =>
        obtain ⟨a, b, _⟩ := srB_s q hs
        rw [h k a] at b
        cases b
      | none => exact if_pos hq
    · rw [srB_f hq h n (by omega)]
theorem srB_0 {p : Nat → Bool} : ∀ n, (∀ i, i < n → p i = false) → srB p n = none
  | 0, _ => rfl
  | n + 1, h => by
    rw [srB, srB_0 n (fun i hi => h i (by omega))]
    exact if_neg (by rw [h n (by omega)]; decide)
theorem gM_s {dep dr : Nat → Nat} {n K s : Nat} {U : Nat → Bool} (hs : s < K) : gM dep dr n K (s + 1) U ≤ gM dep dr n K s U := by
  obtain ⟨v1, hv1, e1⟩ := mnR_ex (f := fun v => avS dep n U v + bvS dr K s v) 10
  have e1 : gM dep dr n K s U = avS dep n U v1 + bvS dr K s v1 := e1
  have hL' : gM dep dr n K (s + 1) U ≤ avS dep n U v1 + bvS dr K (s + 1) v1 := mnR_le (f := fun v => avS dep n U v + bvS dr K (s + 1) v) 10 hv1
  have := bv_s (dr := dr) (v := v1) hs
  omega
theorem tk_up {z : Int32} {U : Nat → Bool} {q : Nat} (hq : q < 20) (h : tkO z U) : tkO (z ||| nI 1 <<< (nI q &&& 31)) (upB U q) := by
  intro i hi
  rw [b_or, h i hi, b_shl q (by omega) _ (by omega)]
  unfold upB
  congr 1
  have : ∀ m, m < 20 → bt (nI 1) m = decide (m = 0) := by decide +kernel
  by_cases z1 : q ≤ i
  · rw [this (i - q) (by omega), decide_eq_true z1, Bool.true_and]
    by_cases y : i = q
    · rw [decide_eq_true y, decide_eq_true (by omega)]
    · rw [decide_eq_false y, decide_eq_false (by omega)]
  · rw [decide_eq_false z1, decide_eq_false (by omega), Bool.false_and]
section HB
variable {ko : aKo} {d k : Nat} {is : List Instr} {ls st : List Value} {σ : aH} {D : Nat → Nat} {N : Nat → Nat → Nat} {I : Nat → Nat → Int32} {J : Nat → Nat → Int64} {x t : Nat} {Q : Option Value → aH → Prop} {P : (Option Value ⊕ Unit) → aH → Prop}
theorem l_236 {dep dr : Nat → Nat} {n K s : Nat} {U : Nat → Bool} {z : Int32} (hb : hbO N dep dr n K) (hz : tkO z U) (hs : s < K) (hne : ¬ gM dep dr n K (s + 1) U = gM dep dr n K s U) :
    ∀ (j q : Nat) (w : Value), q + j = n → (∀ p, p < q → (!U p && (decide (dr s ≤ dep p) && decide (gM dep dr n K (s + 1) (upB U p) + 1 = gM dep dr n K s U))) = false) → aWp ko d 236 (aP.1 (Int.toNat 15106)) [.ref 73, .int (nI s), .int z, .int (nI (gM dep dr n K s U)), .int (nI q), w] [] (hp D N I J x) (aL Q) = Q (some (.int (oI (plO dep dr n K s U)))) (hp D N I J x) := by
  obtain ⟨h3, h4, hK, hn, h74, h75⟩ := id hb
  have hgs := gM_s (dep := dep) (dr := dr) (n := n) (U := U) hs
  have hgK := gM_le (dr := dr) (K := K) (s := s) (U := U) (fun q hq => (h75 q hq).2)
  obtain ⟨es, e2, e3⟩ := h74 s hs
  intro j
  induction j with
  | zero =>
    intro q w hq hno
    have e : q = n := by omega
    subst e
    have ep : plO dep dr q K s U = none := by
      unfold plO
      rw [if_neg hne]
      exact srB_0 q hno
    rw [ep, al_15106]
    simp (disch := (first | omega | exact aCat_8 (by with_unfolding_all rfl) | exact rk_lt (by with_unfolding_all rfl) | exact aCat_16 (by with_unfolding_all rfl) | exact rk_eq (by with_unfolding_all rfl) | assumption | exact b2n_lt _ | exact id_b (by with_unfolding_all rfl) | (simp (disch := omega) only [u2_same, u2_ab, u2_aq]; done) | (simp (disch := omega) only [u2_same, u2_ab, u2_aq]; omega) | fail)) only [al_15104, wp_aloadr_0, wp_aloadk_0, wp_iload_1, wk_1, wp_iadd, wp_iload_2, wc_235, wp_iload_3, wn_ne_t, wn_ne_f, wk_m1, wp_ireturn, al_15105, wk_0, wp_istore_4, wp_jsr, wp_iload_4, hg_73_4, wn_ge_t, wn_ge_f, wp_i2l, wc_161, t_161, wz_ne_t, wz_ne_f, wb_ne_t, wb_ne_f, wm_ne_1, wm_ne_2, hg_73_1, ha_75l, ha_75s, hg_73_0, ha_74l, ha_74s, wn_lt_t, wn_lt_f, wp_goto, al_15107, al_15108, wp_istore_5, wp_iload_5, wz_eq_t, wz_eq_f, wb_eq_t, wb_eq_f, wm_eq_1, wm_eq_2, wp_ishl, wp_ior, wp_isub, al_15109, wp_iinc_4_1, al_15110, nl_i, nl_r, nl_k, nl_j, nl_l, nI_add, pk_mul, pk_sub, tl_s, tl_n, aL_inl, u2_same, u2_ab, u2_aq, nI_l, lN_i, Nat.add_zero, Nat.zero_add, Nat.zero_le, true_and, and_true, b2n_10, b2n_T, b2n_F, b2n_0, Decidable.not_not, not_true_eq_false, not_false_eq_true, Nat.reduceAdd, Nat.reduceMul, Nat.reduceSub, h4, oI_n]
  | succ j ih =>
    intro q w hq hno
    obtain ⟨eq, eq9⟩ := h75 q (by omega)
    have eb : tb z.toInt64 q = U q := (tb_64 (by omega)).trans (hz q (by omega))
    rw [al_15106]
    cases hu : U q with
    | true =>
      rw [hu] at eb
      have ih1 := fun w => ih (q + 1) w (by omega) (fun p hp1 => by
        by_cases y : p = q
        · subst y
          rw [hu]
          rfl
        · exact hno p (by omega))
      simp (disch := (first | omega | exact aCat_8 (by with_unfolding_all rfl) | exact rk_lt (by with_unfolding_all rfl) | exact aCat_16 (by with_unfolding_all rfl) | exact rk_eq (by with_unfolding_all rfl) | assumption | exact b2n_lt _ | exact id_b (by with_unfolding_all rfl) | (simp (disch := omega) only [u2_same, u2_ab, u2_aq]; done) | (simp (disch := omega) only [u2_same, u2_ab, u2_aq]; omega) | fail)) only [al_15104, wp_aloadr_0, wp_aloadk_0, wp_iload_1, wk_1, wp_iadd, wp_iload_2, wc_235, wp_iload_3, wn_ne_t, wn_ne_f, wk_m1, wp_ireturn, al_15105, wk_0, wp_istore_4, wp_jsr, wp_iload_4, hg_73_4, wn_ge_t, wn_ge_f, wp_i2l, wc_161, t_161, wz_ne_t, wz_ne_f, wb_ne_t, wb_ne_f, wm_ne_1, wm_ne_2, hg_73_1, ha_75l, ha_75s, hg_73_0, ha_74l, ha_74s, wn_lt_t, wn_lt_f, wp_goto, al_15107, al_15108, wp_istore_5, wp_iload_5, wz_eq_t, wz_eq_f, wb_eq_t, wb_eq_f, wm_eq_1, wm_eq_2, wp_ishl, wp_ior, wp_isub, al_15109, wp_iinc_4_1, al_15110, nl_i, nl_r, nl_k, nl_j, nl_l, nI_add, pk_mul, pk_sub, tl_s, tl_n, aL_inl, u2_same, u2_ab, u2_aq, nI_l, lN_i, Nat.add_zero, Nat.zero_add, Nat.zero_le, true_and, and_true, b2n_10, b2n_T, b2n_F, b2n_0, Decidable.not_not, not_true_eq_false, not_false_eq_true, Nat.reduceAdd, Nat.reduceMul, Nat.reduceSub, h4, b2n_t eb]
      exact ih1 _
    | false =>
      have eb' : ¬ tb z.toInt64 q = true := by rw [eb, hu]; decide
      by_cases hd : dr s ≤ dep q
      · have hg2 := gM_le (dr := dr) (K := K) (s := s + 1) (U := upB U q) (fun q hq => (h75 q hq).2)
        have t235 := fun Q => t_235 (ko := ko) (d := d) (D := D) (I := I) (J := J) (x := x) (Q := Q) (s := s + 1) hb (tk_up (q := q) (by omega) hz) (by omega)
        by_cases hg : gM dep dr n K (s + 1) (upB U q) + 1 = gM dep dr n K s U
        · have ep : plO dep dr n K s U = some q := by
            unfold plO
            rw [if_neg hne]
            exact srB_f (by simp [hu, hd, hg]) hno n (by omega)
          have hg' : gM dep dr n K (s + 1) (upB U q) = gM dep dr n K s U - 1 := by omega
          rw [ep]
          rw [hg'] at t235
          generalize gM dep dr n K s U = L at *
          simp (disch := (first | omega | exact aCat_8 (by with_unfolding_all rfl) | exact rk_lt (by with_unfolding_all rfl) | exact aCat_16 (by with_unfolding_all rfl) | exact rk_eq (by with_unfolding_all rfl) | assumption | exact b2n_lt _ | exact id_b (by with_unfolding_all rfl) | (simp (disch := omega) only [u2_same, u2_ab, u2_aq]; done) | (simp (disch := omega) only [u2_same, u2_ab, u2_aq]; omega) | fail)) only [al_15104, wp_aloadr_0, wp_aloadk_0, wp_iload_1, wk_1, wp_iadd, wp_iload_2, wc_235, wp_iload_3, wn_ne_t, wn_ne_f, wk_m1, wp_ireturn, al_15105, wk_0, wp_istore_4, wp_jsr, wp_iload_4, hg_73_4, wn_ge_t, wn_ge_f, wp_i2l, wc_161, t_161, wz_ne_t, wz_ne_f, wb_ne_t, wb_ne_f, wm_ne_1, wm_ne_2, hg_73_1, ha_75l, ha_75s, hg_73_0, ha_74l, ha_74s, wn_lt_t, wn_lt_f, wp_goto, al_15107, al_15108, wp_istore_5, wp_iload_5, wz_eq_t, wz_eq_f, wb_eq_t, wb_eq_f, wm_eq_1, wm_eq_2, wp_ishl, wp_ior, wp_isub, al_15109, wp_iinc_4_1, al_15110, nl_i, nl_r, nl_k, nl_j, nl_l, nI_add, pk_mul, pk_sub, tl_s, tl_n, aL_inl, u2_same, u2_ab, u2_aq, nI_l, lN_i, Nat.add_zero, Nat.zero_add, Nat.zero_le, true_and, and_true, b2n_10, b2n_T, b2n_F, b2n_0, Decidable.not_not, not_true_eq_false, not_false_eq_true, Nat.reduceAdd, Nat.reduceMul, Nat.reduceSub, h4, b2n_f eb', eq, es, t235, oI_s]
        · have ih1 := fun w => ih (q + 1) w (by omega) (fun p hp1 => by
            by_cases y : p = q
            · subst y
              rw [decide_eq_false hg, Bool.and_false, Bool.and_false]
            · exact hno p (by omega))
          have hg' : ¬ gM dep dr n K (s + 1) (upB U q) = gM dep dr n K s U - 1 := by omega
          generalize gM dep dr n K (s + 1) (upB U q) = L2 at *
          simp (disch := (first | omega | exact aCat_8 (by with_unfolding_all rfl) | exact rk_lt (by with_unfolding_all rfl) | exact aCat_16 (by with_unfolding_all rfl) | exact rk_eq (by with_unfolding_all rfl) | assumption | exact b2n_lt _ | exact id_b (by with_unfolding_all rfl) | (simp (disch := omega) only [u2_same, u2_ab, u2_aq]; done) | (simp (disch := omega) only [u2_same, u2_ab, u2_aq]; omega) | fail)) only [al_15104, wp_aloadr_0, wp_aloadk_0, wp_iload_1, wk_1, wp_iadd, wp_iload_2, wc_235, wp_iload_3, wn_ne_t, wn_ne_f, wk_m1, wp_ireturn, al_15105, wk_0, wp_istore_4, wp_jsr, wp_iload_4, hg_73_4, wn_ge_t, wn_ge_f, wp_i2l, wc_161, t_161, wz_ne_t, wz_ne_f, wb_ne_t, wb_ne_f, wm_ne_1, wm_ne_2, hg_73_1, ha_75l, ha_75s, hg_73_0, ha_74l, ha_74s, wn_lt_t, wn_lt_f, wp_goto, al_15107, al_15108, wp_istore_5, wp_iload_5, wz_eq_t, wz_eq_f, wb_eq_t, wb_eq_f, wm_eq_1, wm_eq_2, wp_ishl, wp_ior, wp_isub, al_15109, wp_iinc_4_1, al_15110, nl_i, nl_r, nl_k, nl_j, nl_l, nI_add, pk_mul, pk_sub, tl_s, tl_n, aL_inl, u2_same, u2_ab, u2_aq, nI_l, lN_i, Nat.add_zero, Nat.zero_add, Nat.zero_le, true_and, and_true, b2n_10, b2n_T, b2n_F, b2n_0, Decidable.not_not, not_true_eq_false, not_false_eq_true, Nat.reduceAdd, Nat.reduceMul, Nat.reduceSub, h4, b2n_f eb', eq, es, t235]
          exact ih1 _
      · have ih1 := fun w => ih (q + 1) w (by omega) (fun p hp1 => by
          by_cases y : p = q
          · subst y
            rw [decide_eq_false hd, Bool.false_and, Bool.and_false]
          · exact hno p (by omega))
        simp (disch := (first | omega | exact aCat_8 (by with_unfolding_all rfl) | exact rk_lt (by with_unfolding_all rfl) | exact aCat_16 (by with_unfolding_all rfl) | exact rk_eq (by with_unfolding_all rfl) | assumption | exact b2n_lt _ | exact id_b (by with_unfolding_all rfl) | (simp (disch := omega) only [u2_same, u2_ab, u2_aq]; done) | (simp (disch := omega) only [u2_same, u2_ab, u2_aq]; omega) | fail)) only [al_15104, wp_aloadr_0, wp_aloadk_0, wp_iload_1, wk_1, wp_iadd, wp_iload_2, wc_235, wp_iload_3, wn_ne_t, wn_ne_f, wk_m1, wp_ireturn, al_15105, wk_0, wp_istore_4, wp_jsr, wp_iload_4, hg_73_4, wn_ge_t, wn_ge_f, wp_i2l, wc_161, t_161, wz_ne_t, wz_ne_f, wb_ne_t, wb_ne_f, wm_ne_1, wm_ne_2, hg_73_1, ha_75l, ha_75s, hg_73_0, ha_74l, ha_74s, wn_lt_t, wn_lt_f, wp_goto, al_15107, al_15108, wp_istore_5, wp_iload_5, wz_eq_t, wz_eq_f, wb_eq_t, wb_eq_f, wm_eq_1, wm_eq_2, wp_ishl, wp_ior, wp_isub, al_15109, wp_iinc_4_1, al_15110, nl_i, nl_r, nl_k, nl_j, nl_l, nI_add, pk_mul, pk_sub, tl_s, tl_n, aL_inl, u2_same, u2_ab, u2_aq, nI_l, lN_i, Nat.add_zero, Nat.zero_add, Nat.zero_le, true_and, and_true, b2n_10, b2n_T, b2n_F, b2n_0, Decidable.not_not, not_true_eq_false, not_false_eq_true, Nat.reduceAdd, Nat.reduceMul, Nat.reduceSub, h4, b2n_f eb', eq, es]
        exact ih1 _
theorem t_236 {dep dr : Nat → Nat} {n K s : Nat} {U : Nat → Bool} {z : Int32} (hb : hbO N dep dr n K) (hz : tkO z U) (hs : s < K) : aMm ko d 236 [.ref 73, .int (nI s), .int z, .int (nI (gM dep dr n K s U))] (hp D N I J x) Q = Q (some (.int (oI (plO dep dr n K s U)))) (hp D N I J x) := by
  have h75 := hb.2.2.2.2.2
  have hK := hb.2.2.1
  have hg1 := gM_le (dr := dr) (K := K) (s := s + 1) (U := U) (fun q hq => (h75 q hq).2)
  have hg2 := gM_le (dr := dr) (K := K) (s := s) (U := U) (fun q hq => (h75 q hq).2)
  have t235 := fun Q => t_235 (ko := ko) (d := d) (D := D) (I := I) (J := J) (x := x) (Q := Q) (s := s + 1) hb hz (by omega)
  rw [me_236]
  by_cases hne : gM dep dr n K (s + 1) U = gM dep dr n K s U
  · have ep : plO dep dr n K s U = none := by
      unfold plO
      rw [if_pos hne]
    rw [ep]
    simp (disch := (first | omega | exact aCat_8 (by with_unfolding_all rfl) | exact rk_lt (by with_unfolding_all rfl) | exact aCat_16 (by with_unfolding_all rfl) | exact rk_eq (by with_unfolding_all rfl) | assumption | exact b2n_lt _ | exact id_b (by with_unfolding_all rfl) | (simp (disch := omega) only [u2_same, u2_ab, u2_aq]; done) | (simp (disch := omega) only [u2_same, u2_ab, u2_aq]; omega) | fail)) only [al_15104, wp_aloadr_0, wp_aloadk_0, wp_iload_1, wk_1, wp_iadd, wp_iload_2, wc_235, wp_iload_3, wn_ne_t, wn_ne_f, wk_m1, wp_ireturn, al_15105, wk_0, wp_istore_4, wp_jsr, wp_iload_4, hg_73_4, wn_ge_t, wn_ge_f, wp_i2l, wc_161, t_161, wz_ne_t, wz_ne_f, wb_ne_t, wb_ne_f, wm_ne_1, wm_ne_2, hg_73_1, ha_75l, ha_75s, hg_73_0, ha_74l, ha_74s, wn_lt_t, wn_lt_f, wp_goto, al_15107, al_15108, wp_istore_5, wp_iload_5, wz_eq_t, wz_eq_f, wb_eq_t, wb_eq_f, wm_eq_1, wm_eq_2, wp_ishl, wp_ior, wp_isub, al_15109, wp_iinc_4_1, al_15110, nl_i, nl_r, nl_k, nl_j, nl_l, nI_add, pk_mul, pk_sub, tl_s, tl_n, aL_inl, u2_same, u2_ab, u2_aq, nI_l, lN_i, Nat.add_zero, Nat.zero_add, Nat.zero_le, true_and, and_true, b2n_10, b2n_T, b2n_F, b2n_0, Decidable.not_not, not_true_eq_false, not_false_eq_true, Nat.reduceAdd, Nat.reduceMul, Nat.reduceSub, t235, hne, oI_n]
  · have hx := fun w => l_236 (ko := ko) (d := d) (D := D) (I := I) (J := J) (x := x) (Q := Q) hb hz hs hne n 0 w (by omega) (fun p hp1 => absurd hp1 (Nat.not_lt_zero p))
    generalize gM dep dr n K (s + 1) U = L2 at *
    simp (disch := (first | omega | exact aCat_8 (by with_unfolding_all rfl) | exact rk_lt (by with_unfolding_all rfl) | exact aCat_16 (by with_unfolding_all rfl) | exact rk_eq (by with_unfolding_all rfl) | assumption | exact b2n_lt _ | exact id_b (by with_unfolding_all rfl) | (simp (disch := omega) only [u2_same, u2_ab, u2_aq]; done) | (simp (disch := omega) only [u2_same, u2_ab, u2_aq]; omega) | fail)) only [al_15104, wp_aloadr_0, wp_aloadk_0, wp_iload_1, wk_1, wp_iadd, wp_iload_2, wc_235, wp_iload_3, wn_ne_t, wn_ne_f, wk_m1, wp_ireturn, al_15105, wk_0, wp_istore_4, wp_jsr, wp_iload_4, hg_73_4, wn_ge_t, wn_ge_f, wp_i2l, wc_161, t_161, wz_ne_t, wz_ne_f, wb_ne_t, wb_ne_f, wm_ne_1, wm_ne_2, hg_73_1, ha_75l, ha_75s, hg_73_0, ha_74l, ha_74s, wn_lt_t, wn_lt_f, wp_goto, al_15107, al_15108, wp_istore_5, wp_iload_5, wz_eq_t, wz_eq_f, wb_eq_t, wb_eq_f, wm_eq_1, wm_eq_2, wp_ishl, wp_ior, wp_isub, al_15109, wp_iinc_4_1, al_15110, nl_i, nl_r, nl_k, nl_j, nl_l, nI_add, pk_mul, pk_sub, tl_s, tl_n, aL_inl, u2_same, u2_ab, u2_aq, nI_l, lN_i, Nat.add_zero, Nat.zero_add, Nat.zero_le, true_and, and_true, b2n_10, b2n_T, b2n_F, b2n_0, Decidable.not_not, not_true_eq_false, not_false_eq_true, Nat.reduceAdd, Nat.reduceMul, Nat.reduceSub, t235]
    exact hx _
/-- what the ships are told -/
def shF (dep dr : Nat → Nat) (n K : Nat) (i : Nat) : Int64 := (oI (plO dep dr n K i (plU dep dr n K i))).toInt64
theorem hb_3 {N' : Nat → Nat → Nat} {dep dr : Nat → Nat} {n K : Nat} (hb : hbO N dep dr n K) (h : ∀ b q, b ≠ 3 → N' b q = N b q) : hbO N' dep dr n K := by
  obtain ⟨h3, h4, hK, hn, h74, h75⟩ := hb
  exact ⟨(h 73 3 (by decide)).trans h3, (h 73 4 (by decide)).trans h4, hK, hn, fun i hi => ⟨(h 74 i (by decide)).trans (h74 i hi).1, (h74 i hi).2⟩, fun q hq => ⟨(h 75 q (by decide)).trans (h75 q hq).1, (h75 q hq).2⟩⟩
theorem l_234 {N0 : Nat → Nat → Nat} {J0 : Nat → Nat → Int64} {dep dr : Nat → Nat} {n K : Nat} (hb : hbO N0 dep dr n K)
    (hQ : ∀ (N : Nat → Nat → Nat) (J : Nat → Nat → Int64), (∀ b q, b ≠ 3 → N b q = N0 b q) → (∀ b q, b ≠ 4 → J b q = J0 b q) → tdC N J K (shF dep dr n K) → Q (some (.int (nI (gM dep dr n K 0 (plU dep dr n K 0))))) (hp D N I J x)) :
    ∀ (j i : Nat) (N : Nat → Nat → Nat) (J : Nat → Nat → Int64) (z : Int32) (w : Value), i + j = K → (∀ b q, b ≠ 3 → N b q = N0 b q) → (∀ b q, b ≠ 4 → J b q = J0 b q) → tdC N J i (shF dep dr n K) → tkO z (plU dep dr n K i) → aWp ko d 234 (aP.1 (Int.toNat 14977)) [.ref 73, .ref 3, .int (nI (gM dep dr n K 0 (plU dep dr n K 0))), .int (nI (gM dep dr n K i (plU dep dr n K i))), .int z, .int (nI i), w] [] (hp D N I J x) (aL Q) := by
  obtain ⟨_, _, hK, hn, h74, h75⟩ := id hb
  have hg := fun s U => gM_le (dep := dep) (dr := dr) (n := n) (K := K) (s := s) (U := U) (fun q hq => (h75 q hq).2)
  intro j
  induction j with
  | zero =>
    intro i N J z w hi hN hJ ht hz
    have e : i = K := by omega
    subst e
    have e3 := (hb_3 hb hN).1
    have hx := hQ N J hN hJ ht
    have g0 := hg 0 (plU dep dr n i 0)
    generalize gM dep dr n i 0 (plU dep dr n i 0) = G at *
    rw [al_14977]
    simp (disch := (first | omega | exact aCat_8 (by with_unfolding_all rfl) | exact rk_lt (by with_unfolding_all rfl) | exact aCat_16 (by with_unfolding_all rfl) | exact rk_eq (by with_unfolding_all rfl) | assumption | exact b2n_lt _ | exact id_b (by with_unfolding_all rfl) | (simp (disch := omega) only [u2_same, u2_ab, u2_aq]; done) | (simp (disch := omega) only [u2_same, u2_ab, u2_aq]; omega) | fail)) only [al_14976, wp_aloadr_0, wp_aloadk_0, wk_0, wc_235, wp_istore_2, wp_iload_2, wp_istore_3, wp_istore_4, wp_aloadr_1, wp_aloadk_1, wc_292, t_292, wp_istore_5, wp_jsr, wp_iload_5, hg_73_3, wn_ge_t, wn_ge_f, wp_iload_4, wp_iload_3, wc_236, wp_istore_6, wp_iload_6, wp_i2l, wc_293, t_293, wk_m1, wn_eq_t, wn_eq_f, wk_1, wp_ishl, wp_ior, wp_idec_3_1, al_14978, wp_iinc_5_1, wp_goto, al_14979, wp_ireturn, nl_i, nl_r, nl_k, nl_j, nl_l, nI_add, pk_mul, pk_sub, tl_s, tl_n, aL_inl, u2_same, u2_ab, u2_aq, nI_l, lN_i, Nat.add_zero, Nat.zero_add, Nat.zero_le, true_and, and_true, b2n_10, b2n_T, b2n_F, b2n_0, Decidable.not_not, not_true_eq_false, not_false_eq_true, Nat.reduceAdd, Nat.reduceMul, Nat.reduceSub, e3]
    exact hx
  | succ j ih =>
    intro i N J z w hi hN hJ ht hz
    have hb' := hb_3 hb hN
    have e3 := hb'.1
    have e1 := ht.1
    have g0 := hg 0 (plU dep dr n K 0)
    have g1 := hg i (plU dep dr n K i)
    have g2 := hg (i + 1) (plU dep dr n K (i + 1))
    have t236 := fun Q => t_236 (ko := ko) (d := d) (D := D) (I := I) (J := J) (x := x) (Q := Q) (s := i) hb' hz (by omega)
    have hih := fun z w hz => ih (i + 1) (u2 N 3 1 (i + 1)) (u2 J 4 i (shF dep dr n K i)) z w (by omega) (fun b q y => by rw [u2_ab y]; exact hN b q y) (fun b q y => by rw [u2_ab y]; exact hJ b q y) ⟨by rw [u2_same], fun q hq => by
      rw [u2_rd]
      split
      · rename_i y
        rw [y.2]
      · rename_i y
        exact ht.2 q (by
          have : q ≠ i := fun w => y ⟨rfl, w⟩
          omega)⟩ hz
    unfold shF at hih
    generalize gM dep dr n K 0 (plU dep dr n K 0) = G at *
    rw [al_14977]
    cases hp1 : plO dep dr n K i (plU dep dr n K i) with
    | none =>
      have eU : plU dep dr n K (i + 1) = plU dep dr n K i := by
        rw [plU, hp1]
        rfl
      have eg := pl_n (by omega) (h74 i (by omega)).2.2 hp1
      rw [hp1] at t236 hih
      rw [eU, eg] at hih
      generalize gM dep dr n K i (plU dep dr n K i) = L at *
      rw [oI_n] at t236 hih
      simp (disch := (first | omega | exact aCat_8 (by with_unfolding_all rfl) | exact rk_lt (by with_unfolding_all rfl) | exact aCat_16 (by with_unfolding_all rfl) | exact rk_eq (by with_unfolding_all rfl) | assumption | exact b2n_lt _ | exact id_b (by with_unfolding_all rfl) | (simp (disch := omega) only [u2_same, u2_ab, u2_aq]; done) | (simp (disch := omega) only [u2_same, u2_ab, u2_aq]; omega) | fail)) only [al_14976, wp_aloadr_0, wp_aloadk_0, wk_0, wc_235, wp_istore_2, wp_iload_2, wp_istore_3, wp_istore_4, wp_aloadr_1, wp_aloadk_1, wc_292, t_292, wp_istore_5, wp_jsr, wp_iload_5, hg_73_3, wn_ge_t, wn_ge_f, wp_iload_4, wp_iload_3, wc_236, wp_istore_6, wp_iload_6, wp_i2l, wc_293, t_293, wk_m1, wn_eq_t, wn_eq_f, wk_1, wp_ishl, wp_ior, wp_idec_3_1, al_14978, wp_iinc_5_1, wp_goto, al_14979, wp_ireturn, nl_i, nl_r, nl_k, nl_j, nl_l, nI_add, pk_mul, pk_sub, tl_s, tl_n, aL_inl, u2_same, u2_ab, u2_aq, nI_l, lN_i, Nat.add_zero, Nat.zero_add, Nat.zero_le, true_and, and_true, b2n_10, b2n_T, b2n_F, b2n_0, Decidable.not_not, not_true_eq_false, not_false_eq_true, Nat.reduceAdd, Nat.reduceMul, Nat.reduceSub, e3, t236, e1, qe_n1, qe_m1, qn_n1, qn_m1, qe_n2, qe_m2, qn_n2, qn_m2]
      exact hih _ _ hz
    | some p =>
      have eU : plU dep dr n K (i + 1) = upB (plU dep dr n K i) p := by
        rw [plU, hp1]
        rfl
      obtain ⟨_, a1, a2, a3, a4, _⟩ := pl_s hp1
      rw [hp1] at t236 hih
      have a4' : gM dep dr n K (i + 1) (upB (plU dep dr n K i) p) = gM dep dr n K i (plU dep dr n K i) - 1 := by omega
      rw [eU, a4'] at hih
      have hih' := fun w => hih _ w (tk_up (by omega) hz)
      generalize gM dep dr n K i (plU dep dr n K i) = L at *
      rw [oI_s] at t236 hih'
      rw [nI_l (show p < 2147483648 by omega)] at hih'
      simp (disch := (first | omega | exact aCat_8 (by with_unfolding_all rfl) | exact rk_lt (by with_unfolding_all rfl) | exact aCat_16 (by with_unfolding_all rfl) | exact rk_eq (by with_unfolding_all rfl) | assumption | exact b2n_lt _ | exact id_b (by with_unfolding_all rfl) | (simp (disch := omega) only [u2_same, u2_ab, u2_aq]; done) | (simp (disch := omega) only [u2_same, u2_ab, u2_aq]; omega) | fail)) only [al_14976, wp_aloadr_0, wp_aloadk_0, wk_0, wc_235, wp_istore_2, wp_iload_2, wp_istore_3, wp_istore_4, wp_aloadr_1, wp_aloadk_1, wc_292, t_292, wp_istore_5, wp_jsr, wp_iload_5, hg_73_3, wn_ge_t, wn_ge_f, wp_iload_4, wp_iload_3, wc_236, wp_istore_6, wp_iload_6, wp_i2l, wc_293, t_293, wk_m1, wn_eq_t, wn_eq_f, wk_1, wp_ishl, wp_ior, wp_idec_3_1, al_14978, wp_iinc_5_1, wp_goto, al_14979, wp_ireturn, nl_i, nl_r, nl_k, nl_j, nl_l, nI_add, pk_mul, pk_sub, tl_s, tl_n, aL_inl, u2_same, u2_ab, u2_aq, nI_l, lN_i, Nat.add_zero, Nat.zero_add, Nat.zero_le, true_and, and_true, b2n_10, b2n_T, b2n_F, b2n_0, Decidable.not_not, not_true_eq_false, not_false_eq_true, Nat.reduceAdd, Nat.reduceMul, Nat.reduceSub, e3, t236, e1, qe_n1, qe_m1, qn_n1, qn_m1, qe_n2, qe_m2, qn_n2, qn_m2]
      exact hih' _
theorem t_234 {dep dr : Nat → Nat} {n K : Nat} (hb : hbO N dep dr n K)
    (hQ : ∀ (N' : Nat → Nat → Nat) (J' : Nat → Nat → Int64), (∀ b q, b ≠ 3 → N' b q = N b q) → (∀ b q, b ≠ 4 → J' b q = J b q) → tdC N' J' K (shF dep dr n K) → Q (some (.int (nI (gM dep dr n K 0 (plU dep dr n K 0))))) (hp D N' I J' x)) : aMm ko d 234 [.ref 73, .ref 3] (hp D N I J x) Q := by
  have h75 := hb.2.2.2.2.2
  have hg := gM_le (dr := dr) (K := K) (s := 0) (U := plU dep dr n K 0) (fun q hq => (h75 q hq).2)
  have hK := hb.2.2.1
  have hz : tkO (nI 0) (plU dep dr n K 0) := fun q hq => by
    have : ∀ q, q < 20 → bt (nI 0) q = false := by decide +kernel
    exact this q hq
  have t235 := fun Q => t_235 (ko := ko) (d := d) (D := D) (I := I) (J := J) (x := x) (Q := Q) (s := 0) hb hz (by omega)
  have hx := fun w => l_234 (ko := ko) (d := d) (D := D) (I := I) (x := x) (Q := Q) (N0 := N) (J0 := J) hb hQ K 0 (u2 N 3 1 0) J (nI 0) w (by omega) (fun b q y => u2_ab y) (fun _ _ _ => rfl) ⟨u2_same _ _ _ _, fun q hq => absurd hq (Nat.not_lt_zero q)⟩ hz
  generalize gM dep dr n K 0 (plU dep dr n K 0) = G at *
  rw [me_234]
  simp (disch := (first | omega | exact aCat_8 (by with_unfolding_all rfl) | exact rk_lt (by with_unfolding_all rfl) | exact aCat_16 (by with_unfolding_all rfl) | exact rk_eq (by with_unfolding_all rfl) | assumption | exact b2n_lt _ | exact id_b (by with_unfolding_all rfl) | (simp (disch := omega) only [u2_same, u2_ab, u2_aq]; done) | (simp (disch := omega) only [u2_same, u2_ab, u2_aq]; omega) | fail)) only [al_14976, wp_aloadr_0, wp_aloadk_0, wk_0, wc_235, wp_istore_2, wp_iload_2, wp_istore_3, wp_istore_4, wp_aloadr_1, wp_aloadk_1, wc_292, t_292, wp_istore_5, wp_jsr, wp_iload_5, hg_73_3, wn_ge_t, wn_ge_f, wp_iload_4, wp_iload_3, wc_236, wp_istore_6, wp_iload_6, wp_i2l, wc_293, t_293, wk_m1, wn_eq_t, wn_eq_f, wk_1, wp_ishl, wp_ior, wp_idec_3_1, al_14978, wp_iinc_5_1, wp_goto, al_14979, wp_ireturn, nl_i, nl_r, nl_k, nl_j, nl_l, nI_add, pk_mul, pk_sub, tl_s, tl_n, aL_inl, u2_same, u2_ab, u2_aq, nI_l, lN_i, Nat.add_zero, Nat.zero_add, Nat.zero_le, true_and, and_true, b2n_10, b2n_T, b2n_F, b2n_0, Decidable.not_not, not_true_eq_false, not_false_eq_true, Nat.reduceAdd, Nat.reduceMul, Nat.reduceSub, t235]
  exact hx _
end HB
