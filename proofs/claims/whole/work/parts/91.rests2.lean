/-! rests: the pair. From wip/whole/src. -/
def rst (v m : Nat) : Bool := ctn v (m / 10) (m % 10) 10 && ctn v (m % 10) (m / 10) 10
def rcnt (v : Nat) : Nat → Nat
  | 0 => 0
  | m + 1 => rcnt v m + b2n (rst v m = true)
def rfst (v : Nat) : Nat → Option Nat
  | 0 => none
  | m + 1 => match rfst v m with
    | some a => some a
    | none => if rst v m = true then some m else none
def rNo (o : Option Nat) : Nat := match o with
  | none => 0
  | some _ => 2
def rJo (o : Option Nat) : Nat → Int64 := match o with
  | none => fun _ => lN 0
  | some a => fun i => if i = 0 then lN (a / 10) else lN (a % 10)
theorem rc_le {v : Nat} : ∀ m, rcnt v m ≤ m
  | 0 => Nat.le_refl _
  | m + 1 => by
    have := rc_le (v := v) m
    have := b2n_le (rst v m = true)
    rw [rcnt]
    omega
theorem rc_f {v m : Nat} (h : ¬ rst v m = true) : rcnt v (m + 1) = rcnt v m ∧ rfst v (m + 1) = rfst v m := by
  refine ⟨by rw [rcnt, b2n_f h, Nat.add_zero], ?_⟩
  rw [rfst]
  cases rfst v m with
  | none => exact if_neg h
  | some a => rfl
theorem rc_0 {v : Nat} : ∀ m, (rcnt v m = 0 ↔ rfst v m = none)
  | 0 => ⟨fun _ => rfl, fun _ => rfl⟩
  | m + 1 => by
    have ih := rc_0 (v := v) m
    by_cases h : rst v m = true
    · rw [rcnt, b2n_t h, rfst]
      cases hq : rfst v m with
      | none =>
        show _ ↔ (if rst v m = true then some m else none) = none
        rw [if_pos h]
        exact ⟨fun z => by omega, fun z => by cases z⟩
      | some a =>
        show _ ↔ some a = none
        exact ⟨fun z => by omega, fun z => by cases z⟩
    · rw [(rc_f h).1, (rc_f h).2]
      exact ih
theorem rc_t0 {v m : Nat} (h : rst v m = true) (h0 : rcnt v m = 0) : rcnt v (m + 1) = 1 ∧ rfst v (m + 1) = some m := by
  refine ⟨by rw [rcnt, b2n_t h, h0], ?_⟩
  rw [rfst, (rc_0 m).mp h0]
  exact if_pos h
theorem rc_t1 {v m : Nat} (h : rst v m = true) (h0 : ¬ rcnt v m = 0) : rcnt v (m + 1) = rcnt v m + 1 ∧ rfst v (m + 1) = rfst v m := by
  refine ⟨by rw [rcnt, b2n_t h], ?_⟩
  cases hq : rfst v m with
  | none => exact absurd ((rc_0 m).mpr hq) h0
  | some a => rw [rfst, hq]
theorem rst_pq {v p q : Nat} (hq : q ≤ 9) : rst v (10 * p + q) = (ctn v p q 10 && ctn v q p 10) := by
  unfold rst
  rw [show (10 * p + q) / 10 = p by omega, show (10 * p + q) % 10 = q by omega]
section R2
variable {ko : aKo} {d k : Nat} {is : List Instr} {ls st : List Value} {σ : aH} {D : Nat → Nat} {N : Nat → Nat → Nat} {I : Nat → Nat → Int32} {J : Nat → Nat → Int64} {x t : Nat} {Q : Option Value → aH → Prop} {P : (Option Value ⊕ Unit) → aH → Prop}
/-- what the class has told so far -/
def rsC (v m : Nat) (N0 N : Nat → Nat → Nat) (J0 J : Nat → Nat → Int64) : Prop := sN N N0 ∧ sJ J J0 ∧ tdC N J (rNo (rfst v m)) (rJo (rfst v m))
theorem l_215i {v p : Nat} {N0 : Nat → Nat → Nat} {J0 : Nat → Nat → Int64} (hv : v ≤ 20) (hp9 : p ≤ 9)
    (hK : ∀ (N : Nat → Nat → Nat) (J : Nat → Nat → Int64), rsC v (10 * (p + 1)) N0 N J0 J → aWp ko d 215 (aP.1 (Int.toNat 13763)) [.ref 0, .int (nI v), .int (nI (rcnt v (10 * (p + 1)))), .int (nI (p + 1)), .int (nI 10)] [] (hp D N I J x) (aL Q)) :
    ∀ (j q : Nat) (N : Nat → Nat → Nat) (J : Nat → Nat → Int64), q + j = 10 → rsC v (10 * p + q) N0 N J0 J → aWp ko d 215 (aP.1 (Int.toNat 13764)) [.ref 0, .int (nI v), .int (nI (rcnt v (10 * p + q))), .int (nI p), .int (nI q)] [] (hp D N I J x) (aL Q) := by
  intro j
  induction j with
  | zero =>
    intro q N J hq hC
    have e : q = 10 := by omega
    subst e
    have := hK N J hC
    simp (disch := (first | omega | exact aCat_8 (by with_unfolding_all rfl) | exact rk_lt (by with_unfolding_all rfl) | exact aCat_16 (by with_unfolding_all rfl) | exact rk_eq (by with_unfolding_all rfl) | assumption | exact b2n_lt _ | exact id_b (by with_unfolding_all rfl) | (simp (disch := omega) only [u2_same, u2_ab, u2_aq]; done) | (simp (disch := omega) only [u2_same, u2_ab, u2_aq]; omega) | fail)) only [al_13760, wp_iload_1, wz_lt_t, wz_lt_f, wm_lt_1, wm_lt_2, wk_20, wn_le_t, wn_le_f, wp_jsr, al_13761, wk_m1, wp_ireturn, al_13762, wp_aloadr_0, wp_aloadk_0, hg_0_1, wc_292, t_292, wk_0, wp_istore_2, wp_istore_3, wp_iload_3, wk_9, wn_gt_t, wn_gt_f, wp_istore_4, al_13764, wp_iload_4, wc_216, wz_eq_t, wz_eq_f, wb_eq_t, wb_eq_f, wm_eq_1, wm_eq_2, wz_ne_t, wz_ne_f, wb_ne_t, wb_ne_f, wm_ne_1, wm_ne_2, wp_goto, al_13765, wp_iinc_2_1, wp_iload_2, wk_1, wn_ne_t, wn_ne_f, wp_i2l, wc_293, t_293, al_13766, wp_iinc_4_1, al_13767, wp_iinc_3_1, al_13768, nl_i, nl_r, nl_k, nl_j, nl_l, nI_add, pk_mul, pk_sub, tl_s, tl_n, aL_inl, u2_same, u2_ab, u2_aq, nI_l, lN_i, Nat.add_zero, Nat.zero_add, Nat.zero_le, true_and, and_true, b2n_10, b2n_T, b2n_F, b2n_0, Decidable.not_not, not_true_eq_false, not_false_eq_true, Nat.reduceAdd, Nat.reduceMul, Nat.reduceSub]
    exact this
  | succ j ih =>
    intro q N J hq hC
    have hq9 : q ≤ 9 := by omega
    have hm := rc_le (v := v) (10 * p + q)
    have ih1 := fun N J => ih (q + 1) N J (by omega)
    rw [← Nat.add_assoc] at ih1
    have hr := rst_pq (v := v) (p := p) hq9
    rw [al_13764]
    by_cases h1 : ctn v p q 10 = true
    · by_cases h2 : ctn v q p 10 = true
      · have ht : rst v (10 * p + q) = true := by rw [hr, h1, h2]; rfl
        by_cases h0 : rcnt v (10 * p + q) = 0
        · obtain ⟨c1, c2⟩ := rc_t0 ht h0
          unfold rsC at ih1
          rw [c1, c2] at ih1
          have h31 : N 3 1 = 0 := by
            have := hC.2.2.1
            rw [(rc_0 _).mp h0] at this
            exact this
          simp (disch := (first | omega | exact aCat_8 (by with_unfolding_all rfl) | exact rk_lt (by with_unfolding_all rfl) | exact aCat_16 (by with_unfolding_all rfl) | exact rk_eq (by with_unfolding_all rfl) | assumption | exact b2n_lt _ | exact id_b (by with_unfolding_all rfl) | (simp (disch := omega) only [u2_same, u2_ab, u2_aq]; done) | (simp (disch := omega) only [u2_same, u2_ab, u2_aq]; omega) | fail)) only [al_13760, wp_iload_1, wz_lt_t, wz_lt_f, wm_lt_1, wm_lt_2, wk_20, wn_le_t, wn_le_f, wp_jsr, al_13761, wk_m1, wp_ireturn, al_13762, wp_aloadr_0, wp_aloadk_0, hg_0_1, wc_292, t_292, wk_0, wp_istore_2, wp_istore_3, wp_iload_3, wk_9, wn_gt_t, wn_gt_f, wp_istore_4, wp_iload_4, wc_216, wz_eq_t, wz_eq_f, wb_eq_t, wb_eq_f, wm_eq_1, wm_eq_2, wz_ne_t, wz_ne_f, wb_ne_t, wb_ne_f, wm_ne_1, wm_ne_2, wp_goto, al_13765, wp_iinc_2_1, wp_iload_2, wk_1, wn_ne_t, wn_ne_f, wp_i2l, wc_293, t_293, al_13766, wp_iinc_4_1, al_13767, wp_iinc_3_1, al_13768, nl_i, nl_r, nl_k, nl_j, nl_l, nI_add, pk_mul, pk_sub, tl_s, tl_n, aL_inl, u2_same, u2_ab, u2_aq, nI_l, lN_i, Nat.add_zero, Nat.zero_add, Nat.zero_le, true_and, and_true, b2n_10, b2n_T, b2n_F, b2n_0, Decidable.not_not, not_true_eq_false, not_false_eq_true, Nat.reduceAdd, Nat.reduceMul, Nat.reduceSub, t_216 hv hp9 hq9, t_216 hv hq9 hp9, b2n_t h1, b2n_t h2, h0, h31]
          refine ih1 _ _ ⟨sN_u (sN_u hC.1 rfl) rfl, sJ_u (sJ_u hC.2.1 rfl) rfl, ?_⟩
          refine ⟨by rw [u2_same]; rfl, fun i hi => ?_⟩
          show _ = if i = 0 then lN ((10 * p + q) / 10) else lN ((10 * p + q) % 10)
          rw [show (10 * p + q) / 10 = p by omega, show (10 * p + q) % 10 = q by omega]
          have hi2 : i < 2 := hi
          have : i = 0 ∨ i = 1 := by omega
          rcases this with rfl | rfl
          · rw [u2_aq (by decide), u2_same, if_pos rfl]
          · rw [u2_same, if_neg (by decide)]
        · obtain ⟨c1, c2⟩ := rc_t1 ht h0
          unfold rsC at ih1
          rw [c1, c2] at ih1
          have hn1 : ¬ rcnt v (10 * p + q) + 1 = 1 := by omega
          simp (disch := (first | omega | exact aCat_8 (by with_unfolding_all rfl) | exact rk_lt (by with_unfolding_all rfl) | exact aCat_16 (by with_unfolding_all rfl) | exact rk_eq (by with_unfolding_all rfl) | assumption | exact b2n_lt _ | exact id_b (by with_unfolding_all rfl) | (simp (disch := omega) only [u2_same, u2_ab, u2_aq]; done) | (simp (disch := omega) only [u2_same, u2_ab, u2_aq]; omega) | fail)) only [al_13760, wp_iload_1, wz_lt_t, wz_lt_f, wm_lt_1, wm_lt_2, wk_20, wn_le_t, wn_le_f, wp_jsr, al_13761, wk_m1, wp_ireturn, al_13762, wp_aloadr_0, wp_aloadk_0, hg_0_1, wc_292, t_292, wk_0, wp_istore_2, wp_istore_3, wp_iload_3, wk_9, wn_gt_t, wn_gt_f, wp_istore_4, wp_iload_4, wc_216, wz_eq_t, wz_eq_f, wb_eq_t, wb_eq_f, wm_eq_1, wm_eq_2, wz_ne_t, wz_ne_f, wb_ne_t, wb_ne_f, wm_ne_1, wm_ne_2, wp_goto, al_13765, wp_iinc_2_1, wp_iload_2, wk_1, wn_ne_t, wn_ne_f, wp_i2l, wc_293, t_293, al_13766, wp_iinc_4_1, al_13767, wp_iinc_3_1, al_13768, nl_i, nl_r, nl_k, nl_j, nl_l, nI_add, pk_mul, pk_sub, tl_s, tl_n, aL_inl, u2_same, u2_ab, u2_aq, nI_l, lN_i, Nat.add_zero, Nat.zero_add, Nat.zero_le, true_and, and_true, b2n_10, b2n_T, b2n_F, b2n_0, Decidable.not_not, not_true_eq_false, not_false_eq_true, Nat.reduceAdd, Nat.reduceMul, Nat.reduceSub, t_216 hv hp9 hq9, t_216 hv hq9 hp9, b2n_t h1, b2n_t h2]
          exact ih1 N J hC
      · have ht : ¬ rst v (10 * p + q) = true := by rw [hr]; simp [h2]
        obtain ⟨c1, c2⟩ := rc_f ht
        unfold rsC at ih1
        rw [c1, c2] at ih1
        simp (disch := (first | omega | exact aCat_8 (by with_unfolding_all rfl) | exact rk_lt (by with_unfolding_all rfl) | exact aCat_16 (by with_unfolding_all rfl) | exact rk_eq (by with_unfolding_all rfl) | assumption | exact b2n_lt _ | exact id_b (by with_unfolding_all rfl) | (simp (disch := omega) only [u2_same, u2_ab, u2_aq]; done) | (simp (disch := omega) only [u2_same, u2_ab, u2_aq]; omega) | fail)) only [al_13760, wp_iload_1, wz_lt_t, wz_lt_f, wm_lt_1, wm_lt_2, wk_20, wn_le_t, wn_le_f, wp_jsr, al_13761, wk_m1, wp_ireturn, al_13762, wp_aloadr_0, wp_aloadk_0, hg_0_1, wc_292, t_292, wk_0, wp_istore_2, wp_istore_3, wp_iload_3, wk_9, wn_gt_t, wn_gt_f, wp_istore_4, wp_iload_4, wc_216, wz_eq_t, wz_eq_f, wb_eq_t, wb_eq_f, wm_eq_1, wm_eq_2, wz_ne_t, wz_ne_f, wb_ne_t, wb_ne_f, wm_ne_1, wm_ne_2, wp_goto, al_13765, wp_iinc_2_1, wp_iload_2, wk_1, wn_ne_t, wn_ne_f, wp_i2l, wc_293, t_293, al_13766, wp_iinc_4_1, al_13767, wp_iinc_3_1, al_13768, nl_i, nl_r, nl_k, nl_j, nl_l, nI_add, pk_mul, pk_sub, tl_s, tl_n, aL_inl, u2_same, u2_ab, u2_aq, nI_l, lN_i, Nat.add_zero, Nat.zero_add, Nat.zero_le, true_and, and_true, b2n_10, b2n_T, b2n_F, b2n_0, Decidable.not_not, not_true_eq_false, not_false_eq_true, Nat.reduceAdd, Nat.reduceMul, Nat.reduceSub, t_216 hv hp9 hq9, t_216 hv hq9 hp9, b2n_t h1, b2n_f h2]
        exact ih1 N J hC
    · have ht : ¬ rst v (10 * p + q) = true := by rw [hr]; simp [h1]
      obtain ⟨c1, c2⟩ := rc_f ht
      unfold rsC at ih1
      rw [c1, c2] at ih1
      simp (disch := (first | omega | exact aCat_8 (by with_unfolding_all rfl) | exact rk_lt (by with_unfolding_all rfl) | exact aCat_16 (by with_unfolding_all rfl) | exact rk_eq (by with_unfolding_all rfl) | assumption | exact b2n_lt _ | exact id_b (by with_unfolding_all rfl) | (simp (disch := omega) only [u2_same, u2_ab, u2_aq]; done) | (simp (disch := omega) only [u2_same, u2_ab, u2_aq]; omega) | fail)) only [al_13760, wp_iload_1, wz_lt_t, wz_lt_f, wm_lt_1, wm_lt_2, wk_20, wn_le_t, wn_le_f, wp_jsr, al_13761, wk_m1, wp_ireturn, al_13762, wp_aloadr_0, wp_aloadk_0, hg_0_1, wc_292, t_292, wk_0, wp_istore_2, wp_istore_3, wp_iload_3, wk_9, wn_gt_t, wn_gt_f, wp_istore_4, wp_iload_4, wc_216, wz_eq_t, wz_eq_f, wb_eq_t, wb_eq_f, wm_eq_1, wm_eq_2, wz_ne_t, wz_ne_f, wb_ne_t, wb_ne_f, wm_ne_1, wm_ne_2, wp_goto, al_13765, wp_iinc_2_1, wp_iload_2, wk_1, wn_ne_t, wn_ne_f, wp_i2l, wc_293, t_293, al_13766, wp_iinc_4_1, al_13767, wp_iinc_3_1, al_13768, nl_i, nl_r, nl_k, nl_j, nl_l, nI_add, pk_mul, pk_sub, tl_s, tl_n, aL_inl, u2_same, u2_ab, u2_aq, nI_l, lN_i, Nat.add_zero, Nat.zero_add, Nat.zero_le, true_and, and_true, b2n_10, b2n_T, b2n_F, b2n_0, Decidable.not_not, not_true_eq_false, not_false_eq_true, Nat.reduceAdd, Nat.reduceMul, Nat.reduceSub, t_216 hv hp9 hq9, b2n_f h1]
      exact ih1 N J hC
theorem l_215 {v : Nat} {N0 : Nat → Nat → Nat} {J0 : Nat → Nat → Int64} (hv : v ≤ 20) (hQ : ∀ (N : Nat → Nat → Nat) (J : Nat → Nat → Int64), rsC v 100 N0 N J0 J → Q (some (.int (nI (rcnt v 100)))) (hp D N I J x)) :
    ∀ (j p : Nat) (N : Nat → Nat → Nat) (J : Nat → Nat → Int64) (w : Value), p + j = 10 → rsC v (10 * p) N0 N J0 J → aWp ko d 215 (aP.1 (Int.toNat 13763)) [.ref 0, .int (nI v), .int (nI (rcnt v (10 * p))), .int (nI p), w] [] (hp D N I J x) (aL Q) := by
  intro j
  induction j with
  | zero =>
    intro p N J w hj hC
    have e : p = 10 := by omega
    subst e
    simp (disch := (first | omega | exact aCat_8 (by with_unfolding_all rfl) | exact rk_lt (by with_unfolding_all rfl) | exact aCat_16 (by with_unfolding_all rfl) | exact rk_eq (by with_unfolding_all rfl) | assumption | exact b2n_lt _ | exact id_b (by with_unfolding_all rfl) | (simp (disch := omega) only [u2_same, u2_ab, u2_aq]; done) | (simp (disch := omega) only [u2_same, u2_ab, u2_aq]; omega) | fail)) only [al_13760, wp_iload_1, wz_lt_t, wz_lt_f, wm_lt_1, wm_lt_2, wk_20, wn_le_t, wn_le_f, wp_jsr, al_13761, wk_m1, wp_ireturn, al_13762, wp_aloadr_0, wp_aloadk_0, hg_0_1, wc_292, t_292, wk_0, wp_istore_2, wp_istore_3, al_13763, wp_iload_3, wk_9, wn_gt_t, wn_gt_f, wp_istore_4, wp_iload_4, wc_216, wz_eq_t, wz_eq_f, wb_eq_t, wb_eq_f, wm_eq_1, wm_eq_2, wz_ne_t, wz_ne_f, wb_ne_t, wb_ne_f, wm_ne_1, wm_ne_2, wp_goto, al_13765, wp_iinc_2_1, wp_iload_2, wk_1, wn_ne_t, wn_ne_f, wp_i2l, wc_293, t_293, al_13766, wp_iinc_4_1, al_13767, wp_iinc_3_1, al_13768, nl_i, nl_r, nl_k, nl_j, nl_l, nI_add, pk_mul, pk_sub, tl_s, tl_n, aL_inl, u2_same, u2_ab, u2_aq, nI_l, lN_i, Nat.add_zero, Nat.zero_add, Nat.zero_le, true_and, and_true, b2n_10, b2n_T, b2n_F, b2n_0, Decidable.not_not, not_true_eq_false, not_false_eq_true, Nat.reduceAdd, Nat.reduceMul, Nat.reduceSub]
    exact hQ N J hC
  | succ j ih =>
    intro p N J w hj hC
    have hx := l_215i (ko := ko) (d := d) (D := D) (I := I) (x := x) (Q := Q) (N0 := N0) (J0 := J0) (p := p) hv (by omega) (fun N J hC => ih (p + 1) N J _ (by omega) hC) 10 0 N J (by omega) hC
    rw [Nat.add_zero] at hx
    rw [al_13763]
    simp (disch := (first | omega | exact aCat_8 (by with_unfolding_all rfl) | exact rk_lt (by with_unfolding_all rfl) | exact aCat_16 (by with_unfolding_all rfl) | exact rk_eq (by with_unfolding_all rfl) | assumption | exact b2n_lt _ | exact id_b (by with_unfolding_all rfl) | (simp (disch := omega) only [u2_same, u2_ab, u2_aq]; done) | (simp (disch := omega) only [u2_same, u2_ab, u2_aq]; omega) | fail)) only [al_13760, wp_iload_1, wz_lt_t, wz_lt_f, wm_lt_1, wm_lt_2, wk_20, wn_le_t, wn_le_f, wp_jsr, al_13761, wk_m1, wp_ireturn, al_13762, wp_aloadr_0, wp_aloadk_0, hg_0_1, wc_292, t_292, wk_0, wp_istore_2, wp_istore_3, wp_iload_3, wk_9, wn_gt_t, wn_gt_f, wp_istore_4, wp_iload_4, wc_216, wz_eq_t, wz_eq_f, wb_eq_t, wb_eq_f, wm_eq_1, wm_eq_2, wz_ne_t, wz_ne_f, wb_ne_t, wb_ne_f, wm_ne_1, wm_ne_2, wp_goto, al_13765, wp_iinc_2_1, wp_iload_2, wk_1, wn_ne_t, wn_ne_f, wp_i2l, wc_293, t_293, al_13766, wp_iinc_4_1, al_13767, wp_iinc_3_1, al_13768, nl_i, nl_r, nl_k, nl_j, nl_l, nI_add, pk_mul, pk_sub, tl_s, tl_n, aL_inl, u2_same, u2_ab, u2_aq, nI_l, lN_i, Nat.add_zero, Nat.zero_add, Nat.zero_le, true_and, and_true, b2n_10, b2n_T, b2n_F, b2n_0, Decidable.not_not, not_true_eq_false, not_false_eq_true, Nat.reduceAdd, Nat.reduceMul, Nat.reduceSub]
    exact hx
def rsR (v m : Nat) (N0 N : Nat → Nat → Nat) (J0 J : Nat → Nat → Int64) : Prop := qN N N0 ∧ qJ J J0 ∧ tdR N J (rNo (rfst v m)) (rJo (rfst v m))
theorem l_99i {v p : Nat} {N0 : Nat → Nat → Nat} {J0 : Nat → Nat → Int64} (hv : v ≤ 20) (hp9 : p ≤ 9)
    (hK : ∀ (N : Nat → Nat → Nat) (J : Nat → Nat → Int64), rsR v (10 * (p + 1)) N0 N J0 J → aWp ko d 99 (aP.1 (Int.toNat 6338)) [.ref 86, .int (nI v), .int (nI (rcnt v (10 * (p + 1)))), .int (nI (p + 1)), .int (nI 10)] [] (hp D N I J x) (aL Q)) :
    ∀ (j q : Nat) (N : Nat → Nat → Nat) (J : Nat → Nat → Int64), q + j = 10 → rsR v (10 * p + q) N0 N J0 J → aWp ko d 99 (aP.1 (Int.toNat 6339)) [.ref 86, .int (nI v), .int (nI (rcnt v (10 * p + q))), .int (nI p), .int (nI q)] [] (hp D N I J x) (aL Q) := by
  intro j
  induction j with
  | zero =>
    intro q N J hq hC
    have e : q = 10 := by omega
    subst e
    have := hK N J hC
    simp (disch := (first | omega | exact aCat_8 (by with_unfolding_all rfl) | exact rk_lt (by with_unfolding_all rfl) | exact aCat_16 (by with_unfolding_all rfl) | exact rk_eq (by with_unfolding_all rfl) | assumption | exact b2n_lt _ | exact id_b (by with_unfolding_all rfl) | (simp (disch := omega) only [u2_same, u2_ab, u2_aq]; done) | (simp (disch := omega) only [u2_same, u2_ab, u2_aq]; omega) | fail)) only [al_6336, wp_aloadr_0, wp_aloadk_0, wk_0, hp_86_0, wp_iload_1, wp_i2l, wl_0, wl_20, wc_4, t_4, lN_le, wz_ne_t, wz_ne_f, wb_ne_t, wb_ne_f, wm_ne_1, wm_ne_2, wk_m1, wp_ireturn, al_6337, wp_istore_2, hp_86_1, wp_istore_3, wp_jsr, wp_iload_3, wk_9, wn_gt_t, wn_gt_f, wp_istore_4, al_6339, wp_iload_4, wc_100, wz_eq_t, wz_eq_f, wb_eq_t, wb_eq_f, wm_eq_1, wm_eq_2, wp_iload_2, wc_43, t_43, al_6340, wp_iinc_2_1, al_6341, wp_iinc_4_1, wp_goto, al_6342, wp_iinc_3_1, al_6343, nl_i, nl_r, nl_k, nl_j, nl_l, nI_add, pk_mul, pk_sub, tl_s, tl_n, aL_inl, u2_same, u2_ab, u2_aq, nI_l, lN_i, Nat.add_zero, Nat.zero_add, Nat.zero_le, true_and, and_true, b2n_10, b2n_T, b2n_F, b2n_0, Decidable.not_not, not_true_eq_false, not_false_eq_true, Nat.reduceAdd, Nat.reduceMul, Nat.reduceSub]
    exact this
  | succ j ih =>
    intro q N J hq hC
    have hq9 : q ≤ 9 := by omega
    have hm := rc_le (v := v) (10 * p + q)
    have ih1 := fun N J => ih (q + 1) N J (by omega)
    rw [← Nat.add_assoc] at ih1
    have hr := rst_pq (v := v) (p := p) hq9
    rw [al_6339]
    by_cases h1 : ctn v p q 10 = true
    · by_cases h2 : ctn v q p 10 = true
      · have ht : rst v (10 * p + q) = true := by rw [hr, h1, h2]; rfl
        by_cases h0 : rcnt v (10 * p + q) = 0
        · obtain ⟨c1, c2⟩ := rc_t0 ht h0
          unfold rsR at ih1
          rw [c1, c2] at ih1
          have h31 : N 86 1 = 0 := by
            have := hC.2.2.1
            rw [(rc_0 _).mp h0] at this
            exact this
          simp (disch := (first | omega | exact aCat_8 (by with_unfolding_all rfl) | exact rk_lt (by with_unfolding_all rfl) | exact aCat_16 (by with_unfolding_all rfl) | exact rk_eq (by with_unfolding_all rfl) | assumption | exact b2n_lt _ | exact id_b (by with_unfolding_all rfl) | (simp (disch := omega) only [u2_same, u2_ab, u2_aq]; done) | (simp (disch := omega) only [u2_same, u2_ab, u2_aq]; omega) | fail)) only [al_6336, wp_aloadr_0, wp_aloadk_0, wk_0, hp_86_0, wp_iload_1, wp_i2l, wl_0, wl_20, wc_4, t_4, lN_le, wz_ne_t, wz_ne_f, wb_ne_t, wb_ne_f, wm_ne_1, wm_ne_2, wk_m1, wp_ireturn, al_6337, wp_istore_2, hp_86_1, wp_istore_3, wp_jsr, wp_iload_3, wk_9, wn_gt_t, wn_gt_f, wp_istore_4, wp_iload_4, wc_100, wz_eq_t, wz_eq_f, wb_eq_t, wb_eq_f, wm_eq_1, wm_eq_2, wp_iload_2, wc_43, t_43, al_6340, wp_iinc_2_1, al_6341, wp_iinc_4_1, wp_goto, al_6342, wp_iinc_3_1, al_6343, nl_i, nl_r, nl_k, nl_j, nl_l, nI_add, pk_mul, pk_sub, tl_s, tl_n, aL_inl, u2_same, u2_ab, u2_aq, nI_l, lN_i, Nat.add_zero, Nat.zero_add, Nat.zero_le, true_and, and_true, b2n_10, b2n_T, b2n_F, b2n_0, Decidable.not_not, not_true_eq_false, not_false_eq_true, Nat.reduceAdd, Nat.reduceMul, Nat.reduceSub, t_100 hv hp9 hq9, t_100 hv hq9 hp9, b2n_t h1, b2n_t h2, h0, h31]
          refine ih1 _ _ ⟨qN_u (qN_u hC.1 rfl) rfl, qJ_u (qJ_u hC.2.1 rfl) rfl, ?_⟩
          refine ⟨by rw [u2_same]; rfl, fun i hi => ?_⟩
          show _ = if i = 0 then lN ((10 * p + q) / 10) else lN ((10 * p + q) % 10)
          rw [show (10 * p + q) / 10 = p by omega, show (10 * p + q) % 10 = q by omega]
          have hi2 : i < 2 := hi
          have : i = 0 ∨ i = 1 := by omega
          rcases this with rfl | rfl
          · rw [u2_aq (by decide), u2_same, if_pos rfl]
          · rw [u2_same, if_neg (by decide)]
        · obtain ⟨c1, c2⟩ := rc_t1 ht h0
          unfold rsR at ih1
          rw [c1, c2] at ih1
          have hn1 : ¬ rcnt v (10 * p + q) + 1 = 1 := by omega
          simp (disch := (first | omega | exact aCat_8 (by with_unfolding_all rfl) | exact rk_lt (by with_unfolding_all rfl) | exact aCat_16 (by with_unfolding_all rfl) | exact rk_eq (by with_unfolding_all rfl) | assumption | exact b2n_lt _ | exact id_b (by with_unfolding_all rfl) | (simp (disch := omega) only [u2_same, u2_ab, u2_aq]; done) | (simp (disch := omega) only [u2_same, u2_ab, u2_aq]; omega) | fail)) only [al_6336, wp_aloadr_0, wp_aloadk_0, wk_0, hp_86_0, wp_iload_1, wp_i2l, wl_0, wl_20, wc_4, t_4, lN_le, wz_ne_t, wz_ne_f, wb_ne_t, wb_ne_f, wm_ne_1, wm_ne_2, wk_m1, wp_ireturn, al_6337, wp_istore_2, hp_86_1, wp_istore_3, wp_jsr, wp_iload_3, wk_9, wn_gt_t, wn_gt_f, wp_istore_4, wp_iload_4, wc_100, wz_eq_t, wz_eq_f, wb_eq_t, wb_eq_f, wm_eq_1, wm_eq_2, wp_iload_2, wc_43, t_43, al_6340, wp_iinc_2_1, al_6341, wp_iinc_4_1, wp_goto, al_6342, wp_iinc_3_1, al_6343, nl_i, nl_r, nl_k, nl_j, nl_l, nI_add, pk_mul, pk_sub, tl_s, tl_n, aL_inl, u2_same, u2_ab, u2_aq, nI_l, lN_i, Nat.add_zero, Nat.zero_add, Nat.zero_le, true_and, and_true, b2n_10, b2n_T, b2n_F, b2n_0, Decidable.not_not, not_true_eq_false, not_false_eq_true, Nat.reduceAdd, Nat.reduceMul, Nat.reduceSub, t_100 hv hp9 hq9, t_100 hv hq9 hp9, b2n_t h1, b2n_t h2]
          exact ih1 N J hC
      · have ht : ¬ rst v (10 * p + q) = true := by rw [hr]; simp [h2]
        obtain ⟨c1, c2⟩ := rc_f ht
        unfold rsR at ih1
        rw [c1, c2] at ih1
        simp (disch := (first | omega | exact aCat_8 (by with_unfolding_all rfl) | exact rk_lt (by with_unfolding_all rfl) | exact aCat_16 (by with_unfolding_all rfl) | exact rk_eq (by with_unfolding_all rfl) | assumption | exact b2n_lt _ | exact id_b (by with_unfolding_all rfl) | (simp (disch := omega) only [u2_same, u2_ab, u2_aq]; done) | (simp (disch := omega) only [u2_same, u2_ab, u2_aq]; omega) | fail)) only [al_6336, wp_aloadr_0, wp_aloadk_0, wk_0, hp_86_0, wp_iload_1, wp_i2l, wl_0, wl_20, wc_4, t_4, lN_le, wz_ne_t, wz_ne_f, wb_ne_t, wb_ne_f, wm_ne_1, wm_ne_2, wk_m1, wp_ireturn, al_6337, wp_istore_2, hp_86_1, wp_istore_3, wp_jsr, wp_iload_3, wk_9, wn_gt_t, wn_gt_f, wp_istore_4, wp_iload_4, wc_100, wz_eq_t, wz_eq_f, wb_eq_t, wb_eq_f, wm_eq_1, wm_eq_2, wp_iload_2, wc_43, t_43, al_6340, wp_iinc_2_1, al_6341, wp_iinc_4_1, wp_goto, al_6342, wp_iinc_3_1, al_6343, nl_i, nl_r, nl_k, nl_j, nl_l, nI_add, pk_mul, pk_sub, tl_s, tl_n, aL_inl, u2_same, u2_ab, u2_aq, nI_l, lN_i, Nat.add_zero, Nat.zero_add, Nat.zero_le, true_and, and_true, b2n_10, b2n_T, b2n_F, b2n_0, Decidable.not_not, not_true_eq_false, not_false_eq_true, Nat.reduceAdd, Nat.reduceMul, Nat.reduceSub, t_100 hv hp9 hq9, t_100 hv hq9 hp9, b2n_t h1, b2n_f h2]
        exact ih1 N J hC
    · have ht : ¬ rst v (10 * p + q) = true := by rw [hr]; simp [h1]
      obtain ⟨c1, c2⟩ := rc_f ht
      unfold rsR at ih1
      rw [c1, c2] at ih1
      simp (disch := (first | omega | exact aCat_8 (by with_unfolding_all rfl) | exact rk_lt (by with_unfolding_all rfl) | exact aCat_16 (by with_unfolding_all rfl) | exact rk_eq (by with_unfolding_all rfl) | assumption | exact b2n_lt _ | exact id_b (by with_unfolding_all rfl) | (simp (disch := omega) only [u2_same, u2_ab, u2_aq]; done) | (simp (disch := omega) only [u2_same, u2_ab, u2_aq]; omega) | fail)) only [al_6336, wp_aloadr_0, wp_aloadk_0, wk_0, hp_86_0, wp_iload_1, wp_i2l, wl_0, wl_20, wc_4, t_4, lN_le, wz_ne_t, wz_ne_f, wb_ne_t, wb_ne_f, wm_ne_1, wm_ne_2, wk_m1, wp_ireturn, al_6337, wp_istore_2, hp_86_1, wp_istore_3, wp_jsr, wp_iload_3, wk_9, wn_gt_t, wn_gt_f, wp_istore_4, wp_iload_4, wc_100, wz_eq_t, wz_eq_f, wb_eq_t, wb_eq_f, wm_eq_1, wm_eq_2, wp_iload_2, wc_43, t_43, al_6340, wp_iinc_2_1, al_6341, wp_iinc_4_1, wp_goto, al_6342, wp_iinc_3_1, al_6343, nl_i, nl_r, nl_k, nl_j, nl_l, nI_add, pk_mul, pk_sub, tl_s, tl_n, aL_inl, u2_same, u2_ab, u2_aq, nI_l, lN_i, Nat.add_zero, Nat.zero_add, Nat.zero_le, true_and, and_true, b2n_10, b2n_T, b2n_F, b2n_0, Decidable.not_not, not_true_eq_false, not_false_eq_true, Nat.reduceAdd, Nat.reduceMul, Nat.reduceSub, t_100 hv hp9 hq9, b2n_f h1]
      exact ih1 N J hC
theorem l_99 {v : Nat} {N0 : Nat → Nat → Nat} {J0 : Nat → Nat → Int64} (hv : v ≤ 20) (hQ : ∀ (N : Nat → Nat → Nat) (J : Nat → Nat → Int64), rsR v 100 N0 N J0 J → Q (some (.int (nI (rcnt v 100)))) (hp D N I J x)) :
    ∀ (j p : Nat) (N : Nat → Nat → Nat) (J : Nat → Nat → Int64) (w : Value), p + j = 10 → rsR v (10 * p) N0 N J0 J → aWp ko d 99 (aP.1 (Int.toNat 6338)) [.ref 86, .int (nI v), .int (nI (rcnt v (10 * p))), .int (nI p), w] [] (hp D N I J x) (aL Q) := by
  intro j
  induction j with
  | zero =>
    intro p N J w hj hC
    have e : p = 10 := by omega
    subst e
    simp (disch := (first | omega | exact aCat_8 (by with_unfolding_all rfl) | exact rk_lt (by with_unfolding_all rfl) | exact aCat_16 (by with_unfolding_all rfl) | exact rk_eq (by with_unfolding_all rfl) | assumption | exact b2n_lt _ | exact id_b (by with_unfolding_all rfl) | (simp (disch := omega) only [u2_same, u2_ab, u2_aq]; done) | (simp (disch := omega) only [u2_same, u2_ab, u2_aq]; omega) | fail)) only [al_6336, wp_aloadr_0, wp_aloadk_0, wk_0, hp_86_0, wp_iload_1, wp_i2l, wl_0, wl_20, wc_4, t_4, lN_le, wz_ne_t, wz_ne_f, wb_ne_t, wb_ne_f, wm_ne_1, wm_ne_2, wk_m1, wp_ireturn, al_6337, wp_istore_2, hp_86_1, wp_istore_3, wp_jsr, al_6338, wp_iload_3, wk_9, wn_gt_t, wn_gt_f, wp_istore_4, wp_iload_4, wc_100, wz_eq_t, wz_eq_f, wb_eq_t, wb_eq_f, wm_eq_1, wm_eq_2, wp_iload_2, wc_43, t_43, al_6340, wp_iinc_2_1, al_6341, wp_iinc_4_1, wp_goto, al_6342, wp_iinc_3_1, al_6343, nl_i, nl_r, nl_k, nl_j, nl_l, nI_add, pk_mul, pk_sub, tl_s, tl_n, aL_inl, u2_same, u2_ab, u2_aq, nI_l, lN_i, Nat.add_zero, Nat.zero_add, Nat.zero_le, true_and, and_true, b2n_10, b2n_T, b2n_F, b2n_0, Decidable.not_not, not_true_eq_false, not_false_eq_true, Nat.reduceAdd, Nat.reduceMul, Nat.reduceSub]
    exact hQ N J hC
  | succ j ih =>
    intro p N J w hj hC
    have hx := l_99i (ko := ko) (d := d) (D := D) (I := I) (x := x) (Q := Q) (N0 := N0) (J0 := J0) (p := p) hv (by omega) (fun N J hC => ih (p + 1) N J _ (by omega) hC) 10 0 N J (by omega) hC
    rw [Nat.add_zero] at hx
    rw [al_6338]
    simp (disch := (first | omega | exact aCat_8 (by with_unfolding_all rfl) | exact rk_lt (by with_unfolding_all rfl) | exact aCat_16 (by with_unfolding_all rfl) | exact rk_eq (by with_unfolding_all rfl) | assumption | exact b2n_lt _ | exact id_b (by with_unfolding_all rfl) | (simp (disch := omega) only [u2_same, u2_ab, u2_aq]; done) | (simp (disch := omega) only [u2_same, u2_ab, u2_aq]; omega) | fail)) only [al_6336, wp_aloadr_0, wp_aloadk_0, wk_0, hp_86_0, wp_iload_1, wp_i2l, wl_0, wl_20, wc_4, t_4, lN_le, wz_ne_t, wz_ne_f, wb_ne_t, wb_ne_f, wm_ne_1, wm_ne_2, wk_m1, wp_ireturn, al_6337, wp_istore_2, hp_86_1, wp_istore_3, wp_jsr, wp_iload_3, wk_9, wn_gt_t, wn_gt_f, wp_istore_4, wp_iload_4, wc_100, wz_eq_t, wz_eq_f, wb_eq_t, wb_eq_f, wm_eq_1, wm_eq_2, wp_iload_2, wc_43, t_43, al_6340, wp_iinc_2_1, al_6341, wp_iinc_4_1, wp_goto, al_6342, wp_iinc_3_1, al_6343, nl_i, nl_r, nl_k, nl_j, nl_l, nI_add, pk_mul, pk_sub, tl_s, tl_n, aL_inl, u2_same, u2_ab, u2_aq, nI_l, lN_i, Nat.add_zero, Nat.zero_add, Nat.zero_le, true_and, and_true, b2n_10, b2n_T, b2n_F, b2n_0, Decidable.not_not, not_true_eq_false, not_false_eq_true, Nat.reduceAdd, Nat.reduceMul, Nat.reduceSub]
    exact hx
theorem o_rests {a : Int32} (h : inv D N I J t) : opO ko d 215 99 [.int a] D N I J x (t + 300) := by
  rcases rng3 a 0 (b := 20) (by decide) (by decide) with ⟨v, _, hv, rfl⟩ | hbad
  · refine op_ans (v := .int (nI (rcnt v 100))) (m := rNo (rfst v 100)) (f := rJo (rfst v 100)) h (by
    cases rfst v 100 with
    | none => exact Nat.zero_le _
    | some a => exact (by decide : 2 ≤ 36)) (by omega) ?_ ?_
    · intro Q hQ
      have hx := fun w => l_215 (ko := ko) (d := d) (D := D) (I := I) (x := x) (Q := Q) (N0 := N) (J0 := J) hv (fun N' J' hC => hQ N' I J' hC.1 sI_r hC.2.1 hC.2.2) 10 0 (u2 N 3 1 0) J w rfl ⟨sN_u sN_r rfl, sJ_r, u2_same _ _ _ _, fun i hi => absurd hi (Nat.not_lt_zero i)⟩
      have e0 : rcnt v (10 * 0) = 0 := rfl
      rw [e0] at hx
      rw [me_215]
      simp (disch := (first | omega | exact aCat_8 (by with_unfolding_all rfl) | exact rk_lt (by with_unfolding_all rfl) | exact aCat_16 (by with_unfolding_all rfl) | exact rk_eq (by with_unfolding_all rfl) | assumption | exact b2n_lt _ | exact id_b (by with_unfolding_all rfl) | (simp (disch := omega) only [u2_same, u2_ab, u2_aq]; done) | (simp (disch := omega) only [u2_same, u2_ab, u2_aq]; omega) | fail)) only [al_13760, wp_iload_1, wz_lt_t, wz_lt_f, wm_lt_1, wm_lt_2, wk_20, wn_le_t, wn_le_f, wp_jsr, al_13761, wk_m1, wp_ireturn, al_13762, wp_aloadr_0, wp_aloadk_0, hg_0_1, wc_292, t_292, wk_0, wp_istore_2, wp_istore_3, wp_iload_3, wk_9, wn_gt_t, wn_gt_f, wp_istore_4, wp_iload_4, wc_216, wz_eq_t, wz_eq_f, wb_eq_t, wb_eq_f, wm_eq_1, wm_eq_2, wz_ne_t, wz_ne_f, wb_ne_t, wb_ne_f, wm_ne_1, wm_ne_2, wp_goto, al_13765, wp_iinc_2_1, wp_iload_2, wk_1, wn_ne_t, wn_ne_f, wp_i2l, wc_293, t_293, al_13766, wp_iinc_4_1, al_13767, wp_iinc_3_1, al_13768, nl_i, nl_r, nl_k, nl_j, nl_l, nI_add, pk_mul, pk_sub, tl_s, tl_n, aL_inl, u2_same, u2_ab, u2_aq, nI_l, lN_i, Nat.add_zero, Nat.zero_add, Nat.zero_le, true_and, and_true, b2n_10, b2n_T, b2n_F, b2n_0, Decidable.not_not, not_true_eq_false, not_false_eq_true, Nat.reduceAdd, Nat.reduceMul, Nat.reduceSub]
      exact hx _
    · intro N1 I1 J1 h1 hN hI hJ Q hQ
      have hx := fun w => l_99 (ko := ko) (d := d) (D := D) (I := I1) (x := x) (Q := Q) (N0 := N1) (J0 := J1) hv (fun N' J' hC => hQ N' I1 J' hC.1 sI_r hC.2.1 hC.2.2) 10 0 (u2 (u2 N1 86 0 0) 86 1 0) J1 w rfl ⟨qN_u (qN_u qN_r rfl) rfl, qJ_r, u2_same _ _ _ _, fun i hi => absurd hi (Nat.not_lt_zero i)⟩
      have e0 : rcnt v (10 * 0) = 0 := rfl
      rw [e0] at hx
      rw [me_99]
      simp (disch := (first | omega | exact aCat_8 (by with_unfolding_all rfl) | exact rk_lt (by with_unfolding_all rfl) | exact aCat_16 (by with_unfolding_all rfl) | exact rk_eq (by with_unfolding_all rfl) | assumption | exact b2n_lt _ | exact id_b (by with_unfolding_all rfl) | (simp (disch := omega) only [u2_same, u2_ab, u2_aq]; done) | (simp (disch := omega) only [u2_same, u2_ab, u2_aq]; omega) | fail)) only [al_6336, wp_aloadr_0, wp_aloadk_0, wk_0, hp_86_0, wp_iload_1, wp_i2l, wl_0, wl_20, wc_4, t_4, lN_le, wz_ne_t, wz_ne_f, wb_ne_t, wb_ne_f, wm_ne_1, wm_ne_2, wk_m1, wp_ireturn, al_6337, wp_istore_2, hp_86_1, wp_istore_3, wp_jsr, wp_iload_3, wk_9, wn_gt_t, wn_gt_f, wp_istore_4, wp_iload_4, wc_100, wz_eq_t, wz_eq_f, wb_eq_t, wb_eq_f, wm_eq_1, wm_eq_2, wp_iload_2, wc_43, t_43, al_6340, wp_iinc_2_1, al_6341, wp_iinc_4_1, wp_goto, al_6342, wp_iinc_3_1, al_6343, nl_i, nl_r, nl_k, nl_j, nl_l, nI_add, pk_mul, pk_sub, tl_s, tl_n, aL_inl, u2_same, u2_ab, u2_aq, nI_l, lN_i, Nat.add_zero, Nat.zero_add, Nat.zero_le, true_and, and_true, b2n_10, b2n_T, b2n_F, b2n_0, Decidable.not_not, not_true_eq_false, not_false_eq_true, Nat.reduceAdd, Nat.reduceMul, Nat.reduceSub, b2n_t hv]
      exact hx _
  · refine op_q (v := .int (-1)) h ?_ ?_
    · intro Q
      rw [me_215]
      rcases hbad with hb | ⟨hb1, hb2⟩
      · have hb' : a < 0 := hb
        simp (disch := (first | omega | exact aCat_8 (by with_unfolding_all rfl) | exact rk_lt (by with_unfolding_all rfl) | exact aCat_16 (by with_unfolding_all rfl) | exact rk_eq (by with_unfolding_all rfl) | assumption | exact b2n_lt _ | exact id_b (by with_unfolding_all rfl) | (simp (disch := omega) only [u2_same, u2_ab, u2_aq]; done) | (simp (disch := omega) only [u2_same, u2_ab, u2_aq]; omega) | fail)) only [al_13760, wp_iload_1, wz_lt_t, wz_lt_f, wm_lt_1, wm_lt_2, wk_20, wn_le_t, wn_le_f, wp_jsr, al_13761, wk_m1, wp_ireturn, al_13762, wp_aloadr_0, wp_aloadk_0, hg_0_1, wc_292, t_292, wk_0, wp_istore_2, wp_istore_3, wp_iload_3, wk_9, wn_gt_t, wn_gt_f, wp_istore_4, wp_iload_4, wc_216, wz_eq_t, wz_eq_f, wb_eq_t, wb_eq_f, wm_eq_1, wm_eq_2, wz_ne_t, wz_ne_f, wb_ne_t, wb_ne_f, wm_ne_1, wm_ne_2, wp_goto, al_13765, wp_iinc_2_1, wp_iload_2, wk_1, wn_ne_t, wn_ne_f, wp_i2l, wc_293, t_293, al_13766, wp_iinc_4_1, al_13767, wp_iinc_3_1, al_13768, nl_i, nl_r, nl_k, nl_j, nl_l, nI_add, pk_mul, pk_sub, tl_s, tl_n, aL_inl, u2_same, u2_ab, u2_aq, nI_l, lN_i, Nat.add_zero, Nat.zero_add, Nat.zero_le, true_and, and_true, b2n_10, b2n_T, b2n_F, b2n_0, Decidable.not_not, not_true_eq_false, not_false_eq_true, Nat.reduceAdd, Nat.reduceMul, Nat.reduceSub, wy_lt_t hb']
      · have hb' : ¬ a < 0 := hb1
        have hb3 : ¬ a ≤ nI 20 := fun z => (Int32.not_lt.mpr z) hb2
        simp (disch := (first | omega | exact aCat_8 (by with_unfolding_all rfl) | exact rk_lt (by with_unfolding_all rfl) | exact aCat_16 (by with_unfolding_all rfl) | exact rk_eq (by with_unfolding_all rfl) | assumption | exact b2n_lt _ | exact id_b (by with_unfolding_all rfl) | (simp (disch := omega) only [u2_same, u2_ab, u2_aq]; done) | (simp (disch := omega) only [u2_same, u2_ab, u2_aq]; omega) | fail)) only [al_13760, wp_iload_1, wz_lt_t, wz_lt_f, wm_lt_1, wm_lt_2, wk_20, wn_le_t, wn_le_f, wp_jsr, al_13761, wk_m1, wp_ireturn, al_13762, wp_aloadr_0, wp_aloadk_0, hg_0_1, wc_292, t_292, wk_0, wp_istore_2, wp_istore_3, wp_iload_3, wk_9, wn_gt_t, wn_gt_f, wp_istore_4, wp_iload_4, wc_216, wz_eq_t, wz_eq_f, wb_eq_t, wb_eq_f, wm_eq_1, wm_eq_2, wz_ne_t, wz_ne_f, wb_ne_t, wb_ne_f, wm_ne_1, wm_ne_2, wp_goto, al_13765, wp_iinc_2_1, wp_iload_2, wk_1, wn_ne_t, wn_ne_f, wp_i2l, wc_293, t_293, al_13766, wp_iinc_4_1, al_13767, wp_iinc_3_1, al_13768, nl_i, nl_r, nl_k, nl_j, nl_l, nI_add, pk_mul, pk_sub, tl_s, tl_n, aL_inl, u2_same, u2_ab, u2_aq, nI_l, lN_i, Nat.add_zero, Nat.zero_add, Nat.zero_le, true_and, and_true, b2n_10, b2n_T, b2n_F, b2n_0, Decidable.not_not, not_true_eq_false, not_false_eq_true, Nat.reduceAdd, Nat.reduceMul, Nat.reduceSub, wy_lt_f hb', wx_le_f hb3]
    · intro Q
      have hin := in_f (a := 0) (b := 20) (by decide) (by decide) hbad
      rw [me_99]
      simp (disch := (first | omega | exact aCat_8 (by with_unfolding_all rfl) | exact rk_lt (by with_unfolding_all rfl) | exact aCat_16 (by with_unfolding_all rfl) | exact rk_eq (by with_unfolding_all rfl) | assumption | exact b2n_lt _ | exact id_b (by with_unfolding_all rfl) | (simp (disch := omega) only [u2_same, u2_ab, u2_aq]; done) | (simp (disch := omega) only [u2_same, u2_ab, u2_aq]; omega) | fail)) only [al_6336, wp_aloadr_0, wp_aloadk_0, wk_0, hp_86_0, wp_iload_1, wp_i2l, wl_0, wl_20, wc_4, t_4, lN_le, wz_ne_t, wz_ne_f, wb_ne_t, wb_ne_f, wm_ne_1, wm_ne_2, wk_m1, wp_ireturn, al_6337, wp_istore_2, hp_86_1, wp_istore_3, wp_jsr, wp_iload_3, wk_9, wn_gt_t, wn_gt_f, wp_istore_4, wp_iload_4, wc_100, wz_eq_t, wz_eq_f, wb_eq_t, wb_eq_f, wm_eq_1, wm_eq_2, wp_iload_2, wc_43, t_43, al_6340, wp_iinc_2_1, al_6341, wp_iinc_4_1, wp_goto, al_6342, wp_iinc_3_1, al_6343, nl_i, nl_r, nl_k, nl_j, nl_l, nI_add, pk_mul, pk_sub, tl_s, tl_n, aL_inl, u2_same, u2_ab, u2_aq, nI_l, lN_i, Nat.add_zero, Nat.zero_add, Nat.zero_le, true_and, and_true, b2n_10, b2n_T, b2n_F, b2n_0, Decidable.not_not, not_true_eq_false, not_false_eq_true, Nat.reduceAdd, Nat.reduceMul, Nat.reduceSub, b2n_f hin]
end R2
