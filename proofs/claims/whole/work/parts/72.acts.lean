/-! Acts: cut, heap, source. From wip/whole/src. -/
/-- what an act of the class leaves: the reference's cells as they were, the row S2 in 'now', the row before it in the ring -/
def actC (D : Nat → Nat) (N : Nat → Nat → Nat) (I : Nat → Nat → Int32) (J : Nat → Nat → Int64) (S' : Nat → Nat) (N1 : Nat → Nat → Nat) (I1 : Nat → Nat → Int32) (J1 : Nat → Nat → Int64) : Prop := aN N1 N ∧ sI I1 I ∧ aJ' J1 J ∧ (∀ b q, 86 ≤ b → N1 b q = N b q) ∧ (∀ b q, 86 ≤ b → J1 b q = J b q) ∧ clS N1 J1 20 S' ∧ puC N1 N J1 J (N 89)
def actR (N1 : Nat → Nat → Nat) (I1 : Nat → Nat → Int32) (J1 : Nat → Nat → Int64) (S' : Nat → Nat) (N2 : Nat → Nat → Nat) (I2 : Nat → Nat → Int32) (J2 : Nat → Nat → Int64) : Prop := aN N2 N1 ∧ sI I2 I1 ∧ (∀ b q, b < 86 → N2 b q = N1 b q) ∧ (∀ b q, b < 86 → J2 b q = J1 b q) ∧ N2 89 = S' ∧ puRr N2 N1 (N1 89)
section A1
variable {ko : aKo} {d k : Nat} {is : List Instr} {ls st : List Value} {σ : aH} {D : Nat → Nat} {N : Nat → Nat → Nat} {I : Nat → Nat → Int32} {J : Nat → Nat → Int64} {x t : Nat} {Q : Option Value → aH → Prop} {P : (Option Value ⊕ Unit) → aH → Prop}
theorem act_B {t' : Nat} {S' : Nat → Nat} {N1 N2 : Nat → Nat → Nat} {I1 I2 : Nat → Nat → Int32} {J1 J2 : Nat → Nat → Int64} (h : invB D N I J t) (ht : t ≤ t') (hS' : rwO (D 1) S' ∧ rwZ (D 0 * D 1) S' ∧ (S' 109 ≤ t' ∧ sumR (fun q => S' (36 + q)) 36 ≤ 8)) (hC : actC D N I J S' N1 I1 J1) (hR : actR N1 I1 J1 S' N2 I2 J2) : invB D N2 I2 J2 t' := by
  obtain ⟨c1, c2, c3, c4, c5, c6, c7⟩ := hC
  obtain ⟨r1, r2, r3, r4, r5, r6⟩ := hR
  have h89 := h.2.2.2.2.1
  refine invB_g h ht (aN_t r1 c1) (sI_t r2 c2) (fun b q z y => (r4 b q (by
    have z' : kpJ b = true := z
    unfold kpJ at z'
    simp at z'
    omega)).trans (c3 b q z y)) ?_ ?_
  · rw [r5]
    exact ⟨hS'.1, hS'.2.1, hS'.2.2, clS_c c6 (fun q => r3 20 q (by decide)) (fun q => r3 21 q (by decide)) (fun q => r4 20 q (by decide))⟩
  · have e89 : N1 89 = N 89 := by funext q; exact c4 89 q (by decide)
    have e26 : N1 86 26 = N 86 26 := c4 86 26 (by decide)
    have e99 : ∀ j, rwAt N1 99 j = rwAt N 99 j := fun j => by
      funext q
      unfold rwAt
      rw [c4 99 _ (by decide)]
    refine iUn_push h.2.2.2.2.2.1 ht ⟨h89.1, h89.2.1, Nat.le_trans h89.2.2.1.1 ht, h89.2.2.1.2⟩ ?_ ?_
    · obtain ⟨p1, p2, p3, p4⟩ := c7
      have hn := h.2.2.2.2.2.1.2.2.1
      refine ⟨(r3 32 1 (by decide)).trans p1, (r3 32 2 (by decide)).trans p2, clS_c p3 (fun q => r3 _ q (by omega)) (fun q => r3 _ q (by omega)) (fun q => r4 _ q (by omega)), fun p hp hne q => ?_⟩
      rw [r3 _ q (by omega), r3 _ q (by omega), r4 _ q (by omega)]
      exact p4 p hp hne q
    · unfold puRr at r6 ⊢
      rw [e26, e89] at r6
      simp only [e99] at r6
      exact r6
theorem op_act {kc kr t' : Nat} {As : List Value} {v : Value} {S' : Nat → Nat} (h : inv D N I J t) (ht : t ≤ t') (hS' : rwO (D 1) S' ∧ rwZ (D 0 * D 1) S' ∧ (S' 109 ≤ t' ∧ sumR (fun q => S' (36 + q)) 36 ≤ 8))
    (hC : ∀ Q : Option Value → aH → Prop, (∀ N1 I1 J1, actC D N I J S' N1 I1 J1 → tdSC N1 N J1 J → Q (some v) (hp D N1 I1 J1 x)) → aMm ko d kc (.ref 0 :: As) (hp D N I J x) Q)
    (hR : ∀ N1 I1 J1, (∀ b q, 86 ≤ b → N1 b q = N b q) → ∀ Q : Option Value → aH → Prop, (∀ N2 I2 J2, actR N1 I1 J1 S' N2 I2 J2 → tdSR N2 N1 J2 J1 → Q (some v) (hp D N2 I2 J2 x)) → aMm ko d kr (.ref 86 :: As) (hp D N1 I1 J1 x) Q) : opO ko d kc kr As D N I J x t' := by
  refine hC _ ?_
  intro N1 I1 J1 hc h3
  refine hR N1 I1 J1 hc.2.2.2.1 _ ?_
  intro N2 I2 J2 hr h4
  refine ⟨rfl, rfl, D, N2, I2, J2, rfl, act_B h.1 ht hS' hc hr, ?_, ?_, ?_⟩
  · rw [hr.2.2.1 3 1 (by decide), h3.1, h4.1, hc.2.2.2.1 86 1 (by decide)]
    exact h.2.1
  · rw [h4.1, hc.2.2.2.1 86 1 (by decide)]
    exact h.2.2.1
  · intro i hi
    rw [h4.1, hc.2.2.2.1 86 1 (by decide)] at hi
    rw [hr.2.2.2.1 4 i (by decide), h3.2 i, h4.2 i, hc.2.2.2.2.1 87 i (by decide)]
    exact h.2.2.2 i hi
/-- an act that is refused -/
theorem op_no {kc kr t' : Nat} {As : List Value} {v : Value} (h : inv D N I J t) (ht : t ≤ t')
    (hC : ∀ Q : Option Value → aH → Prop, (∀ (N' : Nat → Nat → Nat) (J' : Nat → Nat → Int64), sN N' N → sJ J' J → (∀ b q, b ≠ 22 → b ≠ 23 → N' b q = N b q) → (∀ b q, b ≠ 22 → J' b q = J b q) → Q (some v) (hp D N' I J' x)) → aMm ko d kc (.ref 0 :: As) (hp D N I J x) Q)
    (hR : ∀ N1 J1, (∀ b q, 86 ≤ b → N1 b q = N b q) → ∀ Q : Option Value → aH → Prop, (Q (some v) (hp D (setRow (u2 N1 86 0 0) 99 (puT (N1 89) (N1 99) (N1 86 26) 111)) I J1 x)) → aMm ko d kr (.ref 86 :: As) (hp D N1 I J1 x) Q) : opO ko d kc kr As D N I J x t' := by
  refine hC _ ?_
  intro N1 J1 hN hJ hn1 hj1
  refine hR N1 J1 (fun b q hb => hn1 b q (by omega) (by omega)) _ ?_
  have h1 := invB_c h.1 (Nat.le_refl t) hN sI_r hJ
  have hfr : ∀ b q, b ≠ 99 → ¬ (b = 86 ∧ q = 0) → setRow (u2 N1 86 0 0) 99 (puT (N1 89) (N1 99) (N1 86 26) 111) b q = N1 b q := fun b q z1 z2 => by rw [setRow_n z1, u2_rd, if_neg z2]
  refine ⟨rfl, rfl, D, _, I, J1, rfl, ?_, ?_, ?_, ?_⟩
  · refine invB_g h1 ht ?_ sI_r (fun _ _ _ _ => rfl) ?_ ?_
    · intro b q z y
      exact hfr b q (by rintro rfl; cases y) (by rintro ⟨rfl, rfl⟩; cases z)
    · have e : setRow (u2 N1 86 0 0) 99 (puT (N1 89) (N1 99) (N1 86 26) 111) 89 = N1 89 := by
        rw [setRow_n (by decide), u2_nb (by decide)]
      rw [e]
      exact iSt_c h1.2.2.2.2.1 ht (fun q => hfr 20 q (by decide) (by omega)) (fun q => hfr 21 q (by decide) (by omega)) (fun _ => rfl)
    · obtain ⟨u1, u2', u3, u4⟩ := h1.2.2.2.2.2.1
      unfold iUn
      rw [hfr 32 2 (by decide) (by omega), hfr 32 1 (by decide) (by omega), hfr 86 26 (by decide) (by omega)]
      refine ⟨u1, u2', u3, fun j hj => ?_⟩
      have er : rwAt (setRow (u2 N1 86 0 0) 99 (puT (N1 89) (N1 99) (N1 86 26) 111)) 99 j = rwAt N1 99 j := by
        funext q
        unfold rwAt
        rw [setRow_s]
        unfold puT
        split
        · rw [if_neg (by omega)]
        · rfl
      rw [er]
      have hm := Nat.mod_lt (N1 32 1 + 15 - N1 86 26 + j) (show 15 > 0 by decide)
      exact iSt_c (u4 j hj) ht (fun q => hfr _ q (by omega) (by omega)) (fun q => hfr _ q (by omega) (by omega)) (fun _ => rfl)
  · rw [hfr 3 1 (by decide) (by omega), hfr 86 1 (by decide) (by omega), hn1 3 1 (by decide) (by decide), hn1 86 1 (by decide) (by decide)]
    exact h.2.1
  · rw [hfr 86 1 (by decide) (by omega), hn1 86 1 (by decide) (by decide)]
    exact h.2.2.1
  · intro i hi
    rw [hfr 86 1 (by decide) (by omega), hn1 86 1 (by decide) (by decide)] at hi
    rw [hj1 4 i (by decide), hj1 87 i (by decide)]
    exact h.2.2.2 i hi
theorem t_242x {a : Int32} (hd : D 4 ≤ 36) (h4 : 0 < D 4) (h : a < nI 0 ∨ (¬ a < nI 0 ∧ nI (D 4 - 1) < a)) : aMm ko d 242 [.ref 5, .int a] (hp D N I J x) Q = Q (some (.int (nI 0))) (hp D N I J x) := by
  rw [me_242]
  rcases h with h | ⟨h1, h2⟩
  · have h' : a < 0 := h
    simp (disch := (first | omega | exact aCat_8 (by with_unfolding_all rfl) | exact rk_lt (by with_unfolding_all rfl) | exact aCat_16 (by with_unfolding_all rfl) | exact rk_eq (by with_unfolding_all rfl) | assumption | exact b2n_lt _ | exact id_b (by with_unfolding_all rfl) | (simp (disch := omega) only [u2_same, u2_ab, u2_aq]; done) | (simp (disch := omega) only [u2_same, u2_ab, u2_aq]; omega) | fail)) only [al_15488, wp_iload_1, wz_lt_t, wz_lt_f, wm_lt_1, wm_lt_2, wp_aloadr_0, wp_aloadk_0, hg_5_2, wn_ge_t, wn_ge_f, wk_1, wp_goto, al_15489, wk_0, wp_jsr, al_15490, wp_freturn0, wp_freturn1, wp_freturnb, nl_i, nl_r, nl_k, nl_j, nl_l, nI_add, pk_mul, pk_sub, tl_s, tl_n, aL_inl, u2_same, u2_ab, u2_aq, nI_l, lN_i, Nat.add_zero, Nat.zero_add, Nat.zero_le, true_and, and_true, b2n_10, b2n_T, b2n_F, b2n_0, Decidable.not_not, not_true_eq_false, not_false_eq_true, Nat.reduceAdd, Nat.reduceMul, Nat.reduceSub, wy_lt_t h']
  · have h1' : ¬ a < 0 := h1
    have h3 : nI (D 4) ≤ a := by
      rw [Int32.lt_iff_toInt_lt, nI_toInt (by omega)] at h2
      rw [Int32.le_iff_toInt_le, nI_toInt (by omega)]
      omega
    simp (disch := (first | omega | exact aCat_8 (by with_unfolding_all rfl) | exact rk_lt (by with_unfolding_all rfl) | exact aCat_16 (by with_unfolding_all rfl) | exact rk_eq (by with_unfolding_all rfl) | assumption | exact b2n_lt _ | exact id_b (by with_unfolding_all rfl) | (simp (disch := omega) only [u2_same, u2_ab, u2_aq]; done) | (simp (disch := omega) only [u2_same, u2_ab, u2_aq]; omega) | fail)) only [al_15488, wp_iload_1, wz_lt_t, wz_lt_f, wm_lt_1, wm_lt_2, wp_aloadr_0, wp_aloadk_0, hg_5_2, wn_ge_t, wn_ge_f, wk_1, wp_goto, al_15489, wk_0, wp_jsr, al_15490, wp_freturn0, wp_freturn1, wp_freturnb, nl_i, nl_r, nl_k, nl_j, nl_l, nI_add, pk_mul, pk_sub, tl_s, tl_n, aL_inl, u2_same, u2_ab, u2_aq, nI_l, lN_i, Nat.add_zero, Nat.zero_add, Nat.zero_le, true_and, and_true, b2n_10, b2n_T, b2n_F, b2n_0, Decidable.not_not, not_true_eq_false, not_false_eq_true, Nat.reduceAdd, Nat.reduceMul, Nat.reduceSub, wy_lt_f h1', wx_ge_t h3]
theorem t_23 {f : Nat} (h : f < 2147483648) (hF : D 0 * D 1 ≤ 36) (h4 : 0 < D 0 * D 1) : aMm ko d 23 [.ref 86, .int (nI f)] (hp D N I J x) Q = Q (some (.int (nI (b2n (f ≤ D 0 * D 1 - 1))))) (hp D N I J x) := by
  rw [me_23]
  simp (disch := (first | omega | exact aCat_8 (by with_unfolding_all rfl) | exact rk_lt (by with_unfolding_all rfl) | exact aCat_16 (by with_unfolding_all rfl) | exact rk_eq (by with_unfolding_all rfl) | assumption | exact b2n_lt _ | exact id_b (by with_unfolding_all rfl) | (simp (disch := omega) only [u2_same, u2_ab, u2_aq]; done) | (simp (disch := omega) only [u2_same, u2_ab, u2_aq]; omega) | fail)) only [al_1472, wp_iload_1, wp_i2l, wl_0, wp_aloadr_0, wp_aloadk_0, wc_10, t_10, wk_1, wp_isub, wc_4, t_4, lN_le, wp_freturn0, wp_freturn1, wp_freturnb, nl_i, nl_r, nl_k, nl_j, nl_l, nI_add, pk_mul, pk_sub, tl_s, tl_n, aL_inl, u2_same, u2_ab, u2_aq, nI_l, lN_i, Nat.add_zero, Nat.zero_add, Nat.zero_le, true_and, and_true, b2n_10, b2n_T, b2n_F, b2n_0, Decidable.not_not, not_true_eq_false, not_false_eq_true, Nat.reduceAdd, Nat.reduceMul, Nat.reduceSub]
theorem t_23x {a : Int32} (hF : D 0 * D 1 ≤ 36) (h4 : 0 < D 0 * D 1) (h : a < nI 0 ∨ (¬ a < nI 0 ∧ nI (D 0 * D 1 - 1) < a)) : aMm ko d 23 [.ref 86, .int a] (hp D N I J x) Q = Q (some (.int (nI 0))) (hp D N I J x) := by
  have hin := in_f (a := 0) (b := D 0 * D 1 - 1) (by decide) (by omega) h
  rw [me_23]
  simp (disch := (first | omega | exact aCat_8 (by with_unfolding_all rfl) | exact rk_lt (by with_unfolding_all rfl) | exact aCat_16 (by with_unfolding_all rfl) | exact rk_eq (by with_unfolding_all rfl) | assumption | exact b2n_lt _ | exact id_b (by with_unfolding_all rfl) | (simp (disch := omega) only [u2_same, u2_ab, u2_aq]; done) | (simp (disch := omega) only [u2_same, u2_ab, u2_aq]; omega) | fail)) only [al_1472, wp_iload_1, wp_i2l, wl_0, wp_aloadr_0, wp_aloadk_0, wc_10, t_10, wk_1, wp_isub, wc_4, t_4, lN_le, wp_freturn0, wp_freturn1, wp_freturnb, nl_i, nl_r, nl_k, nl_j, nl_l, nI_add, pk_mul, pk_sub, tl_s, tl_n, aL_inl, u2_same, u2_ab, u2_aq, nI_l, lN_i, Nat.add_zero, Nat.zero_add, Nat.zero_le, true_and, and_true, b2n_10, b2n_T, b2n_F, b2n_0, Decidable.not_not, not_true_eq_false, not_false_eq_true, Nat.reduceAdd, Nat.reduceMul, Nat.reduceSub, b2n_f hin]
/-- a field and a number from 1 to 9, or not -/
theorem t_163b {a b : Int32} {s : Nat} (hd : D 4 ≤ 36) (h4 : 0 < D 4) (h : (a < nI 0 ∨ (¬ a < nI 0 ∧ nI (D 4 - 1) < a)) ∨ ((∃ f, f < D 4 ∧ a = nI f) ∧ (b < nI 1 ∨ (¬ b < nI 1 ∧ nI 9 < b)))) : aMm ko d 163 [.ref 0, .ref s, .int a, .int b] (hp D N I J x) Q = Q (some (.int (-1))) (hp D N I J x) := by
  rw [me_163]
  rcases h with h | ⟨⟨f, hf, rfl⟩, h | ⟨h1, h2⟩⟩
  · simp (disch := (first | omega | exact aCat_8 (by with_unfolding_all rfl) | exact rk_lt (by with_unfolding_all rfl) | exact aCat_16 (by with_unfolding_all rfl) | exact rk_eq (by with_unfolding_all rfl) | assumption | exact b2n_lt _ | exact id_b (by with_unfolding_all rfl) | (simp (disch := omega) only [u2_same, u2_ab, u2_aq]; done) | (simp (disch := omega) only [u2_same, u2_ab, u2_aq]; omega) | fail)) only [al_10432, wp_aloadr_0, wp_aloadk_0, hg_0_2, wp_iload_2, wc_242, wz_eq_t, wz_eq_f, wb_eq_t, wb_eq_f, wm_eq_1, wm_eq_2, wp_iload_3, wk_1, wn_lt_t, wn_lt_f, wk_9, wn_le_t, wn_le_f, wp_jsr, al_10433, wk_m1, wp_ireturn, al_10434, wp_aloadr_1, wp_aloadk_1, hg_20_0, ha_21l, ha_21s, hg_22_0, ha_23l, ha_23s, hg_24_0, ha_25l, ha_25s, wn_ge_t, wn_ge_f, wk_m2, al_10435, wp_dup2, wp_isub, nl_i, nl_r, nl_k, nl_j, nl_l, nI_add, pk_mul, pk_sub, tl_s, tl_n, aL_inl, u2_same, u2_ab, u2_aq, nI_l, lN_i, Nat.add_zero, Nat.zero_add, Nat.zero_le, true_and, and_true, b2n_10, b2n_T, b2n_F, b2n_0, Decidable.not_not, not_true_eq_false, not_false_eq_true, Nat.reduceAdd, Nat.reduceMul, Nat.reduceSub, t_242x hd h4 h]
  · simp (disch := (first | omega | exact aCat_8 (by with_unfolding_all rfl) | exact rk_lt (by with_unfolding_all rfl) | exact aCat_16 (by with_unfolding_all rfl) | exact rk_eq (by with_unfolding_all rfl) | assumption | exact b2n_lt _ | exact id_b (by with_unfolding_all rfl) | (simp (disch := omega) only [u2_same, u2_ab, u2_aq]; done) | (simp (disch := omega) only [u2_same, u2_ab, u2_aq]; omega) | fail)) only [al_10432, wp_aloadr_0, wp_aloadk_0, hg_0_2, wp_iload_2, wc_242, wz_eq_t, wz_eq_f, wb_eq_t, wb_eq_f, wm_eq_1, wm_eq_2, wp_iload_3, wk_1, wn_lt_t, wn_lt_f, wk_9, wn_le_t, wn_le_f, wp_jsr, al_10433, wk_m1, wp_ireturn, al_10434, wp_aloadr_1, wp_aloadk_1, hg_20_0, ha_21l, ha_21s, hg_22_0, ha_23l, ha_23s, hg_24_0, ha_25l, ha_25s, wn_ge_t, wn_ge_f, wk_m2, al_10435, wp_dup2, wp_isub, nl_i, nl_r, nl_k, nl_j, nl_l, nI_add, pk_mul, pk_sub, tl_s, tl_n, aL_inl, u2_same, u2_ab, u2_aq, nI_l, lN_i, Nat.add_zero, Nat.zero_add, Nat.zero_le, true_and, and_true, b2n_10, b2n_T, b2n_F, b2n_0, Decidable.not_not, not_true_eq_false, not_false_eq_true, Nat.reduceAdd, Nat.reduceMul, Nat.reduceSub, t_242, b2n_t hf, wx_lt_t h]
  · have h3 : ¬ b ≤ nI 9 := fun z => (Int32.not_lt.mpr z) h2
    simp (disch := (first | omega | exact aCat_8 (by with_unfolding_all rfl) | exact rk_lt (by with_unfolding_all rfl) | exact aCat_16 (by with_unfolding_all rfl) | exact rk_eq (by with_unfolding_all rfl) | assumption | exact b2n_lt _ | exact id_b (by with_unfolding_all rfl) | (simp (disch := omega) only [u2_same, u2_ab, u2_aq]; done) | (simp (disch := omega) only [u2_same, u2_ab, u2_aq]; omega) | fail)) only [al_10432, wp_aloadr_0, wp_aloadk_0, hg_0_2, wp_iload_2, wc_242, wz_eq_t, wz_eq_f, wb_eq_t, wb_eq_f, wm_eq_1, wm_eq_2, wp_iload_3, wk_1, wn_lt_t, wn_lt_f, wk_9, wn_le_t, wn_le_f, wp_jsr, al_10433, wk_m1, wp_ireturn, al_10434, wp_aloadr_1, wp_aloadk_1, hg_20_0, ha_21l, ha_21s, hg_22_0, ha_23l, ha_23s, hg_24_0, ha_25l, ha_25s, wn_ge_t, wn_ge_f, wk_m2, al_10435, wp_dup2, wp_isub, nl_i, nl_r, nl_k, nl_j, nl_l, nI_add, pk_mul, pk_sub, tl_s, tl_n, aL_inl, u2_same, u2_ab, u2_aq, nI_l, lN_i, Nat.add_zero, Nat.zero_add, Nat.zero_le, true_and, and_true, b2n_10, b2n_T, b2n_F, b2n_0, Decidable.not_not, not_true_eq_false, not_false_eq_true, Nat.reduceAdd, Nat.reduceMul, Nat.reduceSub, t_242, b2n_t hf, wx_lt_f h1, wx_le_f h3]
theorem t_163l {f n s : Nat} (hs : stB s = true) (hd : D 4 ≤ 36) (hf : f < D 4) (h1 : 1 ≤ n) (h9 : n ≤ 9) (hlt : N (s + 1) f < n) : aMm ko d 163 [.ref 0, .ref s, .int (nI f), .int (nI n)] (hp D N I J x) Q = Q (some (.int (-2))) (hp D N I J x) := by
  rw [me_163]
  simp (disch := (first | omega | exact aCat_8 (by with_unfolding_all rfl) | exact rk_lt (by with_unfolding_all rfl) | exact aCat_16 (by with_unfolding_all rfl) | exact rk_eq (by with_unfolding_all rfl) | assumption | exact b2n_lt _ | exact id_b (by with_unfolding_all rfl) | (simp (disch := omega) only [u2_same, u2_ab, u2_aq]; done) | (simp (disch := omega) only [u2_same, u2_ab, u2_aq]; omega) | fail)) only [al_10432, wp_aloadr_0, wp_aloadk_0, hg_0_2, wp_iload_2, wc_242, wz_eq_t, wz_eq_f, wb_eq_t, wb_eq_f, wm_eq_1, wm_eq_2, wp_iload_3, wk_1, wn_lt_t, wn_lt_f, wk_9, wn_le_t, wn_le_f, wp_jsr, al_10433, wk_m1, wp_ireturn, al_10434, wp_aloadr_1, wp_aloadk_1, hg_20_0, ha_21l, ha_21s, hg_22_0, ha_23l, ha_23s, hg_24_0, ha_25l, ha_25s, wn_ge_t, wn_ge_f, wk_m2, al_10435, wp_dup2, wp_isub, nl_i, nl_r, nl_k, nl_j, nl_l, nI_add, pk_mul, pk_sub, tl_s, tl_n, aL_inl, u2_same, u2_ab, u2_aq, nI_l, lN_i, Nat.add_zero, Nat.zero_add, Nat.zero_le, true_and, and_true, b2n_10, b2n_T, b2n_F, b2n_0, Decidable.not_not, not_true_eq_false, not_false_eq_true, Nat.reduceAdd, Nat.reduceMul, Nat.reduceSub, t_242, b2n_t hf, st_g0 hs, st_hl hs]
theorem t_163g {f n s : Nat} (hs : stB s = true) (hd : D 4 ≤ 36) (hf : f < D 4) (h1 : 1 ≤ n) (h9 : n ≤ 9) (hge : n ≤ N (s + 1) f) (hb : N (s + 1) f ≤ 9) : aMm ko d 163 [.ref 0, .ref s, .int (nI f), .int (nI n)] (hp D N I J x) Q = Q (some (.int (nI (N (s + 1) f - n)))) (hp D (u2 N (s + 1) f (N (s + 1) f - n)) I J x) := by
  rw [me_163]
  simp (disch := (first | omega | exact aCat_8 (by with_unfolding_all rfl) | exact rk_lt (by with_unfolding_all rfl) | exact aCat_16 (by with_unfolding_all rfl) | exact rk_eq (by with_unfolding_all rfl) | assumption | exact b2n_lt _ | exact id_b (by with_unfolding_all rfl) | (simp (disch := omega) only [u2_same, u2_ab, u2_aq]; done) | (simp (disch := omega) only [u2_same, u2_ab, u2_aq]; omega) | fail)) only [al_10432, wp_aloadr_0, wp_aloadk_0, hg_0_2, wp_iload_2, wc_242, wz_eq_t, wz_eq_f, wb_eq_t, wb_eq_f, wm_eq_1, wm_eq_2, wp_iload_3, wk_1, wn_lt_t, wn_lt_f, wk_9, wn_le_t, wn_le_f, wp_jsr, al_10433, wk_m1, wp_ireturn, al_10434, wp_aloadr_1, wp_aloadk_1, hg_20_0, ha_21l, ha_21s, hg_22_0, ha_23l, ha_23s, hg_24_0, ha_25l, ha_25s, wn_ge_t, wn_ge_f, wk_m2, al_10435, wp_dup2, wp_isub, nl_i, nl_r, nl_k, nl_j, nl_l, nI_add, pk_mul, pk_sub, tl_s, tl_n, aL_inl, u2_same, u2_ab, u2_aq, nI_l, lN_i, Nat.add_zero, Nat.zero_add, Nat.zero_le, true_and, and_true, b2n_10, b2n_T, b2n_F, b2n_0, Decidable.not_not, not_true_eq_false, not_false_eq_true, Nat.reduceAdd, Nat.reduceMul, Nat.reduceSub, t_242, b2n_t hf, st_g0 hs, st_hl hs, st_hs hs]
theorem t_46b {a b : Int32} {r : Nat} (hF : D 0 * D 1 ≤ 36) (h4 : 0 < D 0 * D 1) (h : (a < nI 0 ∨ (¬ a < nI 0 ∧ nI (D 0 * D 1 - 1) < a)) ∨ ((∃ f, f < D 0 * D 1 ∧ a = nI f) ∧ (b < nI 1 ∨ (¬ b < nI 1 ∧ nI 9 < b)))) : aMm ko d 46 [.ref 86, .ref r, .int a, .int b] (hp D N I J x) Q = Q (some (.int (-1))) (hp D N I J x) := by
  rw [me_46]
  rcases h with h | ⟨⟨f, hf, rfl⟩, h⟩
  · simp (disch := (first | omega | exact aCat_8 (by with_unfolding_all rfl) | exact rk_lt (by with_unfolding_all rfl) | exact aCat_16 (by with_unfolding_all rfl) | exact rk_eq (by with_unfolding_all rfl) | assumption | exact b2n_lt _ | exact id_b (by with_unfolding_all rfl) | (simp (disch := omega) only [u2_same, u2_ab, u2_aq]; done) | (simp (disch := omega) only [u2_same, u2_ab, u2_aq]; omega) | fail)) only [al_2944, wp_aloadr_0, wp_aloadk_0, wp_iload_2, wc_23, wz_eq_t, wz_eq_f, wb_eq_t, wb_eq_f, wm_eq_1, wm_eq_2, wp_iload_3, wp_i2l, wl_1, wl_9, wc_4, t_4, lN_le, wz_ne_t, wz_ne_f, wb_ne_t, wb_ne_f, wm_ne_1, wm_ne_2, wp_jsr, al_2945, wk_m1, wp_ireturn, al_2946, wp_aloadr_1, wp_aloadk_1, wn_ge_t, wn_ge_f, wk_m2, al_2947, wp_dup2, wp_isub, nl_i, nl_r, nl_k, nl_j, nl_l, nI_add, pk_mul, pk_sub, tl_s, tl_n, aL_inl, u2_same, u2_ab, u2_aq, nI_l, lN_i, Nat.add_zero, Nat.zero_add, Nat.zero_le, true_and, and_true, b2n_10, b2n_T, b2n_F, b2n_0, Decidable.not_not, not_true_eq_false, not_false_eq_true, Nat.reduceAdd, Nat.reduceMul, Nat.reduceSub, t_23x hF h4 h]
  · have hin := in_f (a := 1) (b := 9) (by decide) (by decide) h
    have hf' : f ≤ D 0 * D 1 - 1 := by omega
    simp (disch := (first | omega | exact aCat_8 (by with_unfolding_all rfl) | exact rk_lt (by with_unfolding_all rfl) | exact aCat_16 (by with_unfolding_all rfl) | exact rk_eq (by with_unfolding_all rfl) | assumption | exact b2n_lt _ | exact id_b (by with_unfolding_all rfl) | (simp (disch := omega) only [u2_same, u2_ab, u2_aq]; done) | (simp (disch := omega) only [u2_same, u2_ab, u2_aq]; omega) | fail)) only [al_2944, wp_aloadr_0, wp_aloadk_0, wp_iload_2, wc_23, wz_eq_t, wz_eq_f, wb_eq_t, wb_eq_f, wm_eq_1, wm_eq_2, wp_iload_3, wp_i2l, wl_1, wl_9, wc_4, t_4, lN_le, wz_ne_t, wz_ne_f, wb_ne_t, wb_ne_f, wm_ne_1, wm_ne_2, wp_jsr, al_2945, wk_m1, wp_ireturn, al_2946, wp_aloadr_1, wp_aloadk_1, wn_ge_t, wn_ge_f, wk_m2, al_2947, wp_dup2, wp_isub, nl_i, nl_r, nl_k, nl_j, nl_l, nI_add, pk_mul, pk_sub, tl_s, tl_n, aL_inl, u2_same, u2_ab, u2_aq, nI_l, lN_i, Nat.add_zero, Nat.zero_add, Nat.zero_le, true_and, and_true, b2n_10, b2n_T, b2n_F, b2n_0, Decidable.not_not, not_true_eq_false, not_false_eq_true, Nat.reduceAdd, Nat.reduceMul, Nat.reduceSub, t_23, b2n_t hf', b2n_f hin]
theorem t_46l {f n r : Nat} (hr : r = 89 ∨ r = 90) (hF : D 0 * D 1 ≤ 36) (hf : f < D 0 * D 1) (h1 : 1 ≤ n) (h9 : n ≤ 9) (hlt : N r f < n) : aMm ko d 46 [.ref 86, .ref r, .int (nI f), .int (nI n)] (hp D N I J x) Q = Q (some (.int (-2))) (hp D N I J x) := by
  have hf' : f ≤ D 0 * D 1 - 1 := by omega
  rw [me_46]
  simp (disch := (first | omega | exact aCat_8 (by with_unfolding_all rfl) | exact rk_lt (by with_unfolding_all rfl) | exact aCat_16 (by with_unfolding_all rfl) | exact rk_eq (by with_unfolding_all rfl) | assumption | exact b2n_lt _ | exact id_b (by with_unfolding_all rfl) | (simp (disch := omega) only [u2_same, u2_ab, u2_aq]; done) | (simp (disch := omega) only [u2_same, u2_ab, u2_aq]; omega) | fail)) only [al_2944, wp_aloadr_0, wp_aloadk_0, wp_iload_2, wc_23, wz_eq_t, wz_eq_f, wb_eq_t, wb_eq_f, wm_eq_1, wm_eq_2, wp_iload_3, wp_i2l, wl_1, wl_9, wc_4, t_4, lN_le, wz_ne_t, wz_ne_f, wb_ne_t, wb_ne_f, wm_ne_1, wm_ne_2, wp_jsr, al_2945, wk_m1, wp_ireturn, al_2946, wp_aloadr_1, wp_aloadk_1, wn_ge_t, wn_ge_f, wk_m2, al_2947, wp_dup2, wp_isub, nl_i, nl_r, nl_k, nl_j, nl_l, nI_add, pk_mul, pk_sub, tl_s, tl_n, aL_inl, u2_same, u2_ab, u2_aq, nI_l, lN_i, Nat.add_zero, Nat.zero_add, Nat.zero_le, true_and, and_true, b2n_10, b2n_T, b2n_F, b2n_0, Decidable.not_not, not_true_eq_false, not_false_eq_true, Nat.reduceAdd, Nat.reduceMul, Nat.reduceSub, t_23, b2n_t hf', ra_l hr]
theorem t_46g {f n r : Nat} (hr : r = 89 ∨ r = 90) (hF : D 0 * D 1 ≤ 36) (hf : f < D 0 * D 1) (h1 : 1 ≤ n) (h9 : n ≤ 9) (hge : n ≤ N r f) (hb : N r f ≤ 9) : aMm ko d 46 [.ref 86, .ref r, .int (nI f), .int (nI n)] (hp D N I J x) Q = Q (some (.int (nI (N r f - n)))) (hp D (u2 N r f (N r f - n)) I J x) := by
  have hf' : f ≤ D 0 * D 1 - 1 := by omega
  rw [me_46]
  simp (disch := (first | omega | exact aCat_8 (by with_unfolding_all rfl) | exact rk_lt (by with_unfolding_all rfl) | exact aCat_16 (by with_unfolding_all rfl) | exact rk_eq (by with_unfolding_all rfl) | assumption | exact b2n_lt _ | exact id_b (by with_unfolding_all rfl) | (simp (disch := omega) only [u2_same, u2_ab, u2_aq]; done) | (simp (disch := omega) only [u2_same, u2_ab, u2_aq]; omega) | fail)) only [al_2944, wp_aloadr_0, wp_aloadk_0, wp_iload_2, wc_23, wz_eq_t, wz_eq_f, wb_eq_t, wb_eq_f, wm_eq_1, wm_eq_2, wp_iload_3, wp_i2l, wl_1, wl_9, wc_4, t_4, lN_le, wz_ne_t, wz_ne_f, wb_ne_t, wb_ne_f, wm_ne_1, wm_ne_2, wp_jsr, al_2945, wk_m1, wp_ireturn, al_2946, wp_aloadr_1, wp_aloadk_1, wn_ge_t, wn_ge_f, wk_m2, al_2947, wp_dup2, wp_isub, nl_i, nl_r, nl_k, nl_j, nl_l, nI_add, pk_mul, pk_sub, tl_s, tl_n, aL_inl, u2_same, u2_ab, u2_aq, nI_l, lN_i, Nat.add_zero, Nat.zero_add, Nat.zero_le, true_and, and_true, b2n_10, b2n_T, b2n_F, b2n_0, Decidable.not_not, not_true_eq_false, not_false_eq_true, Nat.reduceAdd, Nat.reduceMul, Nat.reduceSub, t_23, b2n_t hf', ra_l hr, ra_s hr]
theorem t_164g {n : Nat} (h : n < 2147483648) (h1 : N 32 1 < 15) (h2 : N 32 2 ≤ 15) : aMm ko d 164 [.ref 0, .int (nI n)] (hp D N I J x) Q = Q (some (.int (nI n))) (hp D (puN N) I (cpJ J (34 + 2 * N 32 1) 22) x) := by
  rw [me_164]
  simp (disch := (first | omega | exact aCat_8 (by with_unfolding_all rfl) | exact rk_lt (by with_unfolding_all rfl) | exact aCat_16 (by with_unfolding_all rfl) | exact rk_eq (by with_unfolding_all rfl) | assumption | exact b2n_lt _ | exact id_b (by with_unfolding_all rfl) | (simp (disch := omega) only [u2_same, u2_ab, u2_aq]; done) | (simp (disch := omega) only [u2_same, u2_ab, u2_aq]; omega) | fail)) only [al_10496, wp_iload_1, wz_lt_t, wz_lt_f, wm_lt_1, wm_lt_2, wp_aloadr_0, wp_aloadk_0, hg_0_11, hg_0_8, wc_251, wp_jsr, al_10497, wp_ireturn, nl_i, nl_r, nl_k, nl_j, nl_l, nI_add, pk_mul, pk_sub, tl_s, tl_n, aL_inl, u2_same, u2_ab, u2_aq, nI_l, lN_i, Nat.add_zero, Nat.zero_add, Nat.zero_le, true_and, and_true, b2n_10, b2n_T, b2n_F, b2n_0, Decidable.not_not, not_true_eq_false, not_false_eq_true, Nat.reduceAdd, Nat.reduceMul, Nat.reduceSub, t_251 h1 h2]
theorem t_164b {a : Int32} (h : a < 0) : aMm ko d 164 [.ref 0, .int a] (hp D N I J x) Q = Q (some (.int a)) (hp D N I J x) := by
  rw [me_164]
  simp (disch := (first | omega | exact aCat_8 (by with_unfolding_all rfl) | exact rk_lt (by with_unfolding_all rfl) | exact aCat_16 (by with_unfolding_all rfl) | exact rk_eq (by with_unfolding_all rfl) | assumption | exact b2n_lt _ | exact id_b (by with_unfolding_all rfl) | (simp (disch := omega) only [u2_same, u2_ab, u2_aq]; done) | (simp (disch := omega) only [u2_same, u2_ab, u2_aq]; omega) | fail)) only [al_10496, wp_iload_1, wz_lt_t, wz_lt_f, wm_lt_1, wm_lt_2, wp_aloadr_0, wp_aloadk_0, hg_0_11, hg_0_8, wc_251, wp_jsr, al_10497, wp_ireturn, nl_i, nl_r, nl_k, nl_j, nl_l, nI_add, pk_mul, pk_sub, tl_s, tl_n, aL_inl, u2_same, u2_ab, u2_aq, nI_l, lN_i, Nat.add_zero, Nat.zero_add, Nat.zero_le, true_and, and_true, b2n_10, b2n_T, b2n_F, b2n_0, Decidable.not_not, not_true_eq_false, not_false_eq_true, Nat.reduceAdd, Nat.reduceMul, Nat.reduceSub, wy_lt_t h]
theorem t_47g {n : Nat} (h : n < 2147483648) (h15 : N 86 26 ≤ 15) : aMm ko d 47 [.ref 86, .int (nI n)] (hp D N I J x) Q = Q (some (.int (nI n))) (hp D (adN N) I J x) := by
  rw [me_47]
  simp (disch := (first | omega | exact aCat_8 (by with_unfolding_all rfl) | exact rk_lt (by with_unfolding_all rfl) | exact aCat_16 (by with_unfolding_all rfl) | exact rk_eq (by with_unfolding_all rfl) | assumption | exact b2n_lt _ | exact id_b (by with_unfolding_all rfl) | (simp (disch := omega) only [u2_same, u2_ab, u2_aq]; done) | (simp (disch := omega) only [u2_same, u2_ab, u2_aq]; omega) | fail)) only [al_3008, wp_iload_1, wz_ge_t, wz_ge_f, wm_ge_1, wm_ge_2, wp_goto, al_3009, wp_aloadr_0, wp_aloadk_0, wc_44, wp_jsr, al_3010, wp_ireturn, nl_i, nl_r, nl_k, nl_j, nl_l, nI_add, pk_mul, pk_sub, tl_s, tl_n, aL_inl, u2_same, u2_ab, u2_aq, nI_l, lN_i, Nat.add_zero, Nat.zero_add, Nat.zero_le, true_and, and_true, b2n_10, b2n_T, b2n_F, b2n_0, Decidable.not_not, not_true_eq_false, not_false_eq_true, Nat.reduceAdd, Nat.reduceMul, Nat.reduceSub, t_44 h15]
theorem t_47b {a : Int32} (h : a < 0) : aMm ko d 47 [.ref 86, .int a] (hp D N I J x) Q = Q (some (.int a)) (hp D N I J x) := by
  have h' : ¬ 0 ≤ a := Int32.not_le.mpr h
  rw [me_47]
  simp (disch := (first | omega | exact aCat_8 (by with_unfolding_all rfl) | exact rk_lt (by with_unfolding_all rfl) | exact aCat_16 (by with_unfolding_all rfl) | exact rk_eq (by with_unfolding_all rfl) | assumption | exact b2n_lt _ | exact id_b (by with_unfolding_all rfl) | (simp (disch := omega) only [u2_same, u2_ab, u2_aq]; done) | (simp (disch := omega) only [u2_same, u2_ab, u2_aq]; omega) | fail)) only [al_3008, wp_iload_1, wz_ge_t, wz_ge_f, wm_ge_1, wm_ge_2, wp_goto, al_3009, wp_aloadr_0, wp_aloadk_0, wc_44, wp_jsr, al_3010, wp_ireturn, nl_i, nl_r, nl_k, nl_j, nl_l, nI_add, pk_mul, pk_sub, tl_s, tl_n, aL_inl, u2_same, u2_ab, u2_aq, nI_l, lN_i, Nat.add_zero, Nat.zero_add, Nat.zero_le, true_and, and_true, b2n_10, b2n_T, b2n_F, b2n_0, Decidable.not_not, not_true_eq_false, not_false_eq_true, Nat.reduceAdd, Nat.reduceMul, Nat.reduceSub, wy_ge_f h']
end A1
