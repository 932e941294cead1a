/-! heap, source. From wip/whole/src. -/
theorem u2_row {N : Nat → Nat → Nat} {a j v : Nat} : u2 N a j v = setRow N a (upn (N a) j v) := by
  funext b q
  unfold u2 setRow upn
  by_cases h : b = a
  · subst h; simp
  · simp [h]
theorem u2_id {N : Nat → Nat → Nat} {a j v : Nat} (h : N a j = v) : u2 N a j v = N := by
  funext b q
  unfold u2
  split
  · rename_i z
    rw [z.1, z.2, h]
  · rfl
section A3
variable {ko : aKo} {d k : Nat} {is : List Instr} {ls st : List Value} {σ : aH} {D : Nat → Nat} {N : Nat → Nat → Nat} {I : Nat → Nat → Int32} {J : Nat → Nat → Int64} {x t : Nat} {Q : Option Value → aH → Prop} {P : (Option Value ⊕ Unit) → aH → Prop}
/-- the reference's memory behind putting a row by -/
def pbN (N1 : Nat → Nat → Nat) : Nat → Nat → Nat := setRow (u2 N1 86 0 0) 99 (puT (N1 89) (N1 99) (N1 86 26) 111)
theorem pb_89 {N1 : Nat → Nat → Nat} : pbN N1 89 = N1 89 := by unfold pbN; rw [setRow_n (by decide), u2_nb (by decide)]
theorem pb_26 {N1 : Nat → Nat → Nat} : pbN N1 86 26 = N1 86 26 := by unfold pbN; rw [setRow_n (by decide), u2_aq (by decide)]
theorem pb_t39 {N1 : Nat → Nat → Nat} {I1 : Nat → Nat → Int32} {J1 : Nat → Nat → Int64} (h : N1 86 26 ≤ 15) : aMm ko d 39 [.ref 86] (hp D (u2 N1 86 0 0) I1 J1 x) Q = Q none (hp D (pbN N1) I1 J1 x) := by
  have e1 : u2 N1 86 0 0 89 = N1 89 := u2_nb (by decide)
  have e2 : u2 N1 86 0 0 99 = N1 99 := u2_nb (by decide)
  have e3 : u2 N1 86 0 0 86 26 = N1 86 26 := u2_aq (by decide)
  have t39 := @t_39 ko d D (u2 N1 86 0 0) I1 J1 x Q
  rw [e1, e2, e3] at t39
  exact t39 h
theorem pb_R {N1 : Nat → Nat → Nat} {I1 I2 : Nat → Nat → Int32} {J1 J2 : Nat → Nat → Int64} {S' : Nat → Nat} (hu : N1 86 26 ≤ 15) (hz : ∀ q, 111 ≤ q → N1 89 q = 0) (hI : sI I2 I1) (hJ : ∀ b q, b < 86 → J2 b q = J1 b q) : actR N1 I1 J1 S' (adN (setRow (pbN N1) 89 S')) I2 J2 := by
  refine ad_R hu hz ?_ ?_ ?_ ?_ hI hJ setRow_s
  · rw [setRow_n (by decide)]
    unfold pbN
    rw [setRow_s]
  · rw [setRow_n (by decide)]
    exact pb_26
  · intro b q z y
    rw [setRow_n (by rintro rfl; cases y)]
    unfold pbN
    rw [setRow_n (by rintro rfl; cases y), u2_rd, if_neg (by rintro ⟨rfl, rfl⟩; cases z)]
  · intro b q hb
    rw [setRow_n (by omega)]
    unfold pbN
    rw [setRow_n (by omega), u2_ab (by omega)]
theorem ad_1 {M : Nat → Nat → Nat} : adN M 86 1 = M 86 1 := by
  unfold adN
  split
  · rw [u2_aq (by decide)]
  · rw [u2_aq (by decide), setRow_n (by decide)]
theorem o_gen {kc kr : Nat} {As : List Value} {v : Value} {S' : Nat → Nat} {M : Nat → Nat → Nat} {Jm : Nat → Nat → Int64} (h : inv D N I J t) (hS' : rwO (D 1) S' ∧ rwZ (D 0 * D 1) S' ∧ (S' 109 ≤ t + 300 ∧ sumR (fun q => S' (36 + q)) 36 ≤ 8)) (hM : ∀ b q, b ≠ 20 → b ≠ 21 → M b q = cpS N 22 20 b q) (hJ : ∀ b q, b ≠ 20 → Jm b q = cpJ J 22 20 b q) (hS : clS M Jm 20 S')
    (hC : ∀ Q : Option Value → aH → Prop, Q (some v) (hp D (puN M) I (cpJ Jm (34 + 2 * M 32 1) 22) x) → aMm ko d kc (.ref 0 :: As) (hp D N I J x) Q)
    (hR : ∀ N1 I1 J1, (∀ b q, 86 ≤ b → N1 b q = N b q) → ∀ Q : Option Value → aH → Prop, Q (some v) (hp D (adN (setRow (pbN N1) 89 S')) I1 J1 x) → aMm ko d kr (.ref 86 :: As) (hp D N1 I1 J1 x) Q) : opO ko d kc kr As D N I J x (t + 300) := by
  have h89 := h.1.2.2.2.2.1
  refine op_act (v := v) (S' := S') h (by omega) hS' ?_ ?_
  · intro Q hQ
    refine hC Q ?_
    have hl : M 32 1 < 15 := by
      rw [hM 32 1 (by decide) (by decide), cp_N (by decide) (by decide)]
      exact h.1.2.2.2.2.2.1.2.2.1
    refine hQ _ _ _ (ac_C h.1 ?_ sI_r ?_ ?_ ?_ ?_ ?_ hS ?_) ⟨?_, ?_⟩
    · intro b q z y
      rw [hM b q (by rintro rfl; cases y) (by rintro rfl; cases y)]
      exact bf_s b q z
    · intro b q z y
      rw [hJ b q (by rintro rfl; cases y)]
      exact bf_j b q z
    · intro b q hb
      rw [hM b q (by omega) (by omega), cp_N (by omega) (by omega)]
    · intro b q hb
      rw [hJ b q (by omega), cp_J (by omega)]
    · intro b q z1 z2
      rw [hM b q (by omega) (by omega), cp_N (by omega) (by omega)]
    · intro b q z1 z2
      rw [hJ b q (by omega), cp_J (by omega)]
    · exact clS_c (bf_S h.1) (fun q => hM 22 q (by decide) (by decide)) (fun q => hM 23 q (by decide) (by decide)) (fun q => hJ 22 q (by decide))
    · rw [pu_N hl (by omega), hM 3 1 (by decide) (by decide), cp_N (by decide) (by decide)]
    · intro q
      rw [pu_J hl (by omega), hJ 4 q (by decide), cp_J (by decide)]
  · intro N1 I1 J1 hN1 Q hQ
    have e89 : N1 89 = N 89 := by funext q; exact hN1 89 q (by decide)
    have e26 : N1 86 26 = N 86 26 := hN1 86 26 (by decide)
    refine hR N1 I1 J1 hN1 Q (hQ _ _ _ (pb_R (by rw [e26]; exact h.1.2.2.2.2.2.1.2.1) (by rw [e89]; exact h89.1.2.2.2.2) sI_r (fun _ _ _ => rfl)) ⟨?_, fun _ => rfl⟩)
    rw [ad_1, setRow_n (by decide)]
    unfold pbN
    rw [setRow_n (by decide), u2_aq (by decide)]
/-- an act that is refused, in the same words -/
theorem o_ref {kc kr : Nat} {As : List Value} {v : Int32} (h : inv D N I J t)
    (hC : ∀ Q : Option Value → aH → Prop, Q (some (.int v)) (hp D (cpS N 22 20) I (cpJ J 22 20) x) → aMm ko d kc (.ref 0 :: As) (hp D N I J x) Q)
    (hR : ∀ N1 J1, (∀ b q, 86 ≤ b → N1 b q = N b q) → ∀ Q : Option Value → aH → Prop, (Q (some (.int v)) (hp D (pbN N1) I J1 x)) → aMm ko d kr (.ref 86 :: As) (hp D N1 I J1 x) Q) : opO ko d kc kr As D N I J x (t + 300) := by
  refine op_no (v := .int v) h (by omega) ?_ hR
  intro Q hQ
  exact hC Q (hQ _ _ bf_s bf_j (fun b q z1 z2 => cp_N z1 z2) (fun b q z => cp_J z))
theorem t_166b {a b : Int32} (hd : D 4 ≤ 36) (h4 : 0 < D 4) (h : (a < nI 0 ∨ (¬ a < nI 0 ∧ nI (D 4 - 1) < a)) ∨ ((∃ f, f < D 4 ∧ a = nI f) ∧ (b < nI 1 ∨ (¬ b < nI 1 ∧ nI 9 < b)))) : aMm ko d 166 [.ref 0, .int a, .int b] (hp D N I J x) Q = Q (some (.int (-1))) (hp D N I J x) := by
  rw [me_166]
  rcases h with h | ⟨⟨f, hf, rfl⟩, h | ⟨h1, h2⟩⟩
  · simp (disch := (first | omega | exact aCat_8 (by with_unfolding_all rfl) | exact rk_lt (by with_unfolding_all rfl) | exact aCat_16 (by with_unfolding_all rfl) | exact rk_eq (by with_unfolding_all rfl) | assumption | exact b2n_lt _ | exact id_b (by with_unfolding_all rfl) | (simp (disch := omega) only [u2_same, u2_ab, u2_aq]; done) | (simp (disch := omega) only [u2_same, u2_ab, u2_aq]; omega) | fail)) only [al_10624, wp_aloadr_0, wp_aloadk_0, hg_0_2, wp_iload_1, wc_242, wz_eq_t, wz_eq_f, wb_eq_t, wb_eq_f, wm_eq_1, wm_eq_2, wp_iload_2, wk_1, wn_lt_t, wn_lt_f, wk_9, wn_le_t, wn_le_f, wp_jsr, al_10625, wk_m1, wp_ireturn, al_10626, hg_0_7, hg_20_0, ha_21l, ha_21s, hg_22_0, ha_23l, ha_23s, hg_24_0, ha_25l, ha_25s, wp_iadd, wk_m3, al_10627, wp_dup2, nl_i, nl_r, nl_k, nl_j, nl_l, nI_add, pk_mul, pk_sub, tl_s, tl_n, aL_inl, u2_same, u2_ab, u2_aq, nI_l, lN_i, Nat.add_zero, Nat.zero_add, Nat.zero_le, true_and, and_true, b2n_10, b2n_T, b2n_F, b2n_0, Decidable.not_not, not_true_eq_false, not_false_eq_true, Nat.reduceAdd, Nat.reduceMul, Nat.reduceSub, t_242x hd h4 h]
  · simp (disch := (first | omega | exact aCat_8 (by with_unfolding_all rfl) | exact rk_lt (by with_unfolding_all rfl) | exact aCat_16 (by with_unfolding_all rfl) | exact rk_eq (by with_unfolding_all rfl) | assumption | exact b2n_lt _ | exact id_b (by with_unfolding_all rfl) | (simp (disch := omega) only [u2_same, u2_ab, u2_aq]; done) | (simp (disch := omega) only [u2_same, u2_ab, u2_aq]; omega) | fail)) only [al_10624, wp_aloadr_0, wp_aloadk_0, hg_0_2, wp_iload_1, wc_242, wz_eq_t, wz_eq_f, wb_eq_t, wb_eq_f, wm_eq_1, wm_eq_2, wp_iload_2, wk_1, wn_lt_t, wn_lt_f, wk_9, wn_le_t, wn_le_f, wp_jsr, al_10625, wk_m1, wp_ireturn, al_10626, hg_0_7, hg_20_0, ha_21l, ha_21s, hg_22_0, ha_23l, ha_23s, hg_24_0, ha_25l, ha_25s, wp_iadd, wk_m3, al_10627, wp_dup2, nl_i, nl_r, nl_k, nl_j, nl_l, nI_add, pk_mul, pk_sub, tl_s, tl_n, aL_inl, u2_same, u2_ab, u2_aq, nI_l, lN_i, Nat.add_zero, Nat.zero_add, Nat.zero_le, true_and, and_true, b2n_10, b2n_T, b2n_F, b2n_0, Decidable.not_not, not_true_eq_false, not_false_eq_true, Nat.reduceAdd, Nat.reduceMul, Nat.reduceSub, t_242, b2n_t hf, wx_lt_t h]
  · have h3 : ¬ b ≤ nI 9 := fun z => (Int32.not_lt.mpr z) h2
    simp (disch := (first | omega | exact aCat_8 (by with_unfolding_all rfl) | exact rk_lt (by with_unfolding_all rfl) | exact aCat_16 (by with_unfolding_all rfl) | exact rk_eq (by with_unfolding_all rfl) | assumption | exact b2n_lt _ | exact id_b (by with_unfolding_all rfl) | (simp (disch := omega) only [u2_same, u2_ab, u2_aq]; done) | (simp (disch := omega) only [u2_same, u2_ab, u2_aq]; omega) | fail)) only [al_10624, wp_aloadr_0, wp_aloadk_0, hg_0_2, wp_iload_1, wc_242, wz_eq_t, wz_eq_f, wb_eq_t, wb_eq_f, wm_eq_1, wm_eq_2, wp_iload_2, wk_1, wn_lt_t, wn_lt_f, wk_9, wn_le_t, wn_le_f, wp_jsr, al_10625, wk_m1, wp_ireturn, al_10626, hg_0_7, hg_20_0, ha_21l, ha_21s, hg_22_0, ha_23l, ha_23s, hg_24_0, ha_25l, ha_25s, wp_iadd, wk_m3, al_10627, wp_dup2, nl_i, nl_r, nl_k, nl_j, nl_l, nI_add, pk_mul, pk_sub, tl_s, tl_n, aL_inl, u2_same, u2_ab, u2_aq, nI_l, lN_i, Nat.add_zero, Nat.zero_add, Nat.zero_le, true_and, and_true, b2n_10, b2n_T, b2n_F, b2n_0, Decidable.not_not, not_true_eq_false, not_false_eq_true, Nat.reduceAdd, Nat.reduceMul, Nat.reduceSub, t_242, b2n_t hf, wx_lt_f h1, wx_le_f h3]
theorem t_166l {f n : Nat} (hd : D 4 ≤ 36) (hf : f < D 4) (h1 : 1 ≤ n) (h9 : n ≤ 9) (hb : N 21 f ≤ 9) (hlt : 9 < N 21 f + n) : aMm ko d 166 [.ref 0, .int (nI f), .int (nI n)] (hp D N I J x) Q = Q (some (.int (-3))) (hp D N I J x) := by
  rw [me_166]
  simp (disch := (first | omega | exact aCat_8 (by with_unfolding_all rfl) | exact rk_lt (by with_unfolding_all rfl) | exact aCat_16 (by with_unfolding_all rfl) | exact rk_eq (by with_unfolding_all rfl) | assumption | exact b2n_lt _ | exact id_b (by with_unfolding_all rfl) | (simp (disch := omega) only [u2_same, u2_ab, u2_aq]; done) | (simp (disch := omega) only [u2_same, u2_ab, u2_aq]; omega) | fail)) only [al_10624, wp_aloadr_0, wp_aloadk_0, hg_0_2, wp_iload_1, wc_242, wz_eq_t, wz_eq_f, wb_eq_t, wb_eq_f, wm_eq_1, wm_eq_2, wp_iload_2, wk_1, wn_lt_t, wn_lt_f, wk_9, wn_le_t, wn_le_f, wp_jsr, al_10625, wk_m1, wp_ireturn, al_10626, hg_0_7, hg_20_0, ha_21l, ha_21s, hg_22_0, ha_23l, ha_23s, hg_24_0, ha_25l, ha_25s, wp_iadd, wk_m3, al_10627, wp_dup2, nl_i, nl_r, nl_k, nl_j, nl_l, nI_add, pk_mul, pk_sub, tl_s, tl_n, aL_inl, u2_same, u2_ab, u2_aq, nI_l, lN_i, Nat.add_zero, Nat.zero_add, Nat.zero_le, true_and, and_true, b2n_10, b2n_T, b2n_F, b2n_0, Decidable.not_not, not_true_eq_false, not_false_eq_true, Nat.reduceAdd, Nat.reduceMul, Nat.reduceSub, t_242, b2n_t hf]
theorem t_166g {f n : Nat} (hd : D 4 ≤ 36) (hf : f < D 4) (h1 : 1 ≤ n) (h9 : n ≤ 9) (hb : N 21 f + n ≤ 9) : aMm ko d 166 [.ref 0, .int (nI f), .int (nI n)] (hp D N I J x) Q = Q (some (.int (nI (N 21 f + n)))) (hp D (u2 N 21 f (N 21 f + n)) I J x) := by
  rw [me_166]
  simp (disch := (first | omega | exact aCat_8 (by with_unfolding_all rfl) | exact rk_lt (by with_unfolding_all rfl) | exact aCat_16 (by with_unfolding_all rfl) | exact rk_eq (by with_unfolding_all rfl) | assumption | exact b2n_lt _ | exact id_b (by with_unfolding_all rfl) | (simp (disch := omega) only [u2_same, u2_ab, u2_aq]; done) | (simp (disch := omega) only [u2_same, u2_ab, u2_aq]; omega) | fail)) only [al_10624, wp_aloadr_0, wp_aloadk_0, hg_0_2, wp_iload_1, wc_242, wz_eq_t, wz_eq_f, wb_eq_t, wb_eq_f, wm_eq_1, wm_eq_2, wp_iload_2, wk_1, wn_lt_t, wn_lt_f, wk_9, wn_le_t, wn_le_f, wp_jsr, al_10625, wk_m1, wp_ireturn, al_10626, hg_0_7, hg_20_0, ha_21l, ha_21s, hg_22_0, ha_23l, ha_23s, hg_24_0, ha_25l, ha_25s, wp_iadd, wk_m3, al_10627, wp_dup2, nl_i, nl_r, nl_k, nl_j, nl_l, nI_add, pk_mul, pk_sub, tl_s, tl_n, aL_inl, u2_same, u2_ab, u2_aq, nI_l, lN_i, Nat.add_zero, Nat.zero_add, Nat.zero_le, true_and, and_true, b2n_10, b2n_T, b2n_F, b2n_0, Decidable.not_not, not_true_eq_false, not_false_eq_true, Nat.reduceAdd, Nat.reduceMul, Nat.reduceSub, t_242, b2n_t hf]
theorem t_49b {a b : Int32} (hF : D 0 * D 1 ≤ 36) (h4 : 0 < D 0 * D 1) (h : (a < nI 0 ∨ (¬ a < nI 0 ∧ nI (D 0 * D 1 - 1) < a)) ∨ ((∃ f, f < D 0 * D 1 ∧ a = nI f) ∧ (b < nI 1 ∨ (¬ b < nI 1 ∧ nI 9 < b)))) : aMm ko d 49 [.ref 86, .int a, .int b] (hp D N I J x) Q = Q (some (.int (-1))) (hp D N I J x) := by
  rw [me_49]
  rcases h with h | ⟨⟨f, hf, rfl⟩, h⟩
  · simp (disch := (first | omega | exact aCat_8 (by with_unfolding_all rfl) | exact rk_lt (by with_unfolding_all rfl) | exact aCat_16 (by with_unfolding_all rfl) | exact rk_eq (by with_unfolding_all rfl) | assumption | exact b2n_lt _ | exact id_b (by with_unfolding_all rfl) | (simp (disch := omega) only [u2_same, u2_ab, u2_aq]; done) | (simp (disch := omega) only [u2_same, u2_ab, u2_aq]; omega) | fail)) only [al_3136, wp_aloadr_0, wp_aloadk_0, wp_iload_1, wc_23, wz_eq_t, wz_eq_f, wb_eq_t, wb_eq_f, wm_eq_1, wm_eq_2, wp_iload_2, wp_i2l, wl_1, wl_9, wc_4, t_4, lN_le, wz_ne_t, wz_ne_f, wb_ne_t, wb_ne_f, wm_ne_1, wm_ne_2, wp_jsr, al_3137, wk_m1, wp_ireturn, al_3138, hg_86_8, ha_89l, ha_89s, wp_iadd, wk_9, wn_le_t, wn_le_f, wk_m3, al_3139, wp_dup2, nl_i, nl_r, nl_k, nl_j, nl_l, nI_add, pk_mul, pk_sub, tl_s, tl_n, aL_inl, u2_same, u2_ab, u2_aq, nI_l, lN_i, Nat.add_zero, Nat.zero_add, Nat.zero_le, true_and, and_true, b2n_10, b2n_T, b2n_F, b2n_0, Decidable.not_not, not_true_eq_false, not_false_eq_true, Nat.reduceAdd, Nat.reduceMul, Nat.reduceSub, t_23x hF h4 h]
  · have hin := in_f (a := 1) (b := 9) (by decide) (by decide) h
    have hf' : f ≤ D 0 * D 1 - 1 := by omega
    simp (disch := (first | omega | exact aCat_8 (by with_unfolding_all rfl) | exact rk_lt (by with_unfolding_all rfl) | exact aCat_16 (by with_unfolding_all rfl) | exact rk_eq (by with_unfolding_all rfl) | assumption | exact b2n_lt _ | exact id_b (by with_unfolding_all rfl) | (simp (disch := omega) only [u2_same, u2_ab, u2_aq]; done) | (simp (disch := omega) only [u2_same, u2_ab, u2_aq]; omega) | fail)) only [al_3136, wp_aloadr_0, wp_aloadk_0, wp_iload_1, wc_23, wz_eq_t, wz_eq_f, wb_eq_t, wb_eq_f, wm_eq_1, wm_eq_2, wp_iload_2, wp_i2l, wl_1, wl_9, wc_4, t_4, lN_le, wz_ne_t, wz_ne_f, wb_ne_t, wb_ne_f, wm_ne_1, wm_ne_2, wp_jsr, al_3137, wk_m1, wp_ireturn, al_3138, hg_86_8, ha_89l, ha_89s, wp_iadd, wk_9, wn_le_t, wn_le_f, wk_m3, al_3139, wp_dup2, nl_i, nl_r, nl_k, nl_j, nl_l, nI_add, pk_mul, pk_sub, tl_s, tl_n, aL_inl, u2_same, u2_ab, u2_aq, nI_l, lN_i, Nat.add_zero, Nat.zero_add, Nat.zero_le, true_and, and_true, b2n_10, b2n_T, b2n_F, b2n_0, Decidable.not_not, not_true_eq_false, not_false_eq_true, Nat.reduceAdd, Nat.reduceMul, Nat.reduceSub, t_23, b2n_t hf', b2n_f hin]
theorem t_49l {f n : Nat} (hF : D 0 * D 1 ≤ 36) (hf : f < D 0 * D 1) (h1 : 1 ≤ n) (h9 : n ≤ 9) (hb : N 89 f ≤ 9) (hlt : 9 < N 89 f + n) : aMm ko d 49 [.ref 86, .int (nI f), .int (nI n)] (hp D N I J x) Q = Q (some (.int (-3))) (hp D N I J x) := by
  have hf' : f ≤ D 0 * D 1 - 1 := by omega
  rw [me_49]
  simp (disch := (first | omega | exact aCat_8 (by with_unfolding_all rfl) | exact rk_lt (by with_unfolding_all rfl) | exact aCat_16 (by with_unfolding_all rfl) | exact rk_eq (by with_unfolding_all rfl) | assumption | exact b2n_lt _ | exact id_b (by with_unfolding_all rfl) | (simp (disch := omega) only [u2_same, u2_ab, u2_aq]; done) | (simp (disch := omega) only [u2_same, u2_ab, u2_aq]; omega) | fail)) only [al_3136, wp_aloadr_0, wp_aloadk_0, wp_iload_1, wc_23, wz_eq_t, wz_eq_f, wb_eq_t, wb_eq_f, wm_eq_1, wm_eq_2, wp_iload_2, wp_i2l, wl_1, wl_9, wc_4, t_4, lN_le, wz_ne_t, wz_ne_f, wb_ne_t, wb_ne_f, wm_ne_1, wm_ne_2, wp_jsr, al_3137, wk_m1, wp_ireturn, al_3138, hg_86_8, ha_89l, ha_89s, wp_iadd, wk_9, wn_le_t, wn_le_f, wk_m3, al_3139, wp_dup2, nl_i, nl_r, nl_k, nl_j, nl_l, nI_add, pk_mul, pk_sub, tl_s, tl_n, aL_inl, u2_same, u2_ab, u2_aq, nI_l, lN_i, Nat.add_zero, Nat.zero_add, Nat.zero_le, true_and, and_true, b2n_10, b2n_T, b2n_F, b2n_0, Decidable.not_not, not_true_eq_false, not_false_eq_true, Nat.reduceAdd, Nat.reduceMul, Nat.reduceSub, t_23, b2n_t hf']
theorem t_49g {f n : Nat} (hF : D 0 * D 1 ≤ 36) (hf : f < D 0 * D 1) (h1 : 1 ≤ n) (h9 : n ≤ 9) (hb : N 89 f + n ≤ 9) : aMm ko d 49 [.ref 86, .int (nI f), .int (nI n)] (hp D N I J x) Q = Q (some (.int (nI (N 89 f + n)))) (hp D (u2 N 89 f (N 89 f + n)) I J x) := by
  have hf' : f ≤ D 0 * D 1 - 1 := by omega
  rw [me_49]
  simp (disch := (first | omega | exact aCat_8 (by with_unfolding_all rfl) | exact rk_lt (by with_unfolding_all rfl) | exact aCat_16 (by with_unfolding_all rfl) | exact rk_eq (by with_unfolding_all rfl) | assumption | exact b2n_lt _ | exact id_b (by with_unfolding_all rfl) | (simp (disch := omega) only [u2_same, u2_ab, u2_aq]; done) | (simp (disch := omega) only [u2_same, u2_ab, u2_aq]; omega) | fail)) only [al_3136, wp_aloadr_0, wp_aloadk_0, wp_iload_1, wc_23, wz_eq_t, wz_eq_f, wb_eq_t, wb_eq_f, wm_eq_1, wm_eq_2, wp_iload_2, wp_i2l, wl_1, wl_9, wc_4, t_4, lN_le, wz_ne_t, wz_ne_f, wb_ne_t, wb_ne_f, wm_ne_1, wm_ne_2, wp_jsr, al_3137, wk_m1, wp_ireturn, al_3138, hg_86_8, ha_89l, ha_89s, wp_iadd, wk_9, wn_le_t, wn_le_f, wk_m3, al_3139, wp_dup2, nl_i, nl_r, nl_k, nl_j, nl_l, nI_add, pk_mul, pk_sub, tl_s, tl_n, aL_inl, u2_same, u2_ab, u2_aq, nI_l, lN_i, Nat.add_zero, Nat.zero_add, Nat.zero_le, true_and, and_true, b2n_10, b2n_T, b2n_F, b2n_0, Decidable.not_not, not_true_eq_false, not_false_eq_true, Nat.reduceAdd, Nat.reduceMul, Nat.reduceSub, t_23, b2n_t hf']
/-- a state of the class with another height -/
theorem cl_up {s f w : Nat} {M : Nat → Nat → Nat} {S : Nat → Nat} (hs : clS M J s S) (hf : f < 36) : clS (u2 M (s + 1) f w) J s (upn S f w) := by
  obtain ⟨s1, s2, s3, s4, s5⟩ := hs
  refine ⟨?_, ?_, ?_, ?_, ?_⟩
  · intro g hg
    rw [u2_rd, upn]
    by_cases e : g = f
    · rw [if_pos ⟨rfl, e⟩, if_pos e]
    · rw [if_neg (fun z => e z.2), if_neg e]
      exact s1 g hg
  · intro g hg
    rw [(s2 g hg).1, (s2 g hg).2]
    by_cases e : g < 36
    · have e1 : upn S f w (36 + g) = S (36 + g) := by rw [upn, if_neg (by omega)]
      have e2 : upn S f w (72 + g) = S (72 + g) := by rw [upn, if_neg (by omega)]
      rw [e1, e2]
      exact ⟨rfl, rfl⟩
    · simp [e]
  · rw [u2_ab (by omega), s3, upn, if_neg (by omega)]
  · rw [u2_ab (by omega), s4, upn, if_neg (by omega)]
  · rw [u2_ab (by omega), s5, upn, if_neg (by omega)]
theorem bf_n (h : invB D N I J t) : clS (cpS N 22 20) (cpJ J 22 20) 20 (N 89) := clS_c h.2.2.2.2.1.2.2.2 (fun q => cp_N (by decide) (by decide)) (fun q => cp_N (by decide) (by decide)) (fun q => cp_J (by decide))
theorem o_heap {a b : Int32} (h : inv D N I J t) : opO ko d 165 48 [.int a, .int b] D N I J x (t + 300) := by
  have hF := dm_F h.1.1.1
  have h89 := h.1.2.2.2.2.1
  have h4 := inv_d4 h.1
  have hu := h.1.2.2.2.2.2.1
  have hn1 : cpS N 22 20 32 1 < 15 := by rw [cp_N (by decide) (by decide)]; exact hu.2.2.1
  have hn2 : cpS N 22 20 32 2 ≤ 15 := by rw [cp_N (by decide) (by decide), hu.1]; exact hu.2.1
  have hno : ∀ v : Int32, v < 0 → (∀ Q : Option Value → aH → Prop, aMm ko d 166 [.ref 0, .int a, .int b] (hp D (cpS N 22 20) I (cpJ J 22 20) x) Q = Q (some (.int v)) (hp D (cpS N 22 20) I (cpJ J 22 20) x)) → (∀ N1 J1, (∀ b q, 86 ≤ b → N1 b q = N b q) → ∀ Q : Option Value → aH → Prop, aMm ko d 49 [.ref 86, .int a, .int b] (hp D (pbN N1) I J1 x) Q = Q (some (.int v)) (hp D (pbN N1) I J1 x)) → opO ko d 165 48 [.int a, .int b] D N I J x (t + 300) := by
    intro v hv hc hr
    refine o_ref (v := v) h ?_ ?_
    · intro Q hQ
      rw [me_165]
      simp (disch := (first | omega | exact aCat_8 (by with_unfolding_all rfl) | exact rk_lt (by with_unfolding_all rfl) | exact aCat_16 (by with_unfolding_all rfl) | exact rk_eq (by with_unfolding_all rfl) | assumption | exact b2n_lt _ | exact id_b (by with_unfolding_all rfl) | (simp (disch := omega) only [u2_same, u2_ab, u2_aq]; done) | (simp (disch := omega) only [u2_same, u2_ab, u2_aq]; omega) | fail)) only [al_10560, wp_aloadr_0, wp_aloadk_0, hg_0_8, hg_0_7, wp_iload_1, wp_iload_2, wc_166, wc_164, wp_ireturn, nl_i, nl_r, nl_k, nl_j, nl_l, nI_add, pk_mul, pk_sub, tl_s, tl_n, aL_inl, u2_same, u2_ab, u2_aq, nI_l, lN_i, Nat.add_zero, Nat.zero_add, Nat.zero_le, true_and, and_true, b2n_10, b2n_T, b2n_F, b2n_0, Decidable.not_not, not_true_eq_false, not_false_eq_true, Nat.reduceAdd, Nat.reduceMul, Nat.reduceSub, wc_283 (m := 22) rfl, t_283 (s := 22) (s' := 20) rfl rfl (by decide), hc, t_164b hv]
      exact hQ
    · intro N1 J1 hN1 Q hQ
      have hu1 : N1 86 26 ≤ 15 := by rw [hN1 86 26 (by decide)]; exact hu.2.1
      rw [me_48]
      simp (disch := (first | omega | exact aCat_8 (by with_unfolding_all rfl) | exact rk_lt (by with_unfolding_all rfl) | exact aCat_16 (by with_unfolding_all rfl) | exact rk_eq (by with_unfolding_all rfl) | assumption | exact b2n_lt _ | exact id_b (by with_unfolding_all rfl) | (simp (disch := omega) only [u2_same, u2_ab, u2_aq]; done) | (simp (disch := omega) only [u2_same, u2_ab, u2_aq]; omega) | fail)) only [al_3072, wp_aloadr_0, wp_aloadk_0, wk_0, hp_86_0, wc_39, wp_iload_1, wp_iload_2, wc_49, wc_47, wp_ireturn, nl_i, nl_r, nl_k, nl_j, nl_l, nI_add, pk_mul, pk_sub, tl_s, tl_n, aL_inl, u2_same, u2_ab, u2_aq, nI_l, lN_i, Nat.add_zero, Nat.zero_add, Nat.zero_le, true_and, and_true, b2n_10, b2n_T, b2n_F, b2n_0, Decidable.not_not, not_true_eq_false, not_false_eq_true, Nat.reduceAdd, Nat.reduceMul, Nat.reduceSub, pb_t39 hu1, hr N1 J1 hN1, t_47b hv]
      exact hQ
  rcases rng3 a 0 (b := D 0 * D 1 - 1) (by decide) (by omega) with ⟨f, _, hf, rfl⟩ | hbad
  · rcases rng3 b 1 (b := 9) (by decide) (by decide) with ⟨n, hn1', hn9, rfl⟩ | hbad
    · have hf' : f < D 0 * D 1 := by omega
      have h9 := (h89.1.1 f (by omega)).1
      have eS : cpS N 22 20 21 f = N 89 f := (cp_N (by decide) (by decide)).trans (h89.2.2.2.1 f (by omega))
      by_cases hlt : 9 < N 89 f + n
      · refine hno (-3) (by decide) (fun Q => t_166l (by omega) (by omega) hn1' hn9 (by rw [eS]; exact h9) (by rw [eS]; exact hlt)) ?_
        intro N1 J1 hN1 Q
        have e : pbN N1 89 f = N 89 f := by rw [pb_89, hN1 89 f (by decide)]
        exact t_49l hF.1 hf' hn1' hn9 (by rw [e]; exact h9) (by rw [e]; exact hlt)
      · have hup := rw_up h89.1 h89.2.1 hf' hF.1 (v := N 89 f + n) (by omega)
        refine o_gen (v := .int (nI (N 89 f + n))) (S' := upn (N 89) f (N 89 f + n)) (M := u2 (cpS N 22 20) 21 f (N 89 f + n)) (Jm := cpJ J 22 20) h ⟨hup.1, hup.2, by rw [upn, if_neg (by omega)]; have := h89.2.2.1; omega, w8_up (by omega) h89.2.2.1.2⟩ (fun b q z1 z2 => u2_ab z2) (fun _ _ _ => rfl) (cl_up (bf_n h.1) (by omega)) ?_ ?_
        · intro Q hQ
          have hl : u2 (cpS N 22 20) 21 f (N 89 f + n) 32 1 < 15 := by rw [u2_ab (by decide)]; exact hn1
          have hl2 : u2 (cpS N 22 20) 21 f (N 89 f + n) 32 2 ≤ 15 := by rw [u2_ab (by decide)]; exact hn2
          have t166 := fun Q => @t_166g ko d D (cpS N 22 20) I (cpJ J 22 20) x Q f n (by omega) (by omega) hn1' hn9 (by rw [eS]; omega)
          simp only [eS] at t166
          rw [me_165]
          simp (disch := (first | omega | exact aCat_8 (by with_unfolding_all rfl) | exact rk_lt (by with_unfolding_all rfl) | exact aCat_16 (by with_unfolding_all rfl) | exact rk_eq (by with_unfolding_all rfl) | assumption | exact b2n_lt _ | exact id_b (by with_unfolding_all rfl) | (simp (disch := omega) only [u2_same, u2_ab, u2_aq]; done) | (simp (disch := omega) only [u2_same, u2_ab, u2_aq]; omega) | fail)) only [al_10560, wp_aloadr_0, wp_aloadk_0, hg_0_8, hg_0_7, wp_iload_1, wp_iload_2, wc_166, wc_164, wp_ireturn, nl_i, nl_r, nl_k, nl_j, nl_l, nI_add, pk_mul, pk_sub, tl_s, tl_n, aL_inl, u2_same, u2_ab, u2_aq, nI_l, lN_i, Nat.add_zero, Nat.zero_add, Nat.zero_le, true_and, and_true, b2n_10, b2n_T, b2n_F, b2n_0, Decidable.not_not, not_true_eq_false, not_false_eq_true, Nat.reduceAdd, Nat.reduceMul, Nat.reduceSub, wc_283 (m := 22) rfl, t_283 (s := 22) (s' := 20) rfl rfl (by decide), t166, t_164g (n := N 89 f + n) (by omega) hl hl2]
          exact hQ
        · intro N1 I1 J1 hN1 Q hQ
          have hu1 : N1 86 26 ≤ 15 := by rw [hN1 86 26 (by decide)]; exact hu.2.1
          have e89 : pbN N1 89 f = N 89 f := by rw [pb_89, hN1 89 f (by decide)]
          have eR : pbN N1 89 = N 89 := by rw [pb_89]; funext q; exact hN1 89 q (by decide)
          have t49 := fun Q => @t_49g ko d D (pbN N1) I1 J1 x Q f n hF.1 hf' hn1' hn9 (by rw [e89]; omega)
          simp only [e89] at t49
          rw [u2_row, eR] at t49
          have hu2 : setRow (pbN N1) 89 (upn (N 89) f (N 89 f + n)) 86 26 ≤ 15 := by rw [setRow_n (by decide), pb_26]; exact hu1
          rw [me_48]
          simp (disch := (first | omega | exact aCat_8 (by with_unfolding_all rfl) | exact rk_lt (by with_unfolding_all rfl) | exact aCat_16 (by with_unfolding_all rfl) | exact rk_eq (by with_unfolding_all rfl) | assumption | exact b2n_lt _ | exact id_b (by with_unfolding_all rfl) | (simp (disch := omega) only [u2_same, u2_ab, u2_aq]; done) | (simp (disch := omega) only [u2_same, u2_ab, u2_aq]; omega) | fail)) only [al_3072, wp_aloadr_0, wp_aloadk_0, wk_0, hp_86_0, wc_39, wp_iload_1, wp_iload_2, wc_49, wc_47, wp_ireturn, nl_i, nl_r, nl_k, nl_j, nl_l, nI_add, pk_mul, pk_sub, tl_s, tl_n, aL_inl, u2_same, u2_ab, u2_aq, nI_l, lN_i, Nat.add_zero, Nat.zero_add, Nat.zero_le, true_and, and_true, b2n_10, b2n_T, b2n_F, b2n_0, Decidable.not_not, not_true_eq_false, not_false_eq_true, Nat.reduceAdd, Nat.reduceMul, Nat.reduceSub, pb_t39 hu1, t49, t_47g (n := N 89 f + n) (by omega) hu2]
          exact hQ
    · refine hno (-1) (by decide) (fun Q => t_166b (by omega) (by omega) (Or.inr ⟨⟨f, by omega, rfl⟩, hbad⟩)) ?_
      intro N1 J1 hN1 Q
      exact t_49b hF.1 (by omega) (Or.inr ⟨⟨f, by omega, rfl⟩, hbad⟩)
  · refine hno (-1) (by decide) (fun Q => t_166b (by omega) (by omega) (Or.inl (by rw [h4]; exact hbad))) ?_
    intro N1 J1 hN1 Q
    exact t_49b hF.1 (by omega) (Or.inl hbad)
end A3
