/-! rules: the class reads a text. From wip/whole/src. -/
def s0R : rdS := ([], [], 0, 0, true)
theorem stp_ne {s s' : rdS} {c : Nat} (h : stp s c = some s') (hn : s.2.2.1 ≤ 4) : s'.2.2.1 ≤ 4 := by
  obtain ⟨o, w, ne, dg, wa⟩ := s
  have h' : stq o w ne dg wa c = some s' := h
  have hn : ne ≤ 4 := hn
  unfold stq at h'
  split at h'
  · split at h'
    · cases h'; exact hn
    · split at h'
      · cases h'
      · cases o with
        | nil => cases h'
        | cons a o' => cases h'; exact hn
  · split at h'
    · split at h'
      · cases h'; exact hn
      · split at h'
        · split at h'
          · cases h'
          · cases h'
            show ne + 1 ≤ 4
            omega
        · cases ht : thg c with
          | none => rw [ht] at h'; cases h'
          | some i => rw [ht] at h'; cases h'; exact hn
    · split at h'
      · split at h'
        · cases h'
        · cases h'
          show ne - 1 ≤ 4
          omega
      · cases ht : jn c with
        | none => rw [ht] at h'; cases h'
        | some j =>
          rw [ht] at h'
          dsimp only at h'
          split at h'
          · cases h'
          · cases h'; exact hn
def revA : List Nat → List Nat → List Nat
  | [], o => o
  | j :: P, o => revA P (j :: o)
theorem rp_0 : ∀ {w o : List Nat}, rpO 0 o w = revA w o ∧ rpW 0 w = [] := by
  intro w
  induction w with
  | nil => intro o; exact ⟨rfl, rfl⟩
  | cons j w ih =>
    intro o
    unfold rpO rpW revA
    rw [if_pos (Nat.zero_le _), if_pos (Nat.zero_le _)]
    exact ih
theorem revA_len : ∀ {P o : List Nat}, (revA P o).length = P.length + o.length := by
  intro P
  induction P with
  | nil => intro o; rw [revA, List.length_nil, Nat.zero_add]
  | cons j P ih =>
    intro o
    rw [revA, ih, List.length_cons, List.length_cons]
    omega
/-- what the reading leaves alone -/
def fr26 (ru : Nat) (N' N : Nat → Nat → Nat) : Prop := ∀ b q, b ≠ 17 → ¬ (b = ru ∧ q = 2) → N' b q = N b q
def fr27 (ru : Nat) (I' I : Nat → Nat → Int32) : Prop := ∀ b q, b ≠ 18 → b ≠ 19 → b ≠ ru + 1 → I' b q = I b q
section RD
variable {ko : aKo} {d k : Nat} {is : List Instr} {ls st : List Value} {σ : aH} {D : Nat → Nat} {N : Nat → Nat → Nat} {I : Nat → Nat → Int32} {J : Nat → Nat → Int64} {x t : Nat} {Q : Option Value → aH → Prop} {P : (Option Value ⊕ Unit) → aH → Prop}
theorem l_269 {N0 : Nat → Nat → Nat} {I0 : Nat → Nat → Int32} {ru n to : Nat} (hk : koT ko) (hu : ruB ru = true) (hn : N0 1 1 = n) (hn80 : n ≤ 80) (hto : to = min n 40) (hb : ∀ i, i < n → N0 2 i < 256)
    (hB : ∀ (p : Nat) (s : rdS) (N' : Nat → Nat → Nat) (I' : Nat → Nat → Int32), stO (N0 2) s0R to p s → fr17 N' N0 → fr18 I' I0 → (p < to ∨ 40 < n ∨ s.2.2.2.2 = true ∨ 0 < s.2.2.1) → Q (some (.int (nI p))) (hp D N' I' J x))
    (hG : ∀ (s : rdS) (N' : Nat → Nat → Nat) (I' : Nat → Nat → Int32), stO (N0 2) s0R to to s → n ≤ 40 → s.2.2.2.2 = false → s.2.2.1 = 0 → fr26 ru N' N0 → fr27 ru I' I0 → N' ru 2 = (revA s.2.1 s.1).length → (revA s.2.1 s.1).length ≤ 40 → stk (I' (ru + 1)) enc (revA s.2.1 s.1) → Q (some (.int (-1))) (hp D N' I' J x)) :
    ∀ (j p : Nat) (s : rdS) (N : Nat → Nat → Nat) (I : Nat → Nat → Int32), p + j = to → arn (N0 2) s0R 0 p = some s → rdC N I s → vS s → s.1.length + s.2.1.length ≤ p → s.2.2.1 ≤ 4 → fr17 N N0 → fr18 I I0 → aWp ko d 269 (aP.1 (Int.toNat 17218)) [.ref 17, .ref 1, .ref ru, .int (nI to), .int (nI p)] [] (hp D N I J x) (aL Q) := by
  have hru := ru_or hu
  intro j
  induction j with
  | zero =>
    intro p s N I hj ha hr hv hl hne f1 f2
    have e : p = to := by omega
    subst e
    have hst : stO (N0 2) s0R p p s := ⟨Nat.le_refl _, ha, fun z => absurd z (Nat.lt_irrefl _)⟩
    have e11 : N 1 1 = n := (f1 1 1 (by decide)).trans hn
    obtain ⟨o, w, ne, dg, wa⟩ := s
    obtain ⟨h1, h2, h3, h4, h5, h6, h7⟩ := id hr
    dsimp only at h1 h2 h3 h4 h5 h6 h7 hl hne
    rw [al_17218]
    by_cases z1 : 40 < n
    · have hx := hB p _ N I hst f1 f2 (Or.inr (Or.inl z1))
      simp (disch := (first | omega | exact aCat_8 (by with_unfolding_all rfl) | exact rk_lt (by with_unfolding_all rfl) | exact aCat_16 (by with_unfolding_all rfl) | exact rk_eq (by with_unfolding_all rfl) | assumption | exact b2n_lt _ | exact id_b (by with_unfolding_all rfl) | (simp (disch := omega) only [u2_same, u2_ab, u2_aq]; done) | (simp (disch := omega) only [u2_same, u2_ab, u2_aq]; omega) | fail)) only [al_17216, wp_aloadr_1, wp_aloadk_1, hg_1_1, wz_ne_t, wz_ne_f, wb_ne_t, wb_ne_f, wm_ne_1, wm_ne_2, wp_aloadr_2, wp_aloadk_2, wp_ldc, wk_m1, wp_ireturn, al_17217, wp_aloadr_0, wp_aloadk_0, wc_270, wk_40, wp_min, wp_istore_3, wk_0, wp_istore_4, wp_jsr, wp_iload_4, wp_iload_3, wn_ge_t, wn_ge_f, wc_288, wc_271, al_17219, wp_iinc_4_1, wp_goto, al_17220, wn_gt_t, wn_gt_f, hg_17_6, hg_17_4, wz_le_t, wz_le_f, wm_le_1, wm_le_2, al_17221, al_17222, wc_277, hg_17_0, ha_18l, ha_18s, hg_17_2, nl_i, nl_r, nl_k, nl_j, nl_l, nI_add, pk_mul, pk_sub, tl_s, tl_n, aL_inl, u2_same, u2_ab, u2_aq, nI_l, lN_i, Nat.add_zero, Nat.zero_add, Nat.zero_le, true_and, and_true, b2n_10, b2n_T, b2n_F, b2n_0, Decidable.not_not, not_true_eq_false, not_false_eq_true, Nat.reduceAdd, Nat.reduceMul, Nat.reduceSub, e11]
      exact hx
    · cases wa with
      | true =>
        have hx := hB p _ N I hst f1 f2 (Or.inr (Or.inr (Or.inl rfl)))
        have h7' : N 17 6 = 1 := h7
        simp (disch := (first | omega | exact aCat_8 (by with_unfolding_all rfl) | exact rk_lt (by with_unfolding_all rfl) | exact aCat_16 (by with_unfolding_all rfl) | exact rk_eq (by with_unfolding_all rfl) | assumption | exact b2n_lt _ | exact id_b (by with_unfolding_all rfl) | (simp (disch := omega) only [u2_same, u2_ab, u2_aq]; done) | (simp (disch := omega) only [u2_same, u2_ab, u2_aq]; omega) | fail)) only [al_17216, wp_aloadr_1, wp_aloadk_1, hg_1_1, wz_ne_t, wz_ne_f, wb_ne_t, wb_ne_f, wm_ne_1, wm_ne_2, wp_aloadr_2, wp_aloadk_2, wp_ldc, wk_m1, wp_ireturn, al_17217, wp_aloadr_0, wp_aloadk_0, wc_270, wk_40, wp_min, wp_istore_3, wk_0, wp_istore_4, wp_jsr, wp_iload_4, wp_iload_3, wn_ge_t, wn_ge_f, wc_288, wc_271, al_17219, wp_iinc_4_1, wp_goto, al_17220, wn_gt_t, wn_gt_f, hg_17_6, hg_17_4, wz_le_t, wz_le_f, wm_le_1, wm_le_2, al_17221, al_17222, wc_277, hg_17_0, ha_18l, ha_18s, hg_17_2, nl_i, nl_r, nl_k, nl_j, nl_l, nI_add, pk_mul, pk_sub, tl_s, tl_n, aL_inl, u2_same, u2_ab, u2_aq, nI_l, lN_i, Nat.add_zero, Nat.zero_add, Nat.zero_le, true_and, and_true, b2n_10, b2n_T, b2n_F, b2n_0, Decidable.not_not, not_true_eq_false, not_false_eq_true, Nat.reduceAdd, Nat.reduceMul, Nat.reduceSub, e11, h7']
        exact hx
      | false =>
        have h7' : N 17 6 = 0 := h7
        by_cases z2 : 0 < ne
        · have hx := hB p _ N I hst f1 f2 (Or.inr (Or.inr (Or.inr z2)))
          simp (disch := (first | omega | exact aCat_8 (by with_unfolding_all rfl) | exact rk_lt (by with_unfolding_all rfl) | exact aCat_16 (by with_unfolding_all rfl) | exact rk_eq (by with_unfolding_all rfl) | assumption | exact b2n_lt _ | exact id_b (by with_unfolding_all rfl) | (simp (disch := omega) only [u2_same, u2_ab, u2_aq]; done) | (simp (disch := omega) only [u2_same, u2_ab, u2_aq]; omega) | fail)) only [al_17216, wp_aloadr_1, wp_aloadk_1, hg_1_1, wz_ne_t, wz_ne_f, wb_ne_t, wb_ne_f, wm_ne_1, wm_ne_2, wp_aloadr_2, wp_aloadk_2, wp_ldc, wk_m1, wp_ireturn, al_17217, wp_aloadr_0, wp_aloadk_0, wc_270, wk_40, wp_min, wp_istore_3, wk_0, wp_istore_4, wp_jsr, wp_iload_4, wp_iload_3, wn_ge_t, wn_ge_f, wc_288, wc_271, al_17219, wp_iinc_4_1, wp_goto, al_17220, wn_gt_t, wn_gt_f, hg_17_6, hg_17_4, wz_le_t, wz_le_f, wm_le_1, wm_le_2, al_17221, al_17222, wc_277, hg_17_0, ha_18l, ha_18s, hg_17_2, nl_i, nl_r, nl_k, nl_j, nl_l, nI_add, pk_mul, pk_sub, tl_s, tl_n, aL_inl, u2_same, u2_ab, u2_aq, nI_l, lN_i, Nat.add_zero, Nat.zero_add, Nat.zero_le, true_and, and_true, b2n_10, b2n_T, b2n_F, b2n_0, Decidable.not_not, not_true_eq_false, not_false_eq_true, Nat.reduceAdd, Nat.reduceMul, Nat.reduceSub, e11, h7', h5]
          exact hx
        · have e0 : ne = 0 := by omega
          subst e0
          simp (disch := (first | omega | exact aCat_8 (by with_unfolding_all rfl) | exact rk_lt (by with_unfolding_all rfl) | exact aCat_16 (by with_unfolding_all rfl) | exact rk_eq (by with_unfolding_all rfl) | assumption | exact b2n_lt _ | exact id_b (by with_unfolding_all rfl) | (simp (disch := omega) only [u2_same, u2_ab, u2_aq]; done) | (simp (disch := omega) only [u2_same, u2_ab, u2_aq]; omega) | fail)) only [al_17216, wp_aloadr_1, wp_aloadk_1, hg_1_1, wz_ne_t, wz_ne_f, wb_ne_t, wb_ne_f, wm_ne_1, wm_ne_2, wp_aloadr_2, wp_aloadk_2, wp_ldc, wk_m1, wp_ireturn, al_17217, wp_aloadr_0, wp_aloadk_0, wc_270, wk_40, wp_min, wp_istore_3, wk_0, wp_istore_4, wp_jsr, wp_iload_4, wp_iload_3, wn_ge_t, wn_ge_f, wc_288, wc_271, al_17219, wp_iinc_4_1, wp_goto, al_17220, wn_gt_t, wn_gt_f, hg_17_6, hg_17_4, wz_le_t, wz_le_f, wm_le_1, wm_le_2, al_17221, al_17222, wc_277, hg_17_0, ha_18l, ha_18s, hg_17_2, nl_i, nl_r, nl_k, nl_j, nl_l, nI_add, pk_mul, pk_sub, tl_s, tl_n, aL_inl, u2_same, u2_ab, u2_aq, nI_l, lN_i, Nat.add_zero, Nat.zero_add, Nat.zero_le, true_and, and_true, b2n_10, b2n_T, b2n_F, b2n_0, Decidable.not_not, not_true_eq_false, not_false_eq_true, Nat.reduceAdd, Nat.reduceMul, Nat.reduceSub, e11, h7', h5]
          refine t_277 (b := 0) (by decide) hr (by omega) hv.1 ?_
          intro N1 I1 hr1 g1 g2
          obtain ⟨q1, q2⟩ := rp_0 (w := w) (o := o)
          rw [q1, q2] at hr1
          have hlen := revA_len (P := w) (o := o)
          have r1 : N1 17 2 = (revA w o).length := hr1.1
          have r2 : stk (I1 18) enc (revA w o) := hr1.2.1
          simp (disch := (first | omega | exact aCat_8 (by with_unfolding_all rfl) | exact rk_lt (by with_unfolding_all rfl) | exact aCat_16 (by with_unfolding_all rfl) | exact rk_eq (by with_unfolding_all rfl) | assumption | exact b2n_lt _ | exact id_b (by with_unfolding_all rfl) | (simp (disch := omega) only [u2_same, u2_ab, u2_aq]; done) | (simp (disch := omega) only [u2_same, u2_ab, u2_aq]; omega) | fail)) only [al_17216, wp_aloadr_1, wp_aloadk_1, hg_1_1, wz_ne_t, wz_ne_f, wb_ne_t, wb_ne_f, wm_ne_1, wm_ne_2, wp_aloadr_2, wp_aloadk_2, wp_ldc, wk_m1, wp_ireturn, al_17217, wp_aloadr_0, wp_aloadk_0, wc_270, wk_40, wp_min, wp_istore_3, wk_0, wp_istore_4, wp_jsr, wp_iload_4, wp_iload_3, wn_ge_t, wn_ge_f, wc_288, wc_271, al_17219, wp_iinc_4_1, wp_goto, al_17220, wn_gt_t, wn_gt_f, hg_17_6, hg_17_4, wz_le_t, wz_le_f, wm_le_1, wm_le_2, al_17221, al_17222, wc_277, hg_17_0, ha_18l, ha_18s, hg_17_2, nl_i, nl_r, nl_k, nl_j, nl_l, nI_add, pk_mul, pk_sub, tl_s, tl_n, aL_inl, u2_same, u2_ab, u2_aq, nI_l, lN_i, Nat.add_zero, Nat.zero_add, Nat.zero_le, true_and, and_true, b2n_10, b2n_T, b2n_F, b2n_0, Decidable.not_not, not_true_eq_false, not_false_eq_true, Nat.reduceAdd, Nat.reduceMul, Nat.reduceSub, r1, wc_266 hu]
          refine t_266 hu (by omega) ?_
          intro N2 I2 b1 b2 b3 b4
          have hx := hG _ N2 I2 hst (by omega) rfl rfl (fun b q z y => (b1 b q y).trans ((g1 b q z).trans (f1 b q z))) (fun b q z y u => (b3 b q u).trans ((g2 b q z y).trans (f2 b q z y))) b2 (by show (revA w o).length ≤ 40; omega) (stk_f (fun q hq => b4 q hq) r2)
          simp (disch := (first | omega | exact aCat_8 (by with_unfolding_all rfl) | exact rk_lt (by with_unfolding_all rfl) | exact aCat_16 (by with_unfolding_all rfl) | exact rk_eq (by with_unfolding_all rfl) | assumption | exact b2n_lt _ | exact id_b (by with_unfolding_all rfl) | (simp (disch := omega) only [u2_same, u2_ab, u2_aq]; done) | (simp (disch := omega) only [u2_same, u2_ab, u2_aq]; omega) | fail)) only [al_17216, wp_aloadr_1, wp_aloadk_1, hg_1_1, wz_ne_t, wz_ne_f, wb_ne_t, wb_ne_f, wm_ne_1, wm_ne_2, wp_aloadr_2, wp_aloadk_2, wp_ldc, wk_m1, wp_ireturn, al_17217, wp_aloadr_0, wp_aloadk_0, wc_270, wk_40, wp_min, wp_istore_3, wk_0, wp_istore_4, wp_jsr, wp_iload_4, wp_iload_3, wn_ge_t, wn_ge_f, wc_288, wc_271, al_17219, wp_iinc_4_1, wp_goto, al_17220, wn_gt_t, wn_gt_f, hg_17_6, hg_17_4, wz_le_t, wz_le_f, wm_le_1, wm_le_2, al_17221, al_17222, wc_277, hg_17_0, ha_18l, ha_18s, hg_17_2, nl_i, nl_r, nl_k, nl_j, nl_l, nI_add, pk_mul, pk_sub, tl_s, tl_n, aL_inl, u2_same, u2_ab, u2_aq, nI_l, lN_i, Nat.add_zero, Nat.zero_add, Nat.zero_le, true_and, and_true, b2n_10, b2n_T, b2n_F, b2n_0, Decidable.not_not, not_true_eq_false, not_false_eq_true, Nat.reduceAdd, Nat.reduceMul, Nat.reduceSub]
          exact hx
  | succ j ih =>
    intro p s N I hj ha hr hv hl hne f1 f2
    have e11 : N 1 1 = n := (f1 1 1 (by decide)).trans hn
    have t288 := fun Q => t_288 (ko := ko) (d := d) (D := D) (N := N) (I := I) (J := J) (x := x) (Q := Q) (i := p) (by omega) (by rw [e11]; exact hn80) (fun i hi => by rw [e11] at hi; rw [f1 2 i (by decide)]; exact hb i hi)
    have ec : txC N p = N0 2 p := by
      unfold txC
      rw [if_pos (by omega), f1 2 p (by decide)]
    rw [ec] at t288
    rw [al_17218]
    simp (disch := (first | omega | exact aCat_8 (by with_unfolding_all rfl) | exact rk_lt (by with_unfolding_all rfl) | exact aCat_16 (by with_unfolding_all rfl) | exact rk_eq (by with_unfolding_all rfl) | assumption | exact b2n_lt _ | exact id_b (by with_unfolding_all rfl) | (simp (disch := omega) only [u2_same, u2_ab, u2_aq]; done) | (simp (disch := omega) only [u2_same, u2_ab, u2_aq]; omega) | fail)) only [al_17216, wp_aloadr_1, wp_aloadk_1, hg_1_1, wz_ne_t, wz_ne_f, wb_ne_t, wb_ne_f, wm_ne_1, wm_ne_2, wp_aloadr_2, wp_aloadk_2, wp_ldc, wk_m1, wp_ireturn, al_17217, wp_aloadr_0, wp_aloadk_0, wc_270, wk_40, wp_min, wp_istore_3, wk_0, wp_istore_4, wp_jsr, wp_iload_4, wp_iload_3, wn_ge_t, wn_ge_f, wc_288, wc_271, al_17219, wp_iinc_4_1, wp_goto, al_17220, wn_gt_t, wn_gt_f, hg_17_6, hg_17_4, wz_le_t, wz_le_f, wm_le_1, wm_le_2, al_17221, al_17222, wc_277, hg_17_0, ha_18l, ha_18s, hg_17_2, nl_i, nl_r, nl_k, nl_j, nl_l, nI_add, pk_mul, pk_sub, tl_s, tl_n, aL_inl, u2_same, u2_ab, u2_aq, nI_l, lN_i, Nat.add_zero, Nat.zero_add, Nat.zero_le, true_and, and_true, b2n_10, b2n_T, b2n_F, b2n_0, Decidable.not_not, not_true_eq_false, not_false_eq_true, Nat.reduceAdd, Nat.reduceMul, Nat.reduceSub, t288]
    refine t_271 hk hv hr (by omega) hne (hb p (by omega)) ⟨?_, ?_⟩
    · intro s' N' I' e1 e2 e3 e4
      have hlen := stp_len e1
      have hx := ih (p + 1) s' N' I' (by omega) (by rw [arn_add ha, Nat.zero_add, arn_s e1]; rfl) e2 (vS_stp hv e1) (by omega) (stp_ne e1 hne) (fr17_t e3 f1) (fr18_t e4 f2)
      simp (disch := (first | omega | exact aCat_8 (by with_unfolding_all rfl) | exact rk_lt (by with_unfolding_all rfl) | exact aCat_16 (by with_unfolding_all rfl) | exact rk_eq (by with_unfolding_all rfl) | assumption | exact b2n_lt _ | exact id_b (by with_unfolding_all rfl) | (simp (disch := omega) only [u2_same, u2_ab, u2_aq]; done) | (simp (disch := omega) only [u2_same, u2_ab, u2_aq]; omega) | fail)) only [al_17216, wp_aloadr_1, wp_aloadk_1, hg_1_1, wz_ne_t, wz_ne_f, wb_ne_t, wb_ne_f, wm_ne_1, wm_ne_2, wp_aloadr_2, wp_aloadk_2, wp_ldc, wk_m1, wp_ireturn, al_17217, wp_aloadr_0, wp_aloadk_0, wc_270, wk_40, wp_min, wp_istore_3, wk_0, wp_istore_4, wp_jsr, wp_iload_4, wp_iload_3, wn_ge_t, wn_ge_f, wc_288, wc_271, al_17219, wp_iinc_4_1, wp_goto, al_17220, wn_gt_t, wn_gt_f, hg_17_6, hg_17_4, wz_le_t, wz_le_f, wm_le_1, wm_le_2, al_17221, al_17222, wc_277, hg_17_0, ha_18l, ha_18s, hg_17_2, nl_i, nl_r, nl_k, nl_j, nl_l, nI_add, pk_mul, pk_sub, tl_s, tl_n, aL_inl, u2_same, u2_ab, u2_aq, nI_l, lN_i, Nat.add_zero, Nat.zero_add, Nat.zero_le, true_and, and_true, b2n_10, b2n_T, b2n_F, b2n_0, Decidable.not_not, not_true_eq_false, not_false_eq_true, Nat.reduceAdd, Nat.reduceMul, Nat.reduceSub]
      exact hx
    · intro e1 N' I' e3 e4
      have hx := hB p s N' I' ⟨by omega, ha, fun _ => e1⟩ (fr17_t e3 f1) (fr18_t e4 f2) (Or.inl (by omega))
      simp (disch := (first | omega | exact aCat_8 (by with_unfolding_all rfl) | exact rk_lt (by with_unfolding_all rfl) | exact aCat_16 (by with_unfolding_all rfl) | exact rk_eq (by with_unfolding_all rfl) | assumption | exact b2n_lt _ | exact id_b (by with_unfolding_all rfl) | (simp (disch := omega) only [u2_same, u2_ab, u2_aq]; done) | (simp (disch := omega) only [u2_same, u2_ab, u2_aq]; omega) | fail)) only [al_17216, wp_aloadr_1, wp_aloadk_1, hg_1_1, wz_ne_t, wz_ne_f, wb_ne_t, wb_ne_f, wm_ne_1, wm_ne_2, wp_aloadr_2, wp_aloadk_2, wp_ldc, wk_m1, wp_ireturn, al_17217, wp_aloadr_0, wp_aloadk_0, wc_270, wk_40, wp_min, wp_istore_3, wk_0, wp_istore_4, wp_jsr, wp_iload_4, wp_iload_3, wn_ge_t, wn_ge_f, wc_288, wc_271, al_17219, wp_iinc_4_1, wp_goto, al_17220, wn_gt_t, wn_gt_f, hg_17_6, hg_17_4, wz_le_t, wz_le_f, wm_le_1, wm_le_2, al_17221, al_17222, wc_277, hg_17_0, ha_18l, ha_18s, hg_17_2, nl_i, nl_r, nl_k, nl_j, nl_l, nI_add, pk_mul, pk_sub, tl_s, tl_n, aL_inl, u2_same, u2_ab, u2_aq, nI_l, lN_i, Nat.add_zero, Nat.zero_add, Nat.zero_le, true_and, and_true, b2n_10, b2n_T, b2n_F, b2n_0, Decidable.not_not, not_true_eq_false, not_false_eq_true, Nat.reduceAdd, Nat.reduceMul, Nat.reduceSub]
      exact hx
theorem t_269 {ru n : Nat} (hk : koT ko) (hF : koF ko) (hu : ruB ru = true) (hn : N 1 1 = n) (hn80 : n ≤ 80) (hb : ∀ i, i < n → N 2 i < 256)
    (hE : n = 0 → ∀ (N' : Nat → Nat → Nat) (I' : Nat → Nat → Int32), fr26 ru N' N → fr27 ru I' I → N' ru 2 = 7 → (∀ q, q < 7 → I' (ru + 1) q = enc (c0 q)) → Q (some (.int (-1))) (hp D N' I' J x))
    (hB : 0 < n → ∀ (p : Nat) (s : rdS) (N' : Nat → Nat → Nat) (I' : Nat → Nat → Int32), stO (N 2) s0R (min n 40) p s → fr17 N' N → fr18 I' I → (p < min n 40 ∨ 40 < n ∨ s.2.2.2.2 = true ∨ 0 < s.2.2.1) → Q (some (.int (nI p))) (hp D N' I' J x))
    (hG : 0 < n → ∀ (s : rdS) (N' : Nat → Nat → Nat) (I' : Nat → Nat → Int32), stO (N 2) s0R (min n 40) (min n 40) s → n ≤ 40 → s.2.2.2.2 = false → s.2.2.1 = 0 → fr26 ru N' N → fr27 ru I' I → N' ru 2 = (revA s.2.1 s.1).length → (revA s.2.1 s.1).length ≤ 40 → stk (I' (ru + 1)) enc (revA s.2.1 s.1) → Q (some (.int (-1))) (hp D N' I' J x)) : aMm ko d 269 [.ref 17, .ref 1, .ref ru] (hp D N I J x) Q := by
  have hru := ru_or hu
  rw [me_269]
  by_cases z : n = 0
  · have hn0 : N 1 1 = 0 := by omega
    simp (disch := (first | omega | exact aCat_8 (by with_unfolding_all rfl) | exact rk_lt (by with_unfolding_all rfl) | exact aCat_16 (by with_unfolding_all rfl) | exact rk_eq (by with_unfolding_all rfl) | assumption | exact b2n_lt _ | exact id_b (by with_unfolding_all rfl) | (simp (disch := omega) only [u2_same, u2_ab, u2_aq]; done) | (simp (disch := omega) only [u2_same, u2_ab, u2_aq]; omega) | fail)) only [al_17216, wp_aloadr_1, wp_aloadk_1, hg_1_1, wz_ne_t, wz_ne_f, wb_ne_t, wb_ne_f, wm_ne_1, wm_ne_2, wp_aloadr_2, wp_aloadk_2, wp_ldc, wk_m1, wp_ireturn, al_17217, wp_aloadr_0, wp_aloadk_0, wc_270, wk_40, wp_min, wp_istore_3, wk_0, wp_istore_4, wp_jsr, wp_iload_4, wp_iload_3, wn_ge_t, wn_ge_f, wc_288, wc_271, al_17219, wp_iinc_4_1, wp_goto, al_17220, wn_gt_t, wn_gt_f, hg_17_6, hg_17_4, wz_le_t, wz_le_f, wm_le_1, wm_le_2, al_17221, al_17222, wc_277, hg_17_0, ha_18l, ha_18s, hg_17_2, nl_i, nl_r, nl_k, nl_j, nl_l, nI_add, pk_mul, pk_sub, tl_s, tl_n, aL_inl, u2_same, u2_ab, u2_aq, nI_l, lN_i, Nat.add_zero, Nat.zero_add, Nat.zero_le, true_and, and_true, b2n_10, b2n_T, b2n_F, b2n_0, Decidable.not_not, not_true_eq_false, not_false_eq_true, Nat.reduceAdd, Nat.reduceMul, Nat.reduceSub, hn0, wp_alen1 hF, wc_266k hu]
    refine t_266k hF hu ?_
    intro N2 I2 b1 b2 b3 b4
    have hx := hE z N2 I2 (fun b q _ y => b1 b q y) (fun b q _ _ u => b3 b q u) b2 b4
    simp (disch := (first | omega | exact aCat_8 (by with_unfolding_all rfl) | exact rk_lt (by with_unfolding_all rfl) | exact aCat_16 (by with_unfolding_all rfl) | exact rk_eq (by with_unfolding_all rfl) | assumption | exact b2n_lt _ | exact id_b (by with_unfolding_all rfl) | (simp (disch := omega) only [u2_same, u2_ab, u2_aq]; done) | (simp (disch := omega) only [u2_same, u2_ab, u2_aq]; omega) | fail)) only [al_17216, wp_aloadr_1, wp_aloadk_1, hg_1_1, wz_ne_t, wz_ne_f, wb_ne_t, wb_ne_f, wm_ne_1, wm_ne_2, wp_aloadr_2, wp_aloadk_2, wp_ldc, wk_m1, wp_ireturn, al_17217, wp_aloadr_0, wp_aloadk_0, wc_270, wk_40, wp_min, wp_istore_3, wk_0, wp_istore_4, wp_jsr, wp_iload_4, wp_iload_3, wn_ge_t, wn_ge_f, wc_288, wc_271, al_17219, wp_iinc_4_1, wp_goto, al_17220, wn_gt_t, wn_gt_f, hg_17_6, hg_17_4, wz_le_t, wz_le_f, wm_le_1, wm_le_2, al_17221, al_17222, wc_277, hg_17_0, ha_18l, ha_18s, hg_17_2, nl_i, nl_r, nl_k, nl_j, nl_l, nI_add, pk_mul, pk_sub, tl_s, tl_n, aL_inl, u2_same, u2_ab, u2_aq, nI_l, lN_i, Nat.add_zero, Nat.zero_add, Nat.zero_le, true_and, and_true, b2n_10, b2n_T, b2n_F, b2n_0, Decidable.not_not, not_true_eq_false, not_false_eq_true, Nat.reduceAdd, Nat.reduceMul, Nat.reduceSub]
    exact hx
  · have t270 : ∀ Q, aMm ko d 270 [.ref 17] (hp D N I J x) Q = Q none (hp D (u2 (u2 (u2 (u2 (u2 N 17 2 0) 17 3 0) 17 4 0) 17 5 0) 17 6 1) I J x) := fun Q => by
      rw [me_270]
      simp (disch := (first | omega | exact aCat_8 (by with_unfolding_all rfl) | exact rk_lt (by with_unfolding_all rfl) | exact aCat_16 (by with_unfolding_all rfl) | exact rk_eq (by with_unfolding_all rfl) | assumption | exact b2n_lt _ | exact id_b (by with_unfolding_all rfl) | (simp (disch := omega) only [u2_same, u2_ab, u2_aq]; done) | (simp (disch := omega) only [u2_same, u2_ab, u2_aq]; omega) | fail)) only [al_17280, wp_aloadr_0, wp_aloadk_0, wk_0, hp_17_2, hp_17_3, hp_17_4, hp_17_5, wk_1, hp_17_6, wp_return, nl_i, nl_r, nl_k, nl_j, nl_l, nI_add, pk_mul, pk_sub, tl_s, tl_n, aL_inl, u2_same, u2_ab, u2_aq, nI_l, lN_i, Nat.add_zero, Nat.zero_add, Nat.zero_le, true_and, and_true, b2n_10, b2n_T, b2n_F, b2n_0, Decidable.not_not, not_true_eq_false, not_false_eq_true, Nat.reduceAdd, Nat.reduceMul, Nat.reduceSub]
    have e11 : u2 (u2 (u2 (u2 (u2 N 17 2 0) 17 3 0) 17 4 0) 17 5 0) 17 6 1 1 1 = n := by
      rw [u2_ab (by decide), u2_ab (by decide), u2_ab (by decide), u2_ab (by decide), u2_ab (by decide)]
      exact hn
    have hx := l_269 (ko := ko) (d := d) (D := D) (J := J) (x := x) (Q := Q) (N0 := N) (I0 := I) (ru := ru) (n := n) (to := min n 40) hk hu hn hn80 rfl hb (hB (by omega)) (hG (by omega)) (min n 40) 0 s0R (u2 (u2 (u2 (u2 (u2 N 17 2 0) 17 3 0) 17 4 0) 17 5 0) 17 6 1) I (by omega) rfl (by
        refine ⟨?_, trivial, ?_, trivial, ?_, ?_, u2_same _ _ _ _⟩
        · rw [u2_aq (by decide), u2_aq (by decide), u2_aq (by decide), u2_aq (by decide), u2_same]; rfl
        · rw [u2_aq (by decide), u2_aq (by decide), u2_aq (by decide), u2_same]; rfl
        · rw [u2_aq (by decide), u2_aq (by decide), u2_same]; rfl
        · rw [u2_aq (by decide), u2_same]; rfl) ⟨fun j hj => absurd hj (List.not_mem_nil), Or.inl rfl⟩ (Nat.le_refl _) (by decide) (fr17_t fr17_u (fr17_t fr17_u (fr17_t fr17_u (fr17_t fr17_u fr17_u)))) fr18_r
    simp (disch := (first | omega | exact aCat_8 (by with_unfolding_all rfl) | exact rk_lt (by with_unfolding_all rfl) | exact aCat_16 (by with_unfolding_all rfl) | exact rk_eq (by with_unfolding_all rfl) | assumption | exact b2n_lt _ | exact id_b (by with_unfolding_all rfl) | (simp (disch := omega) only [u2_same, u2_ab, u2_aq]; done) | (simp (disch := omega) only [u2_same, u2_ab, u2_aq]; omega) | fail)) only [al_17216, wp_aloadr_1, wp_aloadk_1, hg_1_1, wz_ne_t, wz_ne_f, wb_ne_t, wb_ne_f, wm_ne_1, wm_ne_2, wp_aloadr_2, wp_aloadk_2, wp_ldc, wk_m1, wp_ireturn, al_17217, wp_aloadr_0, wp_aloadk_0, wc_270, wk_40, wp_min, wp_istore_3, wk_0, wp_istore_4, wp_jsr, wp_iload_4, wp_iload_3, wn_ge_t, wn_ge_f, wc_288, wc_271, al_17219, wp_iinc_4_1, wp_goto, al_17220, wn_gt_t, wn_gt_f, hg_17_6, hg_17_4, wz_le_t, wz_le_f, wm_le_1, wm_le_2, al_17221, al_17222, wc_277, hg_17_0, ha_18l, ha_18s, hg_17_2, nl_i, nl_r, nl_k, nl_j, nl_l, nI_add, pk_mul, pk_sub, tl_s, tl_n, aL_inl, u2_same, u2_ab, u2_aq, nI_l, lN_i, Nat.add_zero, Nat.zero_add, Nat.zero_le, true_and, and_true, b2n_10, b2n_T, b2n_F, b2n_0, Decidable.not_not, not_true_eq_false, not_false_eq_true, Nat.reduceAdd, Nat.reduceMul, Nat.reduceSub, hn, t270, e11]
    exact hx
end RD
