/-! rule: the pair. From wip/whole/src. -/
theorem rd_ok {L : List Nat} {g : Nat → Nat} (hl : L.length ≤ 40) (hs : stk g (fun c => c) L) (hh : hgt L = some 1) : okc g L.length ∧ 0 < L.length := by
  obtain ⟨h1, h2⟩ := hgt_ok hs hh
  refine ⟨⟨hl, fun _ => by omega, h2⟩, ?_⟩
  cases L with
  | nil => cases hh
  | cons c L => exact Nat.succ_pos _
section RI
variable {ko : aKo} {d k : Nat} {is : List Instr} {ls st : List Value} {σ : aH} {D : Nat → Nat} {N : Nat → Nat → Nat} {I : Nat → Nat → Int32} {J : Nat → Nat → Int64} {x t : Nat} {Q : Option Value → aH → Prop} {P : (Option Value ⊕ Unit) → aH → Prop}
/-- the text is read, in both; a rule may have changed -/
theorem rd_B {N1 N2 : Nat → Nat → Nat} {I1 : Nat → Nat → Int32} (h : invB D N I J t) (h1 : fr26 11 N1 N) (hI : fr27 11 I1 I) (h2 : ∀ b q, b ≠ 94 → b ≠ 93 → ¬ (b = 1 ∧ q = 1) → ¬ (b = 86 ∧ (q = 0 ∨ q = 11 ∨ q = 12 ∨ q = 13 ∨ q = 14 ∨ q = 18 ∨ q = 19)) → N2 b q = N1 b q) (h11 : N2 1 1 = 0) (h86 : N2 86 11 = 0) (hR : iRl N2 I1) : invB D N2 I1 J (t + 300) := by
  refine invB_p (fun g => g == 1 || g == 3) rfl h (by omega) ?_ ?_ (fun _ _ _ _ => rfl) (fun _ => ?_) (fun z => by cases z) (fun _ => hR) (fun z => by cases z) (fun z => by cases z) (fun z => by cases z) (fun z => by cases z) (fun z => by cases z)
  · intro b q z y
    rw [h2 b q (by rintro rfl; cases z) (by rintro rfl; cases y) (by rintro ⟨rfl, rfl⟩; cases y) ?_]
    · exact h1 b q (by rintro rfl; cases z) (by rintro ⟨rfl, rfl⟩; cases y)
    · rintro ⟨rfl, rfl | rfl | rfl | rfl | rfl | rfl | rfl⟩
      · cases z
      · cases y
      · cases z
      · cases z
      · cases z
      · cases y
      · cases z
  · intro b q z y
    exact hI b q (by rintro rfl; cases z) (by rintro rfl; cases z) (by rintro rfl; cases y)
  · unfold iTx
    rw [h11, h86]
    exact ⟨rfl, by decide, fun i hi => absurd hi (Nat.not_lt_zero i)⟩
/-- the class's whole call -/
theorem k_157 (hk : koT ko) (hF : koF ko) (h : invB D N I J t)
    (hE : N 86 11 = 0 → ∀ (N' : Nat → Nat → Nat) (I' : Nat → Nat → Int32), fr26 11 N' N → fr27 11 I' I → N' 11 2 = 7 → (∀ q, q < 7 → I' 12 q = enc (c0 q)) → Q (some (.int (nI 0))) (hp D (u2 N' 1 1 0) I' J x))
    (hB : 0 < N 86 11 → ∀ (p : Nat) (s : rdS) (N' : Nat → Nat → Nat) (I' : Nat → Nat → Int32), p ≤ 40 → stO (N 91) s0R (min (N 86 11) 40) p s → fr17 N' N → fr18 I' I → (p < min (N 86 11) 40 ∨ 40 < N 86 11 ∨ s.2.2.2.2 = true ∨ 0 < s.2.2.1) → Q (some (.int (-1 - nI p))) (hp D (u2 N' 1 1 0) I' J x))
    (hG : 0 < N 86 11 → ∀ (s : rdS) (N' : Nat → Nat → Nat) (I' : Nat → Nat → Int32), stO (N 91) s0R (min (N 86 11) 40) (min (N 86 11) 40) s → N 86 11 ≤ 40 → s.2.2.2.2 = false → s.2.2.1 = 0 → fr26 11 N' N → fr27 11 I' I → N' 11 2 = (revA s.2.1 s.1).length → (revA s.2.1 s.1).length ≤ 40 → stk (I' 12) enc (revA s.2.1 s.1) → Q (some (.int (nI 0))) (hp D (u2 N' 1 1 0) I' J x)) : aMm ko d 157 [.ref 0] (hp D N I J x) Q := by
  obtain ⟨t1, t2, t3⟩ := id h.2.1
  have hT : ∀ i, i < min (N 86 11) 40 → N 2 i = N 91 i := fun i hi => (t3 i (by omega)).1
  rw [me_157]
  simp (disch := (first | omega | exact aCat_8 (by with_unfolding_all rfl) | exact rk_lt (by with_unfolding_all rfl) | exact aCat_16 (by with_unfolding_all rfl) | exact rk_eq (by with_unfolding_all rfl) | assumption | exact b2n_lt _ | exact id_b (by with_unfolding_all rfl) | (simp (disch := omega) only [u2_same, u2_ab, u2_aq]; done) | (simp (disch := omega) only [u2_same, u2_ab, u2_aq]; omega) | fail)) only [al_10048, wp_aloadr_0, wp_aloadk_0, hg_0_6, hg_0_0, hg_0_4, wc_269, wp_istore_1, wc_289, wp_iload_1, wk_m1, wn_ne_t, wn_ne_f, wk_0, wp_goto, al_10049, wp_isub, wp_jsr, al_10050, wp_ireturn, nl_i, nl_r, nl_k, nl_j, nl_l, nI_add, pk_mul, pk_sub, tl_s, tl_n, aL_inl, u2_same, u2_ab, u2_aq, nI_l, lN_i, Nat.add_zero, Nat.zero_add, Nat.zero_le, true_and, and_true, b2n_10, b2n_T, b2n_F, b2n_0, Decidable.not_not, not_true_eq_false, not_false_eq_true, Nat.reduceAdd, Nat.reduceMul, Nat.reduceSub]
  refine t_269 (ru := 11) hk hF rfl t1 t2 (fun i hi => by have := t3 i hi; omega) ?_ ?_ ?_
  · intro z N' I' f1 f2 f3 f4
    have hx := hE z N' I' f1 f2 f3 f4
    simp (disch := (first | omega | exact aCat_8 (by with_unfolding_all rfl) | exact rk_lt (by with_unfolding_all rfl) | exact aCat_16 (by with_unfolding_all rfl) | exact rk_eq (by with_unfolding_all rfl) | assumption | exact b2n_lt _ | exact id_b (by with_unfolding_all rfl) | (simp (disch := omega) only [u2_same, u2_ab, u2_aq]; done) | (simp (disch := omega) only [u2_same, u2_ab, u2_aq]; omega) | fail)) only [al_10048, wp_aloadr_0, wp_aloadk_0, hg_0_6, hg_0_0, hg_0_4, wc_269, wp_istore_1, wc_289, wp_iload_1, wk_m1, wn_ne_t, wn_ne_f, wk_0, wp_goto, al_10049, wp_isub, wp_jsr, al_10050, wp_ireturn, nl_i, nl_r, nl_k, nl_j, nl_l, nI_add, pk_mul, pk_sub, tl_s, tl_n, aL_inl, u2_same, u2_ab, u2_aq, nI_l, lN_i, Nat.add_zero, Nat.zero_add, Nat.zero_le, true_and, and_true, b2n_10, b2n_T, b2n_F, b2n_0, Decidable.not_not, not_true_eq_false, not_false_eq_true, Nat.reduceAdd, Nat.reduceMul, Nat.reduceSub, t_289, qe_n1, qe_m1, qn_n1, qn_m1, qe_n2, qe_m2, qn_n2, qn_m2]
    exact hx
  · intro z p s N' I' hs f1 f2 hb
    have hp40 : p ≤ 40 := by have := hs.1; omega
    have hx := hB z p s N' I' hp40 (stO_c hT hs) f1 f2 hb
    simp (disch := (first | omega | exact aCat_8 (by with_unfolding_all rfl) | exact rk_lt (by with_unfolding_all rfl) | exact aCat_16 (by with_unfolding_all rfl) | exact rk_eq (by with_unfolding_all rfl) | assumption | exact b2n_lt _ | exact id_b (by with_unfolding_all rfl) | (simp (disch := omega) only [u2_same, u2_ab, u2_aq]; done) | (simp (disch := omega) only [u2_same, u2_ab, u2_aq]; omega) | fail)) only [al_10048, wp_aloadr_0, wp_aloadk_0, hg_0_6, hg_0_0, hg_0_4, wc_269, wp_istore_1, wc_289, wp_iload_1, wk_m1, wn_ne_t, wn_ne_f, wk_0, wp_goto, al_10049, wp_isub, wp_jsr, al_10050, wp_ireturn, nl_i, nl_r, nl_k, nl_j, nl_l, nI_add, pk_mul, pk_sub, tl_s, tl_n, aL_inl, u2_same, u2_ab, u2_aq, nI_l, lN_i, Nat.add_zero, Nat.zero_add, Nat.zero_le, true_and, and_true, b2n_10, b2n_T, b2n_F, b2n_0, Decidable.not_not, not_true_eq_false, not_false_eq_true, Nat.reduceAdd, Nat.reduceMul, Nat.reduceSub, t_289, qe_n1, qe_m1, qn_n1, qn_m1, qe_n2, qe_m2, qn_n2, qn_m2]
    exact hx
  · intro z s N' I' hs y1 y2 y3 f1 f2 f3 f4 f5
    have hx := hG z s N' I' (stO_c hT hs) y1 y2 y3 f1 f2 f3 f4 f5
    simp (disch := (first | omega | exact aCat_8 (by with_unfolding_all rfl) | exact rk_lt (by with_unfolding_all rfl) | exact aCat_16 (by with_unfolding_all rfl) | exact rk_eq (by with_unfolding_all rfl) | assumption | exact b2n_lt _ | exact id_b (by with_unfolding_all rfl) | (simp (disch := omega) only [u2_same, u2_ab, u2_aq]; done) | (simp (disch := omega) only [u2_same, u2_ab, u2_aq]; omega) | fail)) only [al_10048, wp_aloadr_0, wp_aloadk_0, hg_0_6, hg_0_0, hg_0_4, wc_269, wp_istore_1, wc_289, wp_iload_1, wk_m1, wn_ne_t, wn_ne_f, wk_0, wp_goto, al_10049, wp_isub, wp_jsr, al_10050, wp_ireturn, nl_i, nl_r, nl_k, nl_j, nl_l, nI_add, pk_mul, pk_sub, tl_s, tl_n, aL_inl, u2_same, u2_ab, u2_aq, nI_l, lN_i, Nat.add_zero, Nat.zero_add, Nat.zero_le, true_and, and_true, b2n_10, b2n_T, b2n_F, b2n_0, Decidable.not_not, not_true_eq_false, not_false_eq_true, Nat.reduceAdd, Nat.reduceMul, Nat.reduceSub, t_289, qe_n1, qe_m1, qn_n1, qn_m1, qe_n2, qe_m2, qn_n2, qn_m2]
    exact hx
theorem m1_n0 {p : Nat} (h : p ≤ 80) : (-1 - nI p : Int32) < 0 := by
  rw [Int32.lt_iff_toInt_lt, Int32.toInt_sub, nI_toInt (by omega)]
  have e : (-1 : Int32).toInt = -1 := by decide
  have e0 : (0 : Int32).toInt = 0 := by decide
  rw [e, e0, Int.bmod_def]
  split <;> omega
theorem m1_ne {p : Nat} (h : p ≤ 80) : ¬ (-1 - nI p : Int32) = 0 := by
  have := m1_n0 h
  intro e
  rw [e] at this
  exact absurd this (by decide)
theorem o_rule (hk : koT ko) (hF : koF ko) (h : inv D N I J t) : opO ko (d + 61) 157 12 [] D N I J x (t + 300) := by
  obtain ⟨t1, t2, t3⟩ := id h.1.2.1
  refine k_157 hk hF h.1 ?_ ?_ ?_
  · intro z N1 I1 f1 f2 f3 f4
    have e11 : u2 (u2 N1 1 1 0) 86 0 0 86 11 = 0 := by
      rw [u2_aq (by decide), u2_ab (by decide), f1 86 11 (by decide) (by omega)]
      exact z
    rw [me_12]
    simp (disch := (first | omega | exact aCat_8 (by with_unfolding_all rfl) | exact rk_lt (by with_unfolding_all rfl) | exact aCat_16 (by with_unfolding_all rfl) | exact rk_eq (by with_unfolding_all rfl) | assumption | exact b2n_lt _ | exact id_b (by with_unfolding_all rfl) | (simp (disch := omega) only [u2_same, u2_ab, u2_aq]; done) | (simp (disch := omega) only [u2_same, u2_ab, u2_aq]; omega) | fail)) only [al_768, wp_aloadr_0, wp_aloadk_0, wk_0, hp_86_0, wc_13, wp_istore_1, wp_iload_1, wz_ne_t, wz_ne_f, wb_ne_t, wb_ne_f, wm_ne_1, wm_ne_2, hg_86_17, ha_94l, ha_94s, hg_86_19, wc_21, wp_jsr, al_769, wp_ireturn, nl_i, nl_r, nl_k, nl_j, nl_l, nI_add, pk_mul, pk_sub, tl_s, tl_n, aL_inl, u2_same, u2_ab, u2_aq, nI_l, lN_i, Nat.add_zero, Nat.zero_add, Nat.zero_le, true_and, and_true, b2n_10, b2n_T, b2n_F, b2n_0, Decidable.not_not, not_true_eq_false, not_false_eq_true, Nat.reduceAdd, Nat.reduceMul, Nat.reduceSub]
    refine t_13 (n := 0) hk e11 (by decide) (fun i hi => absurd hi (Nat.not_lt_zero i)) ?_ (fun y => absurd y (by decide)) (fun y => absurd y (by decide))
    intro _ N2 g1 g2 g3
    simp (disch := (first | omega | exact aCat_8 (by with_unfolding_all rfl) | exact rk_lt (by with_unfolding_all rfl) | exact aCat_16 (by with_unfolding_all rfl) | exact rk_eq (by with_unfolding_all rfl) | assumption | exact b2n_lt _ | exact id_b (by with_unfolding_all rfl) | (simp (disch := omega) only [u2_same, u2_ab, u2_aq]; done) | (simp (disch := omega) only [u2_same, u2_ab, u2_aq]; omega) | fail)) only [al_768, wp_aloadr_0, wp_aloadk_0, wk_0, hp_86_0, wc_13, wp_istore_1, wp_iload_1, wz_ne_t, wz_ne_f, wb_ne_t, wb_ne_f, wm_ne_1, wm_ne_2, hg_86_17, ha_94l, ha_94s, hg_86_19, wc_21, wp_jsr, al_769, wp_ireturn, nl_i, nl_r, nl_k, nl_j, nl_l, nI_add, pk_mul, pk_sub, tl_s, tl_n, aL_inl, u2_same, u2_ab, u2_aq, nI_l, lN_i, Nat.add_zero, Nat.zero_add, Nat.zero_le, true_and, and_true, b2n_10, b2n_T, b2n_F, b2n_0, Decidable.not_not, not_true_eq_false, not_false_eq_true, Nat.reduceAdd, Nat.reduceMul, Nat.reduceSub, g3]
    refine t_21 (src := 94) (Or.inl rfl) (by decide) ?_
    intro N3 c1 c2 _
    have hN : ∀ b q, b ≠ 94 → b ≠ 93 → ¬ (b = 1 ∧ q = 1) → ¬ (b = 86 ∧ (q = 0 ∨ q = 11 ∨ q = 12 ∨ q = 13 ∨ q = 14 ∨ q = 18 ∨ q = 19)) → N3 b q = N1 b q := fun b q z1 z2 z3 z4 => by
      rw [c1 b q z2 (by omega), g1 b q z1 (by omega), u2_rd, if_neg (by omega), u2_rd, if_neg (by omega)]
    have n11 : N3 1 1 = 0 := by rw [c1 1 1 (by decide) (by omega), g1 1 1 (by decide) (by omega), u2_ab (by decide), u2_same]
    have hx : inv D N3 I1 J (t + 300) := ⟨rd_B h.1 f1 f2 hN n11 (by rw [c1 86 11 (by decide) (by omega)]; exact g2) ⟨by rw [c2]; exact ⟨by decide, fun y => absurd y (by decide), fun k hk => absurd hk (Nat.not_lt_zero k)⟩, by
      rw [c2]
      refine ⟨by rw [hN 11 2 (by decide) (by decide) (by omega) (by omega)]; exact f3, fun k hk => ?_⟩
      exact f4 k hk⟩, td_same h.2 (by rw [hN 3 1 (by decide) (by decide) (by omega) (by omega)]; exact f1 3 1 (by decide) (by omega)) (by rw [hN 86 1 (by decide) (by decide) (by omega) (by omega)]; exact f1 86 1 (by decide) (by omega)) (fun _ => rfl) (fun _ => rfl)⟩
    simp (disch := (first | omega | exact aCat_8 (by with_unfolding_all rfl) | exact rk_lt (by with_unfolding_all rfl) | exact aCat_16 (by with_unfolding_all rfl) | exact rk_eq (by with_unfolding_all rfl) | assumption | exact b2n_lt _ | exact id_b (by with_unfolding_all rfl) | (simp (disch := omega) only [u2_same, u2_ab, u2_aq]; done) | (simp (disch := omega) only [u2_same, u2_ab, u2_aq]; omega) | fail)) only [al_768, wp_aloadr_0, wp_aloadk_0, wk_0, hp_86_0, wc_13, wp_istore_1, wp_iload_1, wz_ne_t, wz_ne_f, wb_ne_t, wb_ne_f, wm_ne_1, wm_ne_2, hg_86_17, ha_94l, ha_94s, hg_86_19, wc_21, wp_jsr, al_769, wp_ireturn, nl_i, nl_r, nl_k, nl_j, nl_l, nI_add, pk_mul, pk_sub, tl_s, tl_n, aL_inl, u2_same, u2_ab, u2_aq, nI_l, lN_i, Nat.add_zero, Nat.zero_add, Nat.zero_le, true_and, and_true, b2n_10, b2n_T, b2n_F, b2n_0, Decidable.not_not, not_true_eq_false, not_false_eq_true, Nat.reduceAdd, Nat.reduceMul, Nat.reduceSub]
    exact ⟨rfl, D, N3, I1, J, rfl, hx⟩
  · intro z p s N1 I1 hp40 hs f1 f2 hb
    have e11 : u2 (u2 N1 1 1 0) 86 0 0 86 11 = N 86 11 := by
      rw [u2_aq (by decide), u2_ab (by decide), f1 86 11 (by decide)]
    have e91 : u2 (u2 N1 1 1 0) 86 0 0 91 = N 91 := by
      funext q
      rw [u2_ab (by decide), u2_ab (by decide), f1 91 q (by decide)]
    rw [me_12]
    simp (disch := (first | omega | exact aCat_8 (by with_unfolding_all rfl) | exact rk_lt (by with_unfolding_all rfl) | exact aCat_16 (by with_unfolding_all rfl) | exact rk_eq (by with_unfolding_all rfl) | assumption | exact b2n_lt _ | exact id_b (by with_unfolding_all rfl) | (simp (disch := omega) only [u2_same, u2_ab, u2_aq]; done) | (simp (disch := omega) only [u2_same, u2_ab, u2_aq]; omega) | fail)) only [al_768, wp_aloadr_0, wp_aloadk_0, wk_0, hp_86_0, wc_13, wp_istore_1, wp_iload_1, wz_ne_t, wz_ne_f, wb_ne_t, wb_ne_f, wm_ne_1, wm_ne_2, hg_86_17, ha_94l, ha_94s, hg_86_19, wc_21, wp_jsr, al_769, wp_ireturn, nl_i, nl_r, nl_k, nl_j, nl_l, nI_add, pk_mul, pk_sub, tl_s, tl_n, aL_inl, u2_same, u2_ab, u2_aq, nI_l, lN_i, Nat.add_zero, Nat.zero_add, Nat.zero_le, true_and, and_true, b2n_10, b2n_T, b2n_F, b2n_0, Decidable.not_not, not_true_eq_false, not_false_eq_true, Nat.reduceAdd, Nat.reduceMul, Nat.reduceSub]
    refine t_13 (n := N 86 11) hk e11 t2 (fun i hi => by rw [e91]; exact (t3 i hi).2) (fun y => absurd z (by omega)) ?_ ?_
    · intro _ p2 s2 N2 hs2 g1 g2 hb2
      rw [e91] at hs2
      obtain ⟨e1, e2⟩ := stO_u hs hs2
      subst e1
      have hN : ∀ b q, b ≠ 94 → b ≠ 93 → ¬ (b = 1 ∧ q = 1) → ¬ (b = 86 ∧ (q = 0 ∨ q = 11 ∨ q = 12 ∨ q = 13 ∨ q = 14 ∨ q = 18 ∨ q = 19)) → N2 b q = N1 b q := fun b q z1 z2 z3 z4 => by
        rw [g1 b q z1 (by omega), u2_rd, if_neg (by omega), u2_rd, if_neg (by omega)]
      have n11 : N2 1 1 = 0 := by rw [g1 1 1 (by decide) (by omega), u2_ab (by decide), u2_same]
      have n93 : N2 93 = N 93 := by
        funext q
        rw [g1 93 q (by decide) (by omega), u2_ab (by decide), u2_ab (by decide), f1 93 q (by decide)]
      have n18 : N2 86 18 = N 86 18 := by rw [g1 86 18 (by decide) (by omega), u2_aq (by decide), u2_ab (by decide), f1 86 18 (by decide)]
      have hx : inv D N2 I1 J (t + 300) := ⟨rd_B h.1 (fun b q y _ => f1 b q y) (fun b q y y2 _ => f2 b q y y2) hN n11 g2 (by
        obtain ⟨r1, r2, r3⟩ := h.1.2.2.2.1
        unfold iRl
        rw [n93, n18]
        refine ⟨r1, ?_, fun k hk => ?_⟩
        · rw [hN 11 2 (by decide) (by decide) (by omega) (by omega), f1 11 2 (by decide)]
          exact r2
        · rw [f2 (11 + 1) k (by decide) (by decide)]
          exact r3 k hk), td_same h.2 (by rw [hN 3 1 (by decide) (by decide) (by omega) (by omega)]; exact f1 3 1 (by decide)) (by rw [hN 86 1 (by decide) (by decide) (by omega) (by omega)]; exact f1 86 1 (by decide)) (fun _ => rfl) (fun _ => rfl)⟩
      simp (disch := (first | omega | exact aCat_8 (by with_unfolding_all rfl) | exact rk_lt (by with_unfolding_all rfl) | exact aCat_16 (by with_unfolding_all rfl) | exact rk_eq (by with_unfolding_all rfl) | assumption | exact b2n_lt _ | exact id_b (by with_unfolding_all rfl) | (simp (disch := omega) only [u2_same, u2_ab, u2_aq]; done) | (simp (disch := omega) only [u2_same, u2_ab, u2_aq]; omega) | fail)) only [al_768, wp_aloadr_0, wp_aloadk_0, wk_0, hp_86_0, wc_13, wp_istore_1, wp_iload_1, wz_ne_t, wz_ne_f, wb_ne_t, wb_ne_f, wm_ne_1, wm_ne_2, hg_86_17, ha_94l, ha_94s, hg_86_19, wc_21, wp_jsr, al_769, wp_ireturn, nl_i, nl_r, nl_k, nl_j, nl_l, nI_add, pk_mul, pk_sub, tl_s, tl_n, aL_inl, u2_same, u2_ab, u2_aq, nI_l, lN_i, Nat.add_zero, Nat.zero_add, Nat.zero_le, true_and, and_true, b2n_10, b2n_T, b2n_F, b2n_0, Decidable.not_not, not_true_eq_false, not_false_eq_true, Nat.reduceAdd, Nat.reduceMul, Nat.reduceSub, wy_ne_t (m1_ne (show p ≤ 80 by omega))]
      exact ⟨rfl, D, N2, I1, J, rfl, hx⟩
    · intro _ s2 N2 hs2 y1 y2 y3 g1 g2 g3 g4 g5
      rw [e91] at hs2
      obtain ⟨e1, e2⟩ := stO_u hs hs2
      subst e2
      exfalso
      rcases hb with hb | hb | hb | hb
      · omega
      · omega
      · rw [y2] at hb; cases hb
      · omega
  · intro z s N1 I1 hs z1 z2 z3 f1 f2 f3 f4 f5
    have e11 : u2 (u2 N1 1 1 0) 86 0 0 86 11 = N 86 11 := by
      rw [u2_aq (by decide), u2_ab (by decide), f1 86 11 (by decide) (by omega)]
    have e91 : u2 (u2 N1 1 1 0) 86 0 0 91 = N 91 := by
      funext q
      rw [u2_ab (by decide), u2_ab (by decide), f1 91 q (by decide) (by omega)]
    rw [me_12]
    simp (disch := (first | omega | exact aCat_8 (by with_unfolding_all rfl) | exact rk_lt (by with_unfolding_all rfl) | exact aCat_16 (by with_unfolding_all rfl) | exact rk_eq (by with_unfolding_all rfl) | assumption | exact b2n_lt _ | exact id_b (by with_unfolding_all rfl) | (simp (disch := omega) only [u2_same, u2_ab, u2_aq]; done) | (simp (disch := omega) only [u2_same, u2_ab, u2_aq]; omega) | fail)) only [al_768, wp_aloadr_0, wp_aloadk_0, wk_0, hp_86_0, wc_13, wp_istore_1, wp_iload_1, wz_ne_t, wz_ne_f, wb_ne_t, wb_ne_f, wm_ne_1, wm_ne_2, hg_86_17, ha_94l, ha_94s, hg_86_19, wc_21, wp_jsr, al_769, wp_ireturn, nl_i, nl_r, nl_k, nl_j, nl_l, nI_add, pk_mul, pk_sub, tl_s, tl_n, aL_inl, u2_same, u2_ab, u2_aq, nI_l, lN_i, Nat.add_zero, Nat.zero_add, Nat.zero_le, true_and, and_true, b2n_10, b2n_T, b2n_F, b2n_0, Decidable.not_not, not_true_eq_false, not_false_eq_true, Nat.reduceAdd, Nat.reduceMul, Nat.reduceSub]
    refine t_13 (n := N 86 11) hk e11 t2 (fun i hi => by rw [e91]; exact (t3 i hi).2) (fun y => absurd z (by omega)) ?_ ?_
    · intro _ p2 s2 N2 hs2 g1 g2 hb2
      rw [e91] at hs2
      obtain ⟨e1, e2⟩ := stO_u hs hs2
      subst e2
      exfalso
      rcases hb2 with hb | hb | hb | hb
      · omega
      · omega
      · rw [z2] at hb; cases hb
      · omega
    · intro _ s2 N2 hs2 y1 y2 y3 g1 g2 g3 g4 g5
      rw [e91] at hs2
      obtain ⟨e1, e2⟩ := stO_u hs hs2
      subst e2
      simp (disch := (first | omega | exact aCat_8 (by with_unfolding_all rfl) | exact rk_lt (by with_unfolding_all rfl) | exact aCat_16 (by with_unfolding_all rfl) | exact rk_eq (by with_unfolding_all rfl) | assumption | exact b2n_lt _ | exact id_b (by with_unfolding_all rfl) | (simp (disch := omega) only [u2_same, u2_ab, u2_aq]; done) | (simp (disch := omega) only [u2_same, u2_ab, u2_aq]; omega) | fail)) only [al_768, wp_aloadr_0, wp_aloadk_0, wk_0, hp_86_0, wc_13, wp_istore_1, wp_iload_1, wz_ne_t, wz_ne_f, wb_ne_t, wb_ne_f, wm_ne_1, wm_ne_2, hg_86_17, ha_94l, ha_94s, hg_86_19, wc_21, wp_jsr, al_769, wp_ireturn, nl_i, nl_r, nl_k, nl_j, nl_l, nI_add, pk_mul, pk_sub, tl_s, tl_n, aL_inl, u2_same, u2_ab, u2_aq, nI_l, lN_i, Nat.add_zero, Nat.zero_add, Nat.zero_le, true_and, and_true, b2n_10, b2n_T, b2n_F, b2n_0, Decidable.not_not, not_true_eq_false, not_false_eq_true, Nat.reduceAdd, Nat.reduceMul, Nat.reduceSub, g3]
      refine t_21 (src := 94) (Or.inl rfl) (by omega) ?_
      intro N3 c1 c2 c3
      have hN : ∀ b q, b ≠ 94 → b ≠ 93 → ¬ (b = 1 ∧ q = 1) → ¬ (b = 86 ∧ (q = 0 ∨ q = 11 ∨ q = 12 ∨ q = 13 ∨ q = 14 ∨ q = 18 ∨ q = 19)) → N3 b q = N1 b q := fun b q z1 z2 z3 z4 => by
        rw [c1 b q z2 (by omega), g1 b q z1 (by omega), u2_rd, if_neg (by omega), u2_rd, if_neg (by omega)]
      have n11 : N3 1 1 = 0 := by rw [c1 1 1 (by decide) (by omega), g1 1 1 (by decide) (by omega), u2_ab (by decide), u2_same]
      have hst : stk (N3 93) (fun c => c) (revA s.2.1 s.1) := stk_f (fun q hq => c3 q hq) g4
      obtain ⟨ok1, ok2⟩ := rd_ok f4 hst g5
      have hx : inv D N3 I1 J (t + 300) := ⟨rd_B h.1 f1 f2 hN n11 (by rw [c1 86 11 (by decide) (by omega)]; exact g2) (by
        unfold iRl
        rw [c2]
        refine ⟨ok1, ?_, ?_⟩
        · rw [hN 11 2 (by decide) (by decide) (by omega) (by omega), f3]
          unfold nN
          rw [if_neg (by omega)]
        · intro k hk
          unfold nN at hk
          rw [if_neg (by omega)] at hk
          unfold cN
          rw [if_neg (by omega)]
          exact stk_b f5 hst k hk), td_same h.2 (by rw [hN 3 1 (by decide) (by decide) (by omega) (by omega)]; exact f1 3 1 (by decide) (by omega)) (by rw [hN 86 1 (by decide) (by decide) (by omega) (by omega)]; exact f1 86 1 (by decide) (by omega)) (fun _ => rfl) (fun _ => rfl)⟩
      simp (disch := (first | omega | exact aCat_8 (by with_unfolding_all rfl) | exact rk_lt (by with_unfolding_all rfl) | exact aCat_16 (by with_unfolding_all rfl) | exact rk_eq (by with_unfolding_all rfl) | assumption | exact b2n_lt _ | exact id_b (by with_unfolding_all rfl) | (simp (disch := omega) only [u2_same, u2_ab, u2_aq]; done) | (simp (disch := omega) only [u2_same, u2_ab, u2_aq]; omega) | fail)) only [al_768, wp_aloadr_0, wp_aloadk_0, wk_0, hp_86_0, wc_13, wp_istore_1, wp_iload_1, wz_ne_t, wz_ne_f, wb_ne_t, wb_ne_f, wm_ne_1, wm_ne_2, hg_86_17, ha_94l, ha_94s, hg_86_19, wc_21, wp_jsr, al_769, wp_ireturn, nl_i, nl_r, nl_k, nl_j, nl_l, nI_add, pk_mul, pk_sub, tl_s, tl_n, aL_inl, u2_same, u2_ab, u2_aq, nI_l, lN_i, Nat.add_zero, Nat.zero_add, Nat.zero_le, true_and, and_true, b2n_10, b2n_T, b2n_F, b2n_0, Decidable.not_not, not_true_eq_false, not_false_eq_true, Nat.reduceAdd, Nat.reduceMul, Nat.reduceSub]
      exact ⟨rfl, D, N3, I1, J, rfl, hx⟩
end RI
