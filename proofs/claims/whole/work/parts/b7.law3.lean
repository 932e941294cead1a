/-! law: the pair, on. From wip/whole/src. -/
section LY
variable {ko : aKo} {d k : Nat} {is : List Instr} {ls st : List Value} {σ : aH} {D : Nat → Nat} {N : Nat → Nat → Nat} {I : Nat → Nat → Int32} {J : Nat → Nat → Int64} {x t : Nat} {Q : Option Value → aH → Prop} {P : (Option Value ⊕ Unit) → aH → Prop}
theorem mm_pure {As : List Value} {R : Prop} (h : aMm ko d k As σ (fun _ _ => R)) : R := by
  obtain ⟨⟨r, σ1⟩, he, hr⟩ := h
  match r, hr with
  | .inl v, hr => exact hr
/-- a text that is read to its end can be reckoned -/
theorem rd_hgt {s : rdS} (hk : koT ko) (h : invB D N I J t) (h0 : 0 < N 86 11) (hs : stO (N 91) s0R (min (N 86 11) 40) (min (N 86 11) 40) s) (h40 : N 86 11 ≤ 40) (hw : s.2.2.2.2 = false) (hn : s.2.2.1 = 0) : hgt (revA s.2.1 s.1) = some 1 := by
  obtain ⟨t1, t2, t3⟩ := id h.2.1
  refine mm_pure (t_13 (ko := ko) (d := 0) (D := D) (N := N) (I := I) (J := J) (x := 0) (Q := fun _ _ => hgt (revA s.2.1 s.1) = some 1) (n := N 86 11) hk rfl t2 (fun i hi => (t3 i hi).2) (fun z => absurd h0 (by omega)) ?_ ?_)
  · intro _ p s2 N2 hs2 _ _ hb
    obtain ⟨e1, e2⟩ := stO_u hs hs2
    subst e2
    exfalso
    rcases hb with hb | hb | hb | hb
    · omega
    · omega
    · rw [hw] at hb; cases hb
    · omega
  · intro _ s2 N2 hs2 _ _ _ _ _ _ _ g5
    obtain ⟨e1, e2⟩ := stO_u hs hs2
    subst e2
    exact g5
theorem lw_B {N1 N2 : Nat → Nat → Nat} {I1 I2 : Nat → Nat → Int32} {J1 J2 : Nat → Nat → Int64} (h : invB D N I J t) (hK : lwK D N N1 I I1 J J1) (h2 : ∀ b q, b ≠ 121 → b ≠ 94 → b ≠ 93 → b ≠ 97 → b ≠ 98 → ¬ (b = 86 ∧ (q = 0 ∨ q = 1 ∨ q = 11 ∨ q = 12 ∨ q = 13 ∨ q = 14 ∨ q = 18 ∨ q = 19 ∨ q = 24 ∨ q = 25)) → N2 b q = N1 b q) (h86 : N2 86 11 = 0) (h18 : N2 86 18 = N 86 18) (h93 : ∀ k, k < N 86 18 → N2 93 k = N 93 k) (hI : ∀ b q, b ≠ 95 → b ≠ 96 → I2 b q = I1 b q) (hJ : ∀ b q, b ≠ 87 → J2 b q = J1 b q) : invB D N2 I2 J2 (t + 300) := by
  obtain ⟨k1, k2, k3, k4, k5, k6⟩ := hK
  refine invB_p (fun g => g == 1 || g == 3) rfl h (by omega) ?_ ?_ ?_ (fun _ => ?_) (fun z => by cases z) (fun _ => ?_) (fun z => by cases z) (fun z => by cases z) (fun z => by cases z) (fun z => by cases z) (fun z => by cases z)
  · intro b q z y
    rw [h2 b q (by rintro rfl; cases z) (by rintro rfl; cases z) (by rintro rfl; cases y) (by rintro rfl; cases z) (by rintro rfl; cases z) ?_]
    · exact k1 b q z (by rintro ⟨rfl, rfl⟩; cases y)
    · rintro ⟨rfl, rfl | rfl | rfl | rfl | rfl | rfl | rfl | rfl | rfl | rfl⟩
      · cases z
      · cases z
      · cases y
      · cases z
      · cases z
      · cases z
      · cases y
      · cases z
      · cases z
      · cases z
  · intro b q z _
    rw [hI b q (by rintro rfl; cases z) (by rintro rfl; cases z)]
    exact k2 b q z
  · intro b q z _
    rw [hJ b q (by rintro rfl; cases z)]
    exact k3 b q z
  · unfold iTx
    rw [h86, h2 1 1 (by decide) (by decide) (by decide) (by decide) (by decide) (by omega), k4]
    exact ⟨rfl, by decide, fun i hi => absurd hi (Nat.not_lt_zero i)⟩
  · obtain ⟨r1, r2, r3⟩ := h.2.2.2.1
    unfold iRl
    rw [h18]
    refine ⟨okc_c (fun k hk => (h93 k hk).symm) r1, ?_, fun k hk => ?_⟩
    · rw [h2 11 2 (by decide) (by decide) (by decide) (by decide) (by decide) (by omega), k1 11 2 rfl (by omega)]
      exact r2
    · rw [hI (11 + 1) k (by decide) (by decide), k2 (11 + 1) k rfl, r3 k hk]
      unfold cN
      by_cases z : N 86 18 = 0
      · rw [if_pos z, if_pos z]
      · rw [if_neg z, if_neg z, h93 k (by
          unfold nN at hk
          rw [if_neg z] at hk
          exact hk)]
theorem o_law (hk : koT ko) (hF : koF ko) (h : inv D N I J t) : opO ko (d + 61) 214 98 [] D N I J x (t + 300) := by
  obtain ⟨t1, t2, t3⟩ := id h.1.2.1
  refine k_214 hk hF h.1 ?_ ?_ (fun s z hs y1 y2 y3 _ => rd_hgt (ko := ko) hk h.1 z hs y1 y2 y3)
  · intro z p s N1 I1 hp40 hs f1 f2 hb
    have e11 : u2 (u2 N1 1 1 0) 86 0 0 86 11 = N 86 11 := by
      rw [u2_aq (by decide), u2_ab (by decide), f1 86 11 (by decide)]
    have e91 : u2 (u2 N1 1 1 0) 86 0 0 91 = N 91 := by
      funext q
      rw [u2_ab (by decide), u2_ab (by decide), f1 91 q (by decide)]
    rw [me_98]
    simp (disch := (first | omega | exact aCat_8 (by with_unfolding_all rfl) | exact rk_lt (by with_unfolding_all rfl) | exact aCat_16 (by with_unfolding_all rfl) | exact rk_eq (by with_unfolding_all rfl) | assumption | exact b2n_lt _ | exact id_b (by with_unfolding_all rfl) | (simp (disch := omega) only [u2_same, u2_ab, u2_aq]; done) | (simp (disch := omega) only [u2_same, u2_ab, u2_aq]; omega) | fail)) only [al_6272, wp_aloadr_0, wp_aloadk_0, wk_0, hp_86_0, wc_13, wp_istore_1, wp_iload_1, wz_ge_t, wz_ge_f, wm_ge_1, wm_ge_2, wk_1, wp_iadd, wk_10000, wp_isub, wp_ireturn, hg_86_8, ha_89l, ha_89s, wc_25, hg_86_24, wp_istore_2, hg_86_18, wp_istore_3, wp_istore_4, wp_jsr, wp_iload_4, wn_ge_t, wn_ge_f, hg_86_55, ha_121l, ha_121s, hg_86_16, ha_93l, ha_93s, wp_iinc_4_1, wp_goto, al_6275, hg_86_17, ha_94l, ha_94s, hg_86_19, wc_21, wp_iload_3, hp_86_1, wp_i2l, wc_43, t_43, wp_iload_2, wc_58, nl_i, nl_r, nl_k, nl_j, nl_l, nI_add, pk_mul, pk_sub, tl_s, tl_n, aL_inl, u2_same, u2_ab, u2_aq, nI_l, lN_i, Nat.add_zero, Nat.zero_add, Nat.zero_le, true_and, and_true, b2n_10, b2n_T, b2n_F, b2n_0, Decidable.not_not, not_true_eq_false, not_false_eq_true, Nat.reduceAdd, Nat.reduceMul, Nat.reduceSub]
    refine t_13 (n := N 86 11) hk e11 t2 (fun i hi => by rw [e91]; exact (t3 i hi).2) (fun y => absurd z (by omega)) ?_ ?_
    · intro _ p2 s2 N2 hs2 g1 g2 hb2
      rw [e91] at hs2
      obtain ⟨e1, e2⟩ := stO_u hs hs2
      subst e1
      have hN : ∀ b q, b ≠ 94 → b ≠ 93 → ¬ (b = 1 ∧ q = 1) → ¬ (b = 86 ∧ (q = 0 ∨ q = 11 ∨ q = 12 ∨ q = 13 ∨ q = 14 ∨ q = 18 ∨ q = 19)) → N2 b q = N1 b q := fun b q z1 z2 z3 z4 => by
        rw [g1 b q z1 (by omega), u2_rd, if_neg (by omega), u2_rd, if_neg (by omega)]
      have n11 : N2 1 1 = 0 := by rw [g1 1 1 (by decide) (by omega), u2_ab (by decide), u2_same]
      have n93 : N2 93 = N 93 := by
        funext q
        rw [g1 93 q (by decide) (by omega), u2_ab (by decide), u2_ab (by decide), f1 93 q (by decide)]
      have n18 : N2 86 18 = N 86 18 := by rw [g1 86 18 (by decide) (by omega), u2_aq (by decide), u2_ab (by decide), f1 86 18 (by decide)]
      have hx : inv D N2 I1 J (t + 300) := ⟨rd_B h.1 (fun b q y _ => f1 b q y) (fun b q y y2 _ => f2 b q y y2) hN n11 g2 (by
        obtain ⟨r1, r2, r3⟩ := h.1.2.2.2.1
        unfold iRl
        rw [n93, n18]
        refine ⟨r1, ?_, fun k hk => ?_⟩
        · rw [hN 11 2 (by decide) (by decide) (by omega) (by omega), f1 11 2 (by decide)]
          exact r2
        · rw [f2 (11 + 1) k (by decide) (by decide)]
          exact r3 k hk), td_same h.2 (by rw [hN 3 1 (by decide) (by decide) (by omega) (by omega)]; exact f1 3 1 (by decide)) (by rw [hN 86 1 (by decide) (by decide) (by omega) (by omega)]; exact f1 86 1 (by decide)) (fun _ => rfl) (fun _ => rfl)⟩
      have hneg := m1_n0 (show p ≤ 80 by omega)
      simp (disch := (first | omega | exact aCat_8 (by with_unfolding_all rfl) | exact rk_lt (by with_unfolding_all rfl) | exact aCat_16 (by with_unfolding_all rfl) | exact rk_eq (by with_unfolding_all rfl) | assumption | exact b2n_lt _ | exact id_b (by with_unfolding_all rfl) | (simp (disch := omega) only [u2_same, u2_ab, u2_aq]; done) | (simp (disch := omega) only [u2_same, u2_ab, u2_aq]; omega) | fail)) only [al_6272, wp_aloadr_0, wp_aloadk_0, wk_0, hp_86_0, wc_13, wp_istore_1, wp_iload_1, wz_ge_t, wz_ge_f, wm_ge_1, wm_ge_2, wk_1, wp_iadd, wk_10000, wp_isub, wp_ireturn, hg_86_8, ha_89l, ha_89s, wc_25, hg_86_24, wp_istore_2, hg_86_18, wp_istore_3, wp_istore_4, wp_jsr, wp_iload_4, wn_ge_t, wn_ge_f, hg_86_55, ha_121l, ha_121s, hg_86_16, ha_93l, ha_93s, wp_iinc_4_1, wp_goto, al_6275, hg_86_17, ha_94l, ha_94s, hg_86_19, wc_21, wp_iload_3, hp_86_1, wp_i2l, wc_43, t_43, wp_iload_2, wc_58, nl_i, nl_r, nl_k, nl_j, nl_l, nI_add, pk_mul, pk_sub, tl_s, tl_n, aL_inl, u2_same, u2_ab, u2_aq, nI_l, lN_i, Nat.add_zero, Nat.zero_add, Nat.zero_le, true_and, and_true, b2n_10, b2n_T, b2n_F, b2n_0, Decidable.not_not, not_true_eq_false, not_false_eq_true, Nat.reduceAdd, Nat.reduceMul, Nat.reduceSub, wy_ge_f (Int32.not_le.mpr hneg), lw_ans]
      exact ⟨rfl, D, N2, I1, J, rfl, hx⟩
    · intro _ s2 N2 hs2 y1 y2 y3 g1 g2 g3 g4 g5
      rw [e91] at hs2
      obtain ⟨e1, e2⟩ := stO_u hs hs2
      subst e2
      exfalso
      rcases hb with hb | hb | hb | hb
      · omega
      · omega
      · rw [y2] at hb; cases hb
      · omega
  · intro L hL hcase okL N1 I1 J1 hK htd
    obtain ⟨k1, k2, k3, k4, k5, k6⟩ := id hK
    have e11 : u2 N1 86 0 0 86 11 = N 86 11 := by
      rw [u2_aq (by decide), k5 86 11 (by decide)]
    have e91 : u2 N1 86 0 0 91 = N 91 := by
      funext q
      rw [u2_ab (by decide), k5 91 q (by decide)]
    have hgo : ∀ (N2 : Nat → Nat → Nat) (v2 v3 v4 : Value), fr94 N2 (u2 N1 86 0 0) → N2 86 11 = 0 → N2 86 19 = L.length → stk (N2 94) (fun c => c) L → aWp ko (d + 61) 98 (aP.1 (Int.toNat 6273)) [.ref 86, .int (nI 0), v2, v3, v4] [] (hp D N2 I1 J1 x) (aL (fun w σ2 => some (Value.int (mth (D 1) (crsS D (otM N (lkL L) L.length) (N 89)))) = w ∧ (some (Value.int (mth (D 1) (crsS D (otM N (lkL L) L.length) (N 89))))).isSome = true ∧ ∃ D' N' I' J', σ2 = hp D' N' I' J' x ∧ inv D' N' I' J' (t + 300))) := by
      intro N2 v2 v3 v4 g1 g2 g3 g4
      refine r_98g (N0 := N) (I0 := I) (J0 := J) (c := lkL L) (n := L.length) h.1 okL (fun b q z1 z2 z3 => by rw [g1 b q z2 (by omega), u2_rd, if_neg (by omega)]; exact k5 b q z1) (fun k hk => (stk_b (e := fun c => c) stk_lk g4 k hk).symm) g3 ?_
      intro N3 I3 J3 a1 a2 a3 a4 a5 a6
      refine ⟨rfl, rfl, D, N3, I3, J3, rfl, lw_B h.1 hK (fun b q z1 z2 z3 z4 z5 z6 => by
        rw [a1 b q z1 z3 z4 z5 (by omega), g1 b q z2 (by omega), u2_rd, if_neg (by omega)]) (by rw [a1 86 11 (by decide) (by decide) (by decide) (by decide) (by omega)]; exact g2) a2 a3 a4 a5, td_O (t := 2) ⟨?_, fun i hi => ?_⟩ a6 (by decide)⟩
      · rw [a1 3 1 (by decide) (by decide) (by decide) (by decide) (by omega), g1 3 1 (by decide) (by omega), u2_ab (by decide)]
        exact htd.1
      · rw [a5 4 i (by decide)]
        exact htd.2 i hi
    rw [me_98]
    simp (disch := (first | omega | exact aCat_8 (by with_unfolding_all rfl) | exact rk_lt (by with_unfolding_all rfl) | exact aCat_16 (by with_unfolding_all rfl) | exact rk_eq (by with_unfolding_all rfl) | assumption | exact b2n_lt _ | exact id_b (by with_unfolding_all rfl) | (simp (disch := omega) only [u2_same, u2_ab, u2_aq]; done) | (simp (disch := omega) only [u2_same, u2_ab, u2_aq]; omega) | fail)) only [al_6272, wp_aloadr_0, wp_aloadk_0, wk_0, hp_86_0, wc_13, wp_istore_1, wp_iload_1, wz_ge_t, wz_ge_f, wm_ge_1, wm_ge_2, wk_1, wp_iadd, wk_10000, wp_isub, wp_ireturn, hg_86_8, ha_89l, ha_89s, wc_25, hg_86_24, wp_istore_2, hg_86_18, wp_istore_3, wp_istore_4, wp_jsr, wp_iload_4, wn_ge_t, wn_ge_f, hg_86_55, ha_121l, ha_121s, hg_86_16, ha_93l, ha_93s, wp_iinc_4_1, wp_goto, al_6275, hg_86_17, ha_94l, ha_94s, hg_86_19, wc_21, wp_iload_3, hp_86_1, wp_i2l, wc_43, t_43, wp_iload_2, wc_58, nl_i, nl_r, nl_k, nl_j, nl_l, nI_add, pk_mul, pk_sub, tl_s, tl_n, aL_inl, u2_same, u2_ab, u2_aq, nI_l, lN_i, Nat.add_zero, Nat.zero_add, Nat.zero_le, true_and, and_true, b2n_10, b2n_T, b2n_F, b2n_0, Decidable.not_not, not_true_eq_false, not_false_eq_true, Nat.reduceAdd, Nat.reduceMul, Nat.reduceSub]
    refine t_13 (n := N 86 11) hk e11 t2 (fun i hi => by rw [e91]; exact (t3 i hi).2) ?_ ?_ ?_
    · intro z N2 g1 g2 g3
      rcases hcase with ⟨rfl, _⟩ | ⟨s, z1, _⟩
      · simp (disch := (first | omega | exact aCat_8 (by with_unfolding_all rfl) | exact rk_lt (by with_unfolding_all rfl) | exact aCat_16 (by with_unfolding_all rfl) | exact rk_eq (by with_unfolding_all rfl) | assumption | exact b2n_lt _ | exact id_b (by with_unfolding_all rfl) | (simp (disch := omega) only [u2_same, u2_ab, u2_aq]; done) | (simp (disch := omega) only [u2_same, u2_ab, u2_aq]; omega) | fail)) only [al_6272, wp_aloadr_0, wp_aloadk_0, wk_0, hp_86_0, wc_13, wp_istore_1, wp_iload_1, wz_ge_t, wz_ge_f, wm_ge_1, wm_ge_2, wk_1, wp_iadd, wk_10000, wp_isub, wp_ireturn, hg_86_8, ha_89l, ha_89s, wc_25, hg_86_24, wp_istore_2, hg_86_18, wp_istore_3, wp_istore_4, wp_jsr, wp_iload_4, wn_ge_t, wn_ge_f, hg_86_55, ha_121l, ha_121s, hg_86_16, ha_93l, ha_93s, wp_iinc_4_1, wp_goto, al_6275, hg_86_17, ha_94l, ha_94s, hg_86_19, wc_21, wp_iload_3, hp_86_1, wp_i2l, wc_43, t_43, wp_iload_2, wc_58, nl_i, nl_r, nl_k, nl_j, nl_l, nI_add, pk_mul, pk_sub, tl_s, tl_n, aL_inl, u2_same, u2_ab, u2_aq, nI_l, lN_i, Nat.add_zero, Nat.zero_add, Nat.zero_le, true_and, and_true, b2n_10, b2n_T, b2n_F, b2n_0, Decidable.not_not, not_true_eq_false, not_false_eq_true, Nat.reduceAdd, Nat.reduceMul, Nat.reduceSub]
        exact hgo N2 _ _ _ g1 g2 g3 trivial
      · exact absurd z1 (by omega)
    · intro z p2 s2 N2 hs2 g1 g2 hb2
      rw [e91] at hs2
      exfalso
      rcases hcase with ⟨_, z1⟩ | ⟨s, z1, hs, y1, y2, y3, _, _⟩
      · omega
      · obtain ⟨e1, e2⟩ := stO_u hs hs2
        subst e2
        rcases hb2 with hb | hb | hb | hb
        · omega
        · omega
        · rw [y2] at hb; cases hb
        · omega
    · intro z s2 N2 hs2 y1 y2 y3 g1 g2 g3 g4 g5
      rw [e91] at hs2
      rcases hcase with ⟨_, z1⟩ | ⟨s, z1, hs, _, _, _, eL, _⟩
      · omega
      · obtain ⟨e1, e2⟩ := stO_u hs hs2
        subst e2
        subst eL
        simp (disch := (first | omega | exact aCat_8 (by with_unfolding_all rfl) | exact rk_lt (by with_unfolding_all rfl) | exact aCat_16 (by with_unfolding_all rfl) | exact rk_eq (by with_unfolding_all rfl) | assumption | exact b2n_lt _ | exact id_b (by with_unfolding_all rfl) | (simp (disch := omega) only [u2_same, u2_ab, u2_aq]; done) | (simp (disch := omega) only [u2_same, u2_ab, u2_aq]; omega) | fail)) only [al_6272, wp_aloadr_0, wp_aloadk_0, wk_0, hp_86_0, wc_13, wp_istore_1, wp_iload_1, wz_ge_t, wz_ge_f, wm_ge_1, wm_ge_2, wk_1, wp_iadd, wk_10000, wp_isub, wp_ireturn, hg_86_8, ha_89l, ha_89s, wc_25, hg_86_24, wp_istore_2, hg_86_18, wp_istore_3, wp_istore_4, wp_jsr, wp_iload_4, wn_ge_t, wn_ge_f, hg_86_55, ha_121l, ha_121s, hg_86_16, ha_93l, ha_93s, wp_iinc_4_1, wp_goto, al_6275, hg_86_17, ha_94l, ha_94s, hg_86_19, wc_21, wp_iload_3, hp_86_1, wp_i2l, wc_43, t_43, wp_iload_2, wc_58, nl_i, nl_r, nl_k, nl_j, nl_l, nI_add, pk_mul, pk_sub, tl_s, tl_n, aL_inl, u2_same, u2_ab, u2_aq, nI_l, lN_i, Nat.add_zero, Nat.zero_add, Nat.zero_le, true_and, and_true, b2n_10, b2n_T, b2n_F, b2n_0, Decidable.not_not, not_true_eq_false, not_false_eq_true, Nat.reduceAdd, Nat.reduceMul, Nat.reduceSub]
        exact hgo N2 _ _ _ g1 g2 g3 g4
end LY
