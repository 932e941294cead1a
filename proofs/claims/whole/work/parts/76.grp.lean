/-! What holds between calls, group by group. From wip/whole/src. -/
def gpN (b q : Nat) : Nat := if (b == 1 || (b == 2 || (b == 91 || (b == 86 && q == 11)))) = true then 1 else if (b == 9 || (b == 10 || (b == 88 || (b == 86 && q == 6)))) = true then 2 else if (b == 11 || (b == 93 || (b == 86 && q == 18))) = true then 3 else if (b == 20 || (b == 21 || b == 89)) = true then 4 else if ((Nat.ble 32 b && Nat.ble b 63) || (b == 99 || (b == 86 && q == 26))) = true then 5 else if ((Nat.ble 80 b && Nat.ble b 85) || ((Nat.ble 122 b && Nat.ble b 124) || (b == 86 && q == 5))) = true then 6 else if ((Nat.ble 65 b && Nat.ble b 68) || ((Nat.ble 114 b && Nat.ble b 116) || (b == 86 && q == 46))) = true then 7 else if ((Nat.ble 69 b && Nat.ble b 72) || (b == 118 || (b == 119 || (b == 86 && q == 51)))) = true then 8 else 0
def gpI (b : Nat) : Nat := if b = 12 then 3 else if b = 0 then 6 else 0
def gpJ (b : Nat) : Nat := if b = 20 then 4 else if (Nat.ble 34 b && Nat.ble b 63) = true then 5 else if (Nat.ble 80 b && Nat.ble b 85) = true then 6 else 0
theorem gp_5 {s q : Nat} (h : 34 ≤ s ∧ s ≤ 63) : gpN s q = 5 := by
  have h1 : Nat.ble 32 s = true := Nat.ble_eq.mpr (by omega)
  have h2 : Nat.ble s 63 = true := Nat.ble_eq.mpr (by omega)
  have a1 : s ≠ 1 := by omega
  have a2 : s ≠ 2 := by omega
  have a3 : s ≠ 91 := by omega
  have a4 : s ≠ 86 := by omega
  have a5 : s ≠ 9 := by omega
  have a6 : s ≠ 10 := by omega
  have a7 : s ≠ 88 := by omega
  have a8 : s ≠ 11 := by omega
  have a9 : s ≠ 93 := by omega
  have b1 : s ≠ 20 := by omega
  have b2 : s ≠ 21 := by omega
  have b3 : s ≠ 89 := by omega
  simp [gpN, h1, h2, a1, a2, a3, a4, a5, a6, a7, a8, a9, b1, b2, b3]
theorem gj_5 {s : Nat} (h : 34 ≤ s ∧ s ≤ 63) : gpJ s = 5 := by
  have h1 : Nat.ble 34 s = true := Nat.ble_eq.mpr (by omega)
  have h2 : Nat.ble s 63 = true := Nat.ble_eq.mpr (by omega)
  have b1 : s ≠ 20 := by omega
  simp [gpJ, h1, h2, b1]
/-- the groups that changed hold anew; the others are as they were -/
theorem invB_p {D : Nat → Nat} {N N' : Nat → Nat → Nat} {I I' : Nat → Nat → Int32} {J J' : Nat → Nat → Int64} {t t' : Nat} (ch : Nat → Bool) (h0 : ch 0 = false) (h : invB D N I J t) (ht : t ≤ t') (hN : ∀ b q, kpN b q = true → ch (gpN b q) = false → N' b q = N b q) (hI : ∀ b q, kpI b q = true → ch (gpI b) = false → I' b q = I b q) (hJ : ∀ b q, kpJ b = true → ch (gpJ b) = false → J' b q = J b q)
    (c1 : ch 1 = true → iTx N') (c2 : ch 2 = true → iSk N') (c3 : ch 3 = true → iRl N' I') (c4 : ch 4 = true → iSt D N' J' t' 20 (N' 89)) (c5 : ch 5 = true → iUn D N' J' t') (c6 : ch 6 = true → iKp D N' I' J' t') (c7 : ch 7 = true → iSn D N') (c8 : ch 8 = true → iMk D N') : invB D N' I' J' t' := by
  obtain ⟨a1, a2, a3, a4, a5, a6, a7, a8, a9, a10⟩ := h
  refine ⟨⟨a1.1, a1.2.1, a1.2.2.1, ?_⟩, ?_, ?_, ?_, ?_, ?_, ?_, ?_, ?_, fun q hq => (hN 90 q (kp_90 hq) h0).trans (a10 q hq)⟩
  · exact ldO_f a1.2.2.2 (fun q => ⟨hN 6 q rfl h0, hN 7 q rfl h0⟩) (fun q => hI 8 q rfl h0) (fun q => hJ 5 q rfl h0)
  · cases hb : ch 1 with
    | true => exact c1 hb
    | false =>
      unfold iTx
      rw [hN 86 11 rfl hb, hN 1 1 rfl hb]
      refine ⟨a2.1, a2.2.1, fun i hi => ?_⟩
      rw [hN 2 i rfl hb, hN 91 i rfl hb]
      exact a2.2.2 i hi
  · cases hb : ch 2 with
    | true => exact c2 hb
    | false =>
      unfold iSk
      rw [hN 86 6 rfl hb, hN 9 1 rfl hb]
      refine ⟨a3.1, a3.2.1, a3.2.2.1, fun i hi => ?_⟩
      rw [hN 10 i rfl hb, hN 88 i rfl hb]
      exact a3.2.2.2 i hi
  · cases hb : ch 3 with
    | true => exact c3 hb
    | false =>
      have e93 : N' 93 = N 93 := by funext q; exact hN 93 q rfl hb
      unfold iRl
      rw [e93, hN 86 18 rfl hb]
      refine ⟨a4.1, (hN 11 2 rfl hb).trans a4.2.1, fun k hk => ?_⟩
      rw [hI (11 + 1) k rfl hb]
      exact a4.2.2 k hk
  · cases hb : ch 4 with
    | true => exact c4 hb
    | false =>
      have e89 : N' 89 = N 89 := by funext q; exact hN 89 q rfl hb
      rw [e89]
      exact iSt_c a5 ht (fun q => hN 20 q rfl hb) (fun q => hN 21 q rfl hb) (fun q => hJ 20 q rfl hb)
  · cases hb : ch 5 with
    | true => exact c5 hb
    | false =>
      unfold iUn
      rw [hN 86 26 rfl hb, hN 32 1 rfl hb, hN 32 2 rfl hb]
      refine ⟨a6.1, a6.2.1, a6.2.2.1, fun j hj => ?_⟩
      have er : rwAt N' 99 j = rwAt N 99 j := by
        funext q
        unfold rwAt
        rw [hN 99 _ rfl hb]
      rw [er]
      have hm := Nat.mod_lt (N 32 1 + 15 - N 86 26 + j) (show 15 > 0 by decide)
      exact iSt_c (a6.2.2.2 j hj) ht (fun q => hN _ q (kp_st (by omega)) (by rw [gp_5 (by omega)]; exact hb)) (fun q => hN _ q (kp_st (by omega)) (by rw [gp_5 (by omega)]; exact hb)) (fun q => hJ _ q (kp_sj (by omega)) (by rw [gj_5 (by omega)]; exact hb))
  · cases hb : ch 6 with
    | true => exact c6 hb
    | false =>
      unfold iKp
      rw [hN 86 5 rfl hb]
      obtain ⟨b1, m, b2, b3, b4⟩ := a7
      refine ⟨Nat.le_trans b1 ht, m, b2, (hI 0 13 rfl hb).trans b3, fun i hi => ?_⟩
      have er : rwAt N' 124 i = rwAt N 124 i := by
        funext q
        unfold rwAt
        rw [hN 124 _ rfl hb]
      rw [er, hN 122 i rfl hb, hN 123 i rfl hb]
      obtain ⟨d1, d2, d3, d4⟩ := b4 i hi
      have hi3 : i = 0 ∨ i = 1 ∨ i = 2 := by omega
      refine ⟨d1, d2, d3, fun z => ?_⟩
      rcases hi3 with rfl | rfl | rfl
      · exact iSt_c (d4 z) ht (fun q => hN 80 q rfl hb) (fun q => hN 81 q rfl hb) (fun q => hJ 80 q rfl hb)
      · exact iSt_c (d4 z) ht (fun q => hN 82 q rfl hb) (fun q => hN 83 q rfl hb) (fun q => hJ 82 q rfl hb)
      · exact iSt_c (d4 z) ht (fun q => hN 84 q rfl hb) (fun q => hN 85 q rfl hb) (fun q => hJ 84 q rfl hb)
  · cases hb : ch 7 with
    | true => exact c7 hb
    | false =>
      unfold iSn
      rw [hN 86 46 rfl hb, hN 65 3 rfl hb]
      refine ⟨a8.1, a8.2.1, fun k hk => ?_⟩
      rw [hN 66 k rfl hb, hN 67 k rfl hb, hN 68 k rfl hb, hN 114 k rfl hb, hN 115 k rfl hb, hN 116 k rfl hb]
      exact a8.2.2 k hk
  · cases hb : ch 8 with
    | true => exact c8 hb
    | false =>
      unfold iMk
      rw [hN 86 51 rfl hb, hN 69 3 rfl hb]
      refine ⟨a9.1, a9.2.1, fun k hk => ?_⟩
      rw [hN 71 k rfl hb, hN 72 k rfl hb, hN 118 k rfl hb, hN 119 k rfl hb]
      exact a9.2.2 k hk
section G1
variable {ko : aKo} {d k : Nat} {is : List Instr} {ls st : List Value} {σ : aH} {D : Nat → Nat} {N : Nat → Nat → Nat} {I : Nat → Nat → Int32} {J : Nat → Nat → Int64} {x t : Nat} {Q : Option Value → aH → Prop} {P : (Option Value ⊕ Unit) → aH → Prop}
theorem td_same {N' : Nat → Nat → Nat} {J' : Nat → Nat → Int64} (h : iTd N J) (h1 : N' 3 1 = N 3 1) (h2 : N' 86 1 = N 86 1) (h3 : ∀ q, J' 4 q = J 4 q) (h4 : ∀ q, J' 87 q = J 87 q) : iTd N' J' := by
  refine ⟨by rw [h1, h2]; exact h.1, by rw [h2]; exact h.2.1, fun i hi => ?_⟩
  rw [h2] at hi
  rw [h3, h4]
  exact h.2.2 i hi
/-! forget, wiped, seen, marked -/
theorem o_forget (h : inv D N I J t) : opO ko d 198 86 [] D N I J x (t + 300) := by
  have hs := h.1.2.2.2.2.2.2.2.1
  have t247 : ∀ Q : Option Value → aH → Prop, aMm ko d 247 [.ref 65] (hp D N I J x) Q = Q (some (.int (nI (N 65 3)))) (hp D (u2 N 65 3 0) I J x) := by
    intro Q
    rw [me_247]
    simp (disch := (first | omega | exact aCat_8 (by with_unfolding_all rfl) | exact rk_lt (by with_unfolding_all rfl) | exact aCat_16 (by with_unfolding_all rfl) | exact rk_eq (by with_unfolding_all rfl) | assumption | exact b2n_lt _ | exact id_b (by with_unfolding_all rfl) | (simp (disch := omega) only [u2_same, u2_ab, u2_aq]; done) | (simp (disch := omega) only [u2_same, u2_ab, u2_aq]; omega) | fail)) only [al_15808, wp_aloadr_0, wp_aloadk_0, hg_65_3, hg_69_3, wp_istore_1, wk_0, hp_65_3, hp_69_3, wp_iload_1, wp_ireturn, nl_i, nl_r, nl_k, nl_j, nl_l, nI_add, pk_mul, pk_sub, tl_s, tl_n, aL_inl, u2_same, u2_ab, u2_aq, nI_l, lN_i, Nat.add_zero, Nat.zero_add, Nat.zero_le, true_and, and_true, b2n_10, b2n_T, b2n_F, b2n_0, Decidable.not_not, not_true_eq_false, not_false_eq_true, Nat.reduceAdd, Nat.reduceMul]
  show aMm ko d 198 [.ref 0] (hp D N I J x) _
  rw [me_198]
  simp (disch := (first | omega | exact aCat_8 (by with_unfolding_all rfl) | exact rk_lt (by with_unfolding_all rfl) | exact aCat_16 (by with_unfolding_all rfl) | exact rk_eq (by with_unfolding_all rfl) | assumption | exact b2n_lt _ | exact id_b (by with_unfolding_all rfl) | (simp (disch := omega) only [u2_same, u2_ab, u2_aq]; done) | (simp (disch := omega) only [u2_same, u2_ab, u2_aq]; omega) | fail)) only [al_12672, wp_aloadr_0, wp_aloadk_0, hg_0_14, wp_ireturn, nl_i, nl_r, nl_k, nl_j, nl_l, nI_add, pk_mul, pk_sub, tl_s, tl_n, aL_inl, u2_same, u2_ab, u2_aq, nI_l, lN_i, Nat.add_zero, Nat.zero_add, Nat.zero_le, true_and, and_true, b2n_10, b2n_T, b2n_F, b2n_0, Decidable.not_not, not_true_eq_false, not_false_eq_true, Nat.reduceAdd, Nat.reduceMul, wc_247 (m := 65) rfl, t247]
  rw [me_86]
  simp (disch := (first | omega | exact aCat_8 (by with_unfolding_all rfl) | exact rk_lt (by with_unfolding_all rfl) | exact aCat_16 (by with_unfolding_all rfl) | exact rk_eq (by with_unfolding_all rfl) | assumption | exact b2n_lt _ | exact id_b (by with_unfolding_all rfl) | (simp (disch := omega) only [u2_same, u2_ab, u2_aq]; done) | (simp (disch := omega) only [u2_same, u2_ab, u2_aq]; omega) | fail)) only [al_5504, wp_aloadr_0, wp_aloadk_0, wk_0, hp_86_0, hg_86_46, wp_istore_1, hp_86_46, wp_iload_1, wp_ireturn, nl_i, nl_r, nl_k, nl_j, nl_l, nI_add, pk_mul, pk_sub, tl_s, tl_n, aL_inl, u2_same, u2_ab, u2_aq, nI_l, lN_i, Nat.add_zero, Nat.zero_add, Nat.zero_le, true_and, and_true, b2n_10, b2n_T, b2n_F, b2n_0, Decidable.not_not, not_true_eq_false, not_false_eq_true, Nat.reduceAdd, Nat.reduceMul]
  refine ⟨by rw [hs.1], rfl, D, _, I, J, rfl, ?_, td_same h.2 (by simp only [u2_ab (show (3 : Nat) ≠ 86 by decide), u2_ab (show (3 : Nat) ≠ 65 by decide)]) (by simp [u2]) (fun _ => rfl) (fun _ => rfl)⟩
  refine invB_p (fun g => g == 7) rfl h.1 (by omega) ?_ (fun _ _ _ _ => rfl) (fun _ _ _ _ => rfl) (fun z => by cases z) (fun z => by cases z) (fun z => by cases z) (fun z => by cases z) (fun z => by cases z) (fun z => by cases z) (fun _ => ?_) (fun z => by cases z)
  · intro b q z y
    have z1 : ¬ (b = 86 ∧ q = 46) := by rintro ⟨rfl, rfl⟩; cases y
    have z2 : ¬ (b = 86 ∧ q = 0) := by rintro ⟨rfl, rfl⟩; cases z
    have z3 : ¬ (b = 65 ∧ q = 3) := by rintro ⟨rfl, rfl⟩; cases y
    rw [u2_rd, if_neg z1, u2_rd, if_neg z2, u2_rd, if_neg z3]
  · refine ⟨by simp [u2], by simp [u2], fun k hk => ?_⟩
    simp [u2] at hk
theorem o_wiped (h : inv D N I J t) : opO ko d 206 92 [] D N I J x (t + 300) := by
  have hs := h.1.2.2.2.2.2.2.2.2.1
  have t247 : ∀ Q : Option Value → aH → Prop, aMm ko d 247 [.ref 69] (hp D N I J x) Q = Q (some (.int (nI (N 69 3)))) (hp D (u2 N 69 3 0) I J x) := by
    intro Q
    rw [me_247]
    simp (disch := (first | omega | exact aCat_8 (by with_unfolding_all rfl) | exact rk_lt (by with_unfolding_all rfl) | exact aCat_16 (by with_unfolding_all rfl) | exact rk_eq (by with_unfolding_all rfl) | assumption | exact b2n_lt _ | exact id_b (by with_unfolding_all rfl) | (simp (disch := omega) only [u2_same, u2_ab, u2_aq]; done) | (simp (disch := omega) only [u2_same, u2_ab, u2_aq]; omega) | fail)) only [al_15808, wp_aloadr_0, wp_aloadk_0, hg_65_3, hg_69_3, wp_istore_1, wk_0, hp_65_3, hp_69_3, wp_iload_1, wp_ireturn, nl_i, nl_r, nl_k, nl_j, nl_l, nI_add, pk_mul, pk_sub, tl_s, tl_n, aL_inl, u2_same, u2_ab, u2_aq, nI_l, lN_i, Nat.add_zero, Nat.zero_add, Nat.zero_le, true_and, and_true, b2n_10, b2n_T, b2n_F, b2n_0, Decidable.not_not, not_true_eq_false, not_false_eq_true, Nat.reduceAdd, Nat.reduceMul]
  show aMm ko d 206 [.ref 0] (hp D N I J x) _
  rw [me_206]
  simp (disch := (first | omega | exact aCat_8 (by with_unfolding_all rfl) | exact rk_lt (by with_unfolding_all rfl) | exact aCat_16 (by with_unfolding_all rfl) | exact rk_eq (by with_unfolding_all rfl) | assumption | exact b2n_lt _ | exact id_b (by with_unfolding_all rfl) | (simp (disch := omega) only [u2_same, u2_ab, u2_aq]; done) | (simp (disch := omega) only [u2_same, u2_ab, u2_aq]; omega) | fail)) only [al_13184, wp_aloadr_0, wp_aloadk_0, hg_0_15, wp_ireturn, nl_i, nl_r, nl_k, nl_j, nl_l, nI_add, pk_mul, pk_sub, tl_s, tl_n, aL_inl, u2_same, u2_ab, u2_aq, nI_l, lN_i, Nat.add_zero, Nat.zero_add, Nat.zero_le, true_and, and_true, b2n_10, b2n_T, b2n_F, b2n_0, Decidable.not_not, not_true_eq_false, not_false_eq_true, Nat.reduceAdd, Nat.reduceMul, wc_247 (m := 69) rfl, t247]
  rw [me_92]
  simp (disch := (first | omega | exact aCat_8 (by with_unfolding_all rfl) | exact rk_lt (by with_unfolding_all rfl) | exact aCat_16 (by with_unfolding_all rfl) | exact rk_eq (by with_unfolding_all rfl) | assumption | exact b2n_lt _ | exact id_b (by with_unfolding_all rfl) | (simp (disch := omega) only [u2_same, u2_ab, u2_aq]; done) | (simp (disch := omega) only [u2_same, u2_ab, u2_aq]; omega) | fail)) only [al_5888, wp_aloadr_0, wp_aloadk_0, wk_0, hp_86_0, hg_86_51, wp_istore_1, hp_86_51, wp_iload_1, wp_ireturn, nl_i, nl_r, nl_k, nl_j, nl_l, nI_add, pk_mul, pk_sub, tl_s, tl_n, aL_inl, u2_same, u2_ab, u2_aq, nI_l, lN_i, Nat.add_zero, Nat.zero_add, Nat.zero_le, true_and, and_true, b2n_10, b2n_T, b2n_F, b2n_0, Decidable.not_not, not_true_eq_false, not_false_eq_true, Nat.reduceAdd, Nat.reduceMul]
  refine ⟨by rw [hs.1], rfl, D, _, I, J, rfl, ?_, td_same h.2 (by simp only [u2_ab (show (3 : Nat) ≠ 86 by decide), u2_ab (show (3 : Nat) ≠ 69 by decide)]) (by simp [u2]) (fun _ => rfl) (fun _ => rfl)⟩
  refine invB_p (fun g => g == 8) rfl h.1 (by omega) ?_ (fun _ _ _ _ => rfl) (fun _ _ _ _ => rfl) (fun z => by cases z) (fun z => by cases z) (fun z => by cases z) (fun z => by cases z) (fun z => by cases z) (fun z => by cases z) (fun z => by cases z) (fun _ => ?_)
  · intro b q z y
    have z1 : ¬ (b = 86 ∧ q = 51) := by rintro ⟨rfl, rfl⟩; cases y
    have z2 : ¬ (b = 86 ∧ q = 0) := by rintro ⟨rfl, rfl⟩; cases z
    have z3 : ¬ (b = 69 ∧ q = 3) := by rintro ⟨rfl, rfl⟩; cases y
    rw [u2_rd, if_neg z1, u2_rd, if_neg z2, u2_rd, if_neg z3]
  · refine ⟨by simp [u2], by simp [u2], fun k hk => ?_⟩
    simp [u2] at hk
end G1
