/-! cut, heap, source: the pairs. From wip/whole/src. -/
theorem act_rng {b q : Nat} (y : act b q = false) : b < 32 ∨ 63 < b := by
  rcases Nat.lt_or_ge b 32 with h | h
  · exact Or.inl h
  · rcases Nat.lt_or_ge 63 b with h2 | h2
    · exact Or.inr h2
    · have h3 : Nat.ble 32 b = true := Nat.ble_eq.mpr h
      have h4 : Nat.ble b 63 = true := Nat.ble_eq.mpr h2
      simp [act, h3, h4] at y
theorem actJ_rng {b : Nat} (y : actJ b = false) : b < 34 ∨ 63 < b := by
  rcases Nat.lt_or_ge b 34 with h | h
  · exact Or.inl h
  · rcases Nat.lt_or_ge 63 b with h2 | h2
    · exact Or.inr h2
    · have h3 : Nat.ble 34 b = true := Nat.ble_eq.mpr h
      have h4 : Nat.ble b 63 = true := Nat.ble_eq.mpr h2
      simp [actJ, h3, h4] at y
section A2
variable {ko : aKo} {d k : Nat} {is : List Instr} {ls st : List Value} {σ : aH} {D : Nat → Nat} {N : Nat → Nat → Nat} {I : Nat → Nat → Int32} {J : Nat → Nat → Int64} {x t : Nat} {Q : Option Value → aH → Prop} {P : (Option Value ⊕ Unit) → aH → Prop}
theorem ad_R {N1 M : Nat → Nat → Nat} {I1 I2 : Nat → Nat → Int32} {J1 J2 : Nat → Nat → Int64} {S' : Nat → Nat} (hu : N1 86 26 ≤ 15) (hz : ∀ q, 111 ≤ q → N1 89 q = 0) (h99 : M 99 = puT (N1 89) (N1 99) (N1 86 26) 111) (h26 : M 86 26 = N1 86 26) (hfr : aN M N1) (hlt : ∀ b q, b < 86 → M b q = N1 b q) (hI : sI I2 I1) (hJ : ∀ b q, b < 86 → J2 b q = J1 b q) (h89 : M 89 = S') : actR N1 I1 J1 S' (adN M) I2 J2 := by
  have hA : ∀ b q, b ≠ 99 → ¬ (b = 86 ∧ q = 26) → adN M b q = M b q := by
    intro b q z1 z2
    unfold adN
    split
    · rw [u2_rd, if_neg z2]
    · rw [u2_rd, if_neg z2, setRow_n z1]
  refine ⟨?_, hI, ?_, hJ, ?_, ?_⟩
  · intro b q z y
    rw [hA b q (by rintro rfl; cases y) (by rintro ⟨rfl, rfl⟩; cases y)]
    exact hfr b q z y
  · intro b q hb
    rw [hA b q (by omega) (by omega)]
    exact hlt b q hb
  · rw [← h89]
    funext q
    exact hA 89 q (by decide) (by omega)
  · constructor
    · intro hl
      have e : adN M = u2 M 86 26 (M 86 26 + 1) := by unfold adN; rw [if_pos (by omega)]
      rw [e]
      refine ⟨by rw [u2_same, h26], ?_, ?_⟩
      · intro j hj
        funext q
        unfold rwAt
        rw [u2_ab (by decide), h99]
        unfold puT
        split
        · rw [if_neg (by omega)]
        · rfl
      · funext q
        unfold rwAt
        rw [u2_ab (by decide), h99]
        unfold puT
        split
        · rw [if_pos (by omega)]
          congr 1
          omega
        · rw [hz q (by omega)]
    · intro hl
      have e : adN M = u2 (setRow M 99 (shT (M 99) 1665)) 86 26 15 := by unfold adN; rw [if_neg (by omega)]
      rw [e]
      refine ⟨by rw [u2_same], ?_, ?_⟩
      · intro j hj
        funext q
        unfold rwAt
        rw [u2_ab (by decide), setRow_s, h99]
        unfold shT puT
        split
        · rw [if_pos (by omega), if_neg (by omega)]
          congr 1
          omega
        · rfl
      · funext q
        unfold rwAt
        rw [u2_ab (by decide), setRow_s, h99]
        unfold shT puT
        split
        · rw [if_pos (by omega), if_pos (by omega)]
          congr 1
          omega
        · rw [hz q (by omega)]
theorem ac_C {M : Nat → Nat → Nat} {I1 : Nat → Nat → Int32} {Jm : Nat → Nat → Int64} {S' : Nat → Nat} (h : invB D N I J t) (hM : aN M N) (hI : sI I1 I) (hJ : aJ' Jm J) (h86 : ∀ b q, 86 ≤ b → M b q = N b q) (j86 : ∀ b q, 86 ≤ b → Jm b q = J b q) (hring : ∀ b q, 32 ≤ b → b ≤ 63 → M b q = N b q) (jring : ∀ b q, 32 ≤ b → b ≤ 63 → Jm b q = J b q) (hS : clS M Jm 20 S') (hB : clS M Jm 22 (N 89)) : actC D N I J S' (puN M) I1 (cpJ Jm (34 + 2 * M 32 1) 22) := by
  have h1 : M 32 1 = N 32 1 := hring 32 1 (by decide) (by decide)
  have hl : M 32 1 < 15 := by rw [h1]; exact h.2.2.2.2.2.1.2.2.1
  have hkp : ∀ b q, kpN b q = true → act b q = false → b < 32 ∨ 63 < b := fun b q _ y => act_rng y
  refine ⟨?_, hI, ?_, ?_, ?_, ?_, ?_⟩
  · intro b q z y
    rw [pu_N hl (hkp b q z y)]
    exact hM b q z y
  · intro b q z y
    rw [pu_J hl (actJ_rng y)]
    exact hJ b q z y
  · intro b q hb
    rw [pu_N hl (by omega)]
    exact h86 b q hb
  · intro b q hb
    rw [pu_J hl (by omega)]
    exact j86 b q hb
  · exact clS_c hS (fun q => pu_N hl (by omega)) (fun q => pu_N hl (by omega)) (fun q => pu_J hl (by omega))
  · obtain ⟨p1, p2, p3, p4⟩ := pu_C hl hB
    have h2 : M 32 2 = N 32 2 := hring 32 2 (by decide) (by decide)
    rw [h1] at p1 p3
    rw [h2] at p2
    rw [h1]
    refine ⟨p1, p2, p3, fun p hp hne q => ?_⟩
    have := p4 p hp (by rw [h1]; exact hne) q
    rw [h1] at this
    rw [hring _ q (by omega) (by omega), hring _ q (by omega) (by omega), jring _ q (by omega) (by omega)] at this
    exact this
/-- the state 'before' holds the row that is -/
theorem bf_S (h : invB D N I J t) : clS (cpS N 22 20) (cpJ J 22 20) 22 (N 89) := cp_S rfl rfl (by decide) h.2.2.2.2.1.2.2.2
theorem bf_s : sN (cpS N 22 20) N := fun b q z => cp_N (by rintro rfl; cases z) (by rintro rfl; cases z)
theorem bf_j : sJ (cpJ J 22 20) J := fun b q z => cp_J (by rintro rfl; cases z)
theorem inv_d4 (h : invB D N I J t) : D 4 = D 0 * D 1 := by
  have := h.1.2.2.2.2.1
  rw [h.1.2.1, h.1.2.2.1] at this
  exact this
/-- one number of a row otherwise: still as it may be -/
theorem rw_up {C F f v : Nat} {S : Nat → Nat} (h : rwO C S) (hz : rwZ F S) (hf : f < F) (hF : F ≤ 36) (hv : v ≤ 9) : rwO C (upn S f v) ∧ rwZ F (upn S f v) := by
  have e : ∀ q, q ≠ f → upn S f v q = S q := fun q hq => by rw [upn, if_neg hq]
  refine ⟨⟨?_, ?_, ?_, ?_, ?_⟩, ?_⟩
  · intro g hg
    rw [e (36 + g) (by omega), e (72 + g) (by omega)]
    refine ⟨?_, (h.1 g hg).2⟩
    unfold upn
    split
    · exact hv
    · exact (h.1 g hg).1
  · rw [e 108 (by omega)]; exact h.2.1
  · rw [e 110 (by omega)]; exact h.2.2.1
  · rw [e 109 (by omega)]; exact h.2.2.2.1
  · intro q hq
    rw [e q (by omega)]; exact h.2.2.2.2 q hq
  · intro g h1 h2
    rw [e g (by omega), e (36 + g) (by omega), e (72 + g) (by omega)]
    exact hz g h1 h2
theorem o_hgt {kc kr : Nat} {As : List Value} {v : Value} {f w : Nat} (h : inv D N I J t) (hf : f < D 0 * D 1) (hw : w ≤ 9)
    (hC : ∀ Q : Option Value → aH → Prop, Q (some v) (hp D (puN (u2 (cpS N 22 20) 21 f w)) I (cpJ (cpJ J 22 20) (34 + 2 * u2 (cpS N 22 20) 21 f w 32 1) 22) x) → aMm ko d kc (.ref 0 :: As) (hp D N I J x) Q)
    (hR : ∀ N1 I1 J1, (∀ b q, 86 ≤ b → N1 b q = N b q) → ∀ Q : Option Value → aH → Prop, Q (some v) (hp D (adN (u2 (setRow (u2 N1 86 0 0) 99 (puT (N1 89) (N1 99) (N1 86 26) 111)) 89 f w)) I1 J1 x) → aMm ko d kr (.ref 86 :: As) (hp D N1 I1 J1 x) Q) : opO ko d kc kr As D N I J x (t + 300) := by
  have hF := dm_F h.1.1.1
  have h89 := h.1.2.2.2.2.1
  have hS' := rw_up h89.1 h89.2.1 hf hF.1 hw
  refine op_act (v := v) (S' := upn (N 89) f w) h (by omega) ⟨hS'.1, hS'.2, by rw [upn, if_neg (by omega)]; have := h89.2.2.1; omega, w8_up (by omega) h89.2.2.1.2⟩ ?_ ?_
  · intro Q hQ
    refine hC Q ?_
    have hl : u2 (cpS N 22 20) 21 f w 32 1 < 15 := by
      rw [u2_ab (by decide), cp_N (by decide) (by decide)]
      exact h.1.2.2.2.2.2.1.2.2.1
    refine hQ _ _ _ (ac_C h.1 ?_ sI_r (sJ_a bf_j) ?_ (fun b q hb => cp_J (by omega)) ?_ (fun b q z1 z2 => cp_J (by omega)) ?_ ?_) ⟨?_, ?_⟩
    · intro b q z y
      rw [u2_ab (by rintro rfl; cases y)]
      exact bf_s b q z
    · intro b q hb
      rw [u2_ab (by omega), cp_N (by omega) (by omega)]
    · intro b q z1 z2
      rw [u2_ab (by omega), cp_N (by omega) (by omega)]
    · obtain ⟨s1, s2, s3, s4, s5⟩ := h89.2.2.2
      refine ⟨?_, ?_, ?_, ?_, ?_⟩
      · intro g hg
        show u2 (cpS N 22 20) 21 f w 21 g = upn (N 89) f w g
        rw [u2_rd, upn]
        by_cases e : g = f
        · rw [if_pos ⟨rfl, e⟩, if_pos e]
        · rw [if_neg (fun z => e z.2), if_neg e, cp_N (by decide) (by decide)]
          exact s1 g hg
      · intro g hg
        rw [cp_J (by decide), cp_J (by decide), (s2 g hg).1, (s2 g hg).2]
        by_cases e : g < 36
        · have e1 : upn (N 89) f w (36 + g) = N 89 (36 + g) := by rw [upn, if_neg (by omega)]
          have e2 : upn (N 89) f w (72 + g) = N 89 (72 + g) := by rw [upn, if_neg (by omega)]
          rw [e1, e2]
          exact ⟨rfl, rfl⟩
        · simp [e]
      · rw [u2_ab (by decide), cp_N (by decide) (by decide), s3, upn, if_neg (by omega)]
      · rw [u2_ab (by decide), cp_N (by decide) (by decide), s4, upn, if_neg (by omega)]
      · rw [u2_ab (by decide), cp_N (by decide) (by decide), s5, upn, if_neg (by omega)]
    · exact clS_c (bf_S h.1) (fun q => u2_ab (by decide)) (fun q => u2_ab (by decide)) (fun _ => rfl)
    · rw [pu_N hl (by omega), u2_ab (by decide), cp_N (by decide) (by decide)]
    · intro q
      rw [pu_J hl (by omega), cp_J (by decide)]
  · intro N1 I1 J1 hN1 Q hQ
    have e89 : N1 89 = N 89 := by funext q; exact hN1 89 q (by decide)
    have e26 : N1 86 26 = N 86 26 := hN1 86 26 (by decide)
    refine hR N1 I1 J1 hN1 Q (hQ _ _ _ (ad_R ?_ ?_ ?_ ?_ ?_ ?_ sI_r (fun _ _ _ => rfl) ?_) ⟨?_, fun _ => rfl⟩)
    · rw [e26]; exact h.1.2.2.2.2.2.1.2.1
    · rw [e89]; exact h89.1.2.2.2.2
    · rw [u2_nb (by decide), setRow_s]
    · rw [u2_ab (by decide), setRow_n (by decide), u2_aq (by decide)]
    · intro b q z y
      rw [u2_ab (by rintro rfl; cases y), setRow_n (by rintro rfl; cases y), u2_rd, if_neg (by rintro ⟨rfl, rfl⟩; cases z)]
    · intro b q hb
      rw [u2_ab (by omega), setRow_n (by omega), u2_ab (by omega)]
    · funext q
      show u2 (setRow (u2 N1 86 0 0) 99 _) 89 f w 89 q = upn (N 89) f w q
      rw [u2_rd, upn]
      by_cases e : q = f
      · rw [if_pos ⟨rfl, e⟩, if_pos e]
      · rw [if_neg (fun z => e z.2), if_neg e, setRow_n (by decide), u2_ab (by decide), e89]
    · unfold adN
      split
      · rw [u2_aq (by decide), u2_ab (by decide), setRow_n (by decide), u2_aq (by decide)]
      · rw [u2_aq (by decide), setRow_n (by decide), u2_ab (by decide), setRow_n (by decide), u2_aq (by decide)]
theorem o_cut {a b : Int32} (h : inv D N I J t) : opO ko d 162 45 [.int a, .int b] D N I J x (t + 300) := by
  have hF := dm_F h.1.1.1
  have h89 := h.1.2.2.2.2.1
  have h4 := inv_d4 h.1
  have hu := h.1.2.2.2.2.2.1
  have hn1 : cpS N 22 20 32 1 < 15 := by rw [cp_N (by decide) (by decide)]; exact hu.2.2.1
  have hn2 : cpS N 22 20 32 2 ≤ 15 := by rw [cp_N (by decide) (by decide), hu.1]; exact hu.2.1
  have t283 := @t_283 ko d D N I J x
  have hno : ∀ v : Int32, v < 0 → (∀ Q : Option Value → aH → Prop, aMm ko d 163 [.ref 0, .ref 20, .int a, .int b] (hp D (cpS N 22 20) I (cpJ J 22 20) x) Q = Q (some (.int v)) (hp D (cpS N 22 20) I (cpJ J 22 20) x)) → (∀ N1 J1, (∀ b q, 86 ≤ b → N1 b q = N b q) → ∀ Q : Option Value → aH → Prop, aMm ko d 46 [.ref 86, .ref 89, .int a, .int b] (hp D (setRow (u2 N1 86 0 0) 99 (puT (N1 89) (N1 99) (N1 86 26) 111)) I J1 x) Q = Q (some (.int v)) (hp D (setRow (u2 N1 86 0 0) 99 (puT (N1 89) (N1 99) (N1 86 26) 111)) I J1 x)) → opO ko d 162 45 [.int a, .int b] D N I J x (t + 300) := by
    intro v hv hc hr
    refine op_no (v := .int v) h (by omega) ?_ ?_
    · intro Q hQ
      rw [me_162]
      simp (disch := (first | omega | exact aCat_8 (by with_unfolding_all rfl) | exact rk_lt (by with_unfolding_all rfl) | exact aCat_16 (by with_unfolding_all rfl) | exact rk_eq (by with_unfolding_all rfl) | assumption | exact b2n_lt _ | exact id_b (by with_unfolding_all rfl) | (simp (disch := omega) only [u2_same, u2_ab, u2_aq]; done) | (simp (disch := omega) only [u2_same, u2_ab, u2_aq]; omega) | fail)) only [al_10368, wp_aloadr_0, wp_aloadk_0, hg_0_8, hg_0_7, wp_iload_1, wp_iload_2, wc_163, wc_164, wp_ireturn, nl_i, nl_r, nl_k, nl_j, nl_l, nI_add, pk_mul, pk_sub, tl_s, tl_n, aL_inl, u2_same, u2_ab, u2_aq, nI_l, lN_i, Nat.add_zero, Nat.zero_add, Nat.zero_le, true_and, and_true, b2n_10, b2n_T, b2n_F, b2n_0, Decidable.not_not, not_true_eq_false, not_false_eq_true, Nat.reduceAdd, Nat.reduceMul, Nat.reduceSub, wc_283 (m := 22) rfl, t_283 (s := 22) (s' := 20) rfl rfl (by decide), hc, t_164b hv]
      exact hQ _ _ bf_s bf_j (fun b q z1 z2 => cp_N z1 z2) (fun b q z => cp_J z)
    · intro N1 J1 hN1 Q hQ
      have hu1 : u2 N1 86 0 0 86 26 ≤ 15 := by rw [u2_aq (by decide), hN1 86 26 (by decide)]; exact hu.2.1
      have e1 : u2 N1 86 0 0 89 = N1 89 := u2_nb (by decide)
      have e2 : u2 N1 86 0 0 99 = N1 99 := u2_nb (by decide)
      have e3 : u2 N1 86 0 0 86 26 = N1 86 26 := u2_aq (by decide)
      have t39 := @t_39 ko d D (u2 N1 86 0 0) I J1 x
      rw [e1, e2, e3] at t39
      have t39' := fun Q => t39 (Q := Q) (by rw [← e3]; exact hu1)
      rw [me_45]
      simp (disch := (first | omega | exact aCat_8 (by with_unfolding_all rfl) | exact rk_lt (by with_unfolding_all rfl) | exact aCat_16 (by with_unfolding_all rfl) | exact rk_eq (by with_unfolding_all rfl) | assumption | exact b2n_lt _ | exact id_b (by with_unfolding_all rfl) | (simp (disch := omega) only [u2_same, u2_ab, u2_aq]; done) | (simp (disch := omega) only [u2_same, u2_ab, u2_aq]; omega) | fail)) only [al_2880, wp_aloadr_0, wp_aloadk_0, wk_0, hp_86_0, wc_39, hg_86_8, ha_89l, ha_89s, wp_iload_1, wp_iload_2, wc_46, wc_47, wp_ireturn, nl_i, nl_r, nl_k, nl_j, nl_l, nI_add, pk_mul, pk_sub, tl_s, tl_n, aL_inl, u2_same, u2_ab, u2_aq, nI_l, lN_i, Nat.add_zero, Nat.zero_add, Nat.zero_le, true_and, and_true, b2n_10, b2n_T, b2n_F, b2n_0, Decidable.not_not, not_true_eq_false, not_false_eq_true, Nat.reduceAdd, Nat.reduceMul, Nat.reduceSub, t39', hr N1 J1 hN1, t_47b hv]
      exact hQ
  rcases rng3 a 0 (b := D 0 * D 1 - 1) (by decide) (by omega) with ⟨f, _, hf, rfl⟩ | hbad
  · rcases rng3 b 1 (b := 9) (by decide) (by decide) with ⟨n, hn1', hn9, rfl⟩ | hbad
    · have hf' : f < D 0 * D 1 := by omega
      have h9 := (h89.1.1 f (by omega)).1
      have eS : cpS N 22 20 21 f = N 89 f := (cp_N (by decide) (by decide)).trans (h89.2.2.2.1 f (by omega))
      by_cases hlt : N 89 f < n
      · refine hno (-2) (by decide) (fun Q => t_163l (s := 20) rfl (by omega) (by omega) hn1' hn9 (by rw [eS]; exact hlt)) ?_
        intro N1 J1 hN1 Q
        refine t_46l (r := 89) (Or.inl rfl) hF.1 hf' hn1' hn9 ?_
        rw [setRow_n (by decide), u2_ab (by decide), hN1 89 f (by decide)]
        exact hlt
      · refine o_hgt (v := .int (nI (N 89 f - n))) (f := f) (w := N 89 f - n) h hf' (by omega) ?_ ?_
        · intro Q hQ
          have hl : u2 (cpS N 22 20) 21 f (N 89 f - n) 32 1 < 15 := by rw [u2_ab (by decide)]; exact hn1
          have hl2 : u2 (cpS N 22 20) 21 f (N 89 f - n) 32 2 ≤ 15 := by rw [u2_ab (by decide)]; exact hn2
          have t163 := @t_163g ko d D (cpS N 22 20) I (cpJ J 22 20) x
          have t163' := fun Q => t163 (Q := Q) (f := f) (n := n) (s := 20) rfl (by omega) (by omega) hn1' hn9 (by show n ≤ cpS N 22 20 21 f; rw [eS]; omega) (by show cpS N 22 20 21 f ≤ 9; rw [eS]; omega)
          have e20 : ∀ g, cpS N 22 20 (20 + 1) g = cpS N 22 20 21 g := fun _ => rfl
          simp only [e20, eS] at t163'
          rw [me_162]
          simp (disch := (first | omega | exact aCat_8 (by with_unfolding_all rfl) | exact rk_lt (by with_unfolding_all rfl) | exact aCat_16 (by with_unfolding_all rfl) | exact rk_eq (by with_unfolding_all rfl) | assumption | exact b2n_lt _ | exact id_b (by with_unfolding_all rfl) | (simp (disch := omega) only [u2_same, u2_ab, u2_aq]; done) | (simp (disch := omega) only [u2_same, u2_ab, u2_aq]; omega) | fail)) only [al_10368, wp_aloadr_0, wp_aloadk_0, hg_0_8, hg_0_7, wp_iload_1, wp_iload_2, wc_163, wc_164, wp_ireturn, nl_i, nl_r, nl_k, nl_j, nl_l, nI_add, pk_mul, pk_sub, tl_s, tl_n, aL_inl, u2_same, u2_ab, u2_aq, nI_l, lN_i, Nat.add_zero, Nat.zero_add, Nat.zero_le, true_and, and_true, b2n_10, b2n_T, b2n_F, b2n_0, Decidable.not_not, not_true_eq_false, not_false_eq_true, Nat.reduceAdd, Nat.reduceMul, Nat.reduceSub, wc_283 (m := 22) rfl, t_283 (s := 22) (s' := 20) rfl rfl (by decide), t163', t_164g (n := N 89 f - n) (by omega) hl hl2]
          exact hQ
        · intro N1 I1 J1 hN1 Q hQ
          have hu1 : N1 86 26 ≤ 15 := by rw [hN1 86 26 (by decide)]; exact hu.2.1
          have e1 : u2 N1 86 0 0 89 = N1 89 := u2_nb (by decide)
          have e2 : u2 N1 86 0 0 99 = N1 99 := u2_nb (by decide)
          have e3 : u2 N1 86 0 0 86 26 = N1 86 26 := u2_aq (by decide)
          have t39 := @t_39 ko d D (u2 N1 86 0 0) I1 J1 x
          rw [e1, e2, e3] at t39
          have t39' := fun Q => t39 (Q := Q) hu1
          have e89 : setRow (u2 N1 86 0 0) 99 (puT (N1 89) (N1 99) (N1 86 26) 111) 89 f = N 89 f := by rw [setRow_n (by decide), u2_ab (by decide), hN1 89 f (by decide)]
          have t46 := @t_46g ko d D (setRow (u2 N1 86 0 0) 99 (puT (N1 89) (N1 99) (N1 86 26) 111)) I1 J1 x
          have t46' := fun Q => t46 (Q := Q) (f := f) (n := n) (r := 89) (Or.inl rfl) hF.1 hf' hn1' hn9 (by rw [e89]; omega) (by rw [e89]; omega)
          simp only [e89] at t46'
          have hu2 : u2 (setRow (u2 N1 86 0 0) 99 (puT (N1 89) (N1 99) (N1 86 26) 111)) 89 f (N 89 f - n) 86 26 ≤ 15 := by
            rw [u2_ab (by decide), setRow_n (by decide), u2_aq (by decide)]
            exact hu1
          rw [me_45]
          simp (disch := (first | omega | exact aCat_8 (by with_unfolding_all rfl) | exact rk_lt (by with_unfolding_all rfl) | exact aCat_16 (by with_unfolding_all rfl) | exact rk_eq (by with_unfolding_all rfl) | assumption | exact b2n_lt _ | exact id_b (by with_unfolding_all rfl) | (simp (disch := omega) only [u2_same, u2_ab, u2_aq]; done) | (simp (disch := omega) only [u2_same, u2_ab, u2_aq]; omega) | fail)) only [al_2880, wp_aloadr_0, wp_aloadk_0, wk_0, hp_86_0, wc_39, hg_86_8, ha_89l, ha_89s, wp_iload_1, wp_iload_2, wc_46, wc_47, wp_ireturn, nl_i, nl_r, nl_k, nl_j, nl_l, nI_add, pk_mul, pk_sub, tl_s, tl_n, aL_inl, u2_same, u2_ab, u2_aq, nI_l, lN_i, Nat.add_zero, Nat.zero_add, Nat.zero_le, true_and, and_true, b2n_10, b2n_T, b2n_F, b2n_0, Decidable.not_not, not_true_eq_false, not_false_eq_true, Nat.reduceAdd, Nat.reduceMul, Nat.reduceSub, t39', t46', t_47g (n := N 89 f - n) (by omega) hu2]
          exact hQ
    · refine hno (-1) (by decide) (fun Q => t_163b (by omega) (by omega) (Or.inr ⟨⟨f, by omega, rfl⟩, hbad⟩)) ?_
      intro N1 J1 hN1 Q
      exact t_46b hF.1 (by omega) (Or.inr ⟨⟨f, by omega, rfl⟩, hbad⟩)
  · refine hno (-1) (by decide) (fun Q => t_163b (by omega) (by omega) (Or.inl (by rw [h4]; exact hbad))) ?_
    intro N1 J1 hN1 Q
    exact t_46b hF.1 (by omega) (Or.inl hbad)
end A2
