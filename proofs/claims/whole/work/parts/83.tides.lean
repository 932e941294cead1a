/-! tides. From wip/whole/src. -/
theorem tdS_w {R C q : Nat} {c : Nat × (Nat → Nat) × Bool} {S : Nat → Nat} (hF : R * C ≤ 36) (hk : crK R C c) (hq : q < 36) : tdS R C c S (36 + q) = S (36 + q) := by
  have hp : ¬ (c.2.2 = true ∧ 0 < c.1 ∧ 36 + q = c.2.1 (c.1 - 1)) := by
    rintro ⟨_, h1, h2⟩
    have := hk.2.1 (c.1 - 1) (by omega)
    omega
  unfold tdS
  rw [if_neg (by omega), if_neg (by omega), if_neg hp, mixT_w hF hq]
theorem itS_w {D : Nat → Nat} {N : Nat → Nat → Nat} {S : Nat → Nat} {q : Nat} (hd : dmO D) (h : rwO (D 1) S) (hq : q < 36) : ∀ n, S 109 + n < 1000000000 → itS D N S n (36 + q) = S (36 + q)
  | 0, _ => rfl
  | n + 1, ht => by
    rw [itS]
    unfold tdN
    rw [tdS_w (dm_F hd).1 (crsS_K hd (itS_O hd h n (by omega))) hq, itS_w hd h hq n (by omega)]
theorem cmS_le {D : Nat → Nat} {N : Nat → Nat → Nat} {S : Nat → Nat} : ∀ n, cmS D N S n ≤ n
  | 0 => Nat.le_refl _
  | n + 1 => by
    rw [cmS]
    have := cmS_le (D := D) (N := N) (S := S) n
    have := b2n_le ((crsS D N (itS D N S n)).2.2 = false)
    omega
section T1
variable {ko : aKo} {d k : Nat} {is : List Instr} {ls st : List Value} {σ : aH} {D : Nat → Nat} {N : Nat → Nat → Nat} {I : Nat → Nat → Int32} {J : Nat → Nat → Int64} {x t : Nat} {Q : Option Value → aH → Prop} {P : (Option Value ⊕ Unit) → aH → Prop}
/-- an act that tells a row -/
theorem op_actT {kc kr t' m : Nat} {As : List Value} {v : Value} {S' : Nat → Nat} {f : Nat → Int64} (hm : m ≤ 36) (h : inv D N I J t) (ht : t ≤ t') (hS' : rwO (D 1) S' ∧ rwZ (D 0 * D 1) S' ∧ (S' 109 ≤ t' ∧ sumR (fun q => S' (36 + q)) 36 ≤ 8))
    (hC : ∀ Q : Option Value → aH → Prop, (∀ N1 I1 J1, actC D N I J S' N1 I1 J1 → tdC N1 J1 m f → Q (some v) (hp D N1 I1 J1 x)) → aMm ko d kc (.ref 0 :: As) (hp D N I J x) Q)
    (hR : ∀ N1 I1 J1, (∀ b q, 86 ≤ b → N1 b q = N b q) → ∀ Q : Option Value → aH → Prop, (∀ N2 I2 J2, actR N1 I1 J1 S' N2 I2 J2 → tdR N2 J2 m f → Q (some v) (hp D N2 I2 J2 x)) → aMm ko d kr (.ref 86 :: As) (hp D N1 I1 J1 x) Q) : opO ko d kc kr As D N I J x t' := by
  refine hC _ ?_
  intro N1 I1 J1 hc h3
  refine hR N1 I1 J1 hc.2.2.2.1 _ ?_
  intro N2 I2 J2 hr h4
  refine ⟨rfl, rfl, D, N2, I2, J2, rfl, act_B h.1 ht hS' hc hr, td_O ?_ h4 hm⟩
  refine ⟨(hr.2.2.1 3 1 (by decide)).trans h3.1, fun i hi => ?_⟩
  rw [hr.2.2.2.1 4 i (by decide)]
  exact h3.2 i hi
theorem actC_td {S' : Nat → Nat} {N1 N' : Nat → Nat → Nat} {I1 : Nat → Nat → Int32} {J1 J' : Nat → Nat → Int64} (h : actC D N I J S' N1 I1 J1) (h1 : ∀ b q, b ≠ 3 → N' b q = N1 b q) (h2 : ∀ b q, b ≠ 4 → J' b q = J1 b q) (hn : N 32 1 < 15) : actC D N I J S' N' I1 J' := by
  obtain ⟨c1, c2, c3, c4, c5, c6, c7⟩ := h
  refine ⟨fun b q z y => (h1 b q (by rintro rfl; cases z)).trans (c1 b q z y), c2, fun b q z y => (h2 b q (by rintro rfl; cases z)).trans (c3 b q z y), fun b q hb => (h1 b q (by omega)).trans (c4 b q hb), fun b q hb => (h2 b q (by omega)).trans (c5 b q hb), clS_c c6 (fun q => h1 20 q (by decide)) (fun q => h1 21 q (by decide)) (fun q => h2 20 q (by decide)), ?_⟩
  obtain ⟨p1, p2, p3, p4⟩ := c7
  refine ⟨(h1 32 1 (by decide)).trans p1, (h1 32 2 (by decide)).trans p2, clS_c p3 (fun q => h1 _ q (by omega)) (fun q => h1 _ q (by omega)) (fun q => h2 _ q (by omega)), fun p hp hne q => ?_⟩
  rw [h1 _ q (by omega), h1 _ q (by omega), h2 _ q (by omega)]
  exact p4 p hp hne q
theorem bf_A (h : invB D N I J t) : rvA D (cpS N 22 20) I (cpJ J 22 20) 20 11 (N 93) (N 86 18) (N 89) := by
  obtain ⟨a1, a2, a3, a4, a5⟩ := inv_rv h
  exact ⟨ldO_f a1 (fun q => ⟨cp_N (by decide) (by decide), cp_N (by decide) (by decide)⟩) (fun _ => rfl) (fun q => cp_J (by decide)), bf_n h, a3, ⟨(cp_N (by decide) (by decide)).trans a4.1, a4.2⟩, a5⟩
theorem bf_sk : skC (cpS N 22 20) = skC N := by
  unfold skC
  funext q
  rw [cp_N (by decide) (by decide), cp_N (by decide) (by decide)]
theorem bf_S' {M : Nat → Nat → Nat} {Jm : Nat → Nat → Int64} (h : invB D N I J t) (h1 : pN 20 M (cpS N 22 20)) (h2 : pJ 20 Jm (cpJ J 22 20)) : clS M Jm 22 (N 89) := clS_c (bf_S h) (fun q => h1 22 q (by decide) (by omega) (by decide) (by decide)) (fun q => h1 23 q (by decide) (by omega) (by decide) (by decide)) (fun q => h2 22 q (by decide) (by omega) (by decide))
theorem o_tides {a : Int32} (h : inv D N I J t) (ht : t + 300 < 1000000000) : opO ko d 160 38 [.int a] D N I J x (t + 300) := by
  have hF := dm_F h.1.1.1
  have h89 := h.1.2.2.2.2.1
  have hu := h.1.2.2.2.2.2.1
  rcases rng3 a 0 (b := 60) (by decide) (by decide) with ⟨n, _, hn, rfl⟩ | hbad
  · have hrw := itS_O (N := N) h.1.1.1 h89.1 n (by have := h89.2.2.1; omega)
    have hZ : rwZ (D 0 * D 1) (itS D N (N 89) n) := by
      have := itG_Z (n := N 86 18) (c := N 93) (sk := skC N) h.1.1.2.2.2.1 (by rw [h.1.1.2.2.1]; exact h89.1) (inv_z h.1) n (by have := h89.2.2.1; omega)
      rw [inv_it h.1, h.1.1.2.1, h.1.1.2.2.1] at this
      exact this
    have hw8 : sumR (fun q => itS D N (N 89) n (36 + q)) 36 ≤ 8 := by
      rw [sumR_congr 36 (g := fun q => N 89 (36 + q)) (fun q hq => itS_w h.1.1.1 h89.1 hq n (by have := h89.2.2.1; omega))]
      exact h89.2.2.1.2
    have hcm := cmS_le (D := D) (N := N) (S := N 89) n
    have hsm := sum_lt hrw hF.1
    have hbd : sumR (fun q => itS D N (N 89) n (72 + q)) (D 0 * D 1) < 2147483648 := by
      have := sum_le (S := fun q => itS D N (N 89) n (72 + q)) (c := 1) (D 0 * D 1) (fun q hq => (hrw.1 q (by omega)).2.2)
      omega
    refine op_actT (v := .int (nI (cmS D N (N 89) n))) (m := 2) (S' := itS D N (N 89) n) (f := fun i => if i = 0 then lN (sumR (itS D N (N 89) n) (D 0 * D 1)) else lN (sumR (fun q => itS D N (N 89) n (72 + q)) (D 0 * D 1))) (by decide) h (by omega) ⟨hrw, hZ, by rw [itS_t]; have := h89.2.2.1; omega, hw8⟩ ?_ ?_
    · intro Q hQ
      have e91 : cpS N 22 20 9 1 = N 9 1 := cp_N (by decide) (by decide)
      rw [me_160]
      simp (disch := (first | omega | exact aCat_8 (by with_unfolding_all rfl) | exact rk_lt (by with_unfolding_all rfl) | exact aCat_16 (by with_unfolding_all rfl) | exact rk_eq (by with_unfolding_all rfl) | assumption | exact b2n_lt _ | exact id_b (by with_unfolding_all rfl) | (simp (disch := omega) only [u2_same, u2_ab, u2_aq]; done) | (simp (disch := omega) only [u2_same, u2_ab, u2_aq]; omega) | fail)) only [al_10240, wp_iload_1, wz_lt_t, wz_lt_f, wm_lt_1, wm_lt_2, wk_60, wn_le_t, wn_le_f, wp_jsr, al_10241, wk_m1, wp_ireturn, al_10242, wp_aloadr_0, wp_aloadk_0, hg_0_8, hg_0_7, hg_0_10, hg_0_4, wc_254, wp_istore_2, hg_0_11, wc_251, hg_0_1, wc_292, t_292, wp_i2l, wc_293, t_293, hg_20_2, hg_22_2, hg_24_2, wc_122, wp_iload_2, nl_i, nl_r, nl_k, nl_j, nl_l, nI_add, pk_mul, pk_sub, tl_s, tl_n, aL_inl, u2_same, u2_ab, u2_aq, nI_l, lN_i, Nat.add_zero, Nat.zero_add, Nat.zero_le, true_and, and_true, b2n_10, b2n_T, b2n_F, b2n_0, Decidable.not_not, not_true_eq_false, not_false_eq_true, Nat.reduceAdd, Nat.reduceMul, Nat.reduceSub, wc_283 (m := 22) rfl, t_283 (s := 22) (s' := 20) rfl rfl (by decide)]
      refine t_254 (s := 20) (ru := 11) rfl rfl (bf_A h.1) (inv_z h.1) (by rw [e91]; exact inv_s1 h.1) (by rw [e91]; exact inv_s2 h.1) (by omega) (by have := h89.2.2.1; omega) ?_
      intro N1 I1 J1 hA1 hN1 hI1 hJ1 _
      rw [bf_sk] at hA1 ⊢
      rw [inv_it h.1] at hA1
      rw [inv_cm h.1]
      have e32 : ∀ q, N1 32 q = N 32 q := fun q => (hN1 32 q (by decide) (by omega) (by decide) (by decide)).trans (cp_N (by decide) (by decide))
      have hl1 : N1 32 1 < 15 := by rw [e32]; exact hu.2.2.1
      have hl2 : N1 32 2 ≤ 15 := by rw [e32, hu.1]; exact hu.2.1
      have hS20 := hA1.2.1
      have hac : actC D N I J (itS D N (N 89) n) (puN N1) I1 (cpJ J1 (34 + 2 * N1 32 1) 22) := by
        refine ac_C h.1 ?_ (fI_s hI1) ?_ ?_ ?_ ?_ ?_ hS20 (bf_S' h.1 hN1 hJ1)
        · intro b q z y
          rw [hN1 b q (by rintro rfl; cases z) (by rintro ⟨rfl, _⟩; cases z) (by rintro rfl; cases y) (by rintro rfl; cases y)]
          exact bf_s b q z
        · intro b q z y
          rw [hJ1 b q (by rintro rfl; cases z) (by rintro ⟨rfl, _⟩; cases z) (by rintro rfl; cases y)]
          exact bf_j b q z
        · intro b q hb
          rw [hN1 b q (by omega) (by omega) (by omega) (by omega), cp_N (by omega) (by omega)]
        · intro b q hb
          rw [hJ1 b q (by omega) (by omega) (by omega), cp_J (by omega)]
        · intro b q z1 z2
          rw [hN1 b q (by omega) (by omega) (by omega) (by omega), cp_N (by omega) (by omega)]
        · intro b q z1 z2
          rw [hJ1 b q (by omega) (by omega) (by omega), cp_J (by omega)]
      generalize hM : puN N1 = M at hac
      generalize hG : cpJ J1 (34 + 2 * N1 32 1) 22 = G at hac
      have t251 := fun Q => @t_251 ko d D N1 I1 J1 x Q hl1 hl2
      rw [hM, hG] at t251
      have hMS : clS M G 20 (itS D N (N 89) n) := hac.2.2.2.2.2.1
      have h9 : ∀ q, q < 36 → u2 M 3 1 0 (20 + 1) q ≤ 9 := by
        intro q hq
        rw [u2_ab (by decide), hMS.1 q hq]
        exact (hrw.1 q hq).1
      have es : sumR (u2 M 3 1 0 (20 + 1)) 36 = sumR (itS D N (N 89) n) (D 0 * D 1) := by
        rw [← sum_eq hMS hZ hF.1]
        exact sumR_congr 36 (fun q _ => by rw [u2_ab (by decide)])
      have eb : bcL (G 20 2) = nI (sumR (fun q => itS D N (N 89) n (72 + q)) (D 0 * D 1)) := sum_bits hF.1 (fun f hf => (hMS.2.1 f hf).2) (fun f hf => (hrw.1 f hf).2.2) (fun f z1 z2 => (hZ f z1 z2).2.2)
      simp (disch := (first | omega | exact aCat_8 (by with_unfolding_all rfl) | exact rk_lt (by with_unfolding_all rfl) | exact aCat_16 (by with_unfolding_all rfl) | exact rk_eq (by with_unfolding_all rfl) | assumption | exact b2n_lt _ | exact id_b (by with_unfolding_all rfl) | (simp (disch := omega) only [u2_same, u2_ab, u2_aq]; done) | (simp (disch := omega) only [u2_same, u2_ab, u2_aq]; omega) | fail)) only [al_10240, wp_iload_1, wz_lt_t, wz_lt_f, wm_lt_1, wm_lt_2, wk_60, wn_le_t, wn_le_f, wp_jsr, al_10241, wk_m1, wp_ireturn, al_10242, wp_aloadr_0, wp_aloadk_0, hg_0_8, hg_0_7, hg_0_10, hg_0_4, wc_254, wp_istore_2, hg_0_11, wc_251, hg_0_1, wc_292, t_292, wp_i2l, wc_293, t_293, hg_20_2, hg_22_2, hg_24_2, wc_122, wp_iload_2, nl_i, nl_r, nl_k, nl_j, nl_l, nI_add, pk_mul, pk_sub, tl_s, tl_n, aL_inl, u2_same, u2_ab, u2_aq, nI_l, lN_i, Nat.add_zero, Nat.zero_add, Nat.zero_le, true_and, and_true, b2n_10, b2n_T, b2n_F, b2n_0, Decidable.not_not, not_true_eq_false, not_false_eq_true, Nat.reduceAdd, Nat.reduceMul, Nat.reduceSub, t251, wc_282 (m := 20) rfl, t_282 (s := 20) rfl h9, es, t_122, eb]
      refine hQ _ _ _ (actC_td hac (fun b q z => by rw [u2_ab z, u2_ab z, u2_ab z]) (fun b q z => by rw [u2_ab z, u2_ab z]) hu.2.2.1) td2C
    · intro N1 I1 J1 hN1 Q hQ
      have hu1 : N1 86 26 ≤ 15 := by rw [hN1 86 26 (by decide)]; exact hu.2.1
      have e89 : pbN N1 89 = N 89 := by rw [pb_89]; funext q; exact hN1 89 q (by decide)
      have hz1 : ∀ q, 111 ≤ q → N1 89 q = 0 := fun q hq => by rw [hN1 89 q (by decide)]; exact h89.1.2.2.2.2 q hq
      have hpb : ∀ b q, b ≠ 99 → ¬ (b = 86 ∧ q = 0) → pbN N1 b q = N1 b q := fun b q z1 z2 => by unfold pbN; rw [setRow_n z1, u2_rd, if_neg z2]
      have hsm1 : smR (pbN N1) N := ⟨by funext q; rw [hpb 93 q (by decide) (by omega), hN1 93 q (by decide)], by funext q; rw [hpb 88 q (by decide) (by omega), hN1 88 q (by decide)], by rw [hpb 86 18 (by decide) (by omega), hN1 86 18 (by decide)], by rw [hpb 86 6 (by decide) (by omega), hN1 86 6 (by decide)]⟩
      rw [me_38]
      simp (disch := (first | omega | exact aCat_8 (by with_unfolding_all rfl) | exact rk_lt (by with_unfolding_all rfl) | exact aCat_16 (by with_unfolding_all rfl) | exact rk_eq (by with_unfolding_all rfl) | assumption | exact b2n_lt _ | exact id_b (by with_unfolding_all rfl) | (simp (disch := omega) only [u2_same, u2_ab, u2_aq]; done) | (simp (disch := omega) only [u2_same, u2_ab, u2_aq]; omega) | fail)) only [al_2432, wp_aloadr_0, wp_aloadk_0, wk_0, hp_86_0, wp_iload_1, wp_i2l, wl_0, wl_60, wc_4, t_4, lN_le, wz_ne_t, wz_ne_f, wb_ne_t, wb_ne_f, wm_ne_1, wm_ne_2, wk_m1, wp_ireturn, al_2433, wc_39, hg_86_8, ha_89l, ha_89s, wc_40, wp_istore_2, hp_86_1, wc_36, wc_43, t_43, wk_72, wp_iload_2, wc_44, nl_i, nl_r, nl_k, nl_j, nl_l, nI_add, pk_mul, pk_sub, tl_s, tl_n, aL_inl, u2_same, u2_ab, u2_aq, nI_l, lN_i, Nat.add_zero, Nat.zero_add, Nat.zero_le, true_and, and_true, b2n_10, b2n_T, b2n_F, b2n_0, Decidable.not_not, not_true_eq_false, not_false_eq_true, Nat.reduceAdd, Nat.reduceMul, Nat.reduceSub, b2n_t hn, pb_t39 hu1]
      refine t_40 (r := 89) (Or.inl rfl) h.1.1.1 (by rw [e89]; exact h89.1) (smR_rl hsm1 (inv_rl h.1)) (by omega) (by rw [e89]; have := h89.2.2.1; omega) ?_
      intro N2 I2 hS2 hN2 hI2
      rw [e89, smR_it hsm1] at hS2
      rw [e89, smR_cm hsm1]
      have es : sumR (fun q => u2 N2 86 1 0 89 (0 + q)) (D 0 * D 1) = sumR (itS D N (N 89) n) (D 0 * D 1) := sumR_congr _ (fun q _ => by rw [u2_ab (by decide), hS2, Nat.zero_add])
      have es2 : sumR (fun q => u2 (u2 N2 86 1 0) 86 1 1 89 (72 + q)) (D 0 * D 1) = sumR (fun q => itS D N (N 89) n (72 + q)) (D 0 * D 1) := sumR_congr _ (fun q _ => by rw [u2_ab (by decide), u2_ab (by decide), hS2])
      have t36 := fun (J : Nat → Nat → Int64) (Q : Option Value → aH → Prop) => @t_36 ko d D (u2 N2 86 1 0) I2 J x Q 89 0 (Or.inl rfl) hF.1 (by omega)
      have t36b := fun (J : Nat → Nat → Int64) (Q : Option Value → aH → Prop) => @t_36 ko d D (u2 (u2 N2 86 1 0) 86 1 1) I2 J x Q 89 72 (Or.inl rfl) hF.1 (by omega)
      rw [es] at t36
      rw [es2] at t36b
      have e26 : N2 86 26 = N1 86 26 := (hN2 86 26 rfl (by decide)).trans (hpb 86 26 (by decide) (by omega))
      have hu2 : u2 (u2 (u2 N2 86 1 0) 86 1 1) 86 1 2 86 26 ≤ 15 := by rw [u2_aq (by decide), u2_aq (by decide), u2_aq (by decide), e26]; exact hu1
      simp (disch := (first | omega | exact aCat_8 (by with_unfolding_all rfl) | exact rk_lt (by with_unfolding_all rfl) | exact aCat_16 (by with_unfolding_all rfl) | exact rk_eq (by with_unfolding_all rfl) | assumption | exact b2n_lt _ | exact id_b (by with_unfolding_all rfl) | (simp (disch := omega) only [u2_same, u2_ab, u2_aq]; done) | (simp (disch := omega) only [u2_same, u2_ab, u2_aq]; omega) | fail)) only [al_2432, wp_aloadr_0, wp_aloadk_0, wk_0, hp_86_0, wp_iload_1, wp_i2l, wl_0, wl_60, wc_4, t_4, lN_le, wz_ne_t, wz_ne_f, wb_ne_t, wb_ne_f, wm_ne_1, wm_ne_2, wk_m1, wp_ireturn, al_2433, wc_39, hg_86_8, ha_89l, ha_89s, wc_40, wp_istore_2, hp_86_1, wc_36, wc_43, t_43, wk_72, wp_iload_2, wc_44, nl_i, nl_r, nl_k, nl_j, nl_l, nI_add, pk_mul, pk_sub, tl_s, tl_n, aL_inl, u2_same, u2_ab, u2_aq, nI_l, lN_i, Nat.add_zero, Nat.zero_add, Nat.zero_le, true_and, and_true, b2n_10, b2n_T, b2n_F, b2n_0, Decidable.not_not, not_true_eq_false, not_false_eq_true, Nat.reduceAdd, Nat.reduceMul, Nat.reduceSub, t36, t36b, t_44 hu2]
      refine hQ _ _ _ (ad_R hu1 hz1 ?_ ?_ ?_ ?_ (rI_s hI2) ?_ ?_) ?_
      · rw [u2_nb (by decide), u2_nb (by decide), u2_nb (by decide)]
        funext q
        rw [hN2 99 q rfl (by decide)]
        unfold pbN
        rw [setRow_s]
      · rw [u2_aq (by decide), u2_aq (by decide), u2_aq (by decide), e26]
      · intro b q z y
        have z1 : ¬ (b = 86 ∧ q = 1) := by rintro ⟨rfl, rfl⟩; cases z
        rw [u2_rd, if_neg z1, u2_rd, if_neg z1, u2_rd, if_neg z1, hN2 b q ?_ (by rintro rfl; cases y), hpb b q (by rintro rfl; cases y) (by rintro ⟨rfl, rfl⟩; cases z)]
        unfold frC
        have w1 : b ≠ 97 := by rintro rfl; cases z
        have w2 : b ≠ 98 := by rintro rfl; cases z
        by_cases w3 : b = 86
        · subst w3
          have w4 : q ≠ 24 := by rintro rfl; cases z
          have w5 : q ≠ 25 := by rintro rfl; cases z
          simp [w4, w5]
        · simp [w1, w2, w3]
      · intro b q hb
        rw [u2_ab (by omega), u2_ab (by omega), u2_ab (by omega), hN2 b q ?_ (by omega), hpb b q (by omega) (by omega)]
        unfold frC
        have w1 : b ≠ 97 := by omega
        have w2 : b ≠ 98 := by omega
        have w3 : b ≠ 86 := by omega
        simp [w1, w2, w3]
      · intro b q hb
        rw [u2_ab (by omega), u2_ab (by omega)]
      · rw [u2_nb (by decide), u2_nb (by decide), u2_nb (by decide), hS2]
      · refine ⟨by rw [ad_1, u2_same], (td2R (N := N2)).2⟩
  · refine op_same (v := .int (-1)) h (by omega) ?_ ?_
    · intro Q hQ
      rw [me_160]
      rcases hbad with hb | ⟨hb1, hb2⟩
      · have hb' : a < 0 := hb
        simp (disch := (first | omega | exact aCat_8 (by with_unfolding_all rfl) | exact rk_lt (by with_unfolding_all rfl) | exact aCat_16 (by with_unfolding_all rfl) | exact rk_eq (by with_unfolding_all rfl) | assumption | exact b2n_lt _ | exact id_b (by with_unfolding_all rfl) | (simp (disch := omega) only [u2_same, u2_ab, u2_aq]; done) | (simp (disch := omega) only [u2_same, u2_ab, u2_aq]; omega) | fail)) only [al_10240, wp_iload_1, wz_lt_t, wz_lt_f, wm_lt_1, wm_lt_2, wk_60, wn_le_t, wn_le_f, wp_jsr, al_10241, wk_m1, wp_ireturn, al_10242, wp_aloadr_0, wp_aloadk_0, hg_0_8, hg_0_7, hg_0_10, hg_0_4, wc_254, wp_istore_2, hg_0_11, wc_251, hg_0_1, wc_292, t_292, wp_i2l, wc_293, t_293, hg_20_2, hg_22_2, hg_24_2, wc_122, wp_iload_2, nl_i, nl_r, nl_k, nl_j, nl_l, nI_add, pk_mul, pk_sub, tl_s, tl_n, aL_inl, u2_same, u2_ab, u2_aq, nI_l, lN_i, Nat.add_zero, Nat.zero_add, Nat.zero_le, true_and, and_true, b2n_10, b2n_T, b2n_F, b2n_0, Decidable.not_not, not_true_eq_false, not_false_eq_true, Nat.reduceAdd, Nat.reduceMul, Nat.reduceSub, wy_lt_t hb']
        exact hQ N I J sN_r sI_r sJ_r ⟨rfl, fun _ => rfl⟩ ⟨rfl, fun _ => rfl⟩
      · have hb' : ¬ a < 0 := hb1
        have hb3 : ¬ a ≤ nI 60 := fun z => (Int32.not_lt.mpr z) hb2
        simp (disch := (first | omega | exact aCat_8 (by with_unfolding_all rfl) | exact rk_lt (by with_unfolding_all rfl) | exact aCat_16 (by with_unfolding_all rfl) | exact rk_eq (by with_unfolding_all rfl) | assumption | exact b2n_lt _ | exact id_b (by with_unfolding_all rfl) | (simp (disch := omega) only [u2_same, u2_ab, u2_aq]; done) | (simp (disch := omega) only [u2_same, u2_ab, u2_aq]; omega) | fail)) only [al_10240, wp_iload_1, wz_lt_t, wz_lt_f, wm_lt_1, wm_lt_2, wk_60, wn_le_t, wn_le_f, wp_jsr, al_10241, wk_m1, wp_ireturn, al_10242, wp_aloadr_0, wp_aloadk_0, hg_0_8, hg_0_7, hg_0_10, hg_0_4, wc_254, wp_istore_2, hg_0_11, wc_251, hg_0_1, wc_292, t_292, wp_i2l, wc_293, t_293, hg_20_2, hg_22_2, hg_24_2, wc_122, wp_iload_2, nl_i, nl_r, nl_k, nl_j, nl_l, nI_add, pk_mul, pk_sub, tl_s, tl_n, aL_inl, u2_same, u2_ab, u2_aq, nI_l, lN_i, Nat.add_zero, Nat.zero_add, Nat.zero_le, true_and, and_true, b2n_10, b2n_T, b2n_F, b2n_0, Decidable.not_not, not_true_eq_false, not_false_eq_true, Nat.reduceAdd, Nat.reduceMul, Nat.reduceSub, wy_lt_f hb', wx_le_f hb3]
        exact hQ N I J sN_r sI_r sJ_r ⟨rfl, fun _ => rfl⟩ ⟨rfl, fun _ => rfl⟩
    · intro N1 I1 J1 h1 hN hI hJ Q hQ
      have hin := in_f (a := 0) (b := 60) (by decide) (by decide) hbad
      rw [me_38]
      simp (disch := (first | omega | exact aCat_8 (by with_unfolding_all rfl) | exact rk_lt (by with_unfolding_all rfl) | exact aCat_16 (by with_unfolding_all rfl) | exact rk_eq (by with_unfolding_all rfl) | assumption | exact b2n_lt _ | exact id_b (by with_unfolding_all rfl) | (simp (disch := omega) only [u2_same, u2_ab, u2_aq]; done) | (simp (disch := omega) only [u2_same, u2_ab, u2_aq]; omega) | fail)) only [al_2432, wp_aloadr_0, wp_aloadk_0, wk_0, hp_86_0, wp_iload_1, wp_i2l, wl_0, wl_60, wc_4, t_4, lN_le, wz_ne_t, wz_ne_f, wb_ne_t, wb_ne_f, wm_ne_1, wm_ne_2, wk_m1, wp_ireturn, al_2433, wc_39, hg_86_8, ha_89l, ha_89s, wc_40, wp_istore_2, hp_86_1, wc_36, wc_43, t_43, wk_72, wp_iload_2, wc_44, nl_i, nl_r, nl_k, nl_j, nl_l, nI_add, pk_mul, pk_sub, tl_s, tl_n, aL_inl, u2_same, u2_ab, u2_aq, nI_l, lN_i, Nat.add_zero, Nat.zero_add, Nat.zero_le, true_and, and_true, b2n_10, b2n_T, b2n_F, b2n_0, Decidable.not_not, not_true_eq_false, not_false_eq_true, Nat.reduceAdd, Nat.reduceMul, Nat.reduceSub, b2n_f hin]
      exact hQ _ _ _ (qN_u qN_r rfl) sI_r qJ_r ⟨u2_aq (by decide), fun _ => rfl⟩
end T1
