/-! ahead; ranges of arguments; the dream. From wip/whole/src. -/
theorem rng3 (x : Int32) (a : Nat) {b : Nat} (ha : a < 2147483648) (hb : b < 2147483648) : (∃ n, a ≤ n ∧ n ≤ b ∧ x = nI n) ∨ x < nI a ∨ (¬ x < nI a ∧ nI b < x) := by
  by_cases h1 : x < nI a
  · exact Or.inr (Or.inl h1)
  · by_cases h2 : nI b < x
    · exact Or.inr (Or.inr ⟨h1, h2⟩)
    · refine Or.inl ?_
      have h2' : x ≤ nI b := Int32.not_lt.mp h2
      rw [Int32.le_iff_toInt_le, nI_toInt hb] at h2'
      have h1' : nI a ≤ x := Int32.not_lt.mp h1
      rw [Int32.le_iff_toInt_le, nI_toInt ha] at h1'
      refine ⟨x.toInt.toNat, by omega, by omega, ?_⟩
      apply Int32.toInt_inj.mp
      rw [nI_toInt (by omega)]
      omega
theorem wide_le (a b : Int32) : a.toInt64 ≤ b.toInt64 ↔ a ≤ b := by
  rw [Int64.le_iff_toInt_le, Int32.le_iff_toInt_le, Int32.toInt_toInt64, Int32.toInt_toInt64]
theorem in_f {x : Int32} {a b : Nat} (ha : a < 2147483648) (hb : b < 2147483648) (h : x < nI a ∨ (¬ x < nI a ∧ nI b < x)) : ¬ (lN a ≤ x.toInt64 ∧ x.toInt64 ≤ lN b) := by
  rw [← nI_l ha, ← nI_l hb, wide_le, wide_le]
  rintro ⟨h1, h2⟩
  rcases h with h | ⟨_, h⟩
  · exact (Int32.not_lt.mpr h1) h
  · exact (Int32.not_lt.mpr h2) h
theorem td1C {N : Nat → Nat → Nat} {J : Nat → Nat → Int64} {a : Int64} : tdC (u2 (u2 N 3 1 0) 3 1 1) (u2 J 4 0 a) 1 (fun _ => a) := ⟨by rw [u2_same], fun i hi => by
  have : i = 0 := by omega
  subst this
  rw [u2_same]⟩
theorem td2C {N : Nat → Nat → Nat} {J : Nat → Nat → Int64} {a b : Int64} : tdC (u2 (u2 (u2 N 3 1 0) 3 1 1) 3 1 2) (u2 (u2 J 4 0 a) 4 1 b) 2 (fun i => if i = 0 then a else b) := ⟨by rw [u2_same], fun i hi => by
  have : i = 0 ∨ i = 1 := by omega
  rcases this with rfl | rfl
  · rw [u2_aq (by decide), u2_same]; rfl
  · rw [u2_same]; rfl⟩
theorem td1R {N : Nat → Nat → Nat} {J : Nat → Nat → Int64} {a : Int64} : tdR (u2 (u2 N 86 1 0) 86 1 1) (u2 J 87 0 a) 1 (fun _ => a) := ⟨by rw [u2_same], fun i hi => by
  have : i = 0 := by omega
  subst this
  rw [u2_same]⟩
theorem td2R {N : Nat → Nat → Nat} {J : Nat → Nat → Int64} {a b : Int64} : tdR (u2 (u2 (u2 N 86 1 0) 86 1 1) 86 1 2) (u2 (u2 J 87 0 a) 87 1 b) 2 (fun i => if i = 0 then a else b) := ⟨by rw [u2_same], fun i hi => by
  have : i = 0 ∨ i = 1 := by omega
  rcases this with rfl | rfl
  · rw [u2_aq (by decide), u2_same]; rfl
  · rw [u2_same]; rfl⟩
/-- what a call of the class that asks leaves -/
def ansC (D : Nat → Nat) (N : Nat → Nat → Nat) (I : Nat → Nat → Int32) (J : Nat → Nat → Int64) (x : Nat) (v : Value) (t : Nat) (f : Nat → Int64) (Q : Option Value → aH → Prop) : Prop := ∀ (N' : Nat → Nat → Nat) (I' : Nat → Nat → Int32) (J' : Nat → Nat → Int64), sN N' N → sI I' I → sJ J' J → tdC N' J' t f → Q (some v) (hp D N' I' J' x)
def ansR (D : Nat → Nat) (N : Nat → Nat → Nat) (I : Nat → Nat → Int32) (J : Nat → Nat → Int64) (x : Nat) (v : Value) (t : Nat) (f : Nat → Int64) (Q : Option Value → aH → Prop) : Prop := ∀ (N' : Nat → Nat → Nat) (I' : Nat → Nat → Int32) (J' : Nat → Nat → Int64), qN N' N → sI I' I → qJ J' J → tdR N' J' t f → Q (some v) (hp D N' I' J' x)
/-- a question answered without a row: the row stays -/
def tdSC (N' N : Nat → Nat → Nat) (J' J : Nat → Nat → Int64) : Prop := N' 3 1 = N 3 1 ∧ ∀ q, J' 4 q = J 4 q
def tdSR (N' N : Nat → Nat → Nat) (J' J : Nat → Nat → Int64) : Prop := N' 86 1 = N 86 1 ∧ ∀ q, J' 87 q = J 87 q
section O2
variable {ko : aKo} {d k : Nat} {is : List Instr} {ls st : List Value} {σ : aH} {D : Nat → Nat} {N : Nat → Nat → Nat} {I : Nat → Nat → Int32} {J : Nat → Nat → Int64} {x t : Nat} {Q : Option Value → aH → Prop} {P : (Option Value ⊕ Unit) → aH → Prop}
theorem op_ans {kc kr t' : Nat} {As : List Value} {v : Value} {f : Nat → Int64} {m : Nat} (h : inv D N I J t) (hm : m ≤ 36) (ht : t ≤ t') (hC : ∀ Q, ansC D N I J x v m f Q → aMm ko d kc (.ref 0 :: As) (hp D N I J x) Q) (hR : ∀ N1 I1 J1, invB D N1 I1 J1 t → sN N1 N → sI I1 I → sJ J1 J → ∀ Q, ansR D N1 I1 J1 x v m f Q → aMm ko d kr (.ref 86 :: As) (hp D N1 I1 J1 x) Q) : opO ko d kc kr As D N I J x t' := by
  refine hC _ ?_
  intro N1 I1 J1 hN hI hJ h3
  have h1 := invB_c h.1 (Nat.le_refl t) hN hI hJ
  refine hR N1 I1 J1 h1 hN hI hJ _ ?_
  intro N2 I2 J2 hN2 hI2 hJ2 h4
  exact ⟨rfl, rfl, D, N2, I2, J2, rfl, invB_c h1 ht (qN_s hN2) hI2 (qJ_s hJ2), td_O ⟨(hN2 3 1 rfl).trans h3.1, fun i hi => (hJ2 4 i rfl).trans (h3.2 i hi)⟩ h4 hm⟩
/-- a pair that tells no row -/
theorem op_same {kc kr t' : Nat} {As : List Value} {v : Value} (h : inv D N I J t) (ht : t ≤ t') (hC : ∀ Q : Option Value → aH → Prop, (∀ (N' : Nat → Nat → Nat) (I' : Nat → Nat → Int32) (J' : Nat → Nat → Int64), sN N' N → sI I' I → sJ J' J → tdSC N' N J' J → tdSR N' N J' J → Q (some v) (hp D N' I' J' x)) → aMm ko d kc (.ref 0 :: As) (hp D N I J x) Q) (hR : ∀ N1 I1 J1, invB D N1 I1 J1 t → sN N1 N → sI I1 I → sJ J1 J → ∀ Q : Option Value → aH → Prop, (∀ (N' : Nat → Nat → Nat) (I' : Nat → Nat → Int32) (J' : Nat → Nat → Int64), qN N' N1 → sI I' I1 → qJ J' J1 → tdSR N' N1 J' J1 → Q (some v) (hp D N' I' J' x)) → aMm ko d kr (.ref 86 :: As) (hp D N1 I1 J1 x) Q) : opO ko d kc kr As D N I J x t' := by
  refine hC _ ?_
  intro N1 I1 J1 hN hI hJ h3 h3'
  have h1 := invB_c h.1 (Nat.le_refl t) hN hI hJ
  refine hR N1 I1 J1 h1 hN hI hJ _ ?_
  intro N2 I2 J2 hN2 hI2 hJ2 h4
  refine ⟨rfl, rfl, D, N2, I2, J2, rfl, invB_c h1 ht (qN_s hN2) hI2 (qJ_s hJ2), ?_, ?_, ?_⟩
  · rw [hN2 3 1 rfl, h3.1, h4.1, h3'.1]
    exact h.2.1
  · rw [h4.1, h3'.1]
    exact h.2.2.1
  · intro i hi
    rw [h4.1, h3'.1] at hi
    rw [hJ2 4 i rfl, h3.2 i, h4.2 i, h3'.2 i]
    exact h.2.2.2 i hi
theorem dr_A (h : invB D N I J t) : rvA D (cpS N 24 20) I (cpJ J 24 20) 24 11 (N 93) (N 86 18) (N 89) := by
  obtain ⟨a1, a2, a3, a4, a5⟩ := inv_rv h
  refine ⟨ldO_f a1 (fun q => ⟨cp_N (by decide) (by decide), cp_N (by decide) (by decide)⟩) (fun _ => rfl) (fun q => cp_J (by decide)), cp_S rfl rfl (by decide) a2, a3, ⟨(cp_N (by decide) (by decide)).trans a4.1, a4.2⟩, a5⟩
theorem dr_sk : skC (cpS N 24 20) = skC N := by
  unfold skC
  funext q
  rw [cp_N (by decide) (by decide), cp_N (by decide) (by decide)]
theorem pN_sk {s : Nat} {N' : Nat → Nat → Nat} (hs : stB s = true) (h : pN s N' N) : skC N' = skC N ∧ N' 9 1 = N 9 1 := by
  have hso := st_or hs
  have e : N' 9 1 = N 9 1 := h 9 1 (by decide) (by omega) (by omega) (by omega)
  refine ⟨?_, e⟩
  unfold skC
  funext q
  rw [e, h 10 _ (by decide) (by omega) (by omega) (by omega)]
theorem inv_z (h : invB D N I J t) : rwZ (D 2 * D 3) (N 89) := by
  rw [h.1.2.1, h.1.2.2.1]
  exact h.2.2.2.2.1.2.1
theorem k_177 {n : Nat} (h : invB D N I J t) (ht : t + n < 1000000000) (hn : n ≤ 99) (hQ : ansC D N I J x (.int (mth (D 1) (crsS D N (itS D N (N 89) n)))) 2 (fun i => if i = 0 then lN (crsS D N (itS D N (N 89) n)).1 else lN (sumR (itS D N (N 89) n) (D 0 * D 1))) Q) : aMm ko d 177 [.ref 0, .int (nI n)] (hp D N I J x) Q := by
  have hF := dm_F h.1.1
  have h89 := h.2.2.2.2.1
  have hrw := itS_O (N := N) h.1.1 h89.1 n (by have := h89.2.2.1; omega)
  have hK := crsS_K (N := N) h.1.1 hrw
  have e91 : cpS N 24 20 9 1 = N 9 1 := cp_N (by decide) (by decide)
  rw [me_177]
  simp (disch := (first | omega | exact aCat_8 (by with_unfolding_all rfl) | exact rk_lt (by with_unfolding_all rfl) | exact aCat_16 (by with_unfolding_all rfl) | exact rk_eq (by with_unfolding_all rfl) | assumption | exact b2n_lt _ | exact id_b (by with_unfolding_all rfl) | (simp (disch := omega) only [u2_same, u2_ab, u2_aq]; done) | (simp (disch := omega) only [u2_same, u2_ab, u2_aq]; omega) | fail)) only [al_11328, wp_iload_1, wz_lt_t, wz_lt_f, wm_lt_1, wm_lt_2, wk_99, wn_le_t, wn_le_f, wp_jsr, al_11329, wk_m1, wp_ireturn, al_11330, wp_aloadr_0, wp_aloadk_0, hg_0_9, hg_0_7, hg_0_10, hg_0_4, wc_254, wp_pop, wc_260, hg_0_1, wc_292, t_292, hg_26_9, wp_i2l, wc_293, t_293, hg_26_11, nl_i, nl_r, nl_k, nl_j, nl_l, nI_add, pk_mul, pk_sub, tl_s, tl_n, aL_inl, u2_same, u2_ab, u2_aq, nI_l, lN_i, Nat.add_zero, Nat.zero_add, Nat.zero_le, true_and, and_true, b2n_10, b2n_T, b2n_F, b2n_0, Decidable.not_not, not_true_eq_false, not_false_eq_true, Nat.reduceAdd, Nat.reduceMul, wc_283 (m := 24) rfl, t_283 (s := 24) (s' := 20) rfl rfl (by decide)]
  refine t_254 (s := 24) (ru := 11) rfl rfl (dr_A h) (inv_z h) (by rw [e91]; exact inv_s1 h) (by rw [e91]; exact inv_s2 h) (by omega) (by have := h89.2.2.1; omega) ?_
  intro N1 I1 J1 hA1 hN1 hI1 hJ1 _
  rw [dr_sk] at hA1 ⊢
  obtain ⟨esk, e91'⟩ := pN_sk (s := 24) rfl hN1
  rw [dr_sk] at esk
  rw [e91] at e91'
  simp (disch := (first | omega | exact aCat_8 (by with_unfolding_all rfl) | exact rk_lt (by with_unfolding_all rfl) | exact aCat_16 (by with_unfolding_all rfl) | exact rk_eq (by with_unfolding_all rfl) | assumption | exact b2n_lt _ | exact id_b (by with_unfolding_all rfl) | (simp (disch := omega) only [u2_same, u2_ab, u2_aq]; done) | (simp (disch := omega) only [u2_same, u2_ab, u2_aq]; omega) | fail)) only [al_11328, wp_iload_1, wz_lt_t, wz_lt_f, wm_lt_1, wm_lt_2, wk_99, wn_le_t, wn_le_f, wp_jsr, al_11329, wk_m1, wp_ireturn, al_11330, wp_aloadr_0, wp_aloadk_0, hg_0_9, hg_0_7, hg_0_10, hg_0_4, wc_254, wp_pop, wc_260, hg_0_1, wc_292, t_292, hg_26_9, wp_i2l, wc_293, t_293, hg_26_11, nl_i, nl_r, nl_k, nl_j, nl_l, nI_add, pk_mul, pk_sub, tl_s, tl_n, aL_inl, u2_same, u2_ab, u2_aq, nI_l, lN_i, Nat.add_zero, Nat.zero_add, Nat.zero_le, true_and, and_true, b2n_10, b2n_T, b2n_F, b2n_0, Decidable.not_not, not_true_eq_false, not_false_eq_true, Nat.reduceAdd, Nat.reduceMul]
  refine t_260 (s := 24) (ru := 11) rfl rfl hA1 (by rw [e91']; exact inv_s1 h) (by rw [e91']; exact inv_s2 h) ?_
  intro N2 I2 J2 _ hN2 hI2 hJ2 hc2
  rw [esk, inv_it h, inv_G h, h.1.2.2.1] at hc2
  have hS2 : clS N2 J2 24 (itS D N (N 89) n) := by
    have := hA1.2.1
    rw [inv_it h] at this
    exact clS_c this (fun q => hN2 24 q (by decide) (by omega)) (fun q => hN2 25 q (by decide) (by omega)) (fun q => hJ2 24 q (by decide) (by omega))
  have hL := hK.1
  have e9 := hc2.1
  have e11 := hc2.2.2.2.1
  have hZ : rwZ (D 0 * D 1) (itS D N (N 89) n) := by
    have := itG_Z (n := N 86 18) (c := N 93) (sk := skC N) h.1.2.2.2.1 (by rw [h.1.2.2.1]; exact h89.1) (inv_z h) n (by have := h89.2.2.1; omega)
    rw [inv_it h, h.1.2.1, h.1.2.2.1] at this
    exact this
  have hsum := sum_eq hS2 hZ hF.1
  have h9 : ∀ q, q < 36 → u2 (u2 N2 3 1 0) 3 1 1 (24 + 1) q ≤ 9 := by
    intro q hq
    rw [u2_ab (by decide), u2_ab (by decide), hS2.1 q hq]
    exact (hrw.1 q hq).1
  have es : sumR (u2 (u2 N2 3 1 0) 3 1 1 (24 + 1)) 36 = sumR (itS D N (N 89) n) (D 0 * D 1) := by
    rw [← hsum]
    exact sumR_congr 36 (fun q _ => by rw [u2_ab (by decide), u2_ab (by decide)])
  have hsm := sum_lt hrw hF.1
  simp (disch := (first | omega | exact aCat_8 (by with_unfolding_all rfl) | exact rk_lt (by with_unfolding_all rfl) | exact aCat_16 (by with_unfolding_all rfl) | exact rk_eq (by with_unfolding_all rfl) | assumption | exact b2n_lt _ | exact id_b (by with_unfolding_all rfl) | (simp (disch := omega) only [u2_same, u2_ab, u2_aq]; done) | (simp (disch := omega) only [u2_same, u2_ab, u2_aq]; omega) | fail)) only [al_11328, wp_iload_1, wz_lt_t, wz_lt_f, wm_lt_1, wm_lt_2, wk_99, wn_le_t, wn_le_f, wp_jsr, al_11329, wk_m1, wp_ireturn, al_11330, wp_aloadr_0, wp_aloadk_0, hg_0_9, hg_0_7, hg_0_10, hg_0_4, wc_254, wp_pop, wc_260, hg_0_1, wc_292, t_292, hg_26_9, wp_i2l, wc_293, t_293, hg_26_11, nl_i, nl_r, nl_k, nl_j, nl_l, nI_add, pk_mul, pk_sub, tl_s, tl_n, aL_inl, u2_same, u2_ab, u2_aq, nI_l, lN_i, Nat.add_zero, Nat.zero_add, Nat.zero_le, true_and, and_true, b2n_10, b2n_T, b2n_F, b2n_0, Decidable.not_not, not_true_eq_false, not_false_eq_true, Nat.reduceAdd, Nat.reduceMul, e9, e11, wc_282 (m := 24) rfl, t_282 (s := 24) rfl h9, es]
  refine hQ _ _ _ ?_ ?_ ?_ td2C
  · exact sN_u (sN_u (sN_u (sN_t (gN_s hN2) (sN_t (pN_s hN1) cp_sN)) rfl) rfl) rfl
  · exact sI_t (fI_s hI2) (fI_s hI1)
  · exact sJ_u (sJ_u (sJ_t (fJ_s hJ2) (sJ_t (pJ_s hJ1) cp_sJ)) rfl) rfl
theorem r_59 {n : Nat} (h : invB D N I J t) (ht : t + n < 1000000000) (hn : n ≤ 99) (hQ : ansR D N I J x (.int (mth (D 1) (crsS D N (itS D N (N 89) n)))) 2 (fun i => if i = 0 then lN (crsS D N (itS D N (N 89) n)).1 else lN (sumR (itS D N (N 89) n) (D 0 * D 1))) Q) : aMm ko d 59 [.ref 86, .int (nI n)] (hp D N I J x) Q := by
  have hd := h.1.1
  have hF := dm_F h.1.1
  have h89 := h.2.2.2.2.1
  have hrw := itS_O (N := N) h.1.1 h89.1 n (by have := h89.2.2.1; omega)
  have hK := crsS_K (N := N) h.1.1 hrw
  have hL := hK.1
  have hz1 : ∀ q, 111 ≤ q → u2 N 86 0 0 89 q = 0 := fun q hq => by rw [u2_ab (by decide)]; exact h89.1.2.2.2.2 q hq
  have hz2 : ∀ q, 111 ≤ q → u2 N 86 0 0 90 q = 0 := fun q hq => by rw [u2_ab (by decide)]; exact h.2.2.2.2.2.2.2.2.2 q hq
  have es1 : setRow (u2 N 86 0 0) 90 (u2 N 86 0 0 89) 90 = N 89 := by rw [setRow_s]; exact u2_nb (by decide)
  have q1 : qN (setRow (u2 N 86 0 0) 90 (u2 N 86 0 0 89)) N := qN_w90 (qN_u qN_r rfl) (fun q hq => by rw [hz1 q hq, h.2.2.2.2.2.2.2.2.2 q hq])
  have hs1 : smR (setRow (u2 N 86 0 0) 90 (u2 N 86 0 0 89)) N := sN_sm (qN_s q1)
  rw [me_59]
  simp (disch := (first | omega | exact aCat_8 (by with_unfolding_all rfl) | exact rk_lt (by with_unfolding_all rfl) | exact aCat_16 (by with_unfolding_all rfl) | exact rk_eq (by with_unfolding_all rfl) | assumption | exact b2n_lt _ | exact id_b (by with_unfolding_all rfl) | (simp (disch := omega) only [u2_same, u2_ab, u2_aq]; done) | (simp (disch := omega) only [u2_same, u2_ab, u2_aq]; omega) | fail)) only [al_3776, wp_aloadr_0, wp_aloadk_0, wk_0, hp_86_0, wp_iload_1, wp_i2l, wl_0, wl_99, wc_4, t_4, lN_le, wz_ne_t, wz_ne_f, wb_ne_t, wb_ne_f, wm_ne_1, wm_ne_2, wk_m1, wp_ireturn, al_3777, wc_60, hg_86_9, ha_90l, ha_90s, wc_40, wp_pop, wc_25, hp_86_1, hg_86_24, wc_43, t_43, wc_36, wc_58, nl_i, nl_r, nl_k, nl_j, nl_l, nI_add, pk_mul, pk_sub, tl_s, tl_n, aL_inl, u2_same, u2_ab, u2_aq, nI_l, lN_i, Nat.add_zero, Nat.zero_add, Nat.zero_le, true_and, and_true, b2n_10, b2n_T, b2n_F, b2n_0, Decidable.not_not, not_true_eq_false, not_false_eq_true, Nat.reduceAdd, Nat.reduceMul, t_60 hz1 hz2]
  refine t_40 (r := 90) (Or.inr rfl) hd (by rw [es1]; exact h89.1) (smR_rl hs1 (inv_rl h)) (by omega) (by rw [es1]; have := h89.2.2.1; omega) ?_
  intro N1 I1 hS1 hN1 hI1
  rw [es1, smR_it hs1] at hS1
  rw [es1, smR_cm hs1]
  have q2 : qN N1 N := qN_t (rN_q9 hN1 (fun q hq => by rw [hS1, es1, hrw.2.2.2.2 q hq, h89.1.2.2.2.2 q hq])) q1
  have hs2 : smR N1 N := sN_sm (qN_s q2)
  simp (disch := (first | omega | exact aCat_8 (by with_unfolding_all rfl) | exact rk_lt (by with_unfolding_all rfl) | exact aCat_16 (by with_unfolding_all rfl) | exact rk_eq (by with_unfolding_all rfl) | assumption | exact b2n_lt _ | exact id_b (by with_unfolding_all rfl) | (simp (disch := omega) only [u2_same, u2_ab, u2_aq]; done) | (simp (disch := omega) only [u2_same, u2_ab, u2_aq]; omega) | fail)) only [al_3776, wp_aloadr_0, wp_aloadk_0, wk_0, hp_86_0, wp_iload_1, wp_i2l, wl_0, wl_99, wc_4, t_4, lN_le, wz_ne_t, wz_ne_f, wb_ne_t, wb_ne_f, wm_ne_1, wm_ne_2, wk_m1, wp_ireturn, al_3777, wc_60, hg_86_9, ha_90l, ha_90s, wc_40, wp_pop, wc_25, hp_86_1, hg_86_24, wc_43, t_43, wc_36, wc_58, nl_i, nl_r, nl_k, nl_j, nl_l, nI_add, pk_mul, pk_sub, tl_s, tl_n, aL_inl, u2_same, u2_ab, u2_aq, nI_l, lN_i, Nat.add_zero, Nat.zero_add, Nat.zero_le, true_and, and_true, b2n_10, b2n_T, b2n_F, b2n_0, Decidable.not_not, not_true_eq_false, not_false_eq_true, Nat.reduceAdd, Nat.reduceMul]
  refine t_25 (r := 90) (Or.inr rfl) hd (by rw [hS1]; exact hrw) (smR_rl hs2 (inv_rl h)) ?_
  intro N2 I2 hc2 hN2 hI2
  have hcc : crs0 (D 0) (D 1) (dsl (D 1) N1 (N1 90)) (wlS (N1 90)) (N1 90 108) = crsS D N (itS D N (N 89) n) := by
    rw [hS1, smR_dsl hs2]
    rfl
  rw [hcc] at hc2
  have q3 : qN N2 N := qN_t (rN_q hN2) q2
  have e90 : N2 90 = itS D N (N 89) n := by rw [← hS1]; funext q; exact hN2 90 q rfl
  have e24 := hc2.1
  have hc2' : crO (u2 (u2 (u2 N2 86 1 0) 86 1 1) 86 1 2) (crsS D N (itS D N (N 89) n)) := ⟨by rw [u2_aq (by decide), u2_aq (by decide), u2_aq (by decide)]; exact hc2.1, by rw [u2_aq (by decide), u2_aq (by decide), u2_aq (by decide)]; exact hc2.2.1, fun k hk => by rw [u2_ab (by decide), u2_ab (by decide), u2_ab (by decide)]; exact hc2.2.2.1 k hk, fun g hg => by rw [u2_ab (by decide), u2_ab (by decide), u2_ab (by decide)]; exact hc2.2.2.2 g hg⟩
  have es : sumR (fun q => u2 (u2 N2 86 1 0) 86 1 1 90 (0 + q)) (D 0 * D 1) = sumR (itS D N (N 89) n) (D 0 * D 1) := sumR_congr _ (fun q _ => by rw [u2_ab (by decide), u2_ab (by decide), e90, Nat.zero_add])
  have hsm := sum_lt hrw hF.1
  have t36 : ∀ Q : Option Value → aH → Prop, aMm ko d 36 [.ref 86, .ref 90, .int (nI 0)] (hp D (u2 (u2 N2 86 1 0) 86 1 1) I2 (u2 J 87 0 (lN (crsS D N (itS D N (N 89) n)).1)) x) Q = Q (some (.int (nI (sumR (itS D N (N 89) n) (D 0 * D 1))))) (hp D (u2 (u2 N2 86 1 0) 86 1 1) I2 (u2 J 87 0 (lN (crsS D N (itS D N (N 89) n)).1)) x) := fun Q => by rw [t_36 (Or.inr rfl) hF.1 (by omega), es]
  simp (disch := (first | omega | exact aCat_8 (by with_unfolding_all rfl) | exact rk_lt (by with_unfolding_all rfl) | exact aCat_16 (by with_unfolding_all rfl) | exact rk_eq (by with_unfolding_all rfl) | assumption | exact b2n_lt _ | exact id_b (by with_unfolding_all rfl) | (simp (disch := omega) only [u2_same, u2_ab, u2_aq]; done) | (simp (disch := omega) only [u2_same, u2_ab, u2_aq]; omega) | fail)) only [al_3776, wp_aloadr_0, wp_aloadk_0, wk_0, hp_86_0, wp_iload_1, wp_i2l, wl_0, wl_99, wc_4, t_4, lN_le, wz_ne_t, wz_ne_f, wb_ne_t, wb_ne_f, wm_ne_1, wm_ne_2, wk_m1, wp_ireturn, al_3777, wc_60, hg_86_9, ha_90l, ha_90s, wc_40, wp_pop, wc_25, hp_86_1, hg_86_24, wc_43, t_43, wc_36, wc_58, nl_i, nl_r, nl_k, nl_j, nl_l, nI_add, pk_mul, pk_sub, tl_s, tl_n, aL_inl, u2_same, u2_ab, u2_aq, nI_l, lN_i, Nat.add_zero, Nat.zero_add, Nat.zero_le, true_and, and_true, b2n_10, b2n_T, b2n_F, b2n_0, Decidable.not_not, not_true_eq_false, not_false_eq_true, Nat.reduceAdd, Nat.reduceMul, e24, t36, t_58 hd hc2' hK]
  refine hQ _ _ _ ?_ (sI_t (rI_s hI2) (rI_s hI1)) ?_ td2R
  · exact qN_u (qN_u (qN_u q3 rfl) rfl) rfl
  · exact qJ_u (qJ_u qJ_r rfl) rfl
theorem o_ahead {a : Int32} (h : inv D N I J t) (ht : t + 300 < 1000000000) : opO ko d 177 59 [.int a] D N I J x (t + 300) := by
  rcases rng3 a 0 (b := 99) (by decide) (by decide) with ⟨n, _, hn, rfl⟩ | hbad
  · refine op_ans h (by decide) (by omega) (fun Q hQ => k_177 h.1 (by omega) hn hQ) ?_
    intro N1 I1 J1 h1 hN hI hJ Q hQ
    refine r_59 h1 (by omega) hn ?_
    rw [sN_89 hN, smR_it (sN_sm hN), smR_crs (sN_sm hN)]
    exact hQ
  · refine op_same (v := .int (-1)) h (by omega) ?_ ?_
    · intro Q hQ
      rw [me_177]
      rcases hbad with hb | ⟨hb1, hb2⟩
      · have hb' : a < 0 := hb
        simp (disch := (first | omega | exact aCat_8 (by with_unfolding_all rfl) | exact rk_lt (by with_unfolding_all rfl) | exact aCat_16 (by with_unfolding_all rfl) | exact rk_eq (by with_unfolding_all rfl) | assumption | exact b2n_lt _ | exact id_b (by with_unfolding_all rfl) | (simp (disch := omega) only [u2_same, u2_ab, u2_aq]; done) | (simp (disch := omega) only [u2_same, u2_ab, u2_aq]; omega) | fail)) only [al_11328, wp_iload_1, wz_lt_t, wz_lt_f, wm_lt_1, wm_lt_2, wk_99, wn_le_t, wn_le_f, wp_jsr, al_11329, wk_m1, wp_ireturn, al_11330, wp_aloadr_0, wp_aloadk_0, hg_0_9, hg_0_7, hg_0_10, hg_0_4, wc_254, wp_pop, wc_260, hg_0_1, wc_292, t_292, hg_26_9, wp_i2l, wc_293, t_293, hg_26_11, nl_i, nl_r, nl_k, nl_j, nl_l, nI_add, pk_mul, pk_sub, tl_s, tl_n, aL_inl, u2_same, u2_ab, u2_aq, nI_l, lN_i, Nat.add_zero, Nat.zero_add, Nat.zero_le, true_and, and_true, b2n_10, b2n_T, b2n_F, b2n_0, Decidable.not_not, not_true_eq_false, not_false_eq_true, Nat.reduceAdd, Nat.reduceMul, wy_lt_t hb']
        exact hQ N I J sN_r sI_r sJ_r ⟨rfl, fun _ => rfl⟩ ⟨rfl, fun _ => rfl⟩
      · have hb' : ¬ a < 0 := hb1
        have hb3 : ¬ a ≤ nI 99 := fun z => (Int32.not_lt.mpr z) hb2
        simp (disch := (first | omega | exact aCat_8 (by with_unfolding_all rfl) | exact rk_lt (by with_unfolding_all rfl) | exact aCat_16 (by with_unfolding_all rfl) | exact rk_eq (by with_unfolding_all rfl) | assumption | exact b2n_lt _ | exact id_b (by with_unfolding_all rfl) | (simp (disch := omega) only [u2_same, u2_ab, u2_aq]; done) | (simp (disch := omega) only [u2_same, u2_ab, u2_aq]; omega) | fail)) only [al_11328, wp_iload_1, wz_lt_t, wz_lt_f, wm_lt_1, wm_lt_2, wk_99, wn_le_t, wn_le_f, wp_jsr, al_11329, wk_m1, wp_ireturn, al_11330, wp_aloadr_0, wp_aloadk_0, hg_0_9, hg_0_7, hg_0_10, hg_0_4, wc_254, wp_pop, wc_260, hg_0_1, wc_292, t_292, hg_26_9, wp_i2l, wc_293, t_293, hg_26_11, nl_i, nl_r, nl_k, nl_j, nl_l, nI_add, pk_mul, pk_sub, tl_s, tl_n, aL_inl, u2_same, u2_ab, u2_aq, nI_l, lN_i, Nat.add_zero, Nat.zero_add, Nat.zero_le, true_and, and_true, b2n_10, b2n_T, b2n_F, b2n_0, Decidable.not_not, not_true_eq_false, not_false_eq_true, Nat.reduceAdd, Nat.reduceMul, wy_lt_f hb', wx_le_f hb3]
        exact hQ N I J sN_r sI_r sJ_r ⟨rfl, fun _ => rfl⟩ ⟨rfl, fun _ => rfl⟩
    · intro N1 I1 J1 h1 hN hI hJ Q hQ
      have hin := in_f (a := 0) (b := 99) (by decide) (by decide) hbad
      rw [me_59]
      simp (disch := (first | omega | exact aCat_8 (by with_unfolding_all rfl) | exact rk_lt (by with_unfolding_all rfl) | exact aCat_16 (by with_unfolding_all rfl) | exact rk_eq (by with_unfolding_all rfl) | assumption | exact b2n_lt _ | exact id_b (by with_unfolding_all rfl) | (simp (disch := omega) only [u2_same, u2_ab, u2_aq]; done) | (simp (disch := omega) only [u2_same, u2_ab, u2_aq]; omega) | fail)) only [al_3776, wp_aloadr_0, wp_aloadk_0, wk_0, hp_86_0, wp_iload_1, wp_i2l, wl_0, wl_99, wc_4, t_4, lN_le, wz_ne_t, wz_ne_f, wb_ne_t, wb_ne_f, wm_ne_1, wm_ne_2, wk_m1, wp_ireturn, al_3777, wc_60, hg_86_9, ha_90l, ha_90s, wc_40, wp_pop, wc_25, hp_86_1, hg_86_24, wc_43, t_43, wc_36, wc_58, nl_i, nl_r, nl_k, nl_j, nl_l, nI_add, pk_mul, pk_sub, tl_s, tl_n, aL_inl, u2_same, u2_ab, u2_aq, nI_l, lN_i, Nat.add_zero, Nat.zero_add, Nat.zero_le, true_and, and_true, b2n_10, b2n_T, b2n_F, b2n_0, Decidable.not_not, not_true_eq_false, not_false_eq_true, Nat.reduceAdd, Nat.reduceMul, b2n_f hin]
      exact hQ _ _ _ (qN_u qN_r rfl) sI_r qJ_r ⟨u2_aq (by decide), fun _ => rfl⟩
end O2
