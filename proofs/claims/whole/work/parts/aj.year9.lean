/-! year: the class's whole call. From wip/whole/src. -/
theorem psA_lt {T : Nat → Nat} {i : Nat} : ∀ j, i < j → psA T i < psA T j
  | 0, h => absurd h (Nat.not_lt_zero i)
  | j + 1, h => by
    rw [psA]
    by_cases z : i = j
    · subst z
      omega
    · have := psA_lt (T := T) (i := i) j (by omega)
      omega
theorem psA_inj {T : Nat → Nat} {i j : Nat} (h : psA T i = psA T j) : i = j := by
  rcases Nat.lt_trichotomy i j with z | z | z
  · have := psA_lt (T := T) j z; omega
  · exact z
  · have := psA_lt (T := T) i z; omega
theorem yw_K {T : Nat → Nat} {e : Nat} : ∀ f a, e - psA T a < f → psA T a ≤ e → gdA T e a → yrW T e f (psA T a) = none → ∃ K, gdA T e K ∧ psA T K = e := by
  intro f
  induction f with
  | zero => intro a h; omega
  | succ f ih =>
    intro a h1 h2 h3 h4
    by_cases z : e ≤ psA T a
    · exact ⟨a, h3, by omega⟩
    · rw [yw_s (by omega)] at h4
      cases hb : yrB T e (psA T a) with
      | some w => rw [hb] at h4; cases h4
      | none =>
        rw [hb] at h4
        have hl := (gd_len hb).2
        refine ih (a + 1) (by rw [psA]; omega) (by rw [psA]; omega) (fun i hi => ?_) (by rw [psA]; exact h4)
        by_cases y : i = a
        · subst y; exact ⟨by omega, hb⟩
        · exact h3 i (by omega)
section YZ
variable {ko : aKo} {d k : Nat} {is : List Instr} {ls st : List Value} {σ : aH} {D : Nat → Nat} {N : Nat → Nat → Nat} {I : Nat → Nat → Int32} {J : Nat → Nat → Int64} {x t : Nat} {Q : Option Value → aH → Prop} {P : (Option Value ⊕ Unit) → aH → Prop}
theorem yc_0 (h : invB D N I J t) : yrC D N (cpS N 22 20) I I J (cpJ J 22 20) (N 89) := by
  refine ⟨bf_A h, bf_sk, cp_N (by decide) (by decide), sN_a bf_s, sI_r, sJ_a bf_j, fun b q hb => cp_N (by omega) (by omega), fun b q hb => cp_J (by omega), fun b q z1 z2 => ⟨cp_N (by omega) (by omega), cp_J (by omega)⟩, bf_S h, cp_N (by decide) (by decide), fun q => cp_J (by decide)⟩
theorem k_171 {K m : Nat} (h : invB D N I J t) (ht : t + 300 < 1000000000) (hn : N 86 11 ≤ 60) (hg : gdA (N 91) (N 86 11) K) (hK : psA (N 91) K = N 86 11) (hW : yrW (N 91) (min (N 86 11) 60) 61 0 = none) (hM : yrM D N K m)
    (hQ1 : 0 < m → ∀ (N1 N1r : Nat → Nat → Nat) (I1 : Nat → Nat → Int32) (J1 : Nat → Nat → Int64), actC D N I J (yrS D N m) N1r I1 J1 → (∀ b q, ¬ (b = 1 ∧ q = 1) → N1 b q = N1r b q) → N1 1 1 = 0 → tdC N1 J1 2 (fun i => if i = 0 then lN (b2n (m < K)) else lN (yrS D N m 109)) → Q (some (.int (nI m))) (hp D N1 I1 J1 x))
    (hQ0 : m = 0 → ∀ (N1 : Nat → Nat → Nat) (J1 : Nat → Nat → Int64), N1 1 1 = 0 → (∀ b q, b ≠ 22 → b ≠ 23 → b ≠ 3 → ¬ (b = 1 ∧ q = 1) → N1 b q = N b q) → (∀ b q, b ≠ 22 → b ≠ 4 → J1 b q = J b q) → tdC N1 J1 2 (fun i => if i = 0 then lN (b2n (m < K)) else lN (yrS D N m 109)) → Q (some (.int (nI m))) (hp D N1 I J1 x)) : aMm ko d 171 [.ref 0] (hp D N I J x) Q := by
  obtain ⟨k1, _⟩ := gd_ps K hg
  have hmK := hM.1
  have hu := h.2.2.2.2.2.1
  have hG := yr_G h hg hM ht (by omega) m (Nat.le_refl _)
  have h109 : yrS D N m 109 < 2147483648 := by have := hG.2.2.1; omega
  have e172 : yrA' (N 86 11) (yrW (N 91) (min (N 86 11) 60) 61 0) = -1 := by
    rw [hW, yrA']
    exact if_neg (by omega)
  have t172 := fun Q => t_172 (ko := ko) (d := d) (x := x) (Q := Q) h
  rw [e172] at t172
  have hb1 := b2n_le (m < K)
  rw [me_171]
  simp (disch := (first | omega | exact aCat_8 (by with_unfolding_all rfl) | exact rk_lt (by with_unfolding_all rfl) | exact aCat_16 (by with_unfolding_all rfl) | exact rk_eq (by with_unfolding_all rfl) | assumption | exact b2n_lt _ | exact id_b (by with_unfolding_all rfl) | (simp (disch := omega) only [u2_same, u2_ab, u2_aq]; done) | (simp (disch := omega) only [u2_same, u2_ab, u2_aq]; omega) | fail)) only [al_10944, wp_aloadr_0, wp_aloadk_0, wc_172, wp_istore_1, wp_iload_1, wk_m1, wn_eq_t, wn_eq_f, hg_0_0, wc_289, wp_isub, wp_ireturn, al_10945, hg_0_8, hg_0_7, wk_0, wp_istore_2, wp_istore_3, wp_istore_4, wp_istore_5, wp_jsr, wp_iload_5, wk_60, wn_ge_t, wn_ge_f, wp_iload_4, hg_1_1, wp_iload_3, wz_ne_t, wz_ne_f, wb_ne_t, wb_ne_f, wm_ne_1, wm_ne_2, wc_174, wz_ge_t, wz_ge_f, wm_ge_1, wm_ge_2, wk_1, wp_goto, al_10947, wp_iinc_2_1, al_10948, wc_288, wc_173, wp_iadd, wp_iinc_5_1, wp_iload_2, wz_le_t, wz_le_f, wm_le_1, wm_le_2, hg_0_11, wc_251, al_10950, hg_0_1, wc_292, t_292, wp_i2l, wc_293, t_293, hg_20_4, hg_22_4, hg_24_4, nl_i, nl_r, nl_k, nl_j, nl_l, nI_add, pk_mul, pk_sub, tl_s, tl_n, aL_inl, u2_same, u2_ab, u2_aq, nI_l, lN_i, Nat.add_zero, Nat.zero_add, Nat.zero_le, true_and, and_true, b2n_10, b2n_T, b2n_F, b2n_0, Decidable.not_not, not_true_eq_false, not_false_eq_true, Nat.reduceAdd, Nat.reduceMul, Nat.reduceSub, t172, wc_283 (m := 22) rfl, t_283 (s := 22) (s' := 20) rfl rfl (by decide), qe_n1, qe_m1, qn_n1, qn_m1, qe_n2, qe_m2, qn_n2, qn_m2]
  refine l_171 (Ns := cpS N 22 20) (Is := I) (Js := cpJ J 22 20) h rfl hn hg hK hM ht ?_ m 0 _ _ _ (by omega) (yc_0 h) (fun _ => ⟨rfl, rfl, rfl⟩)
  intro p j N1 I1 J1 hD h0
  have eS : ∀ (M : Nat → Nat → Nat) (G : Nat → Nat → Int64), clS M G 20 (yrS D N m) → M 20 4 = yrS D N m 109 := fun M G hc => hc.2.2.2.1
  rw [al_10949]
  by_cases z : m = 0
  · obtain ⟨e1, e2, e3⟩ := h0 z
    subst e1 e2 e3 z
    have e4 := eS _ _ hD.1.2.1
    have hq := hQ0 rfl (u2 (u2 (u2 (u2 (cpS N 22 20) 1 1 0) 3 1 0) 3 1 1) 3 1 2) (u2 (u2 (cpJ J 22 20) 4 0 (lN (b2n (0 < K)))) 4 1 (lN (yrS D N 0 109))) (by rw [u2_ab (by decide), u2_ab (by decide), u2_ab (by decide), u2_same]) (fun b q y1 y2 y3 y4 => by rw [u2_ab y3, u2_ab y3, u2_ab y3, u2_rd, if_neg y4, cp_N y1 y2]) (fun b q y1 y2 => by rw [u2_ab y2, u2_ab y2, cp_J y1]) td2C
    generalize b2n (0 < K) = w at hq hb1
    simp (disch := (first | omega | exact aCat_8 (by with_unfolding_all rfl) | exact rk_lt (by with_unfolding_all rfl) | exact aCat_16 (by with_unfolding_all rfl) | exact rk_eq (by with_unfolding_all rfl) | assumption | exact b2n_lt _ | exact id_b (by with_unfolding_all rfl) | (simp (disch := omega) only [u2_same, u2_ab, u2_aq]; done) | (simp (disch := omega) only [u2_same, u2_ab, u2_aq]; omega) | fail)) only [al_10944, wp_aloadr_0, wp_aloadk_0, wc_172, wp_istore_1, wp_iload_1, wk_m1, wn_eq_t, wn_eq_f, hg_0_0, wc_289, wp_isub, wp_ireturn, al_10945, hg_0_8, hg_0_7, wk_0, wp_istore_2, wp_istore_3, wp_istore_4, wp_istore_5, wp_jsr, wp_iload_5, wk_60, wn_ge_t, wn_ge_f, wp_iload_4, hg_1_1, wp_iload_3, wz_ne_t, wz_ne_f, wb_ne_t, wb_ne_f, wm_ne_1, wm_ne_2, wc_174, wz_ge_t, wz_ge_f, wm_ge_1, wm_ge_2, wk_1, wp_goto, al_10947, wp_iinc_2_1, al_10948, wc_288, wc_173, wp_iadd, wp_iinc_5_1, al_10949, wp_iload_2, wz_le_t, wz_le_f, wm_le_1, wm_le_2, hg_0_11, wc_251, al_10950, hg_0_1, wc_292, t_292, wp_i2l, wc_293, t_293, hg_20_4, hg_22_4, hg_24_4, nl_i, nl_r, nl_k, nl_j, nl_l, nI_add, pk_mul, pk_sub, tl_s, tl_n, aL_inl, u2_same, u2_ab, u2_aq, nI_l, lN_i, Nat.add_zero, Nat.zero_add, Nat.zero_le, true_and, and_true, b2n_10, b2n_T, b2n_F, b2n_0, Decidable.not_not, not_true_eq_false, not_false_eq_true, Nat.reduceAdd, Nat.reduceMul, Nat.reduceSub, e4, t_289]
    exact hq
  · have e4 := eS _ _ hD.1.2.1
    obtain ⟨hA, hsk, h91, hN, hI, hJ, h86, j86, hring, h22, hC⟩ := id hD
    have e32 : ∀ q, N1 32 q = N 32 q := fun q => (hring 32 q (by decide) (by decide)).1
    have hl1 : N1 32 1 < 15 := by rw [e32]; exact hu.2.2.1
    have hl2 : N1 32 2 ≤ 15 := by rw [e32, hu.1]; exact hu.2.1
    have hac : actC D N I J (yrS D N m) (puN N1) I1 (cpJ J1 (34 + 2 * N1 32 1) 22) := ac_C h hN hI hJ h86 j86 (fun b q z1 z2 => (hring b q z1 z2).1) (fun b q z1 z2 => (hring b q z1 z2).2) hA.2.1 h22
    generalize hMM : puN N1 = M at hac
    generalize hGG : cpJ J1 (34 + 2 * N1 32 1) 22 = G at hac
    have t251 := fun Q => @t_251 ko d D N1 I1 J1 x Q hl1 hl2
    rw [hMM, hGG] at t251
    have e4' := eS _ _ hac.2.2.2.2.2.1
    have hq := hQ1 (by omega) (u2 (u2 (u2 (u2 M 1 1 0) 3 1 0) 3 1 1) 3 1 2) (u2 (u2 (u2 M 3 1 0) 3 1 1) 3 1 2) I1 (u2 (u2 G 4 0 (lN (b2n (m < K)))) 4 1 (lN (yrS D N m 109))) (actC_td hac (fun b q y => by rw [u2_ab y, u2_ab y, u2_ab y]) (fun b q y => by rw [u2_ab y, u2_ab y]) hu.2.2.1) (fun b q y => by
      by_cases b3 : b = 3
      · subst b3
        simp only [u2_rd]
        simp
      · rw [u2_ab b3, u2_ab b3, u2_ab b3, u2_ab b3, u2_ab b3, u2_ab b3, u2_rd, if_neg y]) (by rw [u2_ab (by decide), u2_ab (by decide), u2_ab (by decide), u2_same]) td2C
    simp (disch := (first | omega | exact aCat_8 (by with_unfolding_all rfl) | exact rk_lt (by with_unfolding_all rfl) | exact aCat_16 (by with_unfolding_all rfl) | exact rk_eq (by with_unfolding_all rfl) | assumption | exact b2n_lt _ | exact id_b (by with_unfolding_all rfl) | (simp (disch := omega) only [u2_same, u2_ab, u2_aq]; done) | (simp (disch := omega) only [u2_same, u2_ab, u2_aq]; omega) | fail)) only [al_10944, wp_aloadr_0, wp_aloadk_0, wc_172, wp_istore_1, wp_iload_1, wk_m1, wn_eq_t, wn_eq_f, hg_0_0, wc_289, wp_isub, wp_ireturn, al_10945, hg_0_8, hg_0_7, wk_0, wp_istore_2, wp_istore_3, wp_istore_4, wp_istore_5, wp_jsr, wp_iload_5, wk_60, wn_ge_t, wn_ge_f, wp_iload_4, hg_1_1, wp_iload_3, wz_ne_t, wz_ne_f, wb_ne_t, wb_ne_f, wm_ne_1, wm_ne_2, wc_174, wz_ge_t, wz_ge_f, wm_ge_1, wm_ge_2, wk_1, wp_goto, al_10947, wp_iinc_2_1, al_10948, wc_288, wc_173, wp_iadd, wp_iinc_5_1, al_10949, wp_iload_2, wz_le_t, wz_le_f, wm_le_1, wm_le_2, hg_0_11, wc_251, al_10950, hg_0_1, wc_292, t_292, wp_i2l, wc_293, t_293, hg_20_4, hg_22_4, hg_24_4, nl_i, nl_r, nl_k, nl_j, nl_l, nI_add, pk_mul, pk_sub, tl_s, tl_n, aL_inl, u2_same, u2_ab, u2_aq, nI_l, lN_i, Nat.add_zero, Nat.zero_add, Nat.zero_le, true_and, and_true, b2n_10, b2n_T, b2n_F, b2n_0, Decidable.not_not, not_true_eq_false, not_false_eq_true, Nat.reduceAdd, Nat.reduceMul, Nat.reduceSub, t251, e4', t_289]
    exact hq
end YZ
