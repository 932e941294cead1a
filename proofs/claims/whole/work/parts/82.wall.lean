/-! wall. From wip/whole/src. -/
theorem sumR_up {g : Nat → Nat} {f v : Nat} : ∀ n, f < n → sumR (upn g f v) n + g f = sumR g n + v := by
  intro n
  induction n with
  | zero => intro h; omega
  | succ n ih =>
    intro h
    rw [sumR, sumR]
    by_cases e : f = n
    · subst e
      rw [sumR_congr f (g := g) (fun q hq => by rw [upn, if_neg (by omega)])]
      simp only [upn, if_pos]
      omega
    · have := ih (by omega)
      have e2 : upn g f v n = g n := by rw [upn, if_neg (fun z => e z.symm)]
      omega
theorem w_sum {S : Nat → Nat} {f v n : Nat} (hf : f < n) : sumR (fun q => upn S (36 + f) v (36 + q)) n + S (36 + f) = sumR (fun q => S (36 + q)) n + v := by
  have e : (fun q => upn S (36 + f) v (36 + q)) = upn (fun q => S (36 + q)) f v := by
    funext q
    unfold upn
    by_cases h : q = f
    · rw [if_pos (by omega), if_pos h]
    · rw [if_neg (by omega), if_neg h]
  rw [e]
  exact sumR_up n hf
theorem rw_wall {C F f v : Nat} {S : Nat → Nat} (h : rwO C S) (hz : rwZ F S) (hf : f < F) (hF : F ≤ 36) (hv : v ≤ 1) : rwO C (upn S (36 + f) v) ∧ rwZ F (upn S (36 + f) v) := by
  have e : ∀ q, q ≠ 36 + f → upn S (36 + f) v q = S q := fun q hq => by rw [upn, if_neg hq]
  refine ⟨⟨?_, ?_, ?_, ?_, ?_⟩, ?_⟩
  · intro g hg
    rw [e g (by omega), e (72 + g) (by omega)]
    refine ⟨(h.1 g hg).1, ?_, (h.1 g hg).2.2⟩
    by_cases z : g = f
    · subst z; simp [upn, hv]
    · rw [e (36 + g) (by omega)]; exact (h.1 g hg).2.1
  · rw [e 108 (by omega)]; exact h.2.1
  · rw [e 110 (by omega)]; exact h.2.2.1
  · rw [e 109 (by omega)]; exact h.2.2.2.1
  · intro q hq
    rw [e q (by omega)]; exact h.2.2.2.2 q hq
  · intro g h1 h2
    rw [e g (by omega), e (36 + g) (by omega), e (72 + g) (by omega)]
    exact hz g h1 h2
section W1
variable {ko : aKo} {d k : Nat} {is : List Instr} {ls st : List Value} {σ : aH} {D : Nat → Nat} {N : Nat → Nat → Nat} {I : Nat → Nat → Int32} {J : Nat → Nat → Int64} {x t : Nat} {Q : Option Value → aH → Prop} {P : (Option Value ⊕ Unit) → aH → Prop}
theorem cl_wall {s f : Nat} {M : Nat → Nat → Nat} {S : Nat → Nat} (hs : clS M J s S) (hf : f < 36) (h1 : S (36 + f) ≤ 1) : clS M (u2 J s 1 (J s 1 ^^^ lN 1 <<< (lN f &&& 63))) s (upn S (36 + f) (1 - S (36 + f))) := by
  obtain ⟨s1, s2, s3, s4, s5⟩ := hs
  have e : ∀ q, q ≠ 36 + f → upn S (36 + f) (1 - S (36 + f)) q = S q := fun q hq => by rw [upn, if_neg hq]
  refine ⟨?_, ?_, ?_, ?_, ?_⟩
  · intro g hg
    rw [e g (by omega)]; exact s1 g hg
  · intro g hg
    rw [u2_same, u2_aq (by decide), tb_xor, tb_p2 (by omega) hg, (s2 g hg).1, (s2 g hg).2]
    by_cases z : g = f
    · subst z
      rw [e (72 + g) (by omega)]
      have : S (36 + g) = 0 ∨ S (36 + g) = 1 := by omega
      rcases this with z | z <;> simp [upn, z, hf]
    · by_cases y : g < 36
      · rw [e (36 + g) (by omega), e (72 + g) (by omega)]
        simp [z]
      · simp [y, z]
  · rw [e 108 (by omega)]; exact s3
  · rw [e 109 (by omega)]; exact s4
  · rw [e 110 (by omega)]; exact s5
theorem t_168f {f : Nat} {S : Nat → Nat} (h4 : D 4 ≤ 36) (hf : f < D 4) (hS : clS N J 20 S) (hr : rwO (D 1) S) (hz : rwZ (D 4) S) (h0 : S (36 + f) = 0) (h8 : sumR (fun q => S (36 + q)) (D 4) = 8) : aMm ko d 168 [.ref 0, .ref 20, .int (nI f)] (hp D N I J x) Q = Q (some (.int (-2))) (hp D N I J x) := by
  have hb : ¬ tb (J 20 1) f = true := by rw [(hS.2.1 f (by omega)).1, h0]; simp
  have eb : bcL (J 20 1) = nI 8 := by rw [← h8]; exact sum_bits h4 (fun g hg => (hS.2.1 g hg).1) (fun g hg => (hr.1 g hg).2.1) (fun g z1 z2 => (hz g z1 z2).2.1)
  rw [me_168]
  simp (disch := (first | omega | exact aCat_8 (by with_unfolding_all rfl) | exact rk_lt (by with_unfolding_all rfl) | exact aCat_16 (by with_unfolding_all rfl) | exact rk_eq (by with_unfolding_all rfl) | assumption | exact b2n_lt _ | exact id_b (by with_unfolding_all rfl) | (simp (disch := omega) only [u2_same, u2_ab, u2_aq]; done) | (simp (disch := omega) only [u2_same, u2_ab, u2_aq]; omega) | fail)) only [al_10752, wp_aloadr_0, wp_aloadk_0, hg_0_2, wp_iload_2, wc_242, wz_ne_t, wz_ne_f, wb_ne_t, wb_ne_f, wm_ne_1, wm_ne_2, wk_m1, wp_ireturn, al_10753, wp_aloadr_1, wp_aloadk_1, hg_20_1, hg_22_1, hg_24_1, wc_161, t_161, wc_122, wk_8, wn_lt_t, wn_lt_f, wk_m2, al_10754, wp_dupi, wp_dupr, wl_1, wp_lshl, wp_lxor, hp_20_1, hp_22_1, hp_24_1, nl_i, nl_r, nl_k, nl_j, nl_l, nI_add, pk_mul, pk_sub, tl_s, tl_n, aL_inl, u2_same, u2_ab, u2_aq, nI_l, lN_i, Nat.add_zero, Nat.zero_add, Nat.zero_le, true_and, and_true, b2n_10, b2n_T, b2n_F, b2n_0, Decidable.not_not, not_true_eq_false, not_false_eq_true, Nat.reduceAdd, Nat.reduceMul, Nat.reduceSub, t_242, b2n_t hf, b2n_f hb, t_122, eb]
theorem t_168g {f : Nat} {S : Nat → Nat} (h4 : D 4 ≤ 36) (hf : f < D 4) (hS : clS N J 20 S) (hr : rwO (D 1) S) (hz : rwZ (D 4) S) (h8 : S (36 + f) = 0 → sumR (fun q => S (36 + q)) (D 4) < 8) : aMm ko d 168 [.ref 0, .ref 20, .int (nI f)] (hp D N I J x) Q = Q (some (.int (nI (sumR (fun q => upn S (36 + f) (1 - S (36 + f)) (36 + q)) (D 4))))) (hp D N I (u2 J 20 1 (J 20 1 ^^^ lN 1 <<< (lN f &&& 63))) x) := by
  have h1 := (hr.1 f (by omega)).2.1
  have hcl := cl_wall hS (f := f) (by omega) h1
  have hrz := rw_wall hr hz hf h4 (v := 1 - S (36 + f)) (by omega)
  have eb : bcL (J 20 1 ^^^ lN 1 <<< (lN f &&& 63)) = nI (sumR (fun q => upn S (36 + f) (1 - S (36 + f)) (36 + q)) (D 4)) := by
    have := sum_bits h4 (fun g hg => (hcl.2.1 g hg).1) (fun g hg => (hrz.1.1 g hg).2.1) (fun g z1 z2 => (hrz.2 g z1 z2).2.1)
    rw [u2_same] at this
    exact this
  rw [me_168]
  by_cases h0 : S (36 + f) = 0
  · have hb : ¬ tb (J 20 1) f = true := by rw [(hS.2.1 f (by omega)).1, h0]; simp
    have eb1 : bcL (J 20 1) = nI (sumR (fun q => S (36 + q)) (D 4)) := sum_bits h4 (fun g hg => (hS.2.1 g hg).1) (fun g hg => (hr.1 g hg).2.1) (fun g z1 z2 => (hz g z1 z2).2.1)
    have h8' := h8 h0
    simp (disch := (first | omega | exact aCat_8 (by with_unfolding_all rfl) | exact rk_lt (by with_unfolding_all rfl) | exact aCat_16 (by with_unfolding_all rfl) | exact rk_eq (by with_unfolding_all rfl) | assumption | exact b2n_lt _ | exact id_b (by with_unfolding_all rfl) | (simp (disch := omega) only [u2_same, u2_ab, u2_aq]; done) | (simp (disch := omega) only [u2_same, u2_ab, u2_aq]; omega) | fail)) only [al_10752, wp_aloadr_0, wp_aloadk_0, hg_0_2, wp_iload_2, wc_242, wz_ne_t, wz_ne_f, wb_ne_t, wb_ne_f, wm_ne_1, wm_ne_2, wk_m1, wp_ireturn, al_10753, wp_aloadr_1, wp_aloadk_1, hg_20_1, hg_22_1, hg_24_1, wc_161, t_161, wc_122, wk_8, wn_lt_t, wn_lt_f, wk_m2, al_10754, wp_dupi, wp_dupr, wl_1, wp_lshl, wp_lxor, hp_20_1, hp_22_1, hp_24_1, nl_i, nl_r, nl_k, nl_j, nl_l, nI_add, pk_mul, pk_sub, tl_s, tl_n, aL_inl, u2_same, u2_ab, u2_aq, nI_l, lN_i, Nat.add_zero, Nat.zero_add, Nat.zero_le, true_and, and_true, b2n_10, b2n_T, b2n_F, b2n_0, Decidable.not_not, not_true_eq_false, not_false_eq_true, Nat.reduceAdd, Nat.reduceMul, Nat.reduceSub, t_242, b2n_t hf, b2n_f hb, t_122, eb1, eb]
  · have h1' : S (36 + f) = 1 := by omega
    have hb : tb (J 20 1) f = true := by
      rw [(hS.2.1 f (by omega)).1, h1']
      have : f < 36 := by omega
      simp [this]
    simp (disch := (first | omega | exact aCat_8 (by with_unfolding_all rfl) | exact rk_lt (by with_unfolding_all rfl) | exact aCat_16 (by with_unfolding_all rfl) | exact rk_eq (by with_unfolding_all rfl) | assumption | exact b2n_lt _ | exact id_b (by with_unfolding_all rfl) | (simp (disch := omega) only [u2_same, u2_ab, u2_aq]; done) | (simp (disch := omega) only [u2_same, u2_ab, u2_aq]; omega) | fail)) only [al_10752, wp_aloadr_0, wp_aloadk_0, hg_0_2, wp_iload_2, wc_242, wz_ne_t, wz_ne_f, wb_ne_t, wb_ne_f, wm_ne_1, wm_ne_2, wk_m1, wp_ireturn, al_10753, wp_aloadr_1, wp_aloadk_1, hg_20_1, hg_22_1, hg_24_1, wc_161, t_161, wc_122, wk_8, wn_lt_t, wn_lt_f, wk_m2, al_10754, wp_dupi, wp_dupr, wl_1, wp_lshl, wp_lxor, hp_20_1, hp_22_1, hp_24_1, nl_i, nl_r, nl_k, nl_j, nl_l, nI_add, pk_mul, pk_sub, tl_s, tl_n, aL_inl, u2_same, u2_ab, u2_aq, nI_l, lN_i, Nat.add_zero, Nat.zero_add, Nat.zero_le, true_and, and_true, b2n_10, b2n_T, b2n_F, b2n_0, Decidable.not_not, not_true_eq_false, not_false_eq_true, Nat.reduceAdd, Nat.reduceMul, Nat.reduceSub, t_242, b2n_t hf, b2n_t hb, t_122, eb]
theorem t_51f {f : Nat} (hF : D 0 * D 1 ≤ 36) (hf : f < D 0 * D 1) (h0 : N 89 (36 + f) = 0) (h8 : sumR (fun q => N 89 (36 + q)) (D 0 * D 1) = 8) : aMm ko d 51 [.ref 86, .ref 89, .int (nI f)] (hp D N I J x) Q = Q (some (.int (-2))) (hp D N I J x) := by
  have t36 := fun Q => @t_36 ko d D N I J x Q 89 36 (Or.inl rfl) hF (by omega)
  rw [h8] at t36
  have hf' : f ≤ D 0 * D 1 - 1 := by omega
  rw [me_51]
  simp (disch := (first | omega | exact aCat_8 (by with_unfolding_all rfl) | exact rk_lt (by with_unfolding_all rfl) | exact aCat_16 (by with_unfolding_all rfl) | exact rk_eq (by with_unfolding_all rfl) | assumption | exact b2n_lt _ | exact id_b (by with_unfolding_all rfl) | (simp (disch := omega) only [u2_same, u2_ab, u2_aq]; done) | (simp (disch := omega) only [u2_same, u2_ab, u2_aq]; omega) | fail)) only [al_3264, wp_aloadr_0, wp_aloadk_0, wp_iload_2, wc_23, wz_ne_t, wz_ne_f, wb_ne_t, wb_ne_f, wm_ne_1, wm_ne_2, wk_m1, wp_ireturn, al_3265, wp_aloadr_1, wp_aloadk_1, wc_26, wk_36, wc_36, wk_8, wn_ne_t, wn_ne_f, wk_m2, al_3266, wp_iadd, wk_1, wp_isub, nl_i, nl_r, nl_k, nl_j, nl_l, nI_add, pk_mul, pk_sub, tl_s, tl_n, aL_inl, u2_same, u2_ab, u2_aq, nI_l, lN_i, Nat.add_zero, Nat.zero_add, Nat.zero_le, true_and, and_true, b2n_10, b2n_T, b2n_F, b2n_0, Decidable.not_not, not_true_eq_false, not_false_eq_true, Nat.reduceAdd, Nat.reduceMul, Nat.reduceSub, t_23, b2n_t hf', t_26, h0, t36]
theorem t_51g {f : Nat} (hF : D 0 * D 1 ≤ 36) (hf : f < D 0 * D 1) (h1 : N 89 (36 + f) ≤ 1) (h8 : N 89 (36 + f) = 0 → sumR (fun q => N 89 (36 + q)) (D 0 * D 1) < 8) : aMm ko d 51 [.ref 86, .ref 89, .int (nI f)] (hp D N I J x) Q = Q (some (.int (nI (sumR (fun q => upn (N 89) (36 + f) (1 - N 89 (36 + f)) (36 + q)) (D 0 * D 1))))) (hp D (setRow N 89 (upn (N 89) (36 + f) (1 - N 89 (36 + f)))) I J x) := by
  have t36 := fun Q => @t_36 ko d D N I J x Q 89 36 (Or.inl rfl) hF (by omega)
  have t36b := fun Q => @t_36 ko d D (setRow N 89 (upn (N 89) (36 + f) (1 - N 89 (36 + f)))) I J x Q 89 36 (Or.inl rfl) hF (by omega)
  rw [setRow_s] at t36b
  have hf' : f ≤ D 0 * D 1 - 1 := by omega
  have er : ∀ v, u2 N 89 (36 + f) v = setRow N 89 (upn (N 89) (36 + f) v) := fun v => u2_row
  rw [me_51]
  by_cases h0 : N 89 (36 + f) = 0
  · have h8' := h8 h0
    rw [h0] at t36b ⊢
    simp (disch := (first | omega | exact aCat_8 (by with_unfolding_all rfl) | exact rk_lt (by with_unfolding_all rfl) | exact aCat_16 (by with_unfolding_all rfl) | exact rk_eq (by with_unfolding_all rfl) | assumption | exact b2n_lt _ | exact id_b (by with_unfolding_all rfl) | (simp (disch := omega) only [u2_same, u2_ab, u2_aq]; done) | (simp (disch := omega) only [u2_same, u2_ab, u2_aq]; omega) | fail)) only [al_3264, wp_aloadr_0, wp_aloadk_0, wp_iload_2, wc_23, wz_ne_t, wz_ne_f, wb_ne_t, wb_ne_f, wm_ne_1, wm_ne_2, wk_m1, wp_ireturn, al_3265, wp_aloadr_1, wp_aloadk_1, wc_26, wk_36, wc_36, wk_8, wn_ne_t, wn_ne_f, wk_m2, al_3266, wp_iadd, wk_1, wp_isub, nl_i, nl_r, nl_k, nl_j, nl_l, nI_add, pk_mul, pk_sub, tl_s, tl_n, aL_inl, u2_same, u2_ab, u2_aq, nI_l, lN_i, Nat.add_zero, Nat.zero_add, Nat.zero_le, true_and, and_true, b2n_10, b2n_T, b2n_F, b2n_0, Decidable.not_not, not_true_eq_false, not_false_eq_true, Nat.reduceAdd, Nat.reduceMul, Nat.reduceSub, ha_89l, ha_89s, t_23, b2n_t hf', t_26, h0, t36, er, t36b]
  · have h1' : N 89 (36 + f) = 1 := by omega
    rw [h1'] at t36b ⊢
    simp (disch := (first | omega | exact aCat_8 (by with_unfolding_all rfl) | exact rk_lt (by with_unfolding_all rfl) | exact aCat_16 (by with_unfolding_all rfl) | exact rk_eq (by with_unfolding_all rfl) | assumption | exact b2n_lt _ | exact id_b (by with_unfolding_all rfl) | (simp (disch := omega) only [u2_same, u2_ab, u2_aq]; done) | (simp (disch := omega) only [u2_same, u2_ab, u2_aq]; omega) | fail)) only [al_3264, wp_aloadr_0, wp_aloadk_0, wp_iload_2, wc_23, wz_ne_t, wz_ne_f, wb_ne_t, wb_ne_f, wm_ne_1, wm_ne_2, wk_m1, wp_ireturn, al_3265, wp_aloadr_1, wp_aloadk_1, wc_26, wk_36, wc_36, wk_8, wn_ne_t, wn_ne_f, wk_m2, al_3266, wp_iadd, wk_1, wp_isub, nl_i, nl_r, nl_k, nl_j, nl_l, nI_add, pk_mul, pk_sub, tl_s, tl_n, aL_inl, u2_same, u2_ab, u2_aq, nI_l, lN_i, Nat.add_zero, Nat.zero_add, Nat.zero_le, true_and, and_true, b2n_10, b2n_T, b2n_F, b2n_0, Decidable.not_not, not_true_eq_false, not_false_eq_true, Nat.reduceAdd, Nat.reduceMul, Nat.reduceSub, ha_89l, ha_89s, t_23, b2n_t hf', t_26, h1', t36, er, t36b]
end W1
