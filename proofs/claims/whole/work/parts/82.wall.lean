/-! wall. From wip/whole/src. -/
theorem sumR_up {g : Nat → Nat} {f v : Nat} : ∀ n, f < n → sumR (upn g f v) n + g f = sumR g n + v := by
  intro n
  induction n with
  | zero => intro h; omega
  | succ n ih =>
    intro h
    rw [sumR, sumR]
    by_cases e : f = n
    · subst e
      rw [sumR_congr f (g := g) (fun q hq => by rw [upn, if_neg (by omega)])]
      simp only [upn, if_pos]
      omega
    · have := ih (by omega)
      have e2 : upn g f v n = g n := by rw [upn, if_neg (fun z => e z.symm)]
      omega
theorem w_sum {S : Nat → Nat} {f v n : Nat} (hf : f < n) : sumR (fun q => upn S (36 + f) v (36 + q)) n + S (36 + f) = sumR (fun q => S (36 + q)) n + v := by
  have e : (fun q => upn S (36 + f) v (36 + q)) = upn (fun q => S (36 + q)) f v := by
    funext q
    unfold upn
    by_cases h : q = f
    · rw [if_pos (by omega), if_pos h]
    · rw [if_neg (by omega), if_neg h]
  rw [e]
  exact sumR_up n hf
theorem rw_wall {C F f v : Nat} {S : Nat → Nat} (h : rwO C S) (hz : rwZ F S) (hf : f < F) (hF : F ≤ 36) (hv : v ≤ 1) : rwO C (upn S (36 + f) v) ∧ rwZ F (upn S (36 + f) v) := by
  have e : ∀ q, q ≠ 36 + f → upn S (36 + f) v q = S q := fun q hq => by rw [upn, if_neg hq]
  refine ⟨⟨?_, ?_, ?_, ?_, ?_⟩, ?_⟩
  · intro g hg
    rw [e g (by omega), e (72 + g) (by omega)]
    refine ⟨(h.1 g hg).1, ?_, (h.1 g hg).2.2⟩
    by_cases z : g = f
    · subst z; simp [upn, hv]
    · rw [e (36 + g) (by omega)]; exact (h.1 g hg).2.1
  · rw [e 108 (by omega)]; exact h.2.1
  · rw [e 110 (by omega)]; exact h.2.2.1
  · rw [e 109 (by omega)]; exact h.2.2.2.1
  · intro q hq
    rw [e q (by omega)]; exact h.2.2.2.2 q hq
  · intro g h1 h2
    rw [e g (by omega), e (36 + g) (by omega), e (72 + g) (by omega)]
    exact hz g h1 h2
section W1
variable {ko : aKo} {d k : Nat} {is : List Instr} {ls st : List Value} {σ : aH} {D : Nat → Nat} {N : Nat → Nat → Nat} {I : Nat → Nat → Int32} {J : Nat → Nat → Int64} {x t : Nat} {Q : Option Value → aH → Prop} {P : (Option Value ⊕ Unit) → aH → Prop}
theorem cl_wall {s f : Nat} {M : Nat → Nat → Nat} {S : Nat → Nat} (hs : clS M J s S) (hf : f < 36) (h1 : S (36 + f) ≤ 1) : clS M (u2 J s 1 (J s 1 ^^^ lN 1 <<< (lN f &&& 63))) s (upn S (36 + f) (1 - S (36 + f))) := by
  obtain ⟨s1, s2, s3, s4, s5⟩ := hs
  have e : ∀ q, q ≠ 36 + f → upn S (36 + f) (1 - S (36 + f)) q = S q := fun q hq => by rw [upn, if_neg hq]
  refine ⟨?_, ?_, ?_, ?_, ?_⟩
  · intro g hg
    rw [e g (by omega)]; exact s1 g hg
  · intro g hg
    rw [u2_same, u2_aq (by decide), tb_xor, tb_p2 (by omega) hg, (s2 g hg).1, (s2 g hg).2]
    by_cases z : g = f
    · subst z
      rw [e (72 + g) (by omega)]
      have : S (36 + g) = 0 ∨ S (36 + g) = 1 := by omega
      rcases this with z | z <;> simp [upn, z, hf]
    · by_cases y : g < 36
      · rw [e (36 + g) (by omega), e (72 + g) (by omega)]
        simp [z]
      · simp [y, z]
  · rw [e 108 (by omega)]; exact s3
  · rw [e 109 (by omega)]; exact s4
  · rw [e 110 (by omega)]; exact s5
theorem t_168f {s f : Nat} (hs : stB s = true) {S : Nat → Nat} (h4 : D 4 ≤ 36) (hf : f < D 4) (hS : clS N J s S) (hr : rwO (D 1) S) (hz : rwZ (D 4) S) (h0 : S (36 + f) = 0) (h8 : sumR (fun q => S (36 + q)) (D 4) = 8) : aMm ko d 168 [.ref 0, .ref s, .int (nI f)] (hp D N I J x) Q = Q (some (.int (-2))) (hp D N I J x) := by
  have hb : ¬ tb (J s 1) f = true := by rw [(hS.2.1 f (by omega)).1, h0]; simp
  have eb : bcL (J s 1) = nI 8 := by rw [← h8]; exact sum_bits h4 (fun g hg => (hS.2.1 g hg).1) (fun g hg => (hr.1 g hg).2.1) (fun g z1 z2 => (hz g z1 z2).2.1)
  rw [me_168]
  simp (disch := (first | omega | exact aCat_8 (by with_unfolding_all rfl) | exact rk_lt (by with_unfolding_all rfl) | exact aCat_16 (by with_unfolding_all rfl) | exact rk_eq (by with_unfolding_all rfl) | assumption | exact b2n_lt _ | exact id_b (by with_unfolding_all rfl) | (simp (disch := omega) only [u2_same, u2_ab, u2_aq]; done) | (simp (disch := omega) only [u2_same, u2_ab, u2_aq]; omega) | fail)) only [al_10752, wp_aloadr_0, wp_aloadk_0, hg_0_2, wp_iload_2, wc_242, wz_ne_t, wz_ne_f, wb_ne_t, wb_ne_f, wm_ne_1, wm_ne_2, wk_m1, wp_ireturn, al_10753, wp_aloadr_1, wp_aloadk_1, hg_20_1, hg_22_1, hg_24_1, wc_161, t_161, wc_122, wk_8, wn_lt_t, wn_lt_f, wk_m2, al_10754, wp_dupi, wp_dupr, wl_1, wp_lshl, wp_lxor, hp_20_1, hp_22_1, hp_24_1, nl_i, nl_r, nl_k, nl_j, nl_l, nI_add, pk_mul, pk_sub, tl_s, tl_n, aL_inl, u2_same, u2_ab, u2_aq, nI_l, lN_i, Nat.add_zero, Nat.zero_add, Nat.zero_le, true_and, and_true, b2n_10, b2n_T, b2n_F, b2n_0, Decidable.not_not, not_true_eq_false, not_false_eq_true, Nat.reduceAdd, Nat.reduceMul, Nat.reduceSub, st_g1 hs, st_p1 hs, t_242, b2n_t hf, b2n_f hb, t_122, eb]
theorem t_168g {s f : Nat} (hs : stB s = true) {S : Nat → Nat} (h4 : D 4 ≤ 36) (hf : f < D 4) (hS : clS N J s S) (hr : rwO (D 1) S) (hz : rwZ (D 4) S) (h8 : S (36 + f) = 0 → sumR (fun q => S (36 + q)) (D 4) < 8) : aMm ko d 168 [.ref 0, .ref s, .int (nI f)] (hp D N I J x) Q = Q (some (.int (nI (sumR (fun q => upn S (36 + f) (1 - S (36 + f)) (36 + q)) (D 4))))) (hp D N I (u2 J s 1 (J s 1 ^^^ lN 1 <<< (lN f &&& 63))) x) := by
  have h1 := (hr.1 f (by omega)).2.1
  have hcl := cl_wall hS (f := f) (by omega) h1
  have hrz := rw_wall hr hz hf h4 (v := 1 - S (36 + f)) (by omega)
  have eb : bcL (J s 1 ^^^ lN 1 <<< (lN f &&& 63)) = nI (sumR (fun q => upn S (36 + f) (1 - S (36 + f)) (36 + q)) (D 4)) := by
    have := sum_bits h4 (fun g hg => (hcl.2.1 g hg).1) (fun g hg => (hrz.1.1 g hg).2.1) (fun g z1 z2 => (hrz.2 g z1 z2).2.1)
    rw [u2_same] at this
    exact this
  rw [me_168]
  by_cases h0 : S (36 + f) = 0
  · have hb : ¬ tb (J s 1) f = true := by rw [(hS.2.1 f (by omega)).1, h0]; simp
    have eb1 : bcL (J s 1) = nI (sumR (fun q => S (36 + q)) (D 4)) := sum_bits h4 (fun g hg => (hS.2.1 g hg).1) (fun g hg => (hr.1 g hg).2.1) (fun g z1 z2 => (hz g z1 z2).2.1)
    have h8' := h8 h0
    simp (disch := (first | omega | exact aCat_8 (by with_unfolding_all rfl) | exact rk_lt (by with_unfolding_all rfl) | exact aCat_16 (by with_unfolding_all rfl) | exact rk_eq (by with_unfolding_all rfl) | assumption | exact b2n_lt _ | exact id_b (by with_unfolding_all rfl) | (simp (disch := omega) only [u2_same, u2_ab, u2_aq]; done) | (simp (disch := omega) only [u2_same, u2_ab, u2_aq]; omega) | fail)) only [al_10752, wp_aloadr_0, wp_aloadk_0, hg_0_2, wp_iload_2, wc_242, wz_ne_t, wz_ne_f, wb_ne_t, wb_ne_f, wm_ne_1, wm_ne_2, wk_m1, wp_ireturn, al_10753, wp_aloadr_1, wp_aloadk_1, hg_20_1, hg_22_1, hg_24_1, wc_161, t_161, wc_122, wk_8, wn_lt_t, wn_lt_f, wk_m2, al_10754, wp_dupi, wp_dupr, wl_1, wp_lshl, wp_lxor, hp_20_1, hp_22_1, hp_24_1, nl_i, nl_r, nl_k, nl_j, nl_l, nI_add, pk_mul, pk_sub, tl_s, tl_n, aL_inl, u2_same, u2_ab, u2_aq, nI_l, lN_i, Nat.add_zero, Nat.zero_add, Nat.zero_le, true_and, and_true, b2n_10, b2n_T, b2n_F, b2n_0, Decidable.not_not, not_true_eq_false, not_false_eq_true, Nat.reduceAdd, Nat.reduceMul, Nat.reduceSub, st_g1 hs, st_p1 hs, t_242, b2n_t hf, b2n_f hb, t_122, eb1, eb]
  · have h1' : S (36 + f) = 1 := by omega
    have hb : tb (J s 1) f = true := by
      rw [(hS.2.1 f (by omega)).1, h1']
      have : f < 36 := by omega
      simp [this]
    simp (disch := (first | omega | exact aCat_8 (by with_unfolding_all rfl) | exact rk_lt (by with_unfolding_all rfl) | exact aCat_16 (by with_unfolding_all rfl) | exact rk_eq (by with_unfolding_all rfl) | assumption | exact b2n_lt _ | exact id_b (by with_unfolding_all rfl) | (simp (disch := omega) only [u2_same, u2_ab, u2_aq]; done) | (simp (disch := omega) only [u2_same, u2_ab, u2_aq]; omega) | fail)) only [al_10752, wp_aloadr_0, wp_aloadk_0, hg_0_2, wp_iload_2, wc_242, wz_ne_t, wz_ne_f, wb_ne_t, wb_ne_f, wm_ne_1, wm_ne_2, wk_m1, wp_ireturn, al_10753, wp_aloadr_1, wp_aloadk_1, hg_20_1, hg_22_1, hg_24_1, wc_161, t_161, wc_122, wk_8, wn_lt_t, wn_lt_f, wk_m2, al_10754, wp_dupi, wp_dupr, wl_1, wp_lshl, wp_lxor, hp_20_1, hp_22_1, hp_24_1, nl_i, nl_r, nl_k, nl_j, nl_l, nI_add, pk_mul, pk_sub, tl_s, tl_n, aL_inl, u2_same, u2_ab, u2_aq, nI_l, lN_i, Nat.add_zero, Nat.zero_add, Nat.zero_le, true_and, and_true, b2n_10, b2n_T, b2n_F, b2n_0, Decidable.not_not, not_true_eq_false, not_false_eq_true, Nat.reduceAdd, Nat.reduceMul, Nat.reduceSub, st_g1 hs, st_p1 hs, t_242, b2n_t hf, b2n_t hb, t_122, eb]
theorem t_51f {r f : Nat} (hr : r = 89 ∨ r = 90) (hF : D 0 * D 1 ≤ 36) (hf : f < D 0 * D 1) (h0 : N r (36 + f) = 0) (h8 : sumR (fun q => N r (36 + q)) (D 0 * D 1) = 8) : aMm ko d 51 [.ref 86, .ref r, .int (nI f)] (hp D N I J x) Q = Q (some (.int (-2))) (hp D N I J x) := by
  have t36 := fun Q => @t_36 ko d D N I J x Q r 36 hr hF (by omega)
  rw [h8] at t36
  have hf' : f ≤ D 0 * D 1 - 1 := by omega
  rw [me_51]
  simp (disch := (first | omega | exact aCat_8 (by with_unfolding_all rfl) | exact rk_lt (by with_unfolding_all rfl) | exact aCat_16 (by with_unfolding_all rfl) | exact rk_eq (by with_unfolding_all rfl) | assumption | exact b2n_lt _ | exact id_b (by with_unfolding_all rfl) | (simp (disch := omega) only [u2_same, u2_ab, u2_aq]; done) | (simp (disch := omega) only [u2_same, u2_ab, u2_aq]; omega) | fail)) only [al_3264, wp_aloadr_0, wp_aloadk_0, wp_iload_2, wc_23, wz_ne_t, wz_ne_f, wb_ne_t, wb_ne_f, wm_ne_1, wm_ne_2, wk_m1, wp_ireturn, al_3265, wp_aloadr_1, wp_aloadk_1, wc_26, wk_36, wc_36, wk_8, wn_ne_t, wn_ne_f, wk_m2, al_3266, wp_iadd, wk_1, wp_isub, nl_i, nl_r, nl_k, nl_j, nl_l, nI_add, pk_mul, pk_sub, tl_s, tl_n, aL_inl, u2_same, u2_ab, u2_aq, nI_l, lN_i, Nat.add_zero, Nat.zero_add, Nat.zero_le, true_and, and_true, b2n_10, b2n_T, b2n_F, b2n_0, Decidable.not_not, not_true_eq_false, not_false_eq_true, Nat.reduceAdd, Nat.reduceMul, Nat.reduceSub, ra_l hr, t_23, b2n_t hf', t_26, h0, t36]
theorem t_51g {r f : Nat} (hr : r = 89 ∨ r = 90) (hF : D 0 * D 1 ≤ 36) (hf : f < D 0 * D 1) (h1 : N r (36 + f) ≤ 1) (h8 : N r (36 + f) = 0 → sumR (fun q => N r (36 + q)) (D 0 * D 1) < 8) : aMm ko d 51 [.ref 86, .ref r, .int (nI f)] (hp D N I J x) Q = Q (some (.int (nI (sumR (fun q => upn (N r) (36 + f) (1 - N r (36 + f)) (36 + q)) (D 0 * D 1))))) (hp D (setRow N r (upn (N r) (36 + f) (1 - N r (36 + f)))) I J x) := by
  have t36 := fun Q => @t_36 ko d D N I J x Q r 36 hr hF (by omega)
  have t36b := fun Q => @t_36 ko d D (setRow N r (upn (N r) (36 + f) (1 - N r (36 + f)))) I J x Q r 36 hr hF (by omega)
  rw [setRow_s] at t36b
  have hf' : f ≤ D 0 * D 1 - 1 := by omega
  have er : ∀ v, u2 N r (36 + f) v = setRow N r (upn (N r) (36 + f) v) := fun v => u2_row
  rw [me_51]
  by_cases h0 : N r (36 + f) = 0
  · have h8' := h8 h0
    rw [h0] at t36b ⊢
    simp (disch := (first | omega | exact aCat_8 (by with_unfolding_all rfl) | exact rk_lt (by with_unfolding_all rfl) | exact aCat_16 (by with_unfolding_all rfl) | exact rk_eq (by with_unfolding_all rfl) | assumption | exact b2n_lt _ | exact id_b (by with_unfolding_all rfl) | (simp (disch := omega) only [u2_same, u2_ab, u2_aq]; done) | (simp (disch := omega) only [u2_same, u2_ab, u2_aq]; omega) | fail)) only [al_3264, wp_aloadr_0, wp_aloadk_0, wp_iload_2, wc_23, wz_ne_t, wz_ne_f, wb_ne_t, wb_ne_f, wm_ne_1, wm_ne_2, wk_m1, wp_ireturn, al_3265, wp_aloadr_1, wp_aloadk_1, wc_26, wk_36, wc_36, wk_8, wn_ne_t, wn_ne_f, wk_m2, al_3266, wp_iadd, wk_1, wp_isub, nl_i, nl_r, nl_k, nl_j, nl_l, nI_add, pk_mul, pk_sub, tl_s, tl_n, aL_inl, u2_same, u2_ab, u2_aq, nI_l, lN_i, Nat.add_zero, Nat.zero_add, Nat.zero_le, true_and, and_true, b2n_10, b2n_T, b2n_F, b2n_0, Decidable.not_not, not_true_eq_false, not_false_eq_true, Nat.reduceAdd, Nat.reduceMul, Nat.reduceSub, ra_l hr, ra_s hr, t_23, b2n_t hf', t_26, h0, t36, er, t36b]
  · have h1' : N r (36 + f) = 1 := by omega
    rw [h1'] at t36b ⊢
    simp (disch := (first | omega | exact aCat_8 (by with_unfolding_all rfl) | exact rk_lt (by with_unfolding_all rfl) | exact aCat_16 (by with_unfolding_all rfl) | exact rk_eq (by with_unfolding_all rfl) | assumption | exact b2n_lt _ | exact id_b (by with_unfolding_all rfl) | (simp (disch := omega) only [u2_same, u2_ab, u2_aq]; done) | (simp (disch := omega) only [u2_same, u2_ab, u2_aq]; omega) | fail)) only [al_3264, wp_aloadr_0, wp_aloadk_0, wp_iload_2, wc_23, wz_ne_t, wz_ne_f, wb_ne_t, wb_ne_f, wm_ne_1, wm_ne_2, wk_m1, wp_ireturn, al_3265, wp_aloadr_1, wp_aloadk_1, wc_26, wk_36, wc_36, wk_8, wn_ne_t, wn_ne_f, wk_m2, al_3266, wp_iadd, wk_1, wp_isub, nl_i, nl_r, nl_k, nl_j, nl_l, nI_add, pk_mul, pk_sub, tl_s, tl_n, aL_inl, u2_same, u2_ab, u2_aq, nI_l, lN_i, Nat.add_zero, Nat.zero_add, Nat.zero_le, true_and, and_true, b2n_10, b2n_T, b2n_F, b2n_0, Decidable.not_not, not_true_eq_false, not_false_eq_true, Nat.reduceAdd, Nat.reduceMul, Nat.reduceSub, ra_l hr, ra_s hr, t_23, b2n_t hf', t_26, h1', t36, er, t36b]
theorem t_168b {a : Int32} (hd : D 4 ≤ 36) (h4 : 0 < D 4) (h : a < nI 0 ∨ (¬ a < nI 0 ∧ nI (D 4 - 1) < a)) : aMm ko d 168 [.ref 0, .ref 20, .int a] (hp D N I J x) Q = Q (some (.int (-1))) (hp D N I J x) := by
  rw [me_168]
  simp (disch := (first | omega | exact aCat_8 (by with_unfolding_all rfl) | exact rk_lt (by with_unfolding_all rfl) | exact aCat_16 (by with_unfolding_all rfl) | exact rk_eq (by with_unfolding_all rfl) | assumption | exact b2n_lt _ | exact id_b (by with_unfolding_all rfl) | (simp (disch := omega) only [u2_same, u2_ab, u2_aq]; done) | (simp (disch := omega) only [u2_same, u2_ab, u2_aq]; omega) | fail)) only [al_10752, wp_aloadr_0, wp_aloadk_0, hg_0_2, wp_iload_2, wc_242, wz_ne_t, wz_ne_f, wb_ne_t, wb_ne_f, wm_ne_1, wm_ne_2, wk_m1, wp_ireturn, al_10753, wp_aloadr_1, wp_aloadk_1, hg_20_1, hg_22_1, hg_24_1, wc_161, t_161, wc_122, wk_8, wn_lt_t, wn_lt_f, wk_m2, al_10754, wp_dupi, wp_dupr, wl_1, wp_lshl, wp_lxor, hp_20_1, hp_22_1, hp_24_1, nl_i, nl_r, nl_k, nl_j, nl_l, nI_add, pk_mul, pk_sub, tl_s, tl_n, aL_inl, u2_same, u2_ab, u2_aq, nI_l, lN_i, Nat.add_zero, Nat.zero_add, Nat.zero_le, true_and, and_true, b2n_10, b2n_T, b2n_F, b2n_0, Decidable.not_not, not_true_eq_false, not_false_eq_true, Nat.reduceAdd, Nat.reduceMul, Nat.reduceSub, t_242x hd h4 h]
theorem t_51b {a : Int32} (hF : D 0 * D 1 ≤ 36) (h4 : 0 < D 0 * D 1) (h : a < nI 0 ∨ (¬ a < nI 0 ∧ nI (D 0 * D 1 - 1) < a)) : aMm ko d 51 [.ref 86, .ref 89, .int a] (hp D N I J x) Q = Q (some (.int (-1))) (hp D N I J x) := by
  rw [me_51]
  simp (disch := (first | omega | exact aCat_8 (by with_unfolding_all rfl) | exact rk_lt (by with_unfolding_all rfl) | exact aCat_16 (by with_unfolding_all rfl) | exact rk_eq (by with_unfolding_all rfl) | assumption | exact b2n_lt _ | exact id_b (by with_unfolding_all rfl) | (simp (disch := omega) only [u2_same, u2_ab, u2_aq]; done) | (simp (disch := omega) only [u2_same, u2_ab, u2_aq]; omega) | fail)) only [al_3264, wp_aloadr_0, wp_aloadk_0, wp_iload_2, wc_23, wz_ne_t, wz_ne_f, wb_ne_t, wb_ne_f, wm_ne_1, wm_ne_2, wk_m1, wp_ireturn, al_3265, wp_aloadr_1, wp_aloadk_1, wc_26, wk_36, wc_36, wk_8, wn_ne_t, wn_ne_f, wk_m2, al_3266, wp_iadd, wk_1, wp_isub, nl_i, nl_r, nl_k, nl_j, nl_l, nI_add, pk_mul, pk_sub, tl_s, tl_n, aL_inl, u2_same, u2_ab, u2_aq, nI_l, lN_i, Nat.add_zero, Nat.zero_add, Nat.zero_le, true_and, and_true, b2n_10, b2n_T, b2n_F, b2n_0, Decidable.not_not, not_true_eq_false, not_false_eq_true, Nat.reduceAdd, Nat.reduceMul, Nat.reduceSub, t_23x hF h4 h]
theorem o_wall {a : Int32} (h : inv D N I J t) : opO ko d 167 50 [.int a] D N I J x (t + 300) := by
  have hF := dm_F h.1.1.1
  have h4 := inv_d4 h.1
  have h89 := h.1.2.2.2.2.1
  have hu := h.1.2.2.2.2.2.1
  have hbf := bf_n h.1
  have h8 := h89.2.2.1.2
  have hzs : sumR (fun q => N 89 (36 + q)) 36 = sumR (fun q => N 89 (36 + q)) (D 0 * D 1) := sumR_z 36 hF.1 (fun q z1 z2 => (h89.2.1 q z1 z2).2.1)
  have hn1 : cpS N 22 20 32 1 < 15 := by rw [cp_N (by decide) (by decide)]; exact hu.2.2.1
  have hn2 : cpS N 22 20 32 2 ≤ 15 := by rw [cp_N (by decide) (by decide), hu.1]; exact hu.2.1
  have hno : ∀ v : Int32, v < 0 → (∀ Q : Option Value → aH → Prop, aMm ko d 168 [.ref 0, .ref 20, .int a] (hp D (cpS N 22 20) I (cpJ J 22 20) x) Q = Q (some (.int v)) (hp D (cpS N 22 20) I (cpJ J 22 20) x)) → (∀ N1 J1, (∀ b q, 86 ≤ b → N1 b q = N b q) → ∀ Q : Option Value → aH → Prop, aMm ko d 51 [.ref 86, .ref 89, .int a] (hp D (pbN N1) I J1 x) Q = Q (some (.int v)) (hp D (pbN N1) I J1 x)) → opO ko d 167 50 [.int a] D N I J x (t + 300) := by
    intro v hv hc hr
    refine o_ref (v := v) h ?_ ?_
    · intro Q hQ
      rw [me_167]
      simp (disch := (first | omega | exact aCat_8 (by with_unfolding_all rfl) | exact rk_lt (by with_unfolding_all rfl) | exact aCat_16 (by with_unfolding_all rfl) | exact rk_eq (by with_unfolding_all rfl) | assumption | exact b2n_lt _ | exact id_b (by with_unfolding_all rfl) | (simp (disch := omega) only [u2_same, u2_ab, u2_aq]; done) | (simp (disch := omega) only [u2_same, u2_ab, u2_aq]; omega) | fail)) only [al_10688, wp_aloadr_0, wp_aloadk_0, hg_0_8, hg_0_7, wp_iload_1, wc_168, wc_164, wp_ireturn, nl_i, nl_r, nl_k, nl_j, nl_l, nI_add, pk_mul, pk_sub, tl_s, tl_n, aL_inl, u2_same, u2_ab, u2_aq, nI_l, lN_i, Nat.add_zero, Nat.zero_add, Nat.zero_le, true_and, and_true, b2n_10, b2n_T, b2n_F, b2n_0, Decidable.not_not, not_true_eq_false, not_false_eq_true, Nat.reduceAdd, Nat.reduceMul, Nat.reduceSub, wc_283 (m := 22) rfl, t_283 (s := 22) (s' := 20) rfl rfl (by decide), hc, t_164b hv]
      exact hQ
    · intro N1 J1 hN1 Q hQ
      have hu1 : N1 86 26 ≤ 15 := by rw [hN1 86 26 (by decide)]; exact hu.2.1
      rw [me_50]
      simp (disch := (first | omega | exact aCat_8 (by with_unfolding_all rfl) | exact rk_lt (by with_unfolding_all rfl) | exact aCat_16 (by with_unfolding_all rfl) | exact rk_eq (by with_unfolding_all rfl) | assumption | exact b2n_lt _ | exact id_b (by with_unfolding_all rfl) | (simp (disch := omega) only [u2_same, u2_ab, u2_aq]; done) | (simp (disch := omega) only [u2_same, u2_ab, u2_aq]; omega) | fail)) only [al_3200, wp_aloadr_0, wp_aloadk_0, wk_0, hp_86_0, wc_39, hg_86_8, ha_89l, ha_89s, wp_iload_1, wc_51, wc_47, wp_ireturn, nl_i, nl_r, nl_k, nl_j, nl_l, nI_add, pk_mul, pk_sub, tl_s, tl_n, aL_inl, u2_same, u2_ab, u2_aq, nI_l, lN_i, Nat.add_zero, Nat.zero_add, Nat.zero_le, true_and, and_true, b2n_10, b2n_T, b2n_F, b2n_0, Decidable.not_not, not_true_eq_false, not_false_eq_true, Nat.reduceAdd, Nat.reduceMul, Nat.reduceSub, pb_t39 hu1, hr N1 J1 hN1, t_47b hv]
      exact hQ
  rcases rng3 a 0 (b := D 0 * D 1 - 1) (by decide) (by omega) with ⟨f, _, hf, rfl⟩ | hbad
  · have hf' : f < D 0 * D 1 := by omega
    have hw1 := (h89.1.1 f (by omega)).2.1
    have e89 : ∀ N1 : Nat → Nat → Nat, (∀ b q, 86 ≤ b → N1 b q = N b q) → pbN N1 89 = N 89 := fun N1 hN1 => by rw [pb_89]; funext q; exact hN1 89 q (by decide)
    by_cases hfull : N 89 (36 + f) = 0 ∧ sumR (fun q => N 89 (36 + q)) (D 0 * D 1) = 8
    · refine hno (-2) (by decide) (fun Q => t_168f (s := 20) (S := N 89) rfl (by omega) (by omega) hbf h89.1 (by rw [h4]; exact h89.2.1) hfull.1 (by rw [h4]; exact hfull.2)) ?_
      intro N1 J1 hN1 Q
      exact t_51f (r := 89) (Or.inl rfl) hF.1 hf' (by rw [e89 N1 hN1]; exact hfull.1) (by rw [e89 N1 hN1]; exact hfull.2)
    · have h8' : N 89 (36 + f) = 0 → sumR (fun q => N 89 (36 + q)) (D 0 * D 1) < 8 := by
        intro z
        have : ¬ sumR (fun q => N 89 (36 + q)) (D 0 * D 1) = 8 := fun y => hfull ⟨z, y⟩
        omega
      have hup := rw_wall h89.1 h89.2.1 hf' hF.1 (v := 1 - N 89 (36 + f)) (by omega)
      have hsum := w_sum (S := N 89) (f := f) (v := 1 - N 89 (36 + f)) (n := D 0 * D 1) hf'
      have hsum36 := w_sum (S := N 89) (f := f) (v := 1 - N 89 (36 + f)) (n := 36) (by omega)
      have hle : sumR (fun q => upn (N 89) (36 + f) (1 - N 89 (36 + f)) (36 + q)) (D 0 * D 1) < 2147483648 := by omega
      refine o_gen (v := .int (nI (sumR (fun q => upn (N 89) (36 + f) (1 - N 89 (36 + f)) (36 + q)) (D 0 * D 1)))) (S' := upn (N 89) (36 + f) (1 - N 89 (36 + f))) (M := cpS N 22 20) (Jm := u2 (cpJ J 22 20) 20 1 (cpJ J 22 20 20 1 ^^^ lN 1 <<< (lN f &&& 63))) h ⟨hup.1, hup.2, by rw [upn, if_neg (by omega)]; have := h89.2.2.1; omega, by omega⟩ (fun _ _ _ _ => rfl) (fun b q z => u2_ab z) (cl_wall hbf (by omega) hw1) ?_ ?_
      · intro Q hQ
        have t168 := fun Q => @t_168g ko d D (cpS N 22 20) I (cpJ J 22 20) x Q 20 f rfl (N 89) (by omega) (by omega) hbf h89.1 (by rw [h4]; exact h89.2.1) (by rw [h4]; exact h8')
        rw [h4] at t168
        rw [me_167]
        simp (disch := (first | omega | exact aCat_8 (by with_unfolding_all rfl) | exact rk_lt (by with_unfolding_all rfl) | exact aCat_16 (by with_unfolding_all rfl) | exact rk_eq (by with_unfolding_all rfl) | assumption | exact b2n_lt _ | exact id_b (by with_unfolding_all rfl) | (simp (disch := omega) only [u2_same, u2_ab, u2_aq]; done) | (simp (disch := omega) only [u2_same, u2_ab, u2_aq]; omega) | fail)) only [al_10688, wp_aloadr_0, wp_aloadk_0, hg_0_8, hg_0_7, wp_iload_1, wc_168, wc_164, wp_ireturn, nl_i, nl_r, nl_k, nl_j, nl_l, nI_add, pk_mul, pk_sub, tl_s, tl_n, aL_inl, u2_same, u2_ab, u2_aq, nI_l, lN_i, Nat.add_zero, Nat.zero_add, Nat.zero_le, true_and, and_true, b2n_10, b2n_T, b2n_F, b2n_0, Decidable.not_not, not_true_eq_false, not_false_eq_true, Nat.reduceAdd, Nat.reduceMul, Nat.reduceSub, wc_283 (m := 22) rfl, t_283 (s := 22) (s' := 20) rfl rfl (by decide), t168, t_164g hle hn1 hn2]
        exact hQ
      · intro N1 I1 J1 hN1 Q hQ
        have hu1 : N1 86 26 ≤ 15 := by rw [hN1 86 26 (by decide)]; exact hu.2.1
        have eR := e89 N1 hN1
        have t51 := fun Q => @t_51g ko d D (pbN N1) I1 J1 x Q 89 f (Or.inl rfl) hF.1 hf' (by rw [eR]; exact hw1) (by rw [eR]; exact h8')
        rw [eR] at t51
        have hu2 : setRow (pbN N1) 89 (upn (N 89) (36 + f) (1 - N 89 (36 + f))) 86 26 ≤ 15 := by rw [setRow_n (by decide), pb_26]; exact hu1
        rw [me_50]
        simp (disch := (first | omega | exact aCat_8 (by with_unfolding_all rfl) | exact rk_lt (by with_unfolding_all rfl) | exact aCat_16 (by with_unfolding_all rfl) | exact rk_eq (by with_unfolding_all rfl) | assumption | exact b2n_lt _ | exact id_b (by with_unfolding_all rfl) | (simp (disch := omega) only [u2_same, u2_ab, u2_aq]; done) | (simp (disch := omega) only [u2_same, u2_ab, u2_aq]; omega) | fail)) only [al_3200, wp_aloadr_0, wp_aloadk_0, wk_0, hp_86_0, wc_39, hg_86_8, ha_89l, ha_89s, wp_iload_1, wc_51, wc_47, wp_ireturn, nl_i, nl_r, nl_k, nl_j, nl_l, nI_add, pk_mul, pk_sub, tl_s, tl_n, aL_inl, u2_same, u2_ab, u2_aq, nI_l, lN_i, Nat.add_zero, Nat.zero_add, Nat.zero_le, true_and, and_true, b2n_10, b2n_T, b2n_F, b2n_0, Decidable.not_not, not_true_eq_false, not_false_eq_true, Nat.reduceAdd, Nat.reduceMul, Nat.reduceSub, pb_t39 hu1, t51, t_47g hle hu2]
        exact hQ
  · refine hno (-1) (by decide) (fun Q => t_168b (by omega) (by omega) (by rw [h4]; exact hbad)) ?_
    intro N1 J1 hN1 Q
    exact t_51b hF.1 (by omega) hbad
end W1
