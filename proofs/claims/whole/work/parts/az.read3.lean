/-! rules: the class reads, on. From wip/whole/src. -/
section RC
variable {ko : aKo} {d k : Nat} {is : List Instr} {ls st : List Value} {σ : aH} {D : Nat → Nat} {N : Nat → Nat → Nat} {I : Nat → Nat → Int32} {J : Nat → Nat → Int64} {x t : Nat} {Q : Option Value → aH → Prop} {P : (Option Value ⊕ Unit) → aH → Prop}
/-- what a sign's taking promises -/
def tkS (Q : Option Value → aH → Prop) (D : Nat → Nat) (N : Nat → Nat → Nat) (I : Nat → Nat → Int32) (J : Nat → Nat → Int64) (x : Nat) (r : Option rdS) : Prop := (∀ (s' : rdS) (N' : Nat → Nat → Nat) (I' : Nat → Nat → Int32), r = some s' → rdC N' I' s' → fr17 N' N → fr18 I' I → Q (some (.int (nI 1))) (hp D N' I' J x)) ∧ (r = none → ∀ (N' : Nat → Nat → Nat) (I' : Nat → Nat → Int32), fr17 N' N → fr18 I' I → Q (some (.int (nI 0))) (hp D N' I' J x))
theorem t_272 {o w : List Nat} {ne dg c : Nat} {wa : Bool} (hv : vS (o, w, ne, dg, wa)) (h : rdC N I (o, w, ne, dg, wa)) (hl : o.length + w.length < 40) (hc : isD c = true) (hQ : tkS Q D N I J x (stp (o, w, ne, dg, wa) c)) : aMm ko d 272 [.ref 17, .int (nI (c - 48))] (hp D N I J x) Q := by
  have hd := isD_iff.mp hc
  obtain ⟨h1, h2, h3, h4, h5, h6, h7⟩ := id h
  dsimp only at h1 h2 h3 h4 h5 h6 h7
  rw [me_272]
  cases wa with
  | true =>
    rw [b2n_t rfl] at h7
    have hx := hQ.1 _ _ _ (stp_d1 hc) (rd_a (v := 0) (wb := false) (rd_d (dg' := 1) (rd_o (c := c - 48) h (enc_t (by omega)).symm)) rfl) (fr17_t fr17_u (fr17_t fr17_u fr17_u)) fr18_8
    have t273 := fun Q => t_273 (ko := ko) (d := d) (D := D) (N := N) (I := I) (J := J) (x := x) (Q := Q) (v := nI (c - 48)) h1 (show o.length < 40 by omega)
    simp (disch := (first | omega | exact aCat_8 (by with_unfolding_all rfl) | exact rk_lt (by with_unfolding_all rfl) | exact aCat_16 (by with_unfolding_all rfl) | exact rk_eq (by with_unfolding_all rfl) | assumption | exact b2n_lt _ | exact id_b (by with_unfolding_all rfl) | (simp (disch := omega) only [u2_same, u2_ab, u2_aq]; done) | (simp (disch := omega) only [u2_same, u2_ab, u2_aq]; omega) | fail)) only [al_17408, wp_aloadr_0, wp_aloadk_0, hg_17_6, wz_eq_t, wz_eq_f, wb_eq_t, wb_eq_f, wm_eq_1, wm_eq_2, wp_iload_1, wc_273, wk_1, hp_17_5, wk_0, hp_17_6, wp_freturn0, wp_freturn1, wp_freturnb, al_17409, hg_17_5, wk_3, wn_ge_t, wn_ge_f, hg_17_2, wp_jsr, al_17410, al_17411, hg_17_0, ha_18l, ha_18s, wp_isub, wk_10, wp_imul, wp_iadd, wp_dupi, wp_dupr, nl_i, nl_r, nl_k, nl_j, nl_l, nI_add, pk_mul, pk_sub, tl_s, tl_n, aL_inl, u2_same, u2_ab, u2_aq, nI_l, lN_i, Nat.add_zero, Nat.zero_add, Nat.zero_le, true_and, and_true, b2n_10, b2n_T, b2n_F, b2n_0, Decidable.not_not, not_true_eq_false, not_false_eq_true, Nat.reduceAdd, Nat.reduceMul, Nat.reduceSub, h7, t273]
    exact hx
  | false =>
    have h7' : N 17 6 = 0 := h7
    by_cases z : dg = 0 ∨ 3 ≤ dg
    · have hx := hQ.2 (stp_d0 hc z) N I (fun _ _ _ => rfl) fr18_r
      rcases z with z | z
      · simp (disch := (first | omega | exact aCat_8 (by with_unfolding_all rfl) | exact rk_lt (by with_unfolding_all rfl) | exact aCat_16 (by with_unfolding_all rfl) | exact rk_eq (by with_unfolding_all rfl) | assumption | exact b2n_lt _ | exact id_b (by with_unfolding_all rfl) | (simp (disch := omega) only [u2_same, u2_ab, u2_aq]; done) | (simp (disch := omega) only [u2_same, u2_ab, u2_aq]; omega) | fail)) only [al_17408, wp_aloadr_0, wp_aloadk_0, hg_17_6, wz_eq_t, wz_eq_f, wb_eq_t, wb_eq_f, wm_eq_1, wm_eq_2, wp_iload_1, wc_273, wk_1, hp_17_5, wk_0, hp_17_6, wp_freturn0, wp_freturn1, wp_freturnb, al_17409, hg_17_5, wk_3, wn_ge_t, wn_ge_f, hg_17_2, wp_jsr, al_17410, al_17411, hg_17_0, ha_18l, ha_18s, wp_isub, wk_10, wp_imul, wp_iadd, wp_dupi, wp_dupr, nl_i, nl_r, nl_k, nl_j, nl_l, nI_add, pk_mul, pk_sub, tl_s, tl_n, aL_inl, u2_same, u2_ab, u2_aq, nI_l, lN_i, Nat.add_zero, Nat.zero_add, Nat.zero_le, true_and, and_true, b2n_10, b2n_T, b2n_F, b2n_0, Decidable.not_not, not_true_eq_false, not_false_eq_true, Nat.reduceAdd, Nat.reduceMul, Nat.reduceSub, h7', h6]
        exact hx
      · have h6' : 3 ≤ N 17 5 := by omega
        have hdg : dg < 2147483648 := by
          rcases hv.2 with y | ⟨_, _, _, y⟩
          · have y : dg = 0 := y
            omega
          · have y : (dg = 1 ∧ _) ∨ (dg = 2 ∧ _) ∨ dg = 3 := y
            omega
        simp (disch := (first | omega | exact aCat_8 (by with_unfolding_all rfl) | exact rk_lt (by with_unfolding_all rfl) | exact aCat_16 (by with_unfolding_all rfl) | exact rk_eq (by with_unfolding_all rfl) | assumption | exact b2n_lt _ | exact id_b (by with_unfolding_all rfl) | (simp (disch := omega) only [u2_same, u2_ab, u2_aq]; done) | (simp (disch := omega) only [u2_same, u2_ab, u2_aq]; omega) | fail)) only [al_17408, wp_aloadr_0, wp_aloadk_0, hg_17_6, wz_eq_t, wz_eq_f, wb_eq_t, wb_eq_f, wm_eq_1, wm_eq_2, wp_iload_1, wc_273, wk_1, hp_17_5, wk_0, hp_17_6, wp_freturn0, wp_freturn1, wp_freturnb, al_17409, hg_17_5, wk_3, wn_ge_t, wn_ge_f, hg_17_2, wp_jsr, al_17410, al_17411, hg_17_0, ha_18l, ha_18s, wp_isub, wk_10, wp_imul, wp_iadd, wp_dupi, wp_dupr, nl_i, nl_r, nl_k, nl_j, nl_l, nI_add, pk_mul, pk_sub, tl_s, tl_n, aL_inl, u2_same, u2_ab, u2_aq, nI_l, lN_i, Nat.add_zero, Nat.zero_add, Nat.zero_le, true_and, and_true, b2n_10, b2n_T, b2n_F, b2n_0, Decidable.not_not, not_true_eq_false, not_false_eq_true, Nat.reduceAdd, Nat.reduceMul, Nat.reduceSub, h7', h6]
        exact hx
    · cases o with
      | nil =>
        rcases hv.2 with y | ⟨_, _, y, _⟩
        · exact absurd (Or.inl y) z
        · cases y
      | cons a o =>
        have ha : a < 100 := by
          rcases hv.2 with y | ⟨a', o', y1, y2⟩
          · exact absurd (Or.inl y) z
          · cases y1
            have y2 : (dg = 1 ∧ a < 10) ∨ (dg = 2 ∧ a < 100) ∨ dg = 3 := y2
            omega
        have e18 : I 18 o.length = nI a := h2.1.trans (enc_t (by omega))
        have h1' : N 17 2 = o.length + 1 := h1
        have hl' : o.length + 1 + w.length < 40 := hl
        have hR : rdC (u2 N 17 5 (dg + 1)) (u2 I 18 o.length (nI (a * 10 + (c - 48)))) ((a * 10 + (c - 48)) :: o, w, ne, dg + 1, false) := by
          refine ⟨(u2_aq (by decide)).trans h1, ⟨by rw [u2_same]; exact (enc_t (by omega)).symm, stk_f (fun q hq => u2_aq (by omega)) h2.2⟩, (u2_aq (by decide)).trans h3, ?_, (u2_aq (by decide)).trans h5, u2_same _ _ _ _, (u2_aq (by decide)).trans h7⟩
          rw [u2_nb (by decide)]
          exact h4
        have hx := hQ.1 _ _ _ (stp_d2 hc (by omega) (by omega)) hR fr17_u fr18_8
        simp (disch := (first | omega | exact aCat_8 (by with_unfolding_all rfl) | exact rk_lt (by with_unfolding_all rfl) | exact aCat_16 (by with_unfolding_all rfl) | exact rk_eq (by with_unfolding_all rfl) | assumption | exact b2n_lt _ | exact id_b (by with_unfolding_all rfl) | (simp (disch := omega) only [u2_same, u2_ab, u2_aq]; done) | (simp (disch := omega) only [u2_same, u2_ab, u2_aq]; omega) | fail)) only [al_17408, wp_aloadr_0, wp_aloadk_0, hg_17_6, wz_eq_t, wz_eq_f, wb_eq_t, wb_eq_f, wm_eq_1, wm_eq_2, wp_iload_1, wc_273, wk_1, hp_17_5, wk_0, hp_17_6, wp_freturn0, wp_freturn1, wp_freturnb, al_17409, hg_17_5, wk_3, wn_ge_t, wn_ge_f, hg_17_2, wp_jsr, al_17410, al_17411, hg_17_0, ha_18l, ha_18s, wp_isub, wk_10, wp_imul, wp_iadd, wp_dupi, wp_dupr, nl_i, nl_r, nl_k, nl_j, nl_l, nI_add, pk_mul, pk_sub, tl_s, tl_n, aL_inl, u2_same, u2_ab, u2_aq, nI_l, lN_i, Nat.add_zero, Nat.zero_add, Nat.zero_le, true_and, and_true, b2n_10, b2n_T, b2n_F, b2n_0, Decidable.not_not, not_true_eq_false, not_false_eq_true, Nat.reduceAdd, Nat.reduceMul, Nat.reduceSub, h7', h6, h1', e18, Nat.add_sub_cancel]
        exact hx
theorem t_274 {o w : List Nat} {ne dg c : Nat} (hk : koT ko) (h : rdC N I (o, w, ne, 0, true)) (hl : o.length + w.length < 40) (hne : ne ≤ 4) (hc : c < 256) (hnd : isD c = false) (hQ : tkS Q D N I J x (stp (o, w, ne, dg, true) c)) : aMm ko d 274 [.ref 17, .int (nI c)] (hp D N I J x) Q := by
  obtain ⟨h1, h2, h3, h4, h5, h6, h7⟩ := id h
  dsimp only at h1 h2 h3 h4 h5 h6 h7
  have t275 := fun (v : Int32) Q => t_275 (ko := ko) (d := d) (D := D) (N := N) (I := I) (J := J) (x := x) (Q := Q) (v := v) h3 (show w.length < 40 by omega)
  rw [me_274]
  by_cases z1 : c = 45
  · subst z1
    have hx := hQ.1 _ _ _ stp_m (rd_w (c := 3000) h (show (-1 : Int32) = enc 3000 from rfl)) fr17_u fr18_9
    simp (disch := (first | omega | exact aCat_8 (by with_unfolding_all rfl) | exact rk_lt (by with_unfolding_all rfl) | exact aCat_16 (by with_unfolding_all rfl) | exact rk_eq (by with_unfolding_all rfl) | assumption | exact b2n_lt _ | exact id_b (by with_unfolding_all rfl) | (simp (disch := omega) only [u2_same, u2_ab, u2_aq]; done) | (simp (disch := omega) only [u2_same, u2_ab, u2_aq]; omega) | fail)) only [al_17536, wp_iload_1, wk_45, wn_ne_t, wn_ne_f, wp_aloadr_0, wp_aloadk_0, wk_m1, wc_275, wk_1, wp_freturn0, wp_freturn1, wp_freturnb, al_17537, wk_40, hg_17_4, wk_4, wn_lt_t, wn_lt_f, wk_0, al_17538, wp_dupi, wp_dupr, wp_iadd, hp_17_4, al_17539, wp_ldc, wp_istore_2, wp_iload_2, wz_ge_t, wz_ge_f, wm_ge_1, wm_ge_2, al_17540, wk_1000, wc_273, hp_17_6, nl_i, nl_r, nl_k, nl_j, nl_l, nI_add, pk_mul, pk_sub, tl_s, tl_n, aL_inl, u2_same, u2_ab, u2_aq, nI_l, lN_i, Nat.add_zero, Nat.zero_add, Nat.zero_le, true_and, and_true, b2n_10, b2n_T, b2n_F, b2n_0, Decidable.not_not, not_true_eq_false, not_false_eq_true, Nat.reduceAdd, Nat.reduceMul, Nat.reduceSub, t275]
    exact hx
  · by_cases z2 : c = 40
    · subst z2
      by_cases z3 : ne < 4
      · have hx := hQ.1 _ _ _ (stp_l z3) (rd_w (c := 0) (rd_n (ne' := ne + 1) h) (show nI 0 = enc 0 from rfl)) (fr17_t fr17_u fr17_u) fr18_9
        have t275' := fun Q => t_275 (ko := ko) (d := d) (D := D) (N := u2 N 17 4 (ne + 1)) (I := I) (J := J) (x := x) (Q := Q) (v := nI 0) ((u2_aq (by decide)).trans h3) (show w.length < 40 by omega)
        simp (disch := (first | omega | exact aCat_8 (by with_unfolding_all rfl) | exact rk_lt (by with_unfolding_all rfl) | exact aCat_16 (by with_unfolding_all rfl) | exact rk_eq (by with_unfolding_all rfl) | assumption | exact b2n_lt _ | exact id_b (by with_unfolding_all rfl) | (simp (disch := omega) only [u2_same, u2_ab, u2_aq]; done) | (simp (disch := omega) only [u2_same, u2_ab, u2_aq]; omega) | fail)) only [al_17536, wp_iload_1, wk_45, wn_ne_t, wn_ne_f, wp_aloadr_0, wp_aloadk_0, wk_m1, wc_275, wk_1, wp_freturn0, wp_freturn1, wp_freturnb, al_17537, wk_40, hg_17_4, wk_4, wn_lt_t, wn_lt_f, wk_0, al_17538, wp_dupi, wp_dupr, wp_iadd, hp_17_4, al_17539, wp_ldc, wp_istore_2, wp_iload_2, wz_ge_t, wz_ge_f, wm_ge_1, wm_ge_2, al_17540, wk_1000, wc_273, hp_17_6, nl_i, nl_r, nl_k, nl_j, nl_l, nI_add, pk_mul, pk_sub, tl_s, tl_n, aL_inl, u2_same, u2_ab, u2_aq, nI_l, lN_i, Nat.add_zero, Nat.zero_add, Nat.zero_le, true_and, and_true, b2n_10, b2n_T, b2n_F, b2n_0, Decidable.not_not, not_true_eq_false, not_false_eq_true, Nat.reduceAdd, Nat.reduceMul, Nat.reduceSub, h5, t275']
        exact hx
      · have hx := hQ.2 (stp_l4 (by omega)) N I (fun _ _ _ => rfl) fr18_r
        simp (disch := (first | omega | exact aCat_8 (by with_unfolding_all rfl) | exact rk_lt (by with_unfolding_all rfl) | exact aCat_16 (by with_unfolding_all rfl) | exact rk_eq (by with_unfolding_all rfl) | assumption | exact b2n_lt _ | exact id_b (by with_unfolding_all rfl) | (simp (disch := omega) only [u2_same, u2_ab, u2_aq]; done) | (simp (disch := omega) only [u2_same, u2_ab, u2_aq]; omega) | fail)) only [al_17536, wp_iload_1, wk_45, wn_ne_t, wn_ne_f, wp_aloadr_0, wp_aloadk_0, wk_m1, wc_275, wk_1, wp_freturn0, wp_freturn1, wp_freturnb, al_17537, wk_40, hg_17_4, wk_4, wn_lt_t, wn_lt_f, wk_0, al_17538, wp_dupi, wp_dupr, wp_iadd, hp_17_4, al_17539, wp_ldc, wp_istore_2, wp_iload_2, wz_ge_t, wz_ge_f, wm_ge_1, wm_ge_2, al_17540, wk_1000, wc_273, hp_17_6, nl_i, nl_r, nl_k, nl_j, nl_l, nI_add, pk_mul, pk_sub, tl_s, tl_n, aL_inl, u2_same, u2_ab, u2_aq, nI_l, lN_i, Nat.add_zero, Nat.zero_add, Nat.zero_le, true_and, and_true, b2n_10, b2n_T, b2n_F, b2n_0, Decidable.not_not, not_true_eq_false, not_false_eq_true, Nat.reduceAdd, Nat.reduceMul, Nat.reduceSub, h5]
        exact hx
    · cases ht : thg c with
      | none =>
        have hx := hQ.2 (stp_tn hnd z1 z2 ht) N I (fun _ _ _ => rfl) fr18_r
        simp (disch := (first | omega | exact aCat_8 (by with_unfolding_all rfl) | exact rk_lt (by with_unfolding_all rfl) | exact aCat_16 (by with_unfolding_all rfl) | exact rk_eq (by with_unfolding_all rfl) | assumption | exact b2n_lt _ | exact id_b (by with_unfolding_all rfl) | (simp (disch := omega) only [u2_same, u2_ab, u2_aq]; done) | (simp (disch := omega) only [u2_same, u2_ab, u2_aq]; omega) | fail)) only [al_17536, wp_iload_1, wk_45, wn_ne_t, wn_ne_f, wp_aloadr_0, wp_aloadk_0, wk_m1, wc_275, wk_1, wp_freturn0, wp_freturn1, wp_freturnb, al_17537, wk_40, hg_17_4, wk_4, wn_lt_t, wn_lt_f, wk_0, al_17538, wp_dupi, wp_dupr, wp_iadd, hp_17_4, al_17539, wp_ldc, wp_istore_2, wp_iload_2, wz_ge_t, wz_ge_f, wm_ge_1, wm_ge_2, al_17540, wk_1000, wc_273, hp_17_6, nl_i, nl_r, nl_k, nl_j, nl_l, nI_add, pk_mul, pk_sub, tl_s, tl_n, aL_inl, u2_same, u2_ab, u2_aq, nI_l, lN_i, Nat.add_zero, Nat.zero_add, Nat.zero_le, true_and, and_true, b2n_10, b2n_T, b2n_F, b2n_0, Decidable.not_not, not_true_eq_false, not_false_eq_true, Nat.reduceAdd, Nat.reduceMul, Nat.reduceSub, wp_sidx hk (show 2 ≤ 2 by decide) (by decide), ix_no hk hc ht]
        exact hx
      | some i =>
        have hi := (th_D ht).2.2.2
        have hx := hQ.1 _ _ _ (stp_t ht) (rd_a (v := 0) (wb := false) (rd_o (c := 1000 + i) h (enc_t (by omega)).symm) rfl) (fr17_t fr17_u fr17_u) fr18_8
        have t273 := fun Q => t_273 (ko := ko) (d := d) (D := D) (N := N) (I := I) (J := J) (x := x) (Q := Q) (v := nI (1000 + i)) h1 (show o.length < 40 by omega)
        simp (disch := (first | omega | exact aCat_8 (by with_unfolding_all rfl) | exact rk_lt (by with_unfolding_all rfl) | exact aCat_16 (by with_unfolding_all rfl) | exact rk_eq (by with_unfolding_all rfl) | assumption | exact b2n_lt _ | exact id_b (by with_unfolding_all rfl) | (simp (disch := omega) only [u2_same, u2_ab, u2_aq]; done) | (simp (disch := omega) only [u2_same, u2_ab, u2_aq]; omega) | fail)) only [al_17536, wp_iload_1, wk_45, wn_ne_t, wn_ne_f, wp_aloadr_0, wp_aloadk_0, wk_m1, wc_275, wk_1, wp_freturn0, wp_freturn1, wp_freturnb, al_17537, wk_40, hg_17_4, wk_4, wn_lt_t, wn_lt_f, wk_0, al_17538, wp_dupi, wp_dupr, wp_iadd, hp_17_4, al_17539, wp_ldc, wp_istore_2, wp_iload_2, wz_ge_t, wz_ge_f, wm_ge_1, wm_ge_2, al_17540, wk_1000, wc_273, hp_17_6, nl_i, nl_r, nl_k, nl_j, nl_l, nI_add, pk_mul, pk_sub, tl_s, tl_n, aL_inl, u2_same, u2_ab, u2_aq, nI_l, lN_i, Nat.add_zero, Nat.zero_add, Nat.zero_le, true_and, and_true, b2n_10, b2n_T, b2n_F, b2n_0, Decidable.not_not, not_true_eq_false, not_false_eq_true, Nat.reduceAdd, Nat.reduceMul, Nat.reduceSub, wp_sidx hk (show 2 ≤ 2 by decide) (by decide), ix_th hk ht, t273]
        exact hx
theorem enc_1 {j : Nat} (h : 2000 ≤ j ∧ j ≤ 2006) : ¬ enc j = nI 1 := by
  have h9 : j = 2000 ∨ j = 2001 ∨ j = 2002 ∨ j = 2003 ∨ j = 2004 ∨ j = 2005 ∨ j = 2006 := by omega
  rcases h9 with rfl | rfl | rfl | rfl | rfl | rfl | rfl <;> decide
theorem t_276 {o w : List Nat} {ne dg c : Nat} (hv : ∀ j, j ∈ w → jok j) (h : rdC N I (o, w, ne, 0, false)) (hl : o.length + w.length < 40) (hne : ne ≤ 4) (hc : c < 256) (hnd : isD c = false) (hQ : tkS Q D N I J x (stp (o, w, ne, dg, false) c)) : aMm ko d 276 [.ref 17, .int (nI c)] (hp D N I J x) Q := by
  obtain ⟨h1, h2, h3, h4, h5, h6, h7⟩ := id h
  dsimp only at h1 h2 h3 h4 h5 h6 h7
  rw [me_276]
  by_cases z1 : c = 41
  · subst z1
    by_cases z2 : ne = 0
    · subst z2
      have hx := hQ.2 stp_r0 N I (fun _ _ _ => rfl) fr18_r
      simp (disch := (first | omega | exact aCat_8 (by with_unfolding_all rfl) | exact rk_lt (by with_unfolding_all rfl) | exact aCat_16 (by with_unfolding_all rfl) | exact rk_eq (by with_unfolding_all rfl) | assumption | exact b2n_lt _ | exact id_b (by with_unfolding_all rfl) | (simp (disch := omega) only [u2_same, u2_ab, u2_aq]; done) | (simp (disch := omega) only [u2_same, u2_ab, u2_aq]; omega) | fail)) only [al_17664, wp_iload_1, wk_41, wn_ne_t, wn_ne_f, wp_aloadr_0, wp_aloadk_0, hg_17_4, wk_1, wn_ge_t, wn_ge_f, wk_0, wp_freturn0, wp_freturn1, wp_freturnb, al_17665, wp_dupi, wp_dupr, wp_isub, hp_17_4, wc_277, hg_17_3, wp_max, hp_17_3, al_17666, wc_279, wp_istore_2, wp_iload_2, al_17667, wk_2, wc_278, wz_le_t, wz_le_f, wm_le_1, wm_le_2, hg_17_1, ha_19l, ha_19s, al_17668, wc_275, hp_17_6, nl_i, nl_r, nl_k, nl_j, nl_l, nI_add, pk_mul, pk_sub, tl_s, tl_n, aL_inl, u2_same, u2_ab, u2_aq, nI_l, lN_i, Nat.add_zero, Nat.zero_add, Nat.zero_le, true_and, and_true, b2n_10, b2n_T, b2n_F, b2n_0, Decidable.not_not, not_true_eq_false, not_false_eq_true, Nat.reduceAdd, Nat.reduceMul, Nat.reduceSub, h5]
      exact hx
    · simp (disch := (first | omega | exact aCat_8 (by with_unfolding_all rfl) | exact rk_lt (by with_unfolding_all rfl) | exact aCat_16 (by with_unfolding_all rfl) | exact rk_eq (by with_unfolding_all rfl) | assumption | exact b2n_lt _ | exact id_b (by with_unfolding_all rfl) | (simp (disch := omega) only [u2_same, u2_ab, u2_aq]; done) | (simp (disch := omega) only [u2_same, u2_ab, u2_aq]; omega) | fail)) only [al_17664, wp_iload_1, wk_41, wn_ne_t, wn_ne_f, wp_aloadr_0, wp_aloadk_0, hg_17_4, wk_1, wn_ge_t, wn_ge_f, wk_0, wp_freturn0, wp_freturn1, wp_freturnb, al_17665, wp_dupi, wp_dupr, wp_isub, hp_17_4, wc_277, hg_17_3, wp_max, hp_17_3, al_17666, wc_279, wp_istore_2, wp_iload_2, al_17667, wk_2, wc_278, wz_le_t, wz_le_f, wm_le_1, wm_le_2, hg_17_1, ha_19l, ha_19s, al_17668, wc_275, hp_17_6, nl_i, nl_r, nl_k, nl_j, nl_l, nI_add, pk_mul, pk_sub, tl_s, tl_n, aL_inl, u2_same, u2_ab, u2_aq, nI_l, lN_i, Nat.add_zero, Nat.zero_add, Nat.zero_le, true_and, and_true, b2n_10, b2n_T, b2n_F, b2n_0, Decidable.not_not, not_true_eq_false, not_false_eq_true, Nat.reduceAdd, Nat.reduceMul, Nat.reduceSub, h5]
      refine t_277 (b := 1) (by decide) (rd_n (ne' := ne - 1) h) (by omega) hv ?_
      intro N1 I1 hr g1 g2
      have hlen := rp_len (b := 1) (w := w) (o := o)
      have r3 : N1 17 3 = (rpW 1 w).length := hr.2.2.1
      have hst := stp_r (o := o) (w := w) (dg := dg) (show 0 < ne by omega)
      cases hw : rpW 1 w with
      | nil =>
        rw [hw] at hr r3 hst
        have r3' : N1 17 3 = 0 := r3
        have hx := hQ.1 _ (u2 N1 17 3 0) I1 hst ⟨(u2_aq (by decide)).trans hr.1, hr.2.1, u2_same _ _ _ _, trivial, (u2_aq (by decide)).trans hr.2.2.2.2.1, (u2_aq (by decide)).trans hr.2.2.2.2.2.1, (u2_aq (by decide)).trans hr.2.2.2.2.2.2⟩ (fr17_t fr17_u (fr17_t g1 fr17_u)) g2
        have e1 : nI 0 - nI 1 = (-1 : Int32) := by decide
        simp (disch := (first | omega | exact aCat_8 (by with_unfolding_all rfl) | exact rk_lt (by with_unfolding_all rfl) | exact aCat_16 (by with_unfolding_all rfl) | exact rk_eq (by with_unfolding_all rfl) | assumption | exact b2n_lt _ | exact id_b (by with_unfolding_all rfl) | (simp (disch := omega) only [u2_same, u2_ab, u2_aq]; done) | (simp (disch := omega) only [u2_same, u2_ab, u2_aq]; omega) | fail)) only [al_17664, wp_iload_1, wk_41, wn_ne_t, wn_ne_f, wp_aloadr_0, wp_aloadk_0, hg_17_4, wk_1, wn_ge_t, wn_ge_f, wk_0, wp_freturn0, wp_freturn1, wp_freturnb, al_17665, wp_dupi, wp_dupr, wp_isub, hp_17_4, wc_277, hg_17_3, wp_max, hp_17_3, al_17666, wc_279, wp_istore_2, wp_iload_2, al_17667, wk_2, wc_278, wz_le_t, wz_le_f, wm_le_1, wm_le_2, hg_17_1, ha_19l, ha_19s, al_17668, wc_275, hp_17_6, nl_i, nl_r, nl_k, nl_j, nl_l, nI_add, pk_mul, pk_sub, tl_s, tl_n, aL_inl, u2_same, u2_ab, u2_aq, nI_l, lN_i, Nat.add_zero, Nat.zero_add, Nat.zero_le, true_and, and_true, b2n_10, b2n_T, b2n_F, b2n_0, Decidable.not_not, not_true_eq_false, not_false_eq_true, Nat.reduceAdd, Nat.reduceMul, Nat.reduceSub, r3', e1, wp_max_m1]
        exact hx
      | cons j w' =>
        rw [hw] at hr r3 hst
        rw [hw, List.length_cons] at hlen
        have r3' : N1 17 3 = w'.length + 1 := r3
        have hx := hQ.1 _ (u2 N1 17 3 w'.length) I1 hst (rd_p hr) (fr17_t fr17_u (fr17_t g1 fr17_u)) g2
        have e1 : max 0 w'.length = w'.length := by omega
        simp (disch := (first | omega | exact aCat_8 (by with_unfolding_all rfl) | exact rk_lt (by with_unfolding_all rfl) | exact aCat_16 (by with_unfolding_all rfl) | exact rk_eq (by with_unfolding_all rfl) | assumption | exact b2n_lt _ | exact id_b (by with_unfolding_all rfl) | (simp (disch := omega) only [u2_same, u2_ab, u2_aq]; done) | (simp (disch := omega) only [u2_same, u2_ab, u2_aq]; omega) | fail)) only [al_17664, wp_iload_1, wk_41, wn_ne_t, wn_ne_f, wp_aloadr_0, wp_aloadk_0, hg_17_4, wk_1, wn_ge_t, wn_ge_f, wk_0, wp_freturn0, wp_freturn1, wp_freturnb, al_17665, wp_dupi, wp_dupr, wp_isub, hp_17_4, wc_277, hg_17_3, wp_max, hp_17_3, al_17666, wc_279, wp_istore_2, wp_iload_2, al_17667, wk_2, wc_278, wz_le_t, wz_le_f, wm_le_1, wm_le_2, hg_17_1, ha_19l, ha_19s, al_17668, wc_275, hp_17_6, nl_i, nl_r, nl_k, nl_j, nl_l, nI_add, pk_mul, pk_sub, tl_s, tl_n, aL_inl, u2_same, u2_ab, u2_aq, nI_l, lN_i, Nat.add_zero, Nat.zero_add, Nat.zero_le, true_and, and_true, b2n_10, b2n_T, b2n_F, b2n_0, Decidable.not_not, not_true_eq_false, not_false_eq_true, Nat.reduceAdd, Nat.reduceMul, Nat.reduceSub, r3', Nat.add_sub_cancel, e1]
        exact hx
  · cases hj : jn c with
    | none =>
      have hx := hQ.2 (stp_jn hnd z1 hj) N I (fun _ _ _ => rfl) fr18_r
      simp (disch := (first | omega | exact aCat_8 (by with_unfolding_all rfl) | exact rk_lt (by with_unfolding_all rfl) | exact aCat_16 (by with_unfolding_all rfl) | exact rk_eq (by with_unfolding_all rfl) | assumption | exact b2n_lt _ | exact id_b (by with_unfolding_all rfl) | (simp (disch := omega) only [u2_same, u2_ab, u2_aq]; done) | (simp (disch := omega) only [u2_same, u2_ab, u2_aq]; omega) | fail)) only [al_17664, wp_iload_1, wk_41, wn_ne_t, wn_ne_f, wp_aloadr_0, wp_aloadk_0, hg_17_4, wk_1, wn_ge_t, wn_ge_f, wk_0, wp_freturn0, wp_freturn1, wp_freturnb, al_17665, wp_dupi, wp_dupr, wp_isub, hp_17_4, wc_277, hg_17_3, wp_max, hp_17_3, al_17666, wc_279, wp_istore_2, wp_iload_2, al_17667, wk_2, wc_278, wz_le_t, wz_le_f, wm_le_1, wm_le_2, hg_17_1, ha_19l, ha_19s, al_17668, wc_275, hp_17_6, nl_i, nl_r, nl_k, nl_j, nl_l, nI_add, pk_mul, pk_sub, tl_s, tl_n, aL_inl, u2_same, u2_ab, u2_aq, nI_l, lN_i, Nat.add_zero, Nat.zero_add, Nat.zero_le, true_and, and_true, b2n_10, b2n_T, b2n_F, b2n_0, Decidable.not_not, not_true_eq_false, not_false_eq_true, Nat.reduceAdd, Nat.reduceMul, Nat.reduceSub, t_279n hc hj]
      exact hx
    | some j =>
      obtain ⟨b1, b2, b3, b4⟩ := jn_b hj
      have hjk : jok j := Or.inr (Or.inr ⟨b3, b4⟩)
      have t278 := fun (σ : aH) Q => t_278 (ko := ko) (d := d) (σ := σ) (Q := Q) hjk
      simp (disch := (first | omega | exact aCat_8 (by with_unfolding_all rfl) | exact rk_lt (by with_unfolding_all rfl) | exact aCat_16 (by with_unfolding_all rfl) | exact rk_eq (by with_unfolding_all rfl) | assumption | exact b2n_lt _ | exact id_b (by with_unfolding_all rfl) | (simp (disch := omega) only [u2_same, u2_ab, u2_aq]; done) | (simp (disch := omega) only [u2_same, u2_ab, u2_aq]; omega) | fail)) only [al_17664, wp_iload_1, wk_41, wn_ne_t, wn_ne_f, wp_aloadr_0, wp_aloadk_0, hg_17_4, wk_1, wn_ge_t, wn_ge_f, wk_0, wp_freturn0, wp_freturn1, wp_freturnb, al_17665, wp_dupi, wp_dupr, wp_isub, hp_17_4, wc_277, hg_17_3, wp_max, hp_17_3, al_17666, wc_279, wp_istore_2, wp_iload_2, al_17667, wk_2, wc_278, wz_le_t, wz_le_f, wm_le_1, wm_le_2, hg_17_1, ha_19l, ha_19s, al_17668, wc_275, hp_17_6, nl_i, nl_r, nl_k, nl_j, nl_l, nI_add, pk_mul, pk_sub, tl_s, tl_n, aL_inl, u2_same, u2_ab, u2_aq, nI_l, lN_i, Nat.add_zero, Nat.zero_add, Nat.zero_le, true_and, and_true, b2n_10, b2n_T, b2n_F, b2n_0, Decidable.not_not, not_true_eq_false, not_false_eq_true, Nat.reduceAdd, Nat.reduceMul, Nat.reduceSub, t_279 hj, t278, wx_ne_t (enc_1 ⟨b3, b4⟩)]
      refine t_277 (b := max 2 (bnd j)) (by omega) h (by omega) hv ?_
      intro N1 I1 hr g1 g2
      have hlen := rp_len (b := max 2 (bnd j)) (w := w) (o := o)
      have r3 : N1 17 3 = (rpW (max 2 (bnd j)) w).length := hr.2.2.1
      have hst := stp_j (o := o) (w := w) (ne := ne) (dg := dg) hj
      have r4 : stk (I1 19) enc (rpW (max 2 (bnd j)) w) := hr.2.2.2.1
      have t275 := fun Q => t_275 (ko := ko) (d := d) (D := D) (N := N1) (I := I1) (J := J) (x := x) (Q := Q) (v := enc j) r3 (by omega)
      have hgo : ¬ (bnd j = 1 ∧ tp1 (rpW (max 2 (bnd j)) w) = true) → Q (some (.int (nI 1))) (hp D (u2 (u2 N1 17 3 ((rpW (max 2 (bnd j)) w).length + 1)) 17 6 1) (u2 I1 19 (rpW (max 2 (bnd j)) w).length (enc j)) J x) := by
        intro y
        rw [if_neg y] at hst
        exact hQ.1 _ _ _ hst (rd_a (v := 1) (wb := true) (rd_w (c := j) hr rfl) rfl) (fr17_t fr17_u (fr17_t fr17_u g1)) (fr18_t fr18_9 g2)
      have t278b := fun Q => t_278 (ko := ko) (d := d) (σ := hp D N1 I1 J x) (Q := Q) hjk
      by_cases y1 : bnd j = 1
      · cases hw : rpW (max 2 (bnd j)) w with
        | nil =>
          rw [hw] at r3 t275 hgo
          have r3' : N1 17 3 = 0 := r3
          have hx := hgo (fun y => by cases y.2)
          have t275' := fun Q => t_275 (ko := ko) (d := d) (D := D) (N := N1) (I := I1) (J := J) (x := x) (Q := Q) (v := enc j) r3' (by omega)
          simp (disch := (first | omega | exact aCat_8 (by with_unfolding_all rfl) | exact rk_lt (by with_unfolding_all rfl) | exact aCat_16 (by with_unfolding_all rfl) | exact rk_eq (by with_unfolding_all rfl) | assumption | exact b2n_lt _ | exact id_b (by with_unfolding_all rfl) | (simp (disch := omega) only [u2_same, u2_ab, u2_aq]; done) | (simp (disch := omega) only [u2_same, u2_ab, u2_aq]; omega) | fail)) only [al_17664, wp_iload_1, wk_41, wn_ne_t, wn_ne_f, wp_aloadr_0, wp_aloadk_0, hg_17_4, wk_1, wn_ge_t, wn_ge_f, wk_0, wp_freturn0, wp_freturn1, wp_freturnb, al_17665, wp_dupi, wp_dupr, wp_isub, hp_17_4, wc_277, hg_17_3, wp_max, hp_17_3, al_17666, wc_279, wp_istore_2, wp_iload_2, al_17667, wk_2, wc_278, wz_le_t, wz_le_f, wm_le_1, wm_le_2, hg_17_1, ha_19l, ha_19s, al_17668, wc_275, hp_17_6, nl_i, nl_r, nl_k, nl_j, nl_l, nI_add, pk_mul, pk_sub, tl_s, tl_n, aL_inl, u2_same, u2_ab, u2_aq, nI_l, lN_i, Nat.add_zero, Nat.zero_add, Nat.zero_le, true_and, and_true, b2n_10, b2n_T, b2n_F, b2n_0, Decidable.not_not, not_true_eq_false, not_false_eq_true, Nat.reduceAdd, Nat.reduceMul, Nat.reduceSub, t278b, y1, r3', t275']
          exact hx
        | cons j' w' =>
          rw [hw] at r3 r4 t275 hgo hst hlen
          rw [List.length_cons] at hlen
          have r3' : N1 17 3 = w'.length + 1 := r3
          have e19 : I1 19 w'.length = enc j' := r4.1
          have hj' : jok j' := hv j' (rpW_m (b := max 2 (bnd j)) (by rw [hw]; exact List.mem_cons_self ..))
          have t278c := fun Q => t_278 (ko := ko) (d := d) (σ := hp D N1 I1 J x) (Q := Q) hj'
          have hb' : bnd j' ≤ 4 := by
            unfold bnd
            split
            · omega
            · split
              · omega
              · split
                · omega
                · split <;> omega
          by_cases y2 : bnd j' = 1
          · rw [if_pos ⟨y1, decide_eq_true y2⟩] at hst
            have hx := hQ.2 hst N1 I1 g1 g2
            simp (disch := (first | omega | exact aCat_8 (by with_unfolding_all rfl) | exact rk_lt (by with_unfolding_all rfl) | exact aCat_16 (by with_unfolding_all rfl) | exact rk_eq (by with_unfolding_all rfl) | assumption | exact b2n_lt _ | exact id_b (by with_unfolding_all rfl) | (simp (disch := omega) only [u2_same, u2_ab, u2_aq]; done) | (simp (disch := omega) only [u2_same, u2_ab, u2_aq]; omega) | fail)) only [al_17664, wp_iload_1, wk_41, wn_ne_t, wn_ne_f, wp_aloadr_0, wp_aloadk_0, hg_17_4, wk_1, wn_ge_t, wn_ge_f, wk_0, wp_freturn0, wp_freturn1, wp_freturnb, al_17665, wp_dupi, wp_dupr, wp_isub, hp_17_4, wc_277, hg_17_3, wp_max, hp_17_3, al_17666, wc_279, wp_istore_2, wp_iload_2, al_17667, wk_2, wc_278, wz_le_t, wz_le_f, wm_le_1, wm_le_2, hg_17_1, ha_19l, ha_19s, al_17668, wc_275, hp_17_6, nl_i, nl_r, nl_k, nl_j, nl_l, nI_add, pk_mul, pk_sub, tl_s, tl_n, aL_inl, u2_same, u2_ab, u2_aq, nI_l, lN_i, Nat.add_zero, Nat.zero_add, Nat.zero_le, true_and, and_true, b2n_10, b2n_T, b2n_F, b2n_0, Decidable.not_not, not_true_eq_false, not_false_eq_true, Nat.reduceAdd, Nat.reduceMul, Nat.reduceSub, t278b, y1, r3', Nat.add_sub_cancel, e19, t278c]
            exact hx
          · have hx := hgo (fun y => y2 (of_decide_eq_true y.2))
            have t275' := fun Q => t_275 (ko := ko) (d := d) (D := D) (N := N1) (I := I1) (J := J) (x := x) (Q := Q) (v := enc j) r3' (by omega)
            simp (disch := (first | omega | exact aCat_8 (by with_unfolding_all rfl) | exact rk_lt (by with_unfolding_all rfl) | exact aCat_16 (by with_unfolding_all rfl) | exact rk_eq (by with_unfolding_all rfl) | assumption | exact b2n_lt _ | exact id_b (by with_unfolding_all rfl) | (simp (disch := omega) only [u2_same, u2_ab, u2_aq]; done) | (simp (disch := omega) only [u2_same, u2_ab, u2_aq]; omega) | fail)) only [al_17664, wp_iload_1, wk_41, wn_ne_t, wn_ne_f, wp_aloadr_0, wp_aloadk_0, hg_17_4, wk_1, wn_ge_t, wn_ge_f, wk_0, wp_freturn0, wp_freturn1, wp_freturnb, al_17665, wp_dupi, wp_dupr, wp_isub, hp_17_4, wc_277, hg_17_3, wp_max, hp_17_3, al_17666, wc_279, wp_istore_2, wp_iload_2, al_17667, wk_2, wc_278, wz_le_t, wz_le_f, wm_le_1, wm_le_2, hg_17_1, ha_19l, ha_19s, al_17668, wc_275, hp_17_6, nl_i, nl_r, nl_k, nl_j, nl_l, nI_add, pk_mul, pk_sub, tl_s, tl_n, aL_inl, u2_same, u2_ab, u2_aq, nI_l, lN_i, Nat.add_zero, Nat.zero_add, Nat.zero_le, true_and, and_true, b2n_10, b2n_T, b2n_F, b2n_0, Decidable.not_not, not_true_eq_false, not_false_eq_true, Nat.reduceAdd, Nat.reduceMul, Nat.reduceSub, t278b, y1, r3', Nat.add_sub_cancel, e19, t278c, t275']
            exact hx
      · have hx := hgo (fun y => y1 y.1)
        simp (disch := (first | omega | exact aCat_8 (by with_unfolding_all rfl) | exact rk_lt (by with_unfolding_all rfl) | exact aCat_16 (by with_unfolding_all rfl) | exact rk_eq (by with_unfolding_all rfl) | assumption | exact b2n_lt _ | exact id_b (by with_unfolding_all rfl) | (simp (disch := omega) only [u2_same, u2_ab, u2_aq]; done) | (simp (disch := omega) only [u2_same, u2_ab, u2_aq]; omega) | fail)) only [al_17664, wp_iload_1, wk_41, wn_ne_t, wn_ne_f, wp_aloadr_0, wp_aloadk_0, hg_17_4, wk_1, wn_ge_t, wn_ge_f, wk_0, wp_freturn0, wp_freturn1, wp_freturnb, al_17665, wp_dupi, wp_dupr, wp_isub, hp_17_4, wc_277, hg_17_3, wp_max, hp_17_3, al_17666, wc_279, wp_istore_2, wp_iload_2, al_17667, wk_2, wc_278, wz_le_t, wz_le_f, wm_le_1, wm_le_2, hg_17_1, ha_19l, ha_19s, al_17668, wc_275, hp_17_6, nl_i, nl_r, nl_k, nl_j, nl_l, nI_add, pk_mul, pk_sub, tl_s, tl_n, aL_inl, u2_same, u2_ab, u2_aq, nI_l, lN_i, Nat.add_zero, Nat.zero_add, Nat.zero_le, true_and, and_true, b2n_10, b2n_T, b2n_F, b2n_0, Decidable.not_not, not_true_eq_false, not_false_eq_true, Nat.reduceAdd, Nat.reduceMul, Nat.reduceSub, t278b, t275]
        exact hx
theorem t_271 {s : rdS} {c : Nat} (hk : koT ko) (hv : vS s) (h : rdC N I s) (hl : s.1.length + s.2.1.length < 40) (hne : s.2.2.1 ≤ 4) (hc : c < 256) (hQ : tkS Q D N I J x (stp s c)) : aMm ko d 271 [.ref 17, .int (nI c)] (hp D N I J x) Q := by
  obtain ⟨o, w, ne, dg, wa⟩ := s
  rw [me_271]
  cases hD : isD c with
  | true =>
    have hd := isD_iff.mp hD
    simp (disch := (first | omega | exact aCat_8 (by with_unfolding_all rfl) | exact rk_lt (by with_unfolding_all rfl) | exact aCat_16 (by with_unfolding_all rfl) | exact rk_eq (by with_unfolding_all rfl) | assumption | exact b2n_lt _ | exact id_b (by with_unfolding_all rfl) | (simp (disch := omega) only [u2_same, u2_ab, u2_aq]; done) | (simp (disch := omega) only [u2_same, u2_ab, u2_aq]; omega) | fail)) only [al_17344, wp_iload_1, wk_48, wn_lt_t, wn_lt_f, wk_57, wn_gt_t, wn_gt_f, wp_aloadr_0, wp_aloadk_0, wp_isub, wc_272, wp_freturn0, wp_freturn1, wp_freturnb, al_17345, wk_0, hp_17_5, hg_17_6, wz_eq_t, wz_eq_f, wb_eq_t, wb_eq_f, wm_eq_1, wm_eq_2, wc_274, wp_goto, al_17346, wc_276, wp_jsr, al_17347, nl_i, nl_r, nl_k, nl_j, nl_l, nI_add, pk_mul, pk_sub, tl_s, tl_n, aL_inl, u2_same, u2_ab, u2_aq, nI_l, lN_i, Nat.add_zero, Nat.zero_add, Nat.zero_le, true_and, and_true, b2n_10, b2n_T, b2n_F, b2n_0, Decidable.not_not, not_true_eq_false, not_false_eq_true, Nat.reduceAdd, Nat.reduceMul, Nat.reduceSub]
    refine t_272 hv h hl hD ⟨?_, ?_⟩
    · intro s' N' I' e1 e2 e3 e4
      have hx := hQ.1 s' N' I' e1 e2 e3 e4
      simp (disch := (first | omega | exact aCat_8 (by with_unfolding_all rfl) | exact rk_lt (by with_unfolding_all rfl) | exact aCat_16 (by with_unfolding_all rfl) | exact rk_eq (by with_unfolding_all rfl) | assumption | exact b2n_lt _ | exact id_b (by with_unfolding_all rfl) | (simp (disch := omega) only [u2_same, u2_ab, u2_aq]; done) | (simp (disch := omega) only [u2_same, u2_ab, u2_aq]; omega) | fail)) only [al_17344, wp_iload_1, wk_48, wn_lt_t, wn_lt_f, wk_57, wn_gt_t, wn_gt_f, wp_aloadr_0, wp_aloadk_0, wp_isub, wc_272, wp_freturn0, wp_freturn1, wp_freturnb, al_17345, wk_0, hp_17_5, hg_17_6, wz_eq_t, wz_eq_f, wb_eq_t, wb_eq_f, wm_eq_1, wm_eq_2, wc_274, wp_goto, al_17346, wc_276, wp_jsr, al_17347, nl_i, nl_r, nl_k, nl_j, nl_l, nI_add, pk_mul, pk_sub, tl_s, tl_n, aL_inl, u2_same, u2_ab, u2_aq, nI_l, lN_i, Nat.add_zero, Nat.zero_add, Nat.zero_le, true_and, and_true, b2n_10, b2n_T, b2n_F, b2n_0, Decidable.not_not, not_true_eq_false, not_false_eq_true, Nat.reduceAdd, Nat.reduceMul, Nat.reduceSub]
      exact hx
    · intro e1 N' I' e3 e4
      have hx := hQ.2 e1 N' I' e3 e4
      simp (disch := (first | omega | exact aCat_8 (by with_unfolding_all rfl) | exact rk_lt (by with_unfolding_all rfl) | exact aCat_16 (by with_unfolding_all rfl) | exact rk_eq (by with_unfolding_all rfl) | assumption | exact b2n_lt _ | exact id_b (by with_unfolding_all rfl) | (simp (disch := omega) only [u2_same, u2_ab, u2_aq]; done) | (simp (disch := omega) only [u2_same, u2_ab, u2_aq]; omega) | fail)) only [al_17344, wp_iload_1, wk_48, wn_lt_t, wn_lt_f, wk_57, wn_gt_t, wn_gt_f, wp_aloadr_0, wp_aloadk_0, wp_isub, wc_272, wp_freturn0, wp_freturn1, wp_freturnb, al_17345, wk_0, hp_17_5, hg_17_6, wz_eq_t, wz_eq_f, wb_eq_t, wb_eq_f, wm_eq_1, wm_eq_2, wc_274, wp_goto, al_17346, wc_276, wp_jsr, al_17347, nl_i, nl_r, nl_k, nl_j, nl_l, nI_add, pk_mul, pk_sub, tl_s, tl_n, aL_inl, u2_same, u2_ab, u2_aq, nI_l, lN_i, Nat.add_zero, Nat.zero_add, Nat.zero_le, true_and, and_true, b2n_10, b2n_T, b2n_F, b2n_0, Decidable.not_not, not_true_eq_false, not_false_eq_true, Nat.reduceAdd, Nat.reduceMul, Nat.reduceSub]
      exact hx
  | false =>
    have hd := isD_f.mp hD
    have h0 := rd_d (dg' := 0) h
    have h7 : N 17 6 = b2n (wa = true) := h.2.2.2.2.2.2
    have hQ0 : tkS Q D (u2 N 17 5 0) I J x (stp (o, w, ne, dg, wa) c) := ⟨fun s' N' I' e1 e2 e3 e4 => hQ.1 s' N' I' e1 e2 (fr17_t e3 fr17_u) e4, fun e1 N' I' e3 e4 => hQ.2 e1 N' I' (fr17_t e3 fr17_u) e4⟩
    have hgo : aWp ko d 271 (aP.1 (Int.toNat 17345)) [.ref 17, .int (nI c)] [] (hp D N I J x) (aL Q) := by
      rw [al_17345]
      cases wa with
      | true =>
        rw [b2n_t rfl] at h7
        simp (disch := (first | omega | exact aCat_8 (by with_unfolding_all rfl) | exact rk_lt (by with_unfolding_all rfl) | exact aCat_16 (by with_unfolding_all rfl) | exact rk_eq (by with_unfolding_all rfl) | assumption | exact b2n_lt _ | exact id_b (by with_unfolding_all rfl) | (simp (disch := omega) only [u2_same, u2_ab, u2_aq]; done) | (simp (disch := omega) only [u2_same, u2_ab, u2_aq]; omega) | fail)) only [al_17344, wp_iload_1, wk_48, wn_lt_t, wn_lt_f, wk_57, wn_gt_t, wn_gt_f, wp_aloadr_0, wp_aloadk_0, wp_isub, wc_272, wp_freturn0, wp_freturn1, wp_freturnb, al_17345, wk_0, hp_17_5, hg_17_6, wz_eq_t, wz_eq_f, wb_eq_t, wb_eq_f, wm_eq_1, wm_eq_2, wc_274, wp_goto, al_17346, wc_276, wp_jsr, al_17347, nl_i, nl_r, nl_k, nl_j, nl_l, nI_add, pk_mul, pk_sub, tl_s, tl_n, aL_inl, u2_same, u2_ab, u2_aq, nI_l, lN_i, Nat.add_zero, Nat.zero_add, Nat.zero_le, true_and, and_true, b2n_10, b2n_T, b2n_F, b2n_0, Decidable.not_not, not_true_eq_false, not_false_eq_true, Nat.reduceAdd, Nat.reduceMul, Nat.reduceSub, h7]
        refine t_274 (dg := dg) hk h0 hl hne hc hD ⟨?_, ?_⟩
        · intro s' N' I' e1 e2 e3 e4
          have hx := hQ0.1 s' N' I' e1 e2 e3 e4
          simp (disch := (first | omega | exact aCat_8 (by with_unfolding_all rfl) | exact rk_lt (by with_unfolding_all rfl) | exact aCat_16 (by with_unfolding_all rfl) | exact rk_eq (by with_unfolding_all rfl) | assumption | exact b2n_lt _ | exact id_b (by with_unfolding_all rfl) | (simp (disch := omega) only [u2_same, u2_ab, u2_aq]; done) | (simp (disch := omega) only [u2_same, u2_ab, u2_aq]; omega) | fail)) only [al_17344, wp_iload_1, wk_48, wn_lt_t, wn_lt_f, wk_57, wn_gt_t, wn_gt_f, wp_aloadr_0, wp_aloadk_0, wp_isub, wc_272, wp_freturn0, wp_freturn1, wp_freturnb, al_17345, wk_0, hp_17_5, hg_17_6, wz_eq_t, wz_eq_f, wb_eq_t, wb_eq_f, wm_eq_1, wm_eq_2, wc_274, wp_goto, al_17346, wc_276, wp_jsr, al_17347, nl_i, nl_r, nl_k, nl_j, nl_l, nI_add, pk_mul, pk_sub, tl_s, tl_n, aL_inl, u2_same, u2_ab, u2_aq, nI_l, lN_i, Nat.add_zero, Nat.zero_add, Nat.zero_le, true_and, and_true, b2n_10, b2n_T, b2n_F, b2n_0, Decidable.not_not, not_true_eq_false, not_false_eq_true, Nat.reduceAdd, Nat.reduceMul, Nat.reduceSub]
          exact hx
        · intro e1 N' I' e3 e4
          have hx := hQ0.2 e1 N' I' e3 e4
          simp (disch := (first | omega | exact aCat_8 (by with_unfolding_all rfl) | exact rk_lt (by with_unfolding_all rfl) | exact aCat_16 (by with_unfolding_all rfl) | exact rk_eq (by with_unfolding_all rfl) | assumption | exact b2n_lt _ | exact id_b (by with_unfolding_all rfl) | (simp (disch := omega) only [u2_same, u2_ab, u2_aq]; done) | (simp (disch := omega) only [u2_same, u2_ab, u2_aq]; omega) | fail)) only [al_17344, wp_iload_1, wk_48, wn_lt_t, wn_lt_f, wk_57, wn_gt_t, wn_gt_f, wp_aloadr_0, wp_aloadk_0, wp_isub, wc_272, wp_freturn0, wp_freturn1, wp_freturnb, al_17345, wk_0, hp_17_5, hg_17_6, wz_eq_t, wz_eq_f, wb_eq_t, wb_eq_f, wm_eq_1, wm_eq_2, wc_274, wp_goto, al_17346, wc_276, wp_jsr, al_17347, nl_i, nl_r, nl_k, nl_j, nl_l, nI_add, pk_mul, pk_sub, tl_s, tl_n, aL_inl, u2_same, u2_ab, u2_aq, nI_l, lN_i, Nat.add_zero, Nat.zero_add, Nat.zero_le, true_and, and_true, b2n_10, b2n_T, b2n_F, b2n_0, Decidable.not_not, not_true_eq_false, not_false_eq_true, Nat.reduceAdd, Nat.reduceMul, Nat.reduceSub]
          exact hx
      | false =>
        have h7' : N 17 6 = 0 := h7
        simp (disch := (first | omega | exact aCat_8 (by with_unfolding_all rfl) | exact rk_lt (by with_unfolding_all rfl) | exact aCat_16 (by with_unfolding_all rfl) | exact rk_eq (by with_unfolding_all rfl) | assumption | exact b2n_lt _ | exact id_b (by with_unfolding_all rfl) | (simp (disch := omega) only [u2_same, u2_ab, u2_aq]; done) | (simp (disch := omega) only [u2_same, u2_ab, u2_aq]; omega) | fail)) only [al_17344, wp_iload_1, wk_48, wn_lt_t, wn_lt_f, wk_57, wn_gt_t, wn_gt_f, wp_aloadr_0, wp_aloadk_0, wp_isub, wc_272, wp_freturn0, wp_freturn1, wp_freturnb, al_17345, wk_0, hp_17_5, hg_17_6, wz_eq_t, wz_eq_f, wb_eq_t, wb_eq_f, wm_eq_1, wm_eq_2, wc_274, wp_goto, al_17346, wc_276, wp_jsr, al_17347, nl_i, nl_r, nl_k, nl_j, nl_l, nI_add, pk_mul, pk_sub, tl_s, tl_n, aL_inl, u2_same, u2_ab, u2_aq, nI_l, lN_i, Nat.add_zero, Nat.zero_add, Nat.zero_le, true_and, and_true, b2n_10, b2n_T, b2n_F, b2n_0, Decidable.not_not, not_true_eq_false, not_false_eq_true, Nat.reduceAdd, Nat.reduceMul, Nat.reduceSub, h7']
        refine t_276 (dg := dg) hv.1 h0 hl hne hc hD ⟨?_, ?_⟩
        · intro s' N' I' e1 e2 e3 e4
          have hx := hQ0.1 s' N' I' e1 e2 e3 e4
          simp (disch := (first | omega | exact aCat_8 (by with_unfolding_all rfl) | exact rk_lt (by with_unfolding_all rfl) | exact aCat_16 (by with_unfolding_all rfl) | exact rk_eq (by with_unfolding_all rfl) | assumption | exact b2n_lt _ | exact id_b (by with_unfolding_all rfl) | (simp (disch := omega) only [u2_same, u2_ab, u2_aq]; done) | (simp (disch := omega) only [u2_same, u2_ab, u2_aq]; omega) | fail)) only [al_17344, wp_iload_1, wk_48, wn_lt_t, wn_lt_f, wk_57, wn_gt_t, wn_gt_f, wp_aloadr_0, wp_aloadk_0, wp_isub, wc_272, wp_freturn0, wp_freturn1, wp_freturnb, al_17345, wk_0, hp_17_5, hg_17_6, wz_eq_t, wz_eq_f, wb_eq_t, wb_eq_f, wm_eq_1, wm_eq_2, wc_274, wp_goto, al_17346, wc_276, wp_jsr, al_17347, nl_i, nl_r, nl_k, nl_j, nl_l, nI_add, pk_mul, pk_sub, tl_s, tl_n, aL_inl, u2_same, u2_ab, u2_aq, nI_l, lN_i, Nat.add_zero, Nat.zero_add, Nat.zero_le, true_and, and_true, b2n_10, b2n_T, b2n_F, b2n_0, Decidable.not_not, not_true_eq_false, not_false_eq_true, Nat.reduceAdd, Nat.reduceMul, Nat.reduceSub]
          exact hx
        · intro e1 N' I' e3 e4
          have hx := hQ0.2 e1 N' I' e3 e4
          simp (disch := (first | omega | exact aCat_8 (by with_unfolding_all rfl) | exact rk_lt (by with_unfolding_all rfl) | exact aCat_16 (by with_unfolding_all rfl) | exact rk_eq (by with_unfolding_all rfl) | assumption | exact b2n_lt _ | exact id_b (by with_unfolding_all rfl) | (simp (disch := omega) only [u2_same, u2_ab, u2_aq]; done) | (simp (disch := omega) only [u2_same, u2_ab, u2_aq]; omega) | fail)) only [al_17344, wp_iload_1, wk_48, wn_lt_t, wn_lt_f, wk_57, wn_gt_t, wn_gt_f, wp_aloadr_0, wp_aloadk_0, wp_isub, wc_272, wp_freturn0, wp_freturn1, wp_freturnb, al_17345, wk_0, hp_17_5, hg_17_6, wz_eq_t, wz_eq_f, wb_eq_t, wb_eq_f, wm_eq_1, wm_eq_2, wc_274, wp_goto, al_17346, wc_276, wp_jsr, al_17347, nl_i, nl_r, nl_k, nl_j, nl_l, nI_add, pk_mul, pk_sub, tl_s, tl_n, aL_inl, u2_same, u2_ab, u2_aq, nI_l, lN_i, Nat.add_zero, Nat.zero_add, Nat.zero_le, true_and, and_true, b2n_10, b2n_T, b2n_F, b2n_0, Decidable.not_not, not_true_eq_false, not_false_eq_true, Nat.reduceAdd, Nat.reduceMul, Nat.reduceSub]
          exact hx
    by_cases z : c < 48
    · simp (disch := (first | omega | exact aCat_8 (by with_unfolding_all rfl) | exact rk_lt (by with_unfolding_all rfl) | exact aCat_16 (by with_unfolding_all rfl) | exact rk_eq (by with_unfolding_all rfl) | assumption | exact b2n_lt _ | exact id_b (by with_unfolding_all rfl) | (simp (disch := omega) only [u2_same, u2_ab, u2_aq]; done) | (simp (disch := omega) only [u2_same, u2_ab, u2_aq]; omega) | fail)) only [al_17344, wp_iload_1, wk_48, wn_lt_t, wn_lt_f, wk_57, wn_gt_t, wn_gt_f, wp_aloadr_0, wp_aloadk_0, wp_isub, wc_272, wp_freturn0, wp_freturn1, wp_freturnb, wk_0, hp_17_5, hg_17_6, wz_eq_t, wz_eq_f, wb_eq_t, wb_eq_f, wm_eq_1, wm_eq_2, wc_274, wp_goto, al_17346, wc_276, wp_jsr, al_17347, nl_i, nl_r, nl_k, nl_j, nl_l, nI_add, pk_mul, pk_sub, tl_s, tl_n, aL_inl, u2_same, u2_ab, u2_aq, nI_l, lN_i, Nat.add_zero, Nat.zero_add, Nat.zero_le, true_and, and_true, b2n_10, b2n_T, b2n_F, b2n_0, Decidable.not_not, not_true_eq_false, not_false_eq_true, Nat.reduceAdd, Nat.reduceMul, Nat.reduceSub]
      exact hgo
    · simp (disch := (first | omega | exact aCat_8 (by with_unfolding_all rfl) | exact rk_lt (by with_unfolding_all rfl) | exact aCat_16 (by with_unfolding_all rfl) | exact rk_eq (by with_unfolding_all rfl) | assumption | exact b2n_lt _ | exact id_b (by with_unfolding_all rfl) | (simp (disch := omega) only [u2_same, u2_ab, u2_aq]; done) | (simp (disch := omega) only [u2_same, u2_ab, u2_aq]; omega) | fail)) only [al_17344, wp_iload_1, wk_48, wn_lt_t, wn_lt_f, wk_57, wn_gt_t, wn_gt_f, wp_aloadr_0, wp_aloadk_0, wp_isub, wc_272, wp_freturn0, wp_freturn1, wp_freturnb, wk_0, hp_17_5, hg_17_6, wz_eq_t, wz_eq_f, wb_eq_t, wb_eq_f, wm_eq_1, wm_eq_2, wc_274, wp_goto, al_17346, wc_276, wp_jsr, al_17347, nl_i, nl_r, nl_k, nl_j, nl_l, nI_add, pk_mul, pk_sub, tl_s, tl_n, aL_inl, u2_same, u2_ab, u2_aq, nI_l, lN_i, Nat.add_zero, Nat.zero_add, Nat.zero_le, true_and, and_true, b2n_10, b2n_T, b2n_F, b2n_0, Decidable.not_not, not_true_eq_false, not_false_eq_true, Nat.reduceAdd, Nat.reduceMul, Nat.reduceSub]
      exact hgo
/-- steps taken over -/
def setI (I : Nat → Nat → Int32) (r : Nat) (f : Nat → Int32) : Nat → Nat → Int32 := fun b => if b = r then f else I b
theorem setI_s {I : Nat → Nat → Int32} {r : Nat} {f : Nat → Int32} : setI I r f r = f := by simp [setI]
theorem setI_n {I : Nat → Nat → Int32} {r b : Nat} {f : Nat → Int32} (h : b ≠ r) : setI I r f b = I b := by simp [setI, h]
theorem ev_cpyV {v : Value} {b n la lb : Nat} {f g : Nat → Int32} {r : (Option Value ⊕ Unit) × aH} (ha : aInts ko σ v = some (.int, la, f)) (hb : σ[b]? = some (.inl (.int, lb, .inl g))) (h1 : n ≤ la) (h2 : n ≤ lb) (h3 : n < 2147483648) (hc : aCat (.int (nI n) :: .int (nI 0) :: .ref b :: .int (nI 0) :: v :: st) ≤ 16) : aEv ko d k (.invokedynamic 1 :: is) ls (.int (nI n) :: .int (nI 0) :: .ref b :: .int (nI 0) :: v :: st) σ r = aEv ko d k is ls st (σ.set b (.inl (.int, lb, .inl (va_cpy f g 0 0 n)))) r := by
  refine aEv_go ?_
  have e0 : (nI 0).toNatClampNeg = 0 := rfl
  have e1 : (nI n).toNatClampNeg = n := nI_clamp h3
  have e2 : (nI n).toInt = (n : Int) := nI_toInt h3
  have e3 : (nI 0).toInt = 0 := rfl
  simp only [aDo, aEnd, aJump, aStep, aPrim, ha, hb, e0, e1, e2, e3, if_pos hc]
  rw [if_pos (by omega)]
theorem wp_cpyV {v : Value} {b n la lb : Nat} {f : Nat → Int32} (hb : b < nC) (ha : aInts ko (hp D N I J x) v = some (.int, la, f)) (hkb : ∀ D N I J, kl b D N I J = .inl (.int, lb, .inl I)) (h1 : n ≤ la) (h2 : n ≤ lb) (h3 : n < 2147483648) (hc : aCat (.int (nI n) :: .int (nI 0) :: .ref b :: .int (nI 0) :: v :: st) ≤ 16) : aWp ko d k (.invokedynamic 1 :: is) ls (.int (nI n) :: .int (nI 0) :: .ref b :: .int (nI 0) :: v :: st) (hp D N I J x) P = aWp ko d k is ls st (hp D N (setI I b (mixN f (I b) n)) J x) P := wp_of (fun r => (ev_cpyV ha ((hp_get hb).trans (congrArg some (hkb _ _ _ _))) h1 h2 h3 hc).trans (by
  rw [cpy_I, ← hkb D (N b) (mixN f (I b) n) (J b), hp_set0 (N' := N) (I' := setI I b (mixN f (I b) n)) (J' := J) hb (by rw [setI_s]) (fun _ _ => rfl) (fun _ e => setI_n e) (fun _ _ => rfl)]))
theorem aLen_18 : aWp ko d k (.arraylength :: is) ls (.ref 18 :: st) (hp D N I J x) P = aWp ko d k is ls (.int (nI 40) :: st) (hp D N I J x) P := wp_alen (a := 18) (by decide) rfl
theorem wp_alen1 (h : koF ko) : aWp ko d k (.arraylength :: is) ls (.retAddr 1 :: st) σ P = aWp ko d k is ls (.int (nI 7) :: st) σ P := wp_alenK (f := (ko 1).2.2) (by rw [← h.1, ← h.2.1])
theorem t_266 {ru n : Nat} (hu : ruB ru = true) (hn : n ≤ 40) (hQ : ∀ (N' : Nat → Nat → Nat) (I' : Nat → Nat → Int32), (∀ b q, ¬ (b = ru ∧ q = 2) → N' b q = N b q) → N' ru 2 = n → (∀ b q, b ≠ ru + 1 → I' b q = I b q) → (∀ q, q < n → I' (ru + 1) q = I 18 q) → Q none (hp D N' I' J x)) : aMm ko d 266 [.ref ru, .ref 18, .int (nI n)] (hp D N I J x) Q := by
  have hru := ru_or hu
  have e1 : max 0 (min 40 (min n 40)) = n := by omega
  have hl := ru_lt hu
  rw [me_266]
  simp (disch := (first | omega | exact aCat_8 (by with_unfolding_all rfl) | exact rk_lt (by with_unfolding_all rfl) | exact aCat_16 (by with_unfolding_all rfl) | exact rk_eq (by with_unfolding_all rfl) | assumption | exact b2n_lt _ | exact id_b (by with_unfolding_all rfl) | (simp (disch := omega) only [u2_same, u2_ab, u2_aq]; done) | (simp (disch := omega) only [u2_same, u2_ab, u2_aq]; omega) | fail)) only [al_17024, wp_aloadr_0, wp_aloadk_0, wk_0, wk_40, wp_iload_2, wp_aloadr_1, wp_aloadk_1, wp_min, wp_max, hp_11_2, hp_14_2, hg_11_0, ha_12l, ha_12s, hg_14_0, ha_15l, ha_15s, hg_11_2, hg_14_2, wp_return, nl_i, nl_r, nl_k, nl_j, nl_l, nI_add, pk_mul, pk_sub, tl_s, tl_n, aL_inl, u2_same, u2_ab, u2_aq, nI_l, lN_i, Nat.add_zero, Nat.zero_add, Nat.zero_le, true_and, and_true, b2n_10, b2n_T, b2n_F, b2n_0, Decidable.not_not, not_true_eq_false, not_false_eq_true, Nat.reduceAdd, Nat.reduceMul, Nat.reduceSub, aLen_18, e1, ru_p2 hu, ru_g0 hu, ru_g2 hu]
  rw [wp_cpyV (la := 40) (lb := 40) (f := I 18) (by omega) (by show (match (hp D (u2 N ru 2 n) I J x)[18]? with | some (.inl (ty, n, .inl f)) => some (ty, n, f) | _ => none) = _; rw [hp_get (by decide)]; rfl) (ru_k1 hu) hn hn (by omega) (aCat_16 (by with_unfolding_all rfl))]
  simp (disch := (first | omega | exact aCat_8 (by with_unfolding_all rfl) | exact rk_lt (by with_unfolding_all rfl) | exact aCat_16 (by with_unfolding_all rfl) | exact rk_eq (by with_unfolding_all rfl) | assumption | exact b2n_lt _ | exact id_b (by with_unfolding_all rfl) | (simp (disch := omega) only [u2_same, u2_ab, u2_aq]; done) | (simp (disch := omega) only [u2_same, u2_ab, u2_aq]; omega) | fail)) only [al_17024, wp_aloadr_0, wp_aloadk_0, wk_0, wk_40, wp_iload_2, wp_aloadr_1, wp_aloadk_1, wp_min, wp_max, hp_11_2, hp_14_2, hg_11_0, ha_12l, ha_12s, hg_14_0, ha_15l, ha_15s, hg_11_2, hg_14_2, wp_return, nl_i, nl_r, nl_k, nl_j, nl_l, nI_add, pk_mul, pk_sub, tl_s, tl_n, aL_inl, u2_same, u2_ab, u2_aq, nI_l, lN_i, Nat.add_zero, Nat.zero_add, Nat.zero_le, true_and, and_true, b2n_10, b2n_T, b2n_F, b2n_0, Decidable.not_not, not_true_eq_false, not_false_eq_true, Nat.reduceAdd, Nat.reduceMul, Nat.reduceSub]
  refine hQ _ _ ?_ (u2_same _ _ _ _) ?_ ?_
  · intro b q z
    rw [u2_rd, if_neg z]
  · intro b q z
    rw [setI_n z]
  · intro q hq
    rw [setI_s]
    unfold mixN
    rw [if_pos hq]
theorem t_266k {ru : Nat} (hk : koF ko) (hu : ruB ru = true) (hQ : ∀ (N' : Nat → Nat → Nat) (I' : Nat → Nat → Int32), (∀ b q, ¬ (b = ru ∧ q = 2) → N' b q = N b q) → N' ru 2 = 7 → (∀ b q, b ≠ ru + 1 → I' b q = I b q) → (∀ q, q < 7 → I' (ru + 1) q = enc (c0 q)) → Q none (hp D N' I' J x)) : aMm ko d 266 [.ref ru, .retAddr 1, .int (nI 7)] (hp D N I J x) Q := by
  have hru := ru_or hu
  have e1 : max 0 (min 40 (min 7 7)) = 7 := by omega
  have hl := ru_lt hu
  rw [me_266k]
  simp (disch := (first | omega | exact aCat_8 (by with_unfolding_all rfl) | exact rk_lt (by with_unfolding_all rfl) | exact aCat_16 (by with_unfolding_all rfl) | exact rk_eq (by with_unfolding_all rfl) | assumption | exact b2n_lt _ | exact id_b (by with_unfolding_all rfl) | (simp (disch := omega) only [u2_same, u2_ab, u2_aq]; done) | (simp (disch := omega) only [u2_same, u2_ab, u2_aq]; omega) | fail)) only [al_17024, wp_aloadr_0, wp_aloadk_0, wk_0, wk_40, wp_iload_2, wp_aloadr_1, wp_aloadk_1, wp_min, wp_max, hp_11_2, hp_14_2, hg_11_0, ha_12l, ha_12s, hg_14_0, ha_15l, ha_15s, hg_11_2, hg_14_2, wp_return, nl_i, nl_r, nl_k, nl_j, nl_l, nI_add, pk_mul, pk_sub, tl_s, tl_n, aL_inl, u2_same, u2_ab, u2_aq, nI_l, lN_i, Nat.add_zero, Nat.zero_add, Nat.zero_le, true_and, and_true, b2n_10, b2n_T, b2n_F, b2n_0, Decidable.not_not, not_true_eq_false, not_false_eq_true, Nat.reduceAdd, Nat.reduceMul, Nat.reduceSub, wp_alen1 hk, e1, ru_p2 hu, ru_g0 hu, ru_g2 hu]
  rw [wp_cpyV (la := 7) (lb := 40) (f := (ko 1).2.2) (by omega) (by show some (ko 1) = _; rw [← hk.1, ← hk.2.1]) (ru_k1 hu) (by decide) (by decide) (by decide) (aCat_16 (by with_unfolding_all rfl))]
  simp (disch := (first | omega | exact aCat_8 (by with_unfolding_all rfl) | exact rk_lt (by with_unfolding_all rfl) | exact aCat_16 (by with_unfolding_all rfl) | exact rk_eq (by with_unfolding_all rfl) | assumption | exact b2n_lt _ | exact id_b (by with_unfolding_all rfl) | (simp (disch := omega) only [u2_same, u2_ab, u2_aq]; done) | (simp (disch := omega) only [u2_same, u2_ab, u2_aq]; omega) | fail)) only [al_17024, wp_aloadr_0, wp_aloadk_0, wk_0, wk_40, wp_iload_2, wp_aloadr_1, wp_aloadk_1, wp_min, wp_max, hp_11_2, hp_14_2, hg_11_0, ha_12l, ha_12s, hg_14_0, ha_15l, ha_15s, hg_11_2, hg_14_2, wp_return, nl_i, nl_r, nl_k, nl_j, nl_l, nI_add, pk_mul, pk_sub, tl_s, tl_n, aL_inl, u2_same, u2_ab, u2_aq, nI_l, lN_i, Nat.add_zero, Nat.zero_add, Nat.zero_le, true_and, and_true, b2n_10, b2n_T, b2n_F, b2n_0, Decidable.not_not, not_true_eq_false, not_false_eq_true, Nat.reduceAdd, Nat.reduceMul, Nat.reduceSub]
  refine hQ _ _ ?_ (u2_same _ _ _ _) ?_ ?_
  · intro b q z
    rw [u2_rd, if_neg z]
  · intro b q z
    rw [setI_n z]
  · intro q hq
    rw [setI_s]
    unfold mixN
    rw [if_pos hq]
    exact hk.2.2 q hq
end RC
