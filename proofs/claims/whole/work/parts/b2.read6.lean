/-! rules: the reference reads ranks and things. From wip/whole/src. -/
/-- what a reading of rank r promises -/
def cRd (ko : aKo) (D : Nat → Nat) (I : Nat → Nat → Int32) (J : Nat → Nat → Int64) (x : Nat) (N0 : Nat → Nat → Nat) (to d r K : Nat) (As : List Value) (m g : Nat) : Prop :=
  ∀ (N : Nat → Nat → Nat) (pos ne : Nat) (ro w : List Nat) (Q : Option Value → aH → Prop), rsL N0 N to pos ro ne → pos ≤ to → ne ≤ 4 → ro.length + w.length ≤ pos → (r < 3 → tpl (r + 1) w) → (to - pos) + 4 * (4 - ne) + m ≤ g →
    (∀ (N' : Nat → Nat → Nat) (pos' dg : Nat) (ro' P : List Nat), rsL N0 N' to pos' (revA P ro') ne → pos' ≤ to → rch (N0 91) (ro, w, ne, 0, true) pos (ro', P ++ w, ne, dg, false) pos' → (∀ j, j ∈ P → r + 1 ≤ bnd j) → blk (N0 91) to r pos' (ro', P ++ w, ne, dg, false) → (∀ h, hgt ro = some h → hgt (revA P ro') = some (h + 1)) → Q (some (.int (nI 1))) (hp D N' I J x)) →
    (∀ (N' : Nat → Nat → Nat) (pos' : Nat) (s' : rdS), rsF N0 N' to pos' → pos' ≤ to → N' 86 19 + pos ≤ ro.length + pos' → rch (N0 91) (ro, w, ne, 0, true) pos s' pos' → ((pos' < to ∧ stp s' (N0 91 pos') = none) ∨ (pos' = to ∧ (s'.2.2.2.2 = true ∨ 0 < s'.2.2.1))) → Q (some (.int (nI 0))) (hp D N' I J x)) →
    aMm ko (d + g) K As (hp D N I J x) Q
section RG
variable {ko : aKo} {d k : Nat} {is : List Instr} {ls st : List Value} {σ : aH} {D : Nat → Nat} {N : Nat → Nat → Nat} {I : Nat → Nat → Int32} {J : Nat → Nat → Int64} {x t : Nat} {Q : Option Value → aH → Prop} {P : (Option Value ⊕ Unit) → aH → Prop}
theorem k_15 {N0 : Nat → Nat → Nat} {to g : Nat} (hk : koT ko) (hto : to ≤ 40) (hb : ∀ i, i < to → N0 91 i < 256) (h15 : cRd ko D I J x N0 to d 3 15 [.ref 86] 1 g) (h14 : cRd ko D I J x N0 to d 0 14 [.ref 86, .int (nI 0)] 5 g) : cRd ko D I J x N0 to d 3 15 [.ref 86] 1 (g + 1) := by
  intro N pos ne ro w Q hs hpt hne hl _ hm hY hN
  obtain ⟨⟨x1, x2, x3, x4⟩, x5, x6, x7⟩ := id hs
  have e91 : N 91 pos = N0 91 pos := x4 91 pos (by decide) (by omega)
  have hno : ∀ s' : rdS, s' = (ro, w, ne, 0, true) → ((pos < to ∧ stp s' (N0 91 pos) = none) ∨ (pos = to ∧ (s'.2.2.2.2 = true ∨ 0 < s'.2.2.1))) → Q (some (.int (nI 0))) (hp D N I J x) := fun s' e h => hN N pos s' ⟨x1, x2, x3, x4⟩ hpt (by omega) (by rw [e]; exact rch_r) h
  have hb91 : pos < to → N 91 pos < 256 := fun y => by rw [e91]; exact hb pos y
  have tn := fun (c : Nat) (hc : c < 256) (y : pos < to → ¬ N 91 pos = c) Q => t_16n (ko := ko) (d := d + (g + 1)) (D := D) (I := I) (J := J) (x := x) (Q := Q) (c := c) x1 x2 (by omega) hpt hb91 hc y
  have h9 := fun Q => t_9 (ko := ko) (d := d + (g + 1)) (D := D) (N := N) (I := I) (J := J) (x := x) (Q := Q) (c := N0 91 pos) x1 x2 (by omega) hpt (fun y => ⟨e91, hb pos y⟩)
  have hxR : txR N N to pos := ⟨x1, x2, x3, fun _ _ _ _ => rfl⟩
  rw [me_15]
  by_cases z : pos < to
  · have hc := hb pos z
    by_cases z1 : N0 91 pos = 45
    · have hst : stp (ro, w, ne, 0, true) (N0 91 pos) = some (ro, 3000 :: w, ne, 0, true) := by rw [z1]; exact stp_m
      have t16 := fun Q => t_16y (ko := ko) (d := d + (g + 1)) (D := D) (I := I) (J := J) (x := x) (Q := Q) x1 x2 (by omega) z (e91.trans z1) (by decide)
      rw [← Nat.add_assoc] at t16 ⊢
      simp (disch := (first | omega | exact aCat_8 (by with_unfolding_all rfl) | exact rk_lt (by with_unfolding_all rfl) | exact aCat_16 (by with_unfolding_all rfl) | exact rk_eq (by with_unfolding_all rfl) | assumption | exact b2n_lt _ | exact id_b (by with_unfolding_all rfl) | (simp (disch := omega) only [u2_same, u2_ab, u2_aq]; done) | (simp (disch := omega) only [u2_same, u2_ab, u2_aq]; omega) | fail)) only [al_960, wp_aloadr_0, wp_aloadk_0, wk_45, wc_16, wz_eq_t, wz_eq_f, wb_eq_t, wb_eq_f, wm_eq_1, wm_eq_2, wc_15, wp_istore_1, wk_3000, wc_18, wp_iload_1, wp_freturn0, wp_freturn1, wp_freturnb, al_961, wc_9, wk_3, wc_8, wk_1, al_962, wp_ldc, wc_19, wz_lt_t, wz_lt_f, wm_lt_1, wm_lt_2, wk_1000, wp_iadd, al_963, hg_86_14, wk_4, wn_eq_t, wn_eq_f, wk_40, wz_ne_t, wz_ne_f, wb_ne_t, wb_ne_f, wm_ne_1, wm_ne_2, wp_jsr, al_964, wk_0, al_965, wp_dupi, wp_dupr, hp_86_14, wc_14, wk_41, al_966, al_967, wp_isub, nl_i, nl_r, nl_k, nl_j, nl_l, nI_add, pk_mul, pk_sub, tl_s, tl_n, aL_inl, u2_same, u2_ab, u2_aq, nI_l, lN_i, Nat.add_zero, Nat.zero_add, Nat.zero_le, true_and, and_true, b2n_10, b2n_T, b2n_F, b2n_0, Decidable.not_not, not_true_eq_false, not_false_eq_true, Nat.reduceAdd, Nat.reduceMul, Nat.reduceSub, t16, wr_15]
      refine h15 (u2 N 86 12 (pos + 1)) (pos + 1) ne ro (3000 :: w) _ (rs_at hs) (by omega) hne (by rw [List.length_cons]; omega) (fun y => absurd y (by omega)) (by omega) ?_ ?_
      · intro N' pos' dg ro' P a1 a2 a3 a4 a5 a6
        have hlen := rch_len a3
        have hle := rch_le a3
        dsimp only at hlen
        rw [List.length_append, List.length_cons] at hlen
        have hrl := revA_len (P := P) (o := ro')
        have t18 := fun Q => t_18 (ko := ko) (d := d + g + 1) (D := D) (N := N') (I := I) (J := J) (x := x) (Q := Q) (c := 3000) a1.2.2.1 (by omega)
        have hx := hY _ pos' dg ro' (P ++ [3000]) (by rw [revA_c]; exact rs_c a1) a2 (rch_t (rch_1 hst) (by rw [List.append_assoc]; exact a3)) (fun j hj => by
          rcases List.mem_append.mp hj with hj | hj
          · exact a4 j hj
          · rw [List.mem_singleton.mp hj]; decide) (by rw [List.append_assoc]; exact a5) (fun h e => by rw [revA_c]; exact hgt_m (a6 h e) (by omega))
        simp (disch := (first | omega | exact aCat_8 (by with_unfolding_all rfl) | exact rk_lt (by with_unfolding_all rfl) | exact aCat_16 (by with_unfolding_all rfl) | exact rk_eq (by with_unfolding_all rfl) | assumption | exact b2n_lt _ | exact id_b (by with_unfolding_all rfl) | (simp (disch := omega) only [u2_same, u2_ab, u2_aq]; done) | (simp (disch := omega) only [u2_same, u2_ab, u2_aq]; omega) | fail)) only [al_960, wp_aloadr_0, wp_aloadk_0, wk_45, wc_16, wz_eq_t, wz_eq_f, wb_eq_t, wb_eq_f, wm_eq_1, wm_eq_2, wc_15, wp_istore_1, wk_3000, wc_18, wp_iload_1, wp_freturn0, wp_freturn1, wp_freturnb, al_961, wc_9, wk_3, wc_8, wk_1, al_962, wp_ldc, wc_19, wz_lt_t, wz_lt_f, wm_lt_1, wm_lt_2, wk_1000, wp_iadd, al_963, hg_86_14, wk_4, wn_eq_t, wn_eq_f, wk_40, wz_ne_t, wz_ne_f, wb_ne_t, wb_ne_f, wm_ne_1, wm_ne_2, wp_jsr, al_964, wk_0, al_965, wp_dupi, wp_dupr, hp_86_14, wc_14, wk_41, al_966, al_967, wp_isub, nl_i, nl_r, nl_k, nl_j, nl_l, nI_add, pk_mul, pk_sub, tl_s, tl_n, aL_inl, u2_same, u2_ab, u2_aq, nI_l, lN_i, Nat.add_zero, Nat.zero_add, Nat.zero_le, true_and, and_true, b2n_10, b2n_T, b2n_F, b2n_0, Decidable.not_not, not_true_eq_false, not_false_eq_true, Nat.reduceAdd, Nat.reduceMul, Nat.reduceSub, t18]
        exact hx
      · intro N' pos' s' b1 b2 b3 b4 b5
        have hle := rch_le b4
        have t18 := fun Q => t_18 (ko := ko) (d := d + g + 1) (D := D) (N := N') (I := I) (J := J) (x := x) (Q := Q) (c := 3000) (n := N' 86 19) rfl (by omega)
        have hx := hN (u2 (u2 N' 94 (N' 86 19) 3000) 86 19 (N' 86 19 + 1)) pos' s' (rf_c b1) b2 (by rw [u2_same]; omega) (rch_t (rch_1 hst) b4) b5
        simp (disch := (first | omega | exact aCat_8 (by with_unfolding_all rfl) | exact rk_lt (by with_unfolding_all rfl) | exact aCat_16 (by with_unfolding_all rfl) | exact rk_eq (by with_unfolding_all rfl) | assumption | exact b2n_lt _ | exact id_b (by with_unfolding_all rfl) | (simp (disch := omega) only [u2_same, u2_ab, u2_aq]; done) | (simp (disch := omega) only [u2_same, u2_ab, u2_aq]; omega) | fail)) only [al_960, wp_aloadr_0, wp_aloadk_0, wk_45, wc_16, wz_eq_t, wz_eq_f, wb_eq_t, wb_eq_f, wm_eq_1, wm_eq_2, wc_15, wp_istore_1, wk_3000, wc_18, wp_iload_1, wp_freturn0, wp_freturn1, wp_freturnb, al_961, wc_9, wk_3, wc_8, wk_1, al_962, wp_ldc, wc_19, wz_lt_t, wz_lt_f, wm_lt_1, wm_lt_2, wk_1000, wp_iadd, al_963, hg_86_14, wk_4, wn_eq_t, wn_eq_f, wk_40, wz_ne_t, wz_ne_f, wb_ne_t, wb_ne_f, wm_ne_1, wm_ne_2, wp_jsr, al_964, wk_0, al_965, wp_dupi, wp_dupr, hp_86_14, wc_14, wk_41, al_966, al_967, wp_isub, nl_i, nl_r, nl_k, nl_j, nl_l, nI_add, pk_mul, pk_sub, tl_s, tl_n, aL_inl, u2_same, u2_ab, u2_aq, nI_l, lN_i, Nat.add_zero, Nat.zero_add, Nat.zero_le, true_and, and_true, b2n_10, b2n_T, b2n_F, b2n_0, Decidable.not_not, not_true_eq_false, not_false_eq_true, Nat.reduceAdd, Nat.reduceMul, Nat.reduceSub, t18]
        exact hx
    · have t45 := tn 45 (by decide) (fun _ => by rw [e91]; exact z1)
      cases hD : isD (N0 91 pos) with
      | true =>
        rw [b2n_t ⟨z, hD⟩] at h9
        simp (disch := (first | omega | exact aCat_8 (by with_unfolding_all rfl) | exact rk_lt (by with_unfolding_all rfl) | exact aCat_16 (by with_unfolding_all rfl) | exact rk_eq (by with_unfolding_all rfl) | assumption | exact b2n_lt _ | exact id_b (by with_unfolding_all rfl) | (simp (disch := omega) only [u2_same, u2_ab, u2_aq]; done) | (simp (disch := omega) only [u2_same, u2_ab, u2_aq]; omega) | fail)) only [al_960, wp_aloadr_0, wp_aloadk_0, wk_45, wc_16, wz_eq_t, wz_eq_f, wb_eq_t, wb_eq_f, wm_eq_1, wm_eq_2, wc_15, wp_istore_1, wk_3000, wc_18, wp_iload_1, wp_freturn0, wp_freturn1, wp_freturnb, al_961, wc_9, wk_3, wc_8, wk_1, al_962, wp_ldc, wc_19, wz_lt_t, wz_lt_f, wm_lt_1, wm_lt_2, wk_1000, wp_iadd, al_963, hg_86_14, wk_4, wn_eq_t, wn_eq_f, wk_40, wz_ne_t, wz_ne_f, wb_ne_t, wb_ne_f, wm_ne_1, wm_ne_2, wp_jsr, al_964, wk_0, al_965, wp_dupi, wp_dupr, hp_86_14, wc_14, wk_41, al_966, al_967, wp_isub, nl_i, nl_r, nl_k, nl_j, nl_l, nI_add, pk_mul, pk_sub, tl_s, tl_n, aL_inl, u2_same, u2_ab, u2_aq, nI_l, lN_i, Nat.add_zero, Nat.zero_add, Nat.zero_le, true_and, and_true, b2n_10, b2n_T, b2n_F, b2n_0, Decidable.not_not, not_true_eq_false, not_false_eq_true, Nat.reduceAdd, Nat.reduceMul, Nat.reduceSub, t45, h9]
        refine t_8c (ro := ro) (w := w) hs hto z hb hD ?_
        intro m v N' m1 m2 m3 hv hr hq hs'
        have t18 := fun Q => t_18 (ko := ko) (d := d + (g + 1)) (D := D) (N := N') (I := I) (J := J) (x := x) (Q := Q) (c := v) hs'.2.2.1 (by omega)
        have hx := hY _ (pos + m) m (v :: ro) [] (rs_c hs') m3 hr (fun j hj => absurd hj (List.not_mem_nil)) (blk_3 hq m3) (fun h e => hgt_t e (by omega))
        simp (disch := (first | omega | exact aCat_8 (by with_unfolding_all rfl) | exact rk_lt (by with_unfolding_all rfl) | exact aCat_16 (by with_unfolding_all rfl) | exact rk_eq (by with_unfolding_all rfl) | assumption | exact b2n_lt _ | exact id_b (by with_unfolding_all rfl) | (simp (disch := omega) only [u2_same, u2_ab, u2_aq]; done) | (simp (disch := omega) only [u2_same, u2_ab, u2_aq]; omega) | fail)) only [al_960, wp_aloadr_0, wp_aloadk_0, wk_45, wc_16, wz_eq_t, wz_eq_f, wb_eq_t, wb_eq_f, wm_eq_1, wm_eq_2, wc_15, wp_istore_1, wk_3000, wc_18, wp_iload_1, wp_freturn0, wp_freturn1, wp_freturnb, al_961, wc_9, wk_3, wc_8, wk_1, al_962, wp_ldc, wc_19, wz_lt_t, wz_lt_f, wm_lt_1, wm_lt_2, wk_1000, wp_iadd, al_963, hg_86_14, wk_4, wn_eq_t, wn_eq_f, wk_40, wz_ne_t, wz_ne_f, wb_ne_t, wb_ne_f, wm_ne_1, wm_ne_2, wp_jsr, al_964, wk_0, al_965, wp_dupi, wp_dupr, hp_86_14, wc_14, wk_41, al_966, al_967, wp_isub, nl_i, nl_r, nl_k, nl_j, nl_l, nI_add, pk_mul, pk_sub, tl_s, tl_n, aL_inl, u2_same, u2_ab, u2_aq, nI_l, lN_i, Nat.add_zero, Nat.zero_add, Nat.zero_le, true_and, and_true, b2n_10, b2n_T, b2n_F, b2n_0, Decidable.not_not, not_true_eq_false, not_false_eq_true, Nat.reduceAdd, Nat.reduceMul, Nat.reduceSub, t18]
        exact hx
      | false =>
        rw [b2n_f (fun y => by rw [hD] at y; cases y.2)] at h9
        simp (disch := (first | omega | exact aCat_8 (by with_unfolding_all rfl) | exact rk_lt (by with_unfolding_all rfl) | exact aCat_16 (by with_unfolding_all rfl) | exact rk_eq (by with_unfolding_all rfl) | assumption | exact b2n_lt _ | exact id_b (by with_unfolding_all rfl) | (simp (disch := omega) only [u2_same, u2_ab, u2_aq]; done) | (simp (disch := omega) only [u2_same, u2_ab, u2_aq]; omega) | fail)) only [al_960, wp_aloadr_0, wp_aloadk_0, wk_45, wc_16, wz_eq_t, wz_eq_f, wb_eq_t, wb_eq_f, wm_eq_1, wm_eq_2, wc_15, wp_istore_1, wk_3000, wc_18, wp_iload_1, wp_freturn0, wp_freturn1, wp_freturnb, al_961, wc_9, wk_3, wc_8, wk_1, al_962, wp_ldc, wc_19, wz_lt_t, wz_lt_f, wm_lt_1, wm_lt_2, wk_1000, wp_iadd, al_963, hg_86_14, wk_4, wn_eq_t, wn_eq_f, wk_40, wz_ne_t, wz_ne_f, wb_ne_t, wb_ne_f, wm_ne_1, wm_ne_2, wp_jsr, al_964, wk_0, al_965, wp_dupi, wp_dupr, hp_86_14, wc_14, wk_41, al_966, al_967, wp_isub, nl_i, nl_r, nl_k, nl_j, nl_l, nI_add, pk_mul, pk_sub, tl_s, tl_n, aL_inl, u2_same, u2_ab, u2_aq, nI_l, lN_i, Nat.add_zero, Nat.zero_add, Nat.zero_le, true_and, and_true, b2n_10, b2n_T, b2n_F, b2n_0, Decidable.not_not, not_true_eq_false, not_false_eq_true, Nat.reduceAdd, Nat.reduceMul, Nat.reduceSub, t45, h9]
        refine t_19 hk (by decide) (by decide) hxR (by omega) z (fun i hi => by rw [x4 91 i (by decide) (by omega)]; exact hb i hi) ?_ ?_
        · intro j hj hc1 _ N' hx' hf
          have hj7 : j < 7 := hj
          rw [e91] at hc1
          have hth : thg (N0 91 pos) = some j := by rw [← hc1]; exact th_y3 hj
          have hs' := rs_fr (p := pos + 1) hs hf hx'.2.1
          have t18 := fun Q => t_18 (ko := ko) (d := d + (g + 1)) (D := D) (N := N') (I := I) (J := J) (x := x) (Q := Q) (c := 1000 + j) hs'.2.2.1 (by omega)
          have hx := hY _ (pos + 1) 0 ((1000 + j) :: ro) [] (rs_c hs') (by omega) (rch_1 (stp_t hth)) (fun j hj => absurd hj (List.not_mem_nil)) (blk_3 (fun _ _ => Or.inl rfl) (by omega)) (fun h e => hgt_t e (by omega))
          simp (disch := (first | omega | exact aCat_8 (by with_unfolding_all rfl) | exact rk_lt (by with_unfolding_all rfl) | exact aCat_16 (by with_unfolding_all rfl) | exact rk_eq (by with_unfolding_all rfl) | assumption | exact b2n_lt _ | exact id_b (by with_unfolding_all rfl) | (simp (disch := omega) only [u2_same, u2_ab, u2_aq]; done) | (simp (disch := omega) only [u2_same, u2_ab, u2_aq]; omega) | fail)) only [al_960, wp_aloadr_0, wp_aloadk_0, wk_45, wc_16, wz_eq_t, wz_eq_f, wb_eq_t, wb_eq_f, wm_eq_1, wm_eq_2, wc_15, wp_istore_1, wk_3000, wc_18, wp_iload_1, wp_freturn0, wp_freturn1, wp_freturnb, al_961, wc_9, wk_3, wc_8, wk_1, al_962, wp_ldc, wc_19, wz_lt_t, wz_lt_f, wm_lt_1, wm_lt_2, wk_1000, wp_iadd, al_963, hg_86_14, wk_4, wn_eq_t, wn_eq_f, wk_40, wz_ne_t, wz_ne_f, wb_ne_t, wb_ne_f, wm_ne_1, wm_ne_2, wp_jsr, al_964, wk_0, al_965, wp_dupi, wp_dupr, hp_86_14, wc_14, wk_41, al_966, al_967, wp_isub, nl_i, nl_r, nl_k, nl_j, nl_l, nI_add, pk_mul, pk_sub, tl_s, tl_n, aL_inl, u2_same, u2_ab, u2_aq, nI_l, lN_i, Nat.add_zero, Nat.zero_add, Nat.zero_le, true_and, and_true, b2n_10, b2n_T, b2n_F, b2n_0, Decidable.not_not, not_true_eq_false, not_false_eq_true, Nat.reduceAdd, Nat.reduceMul, Nat.reduceSub, t18]
          exact hx
        · intro hall
          have hth : thg (N0 91 pos) = none := th_n3 (fun a ha => by rw [← e91]; exact hall a ha)
          by_cases z4 : ne = 4
          · have hx := hno _ rfl (Or.inl ⟨z, by
              by_cases z2 : N0 91 pos = 40
              · rw [z2]
                exact stp_l4 (by omega)
              · exact stp_tn hD z1 z2 hth⟩)
            simp (disch := (first | omega | exact aCat_8 (by with_unfolding_all rfl) | exact rk_lt (by with_unfolding_all rfl) | exact aCat_16 (by with_unfolding_all rfl) | exact rk_eq (by with_unfolding_all rfl) | assumption | exact b2n_lt _ | exact id_b (by with_unfolding_all rfl) | (simp (disch := omega) only [u2_same, u2_ab, u2_aq]; done) | (simp (disch := omega) only [u2_same, u2_ab, u2_aq]; omega) | fail)) only [al_960, wp_aloadr_0, wp_aloadk_0, wk_45, wc_16, wz_eq_t, wz_eq_f, wb_eq_t, wb_eq_f, wm_eq_1, wm_eq_2, wc_15, wp_istore_1, wk_3000, wc_18, wp_iload_1, wp_freturn0, wp_freturn1, wp_freturnb, al_961, wc_9, wk_3, wc_8, wk_1, al_962, wp_ldc, wc_19, wz_lt_t, wz_lt_f, wm_lt_1, wm_lt_2, wk_1000, wp_iadd, al_963, hg_86_14, wk_4, wn_eq_t, wn_eq_f, wk_40, wz_ne_t, wz_ne_f, wb_ne_t, wb_ne_f, wm_ne_1, wm_ne_2, wp_jsr, al_964, wk_0, al_965, wp_dupi, wp_dupr, hp_86_14, wc_14, wk_41, al_966, al_967, wp_isub, nl_i, nl_r, nl_k, nl_j, nl_l, nI_add, pk_mul, pk_sub, tl_s, tl_n, aL_inl, u2_same, u2_ab, u2_aq, nI_l, lN_i, Nat.add_zero, Nat.zero_add, Nat.zero_le, true_and, and_true, b2n_10, b2n_T, b2n_F, b2n_0, Decidable.not_not, not_true_eq_false, not_false_eq_true, Nat.reduceAdd, Nat.reduceMul, Nat.reduceSub, x5]
            exact hx
          · by_cases z2 : N0 91 pos = 40
            · have hst : stp (ro, w, ne, 0, true) (N0 91 pos) = some (ro, 0 :: w, ne + 1, 0, true) := by rw [z2]; exact stp_l (by omega)
              have t16 := fun Q => t_16y (ko := ko) (d := d + (g + 1)) (D := D) (I := I) (J := J) (x := x) (Q := Q) x1 x2 (by omega) z (e91.trans z2) (by decide)
              have x5' : u2 N 86 12 (pos + 1) 86 14 = ne := (u2_aq (by decide)).trans x5
              rw [← Nat.add_assoc] at t16 ⊢
              simp (disch := (first | omega | exact aCat_8 (by with_unfolding_all rfl) | exact rk_lt (by with_unfolding_all rfl) | exact aCat_16 (by with_unfolding_all rfl) | exact rk_eq (by with_unfolding_all rfl) | assumption | exact b2n_lt _ | exact id_b (by with_unfolding_all rfl) | (simp (disch := omega) only [u2_same, u2_ab, u2_aq]; done) | (simp (disch := omega) only [u2_same, u2_ab, u2_aq]; omega) | fail)) only [al_960, wp_aloadr_0, wp_aloadk_0, wk_45, wc_16, wz_eq_t, wz_eq_f, wb_eq_t, wb_eq_f, wm_eq_1, wm_eq_2, wc_15, wp_istore_1, wk_3000, wc_18, wp_iload_1, wp_freturn0, wp_freturn1, wp_freturnb, al_961, wc_9, wk_3, wc_8, wk_1, al_962, wp_ldc, wc_19, wz_lt_t, wz_lt_f, wm_lt_1, wm_lt_2, wk_1000, wp_iadd, al_963, hg_86_14, wk_4, wn_eq_t, wn_eq_f, wk_40, wz_ne_t, wz_ne_f, wb_ne_t, wb_ne_f, wm_ne_1, wm_ne_2, wp_jsr, al_964, wk_0, al_965, wp_dupi, wp_dupr, hp_86_14, wc_14, wk_41, al_966, al_967, wp_isub, nl_i, nl_r, nl_k, nl_j, nl_l, nI_add, pk_mul, pk_sub, tl_s, tl_n, aL_inl, u2_same, u2_ab, u2_aq, nI_l, lN_i, Nat.add_zero, Nat.zero_add, Nat.zero_le, true_and, and_true, b2n_10, b2n_T, b2n_F, b2n_0, Decidable.not_not, not_true_eq_false, not_false_eq_true, Nat.reduceAdd, Nat.reduceMul, Nat.reduceSub, x5, t16, x5', wr_14]
              refine h14 _ (pos + 1) (ne + 1) ro (0 :: w) _ (rs_n (rs_at hs)) (by omega) (by omega) (by rw [List.length_cons]; omega) (fun _ => (show bnd 0 < 1 by decide)) (by omega) ?_ ?_
              · intro N' pos' dg ro' P a1 a2 a3 a4 a5 a6
                have f91 : N' 91 pos' = N0 91 pos' := a1.1.2.2.2 91 pos' (by decide) (by omega)
                by_cases y : pos' < to ∧ N0 91 pos' = 41
                · have t41 := fun Q => t_16y (ko := ko) (d := d + g + 1) (D := D) (I := I) (J := J) (x := x) (Q := Q) (N := N') a1.1.1 a1.1.2.1 (by omega) y.1 (f91.trans y.2) (by decide)
                  have r14 : N' 86 14 = ne + 1 := a1.2.1
                  obtain ⟨q1, q2⟩ := rp_P (b := 1) (P := P) (w := 0 :: w) (o := ro') a4 (show bnd 0 < 1 by decide)
                  have hs2 := stp_r (o := ro') (w := P ++ 0 :: w) (ne := ne + 1) (dg := dg) (by omega)
                  rw [q1, q2, ← y.2] at hs2
                  have hx := hY _ (pos' + 1) 0 (revA P ro') [] (rs_n (m := ne) (rs_at (p := pos' + 1) a1)) (by omega) (rch_t (rch_1 hst) (rch_t a3 (rch_1 hs2))) (fun j hj => absurd hj (List.not_mem_nil)) (blk_3 (fun _ _ => Or.inl rfl) (by omega)) a6
                  simp (disch := (first | omega | exact aCat_8 (by with_unfolding_all rfl) | exact rk_lt (by with_unfolding_all rfl) | exact aCat_16 (by with_unfolding_all rfl) | exact rk_eq (by with_unfolding_all rfl) | assumption | exact b2n_lt _ | exact id_b (by with_unfolding_all rfl) | (simp (disch := omega) only [u2_same, u2_ab, u2_aq]; done) | (simp (disch := omega) only [u2_same, u2_ab, u2_aq]; omega) | fail)) only [al_960, wp_aloadr_0, wp_aloadk_0, wk_45, wc_16, wz_eq_t, wz_eq_f, wb_eq_t, wb_eq_f, wm_eq_1, wm_eq_2, wc_15, wp_istore_1, wk_3000, wc_18, wp_iload_1, wp_freturn0, wp_freturn1, wp_freturnb, al_961, wc_9, wk_3, wc_8, wk_1, al_962, wp_ldc, wc_19, wz_lt_t, wz_lt_f, wm_lt_1, wm_lt_2, wk_1000, wp_iadd, al_963, hg_86_14, wk_4, wn_eq_t, wn_eq_f, wk_40, wz_ne_t, wz_ne_f, wb_ne_t, wb_ne_f, wm_ne_1, wm_ne_2, wp_jsr, al_964, wk_0, al_965, wp_dupi, wp_dupr, hp_86_14, wc_14, wk_41, al_966, al_967, wp_isub, nl_i, nl_r, nl_k, nl_j, nl_l, nI_add, pk_mul, pk_sub, tl_s, tl_n, aL_inl, u2_same, u2_ab, u2_aq, nI_l, lN_i, Nat.add_zero, Nat.zero_add, Nat.zero_le, true_and, and_true, b2n_10, b2n_T, b2n_F, b2n_0, Decidable.not_not, not_true_eq_false, not_false_eq_true, Nat.reduceAdd, Nat.reduceMul, Nat.reduceSub, t41, r14, Nat.add_sub_cancel]
                  exact hx
                · have t41 := fun Q => t_16n (ko := ko) (d := d + g + 1) (D := D) (I := I) (J := J) (x := x) (Q := Q) (N := N') (c := 41) a1.1.1 a1.1.2.1 (by omega) a2 (fun u => by rw [f91]; exact hb _ u) (by decide) (fun u => by rw [f91]; exact fun v => y ⟨u, v⟩)
                  have hlen := rch_len a3
                  have hle := rch_le a3
                  dsimp only at hlen
                  rw [List.length_append, List.length_cons] at hlen
                  have hrl := revA_len (P := P) (o := ro')
                  have hx := hN N' pos' _ a1.1 a2 (by rw [a1.2.2.1]; omega) (rch_t (rch_1 hst) a3) (by
                    rcases a5 with a5 | a5 | a5 | ⟨j, a5, a7⟩
                    · exact Or.inr ⟨a5, Or.inr (Nat.succ_pos _)⟩
                    · by_cases u : pos' = to
                      · exact Or.inr ⟨u, Or.inr (Nat.succ_pos _)⟩
                      · exact Or.inl ⟨by omega, a5⟩
                    · by_cases u : pos' = to
                      · exact Or.inr ⟨u, Or.inr (Nat.succ_pos _)⟩
                      · exact absurd ⟨by omega, a5⟩ y
                    · have := (jn_b a5).1
                      omega)
                  simp (disch := (first | omega | exact aCat_8 (by with_unfolding_all rfl) | exact rk_lt (by with_unfolding_all rfl) | exact aCat_16 (by with_unfolding_all rfl) | exact rk_eq (by with_unfolding_all rfl) | assumption | exact b2n_lt _ | exact id_b (by with_unfolding_all rfl) | (simp (disch := omega) only [u2_same, u2_ab, u2_aq]; done) | (simp (disch := omega) only [u2_same, u2_ab, u2_aq]; omega) | fail)) only [al_960, wp_aloadr_0, wp_aloadk_0, wk_45, wc_16, wz_eq_t, wz_eq_f, wb_eq_t, wb_eq_f, wm_eq_1, wm_eq_2, wc_15, wp_istore_1, wk_3000, wc_18, wp_iload_1, wp_freturn0, wp_freturn1, wp_freturnb, al_961, wc_9, wk_3, wc_8, wk_1, al_962, wp_ldc, wc_19, wz_lt_t, wz_lt_f, wm_lt_1, wm_lt_2, wk_1000, wp_iadd, al_963, hg_86_14, wk_4, wn_eq_t, wn_eq_f, wk_40, wz_ne_t, wz_ne_f, wb_ne_t, wb_ne_f, wm_ne_1, wm_ne_2, wp_jsr, al_964, wk_0, al_965, wp_dupi, wp_dupr, hp_86_14, wc_14, wk_41, al_966, al_967, wp_isub, nl_i, nl_r, nl_k, nl_j, nl_l, nI_add, pk_mul, pk_sub, tl_s, tl_n, aL_inl, u2_same, u2_ab, u2_aq, nI_l, lN_i, Nat.add_zero, Nat.zero_add, Nat.zero_le, true_and, and_true, b2n_10, b2n_T, b2n_F, b2n_0, Decidable.not_not, not_true_eq_false, not_false_eq_true, Nat.reduceAdd, Nat.reduceMul, Nat.reduceSub, t41]
                  exact hx
              · intro N' pos' s' b1 b2 b3 b4 b5
                have hx := hN N' pos' s' b1 b2 (by omega) (rch_t (rch_1 hst) b4) b5
                simp (disch := (first | omega | exact aCat_8 (by with_unfolding_all rfl) | exact rk_lt (by with_unfolding_all rfl) | exact aCat_16 (by with_unfolding_all rfl) | exact rk_eq (by with_unfolding_all rfl) | assumption | exact b2n_lt _ | exact id_b (by with_unfolding_all rfl) | (simp (disch := omega) only [u2_same, u2_ab, u2_aq]; done) | (simp (disch := omega) only [u2_same, u2_ab, u2_aq]; omega) | fail)) only [al_960, wp_aloadr_0, wp_aloadk_0, wk_45, wc_16, wz_eq_t, wz_eq_f, wb_eq_t, wb_eq_f, wm_eq_1, wm_eq_2, wc_15, wp_istore_1, wk_3000, wc_18, wp_iload_1, wp_freturn0, wp_freturn1, wp_freturnb, al_961, wc_9, wk_3, wc_8, wk_1, al_962, wp_ldc, wc_19, wz_lt_t, wz_lt_f, wm_lt_1, wm_lt_2, wk_1000, wp_iadd, al_963, hg_86_14, wk_4, wn_eq_t, wn_eq_f, wk_40, wz_ne_t, wz_ne_f, wb_ne_t, wb_ne_f, wm_ne_1, wm_ne_2, wp_jsr, al_964, wk_0, al_965, wp_dupi, wp_dupr, hp_86_14, wc_14, wk_41, al_966, al_967, wp_isub, nl_i, nl_r, nl_k, nl_j, nl_l, nI_add, pk_mul, pk_sub, tl_s, tl_n, aL_inl, u2_same, u2_ab, u2_aq, nI_l, lN_i, Nat.add_zero, Nat.zero_add, Nat.zero_le, true_and, and_true, b2n_10, b2n_T, b2n_F, b2n_0, Decidable.not_not, not_true_eq_false, not_false_eq_true, Nat.reduceAdd, Nat.reduceMul, Nat.reduceSub]
                exact hx
            · have hx := hno _ rfl (Or.inl ⟨z, stp_tn hD z1 z2 hth⟩)
              have t40 := tn 40 (by decide) (fun _ => by rw [e91]; exact z2)
              simp (disch := (first | omega | exact aCat_8 (by with_unfolding_all rfl) | exact rk_lt (by with_unfolding_all rfl) | exact aCat_16 (by with_unfolding_all rfl) | exact rk_eq (by with_unfolding_all rfl) | assumption | exact b2n_lt _ | exact id_b (by with_unfolding_all rfl) | (simp (disch := omega) only [u2_same, u2_ab, u2_aq]; done) | (simp (disch := omega) only [u2_same, u2_ab, u2_aq]; omega) | fail)) only [al_960, wp_aloadr_0, wp_aloadk_0, wk_45, wc_16, wz_eq_t, wz_eq_f, wb_eq_t, wb_eq_f, wm_eq_1, wm_eq_2, wc_15, wp_istore_1, wk_3000, wc_18, wp_iload_1, wp_freturn0, wp_freturn1, wp_freturnb, al_961, wc_9, wk_3, wc_8, wk_1, al_962, wp_ldc, wc_19, wz_lt_t, wz_lt_f, wm_lt_1, wm_lt_2, wk_1000, wp_iadd, al_963, hg_86_14, wk_4, wn_eq_t, wn_eq_f, wk_40, wz_ne_t, wz_ne_f, wb_ne_t, wb_ne_f, wm_ne_1, wm_ne_2, wp_jsr, al_964, wk_0, al_965, wp_dupi, wp_dupr, hp_86_14, wc_14, wk_41, al_966, al_967, wp_isub, nl_i, nl_r, nl_k, nl_j, nl_l, nI_add, pk_mul, pk_sub, tl_s, tl_n, aL_inl, u2_same, u2_ab, u2_aq, nI_l, lN_i, Nat.add_zero, Nat.zero_add, Nat.zero_le, true_and, and_true, b2n_10, b2n_T, b2n_F, b2n_0, Decidable.not_not, not_true_eq_false, not_false_eq_true, Nat.reduceAdd, Nat.reduceMul, Nat.reduceSub, x5, t40]
              exact hx
  · have hx := hno _ rfl (Or.inr ⟨by omega, Or.inl rfl⟩)
    have t45 := tn 45 (by decide) (fun y => absurd y z)
    have t40 := tn 40 (by decide) (fun y => absurd y z)
    rw [b2n_f (fun y => z y.1)] at h9
    have t19 := fun Q => t_19e (ko := ko) (d := d + (g + 1)) (D := D) (I := I) (J := J) (x := x) (Q := Q) (i := 3) hk (by decide) (by decide) hxR (by omega) (show pos = to by omega)
    by_cases z4 : ne = 4
    · simp (disch := (first | omega | exact aCat_8 (by with_unfolding_all rfl) | exact rk_lt (by with_unfolding_all rfl) | exact aCat_16 (by with_unfolding_all rfl) | exact rk_eq (by with_unfolding_all rfl) | assumption | exact b2n_lt _ | exact id_b (by with_unfolding_all rfl) | (simp (disch := omega) only [u2_same, u2_ab, u2_aq]; done) | (simp (disch := omega) only [u2_same, u2_ab, u2_aq]; omega) | fail)) only [al_960, wp_aloadr_0, wp_aloadk_0, wk_45, wc_16, wz_eq_t, wz_eq_f, wb_eq_t, wb_eq_f, wm_eq_1, wm_eq_2, wc_15, wp_istore_1, wk_3000, wc_18, wp_iload_1, wp_freturn0, wp_freturn1, wp_freturnb, al_961, wc_9, wk_3, wc_8, wk_1, al_962, wp_ldc, wc_19, wz_lt_t, wz_lt_f, wm_lt_1, wm_lt_2, wk_1000, wp_iadd, al_963, hg_86_14, wk_4, wn_eq_t, wn_eq_f, wk_40, wz_ne_t, wz_ne_f, wb_ne_t, wb_ne_f, wm_ne_1, wm_ne_2, wp_jsr, al_964, wk_0, al_965, wp_dupi, wp_dupr, hp_86_14, wc_14, wk_41, al_966, al_967, wp_isub, nl_i, nl_r, nl_k, nl_j, nl_l, nI_add, pk_mul, pk_sub, tl_s, tl_n, aL_inl, u2_same, u2_ab, u2_aq, nI_l, lN_i, Nat.add_zero, Nat.zero_add, Nat.zero_le, true_and, and_true, b2n_10, b2n_T, b2n_F, b2n_0, Decidable.not_not, not_true_eq_false, not_false_eq_true, Nat.reduceAdd, Nat.reduceMul, Nat.reduceSub, t45, h9, t19, x5]
      exact hx
    · simp (disch := (first | omega | exact aCat_8 (by with_unfolding_all rfl) | exact rk_lt (by with_unfolding_all rfl) | exact aCat_16 (by with_unfolding_all rfl) | exact rk_eq (by with_unfolding_all rfl) | assumption | exact b2n_lt _ | exact id_b (by with_unfolding_all rfl) | (simp (disch := omega) only [u2_same, u2_ab, u2_aq]; done) | (simp (disch := omega) only [u2_same, u2_ab, u2_aq]; omega) | fail)) only [al_960, wp_aloadr_0, wp_aloadk_0, wk_45, wc_16, wz_eq_t, wz_eq_f, wb_eq_t, wb_eq_f, wm_eq_1, wm_eq_2, wc_15, wp_istore_1, wk_3000, wc_18, wp_iload_1, wp_freturn0, wp_freturn1, wp_freturnb, al_961, wc_9, wk_3, wc_8, wk_1, al_962, wp_ldc, wc_19, wz_lt_t, wz_lt_f, wm_lt_1, wm_lt_2, wk_1000, wp_iadd, al_963, hg_86_14, wk_4, wn_eq_t, wn_eq_f, wk_40, wz_ne_t, wz_ne_f, wb_ne_t, wb_ne_f, wm_ne_1, wm_ne_2, wp_jsr, al_964, wk_0, al_965, wp_dupi, wp_dupr, hp_86_14, wc_14, wk_41, al_966, al_967, wp_isub, nl_i, nl_r, nl_k, nl_j, nl_l, nI_add, pk_mul, pk_sub, tl_s, tl_n, aL_inl, u2_same, u2_ab, u2_aq, nI_l, lN_i, Nat.add_zero, Nat.zero_add, Nat.zero_le, true_and, and_true, b2n_10, b2n_T, b2n_F, b2n_0, Decidable.not_not, not_true_eq_false, not_false_eq_true, Nat.reduceAdd, Nat.reduceMul, Nat.reduceSub, t45, h9, t19, x5, t40]
      exact hx
theorem hd_14 {r : Nat} {v3 : Value} (hr : r ≤ 2) : aWp ko d 14 (aP.1 (Int.toNat 899)) [.ref 86, .int (nI r), .int (nI 1), v3] [] (hp D N I J x) P = aMm ko d 19 [.ref 86, .retAddr (4 + r)] (hp D N I J x) (fun v σ1 => aWp ko d 14 [.istore 3, .iload 3, .ifCond .ge 903, .iconst 1, .freturn] [.ref 86, .int (nI r), .int (nI 1), v3] (v.toList ++ []) σ1 P) := by
  have h3 : r = 0 ∨ r = 1 ∨ r = 2 := by omega
  rcases h3 with rfl | rfl | rfl
  · rw [al_899]
    simp (disch := (first | omega | exact aCat_8 (by with_unfolding_all rfl) | exact rk_lt (by with_unfolding_all rfl) | exact aCat_16 (by with_unfolding_all rfl) | exact rk_eq (by with_unfolding_all rfl) | assumption | exact b2n_lt _ | exact id_b (by with_unfolding_all rfl) | (simp (disch := omega) only [u2_same, u2_ab, u2_aq]; done) | (simp (disch := omega) only [u2_same, u2_ab, u2_aq]; omega) | fail)) only [al_896, wp_iload_1, wk_3, wn_ne_t, wn_ne_f, wp_aloadr_0, wp_aloadk_0, wc_15, wp_freturn0, wp_freturn1, wp_freturnb, al_897, wk_1, wp_iadd, wc_14, wz_ne_t, wz_ne_f, wb_ne_t, wb_ne_f, wm_ne_1, wm_ne_2, wk_0, al_898, wp_istore_2, wp_jsr, wp_iload_2, wz_eq_t, wz_eq_f, wb_eq_t, wb_eq_f, wm_eq_1, wm_eq_2, wp_ldc, wp_goto, al_900, al_901, al_902, wc_19, wp_istore_3, wp_iload_3, wz_ge_t, wz_ge_f, wm_ge_1, wm_ge_2, al_904, wk_2000, al_905, al_906, wk_5, al_907, wc_18, wz_le_t, wz_le_f, wm_le_1, wm_le_2, al_908, al_909, al_910, nl_i, nl_r, nl_k, nl_j, nl_l, nI_add, pk_mul, pk_sub, tl_s, tl_n, aL_inl, u2_same, u2_ab, u2_aq, nI_l, lN_i, Nat.add_zero, Nat.zero_add, Nat.zero_le, true_and, and_true, b2n_10, b2n_T, b2n_F, b2n_0, Decidable.not_not, not_true_eq_false, not_false_eq_true, Nat.reduceAdd, Nat.reduceMul, Nat.reduceSub]
  · rw [al_899]
    simp (disch := (first | omega | exact aCat_8 (by with_unfolding_all rfl) | exact rk_lt (by with_unfolding_all rfl) | exact aCat_16 (by with_unfolding_all rfl) | exact rk_eq (by with_unfolding_all rfl) | assumption | exact b2n_lt _ | exact id_b (by with_unfolding_all rfl) | (simp (disch := omega) only [u2_same, u2_ab, u2_aq]; done) | (simp (disch := omega) only [u2_same, u2_ab, u2_aq]; omega) | fail)) only [al_896, wp_iload_1, wk_3, wn_ne_t, wn_ne_f, wp_aloadr_0, wp_aloadk_0, wc_15, wp_freturn0, wp_freturn1, wp_freturnb, al_897, wk_1, wp_iadd, wc_14, wz_ne_t, wz_ne_f, wb_ne_t, wb_ne_f, wm_ne_1, wm_ne_2, wk_0, al_898, wp_istore_2, wp_jsr, wp_iload_2, wz_eq_t, wz_eq_f, wb_eq_t, wb_eq_f, wm_eq_1, wm_eq_2, wp_ldc, wp_goto, al_900, al_901, al_902, wc_19, wp_istore_3, wp_iload_3, wz_ge_t, wz_ge_f, wm_ge_1, wm_ge_2, al_904, wk_2000, al_905, al_906, wk_5, al_907, wc_18, wz_le_t, wz_le_f, wm_le_1, wm_le_2, al_908, al_909, al_910, nl_i, nl_r, nl_k, nl_j, nl_l, nI_add, pk_mul, pk_sub, tl_s, tl_n, aL_inl, u2_same, u2_ab, u2_aq, nI_l, lN_i, Nat.add_zero, Nat.zero_add, Nat.zero_le, true_and, and_true, b2n_10, b2n_T, b2n_F, b2n_0, Decidable.not_not, not_true_eq_false, not_false_eq_true, Nat.reduceAdd, Nat.reduceMul, Nat.reduceSub]
  · rw [al_899]
    simp (disch := (first | omega | exact aCat_8 (by with_unfolding_all rfl) | exact rk_lt (by with_unfolding_all rfl) | exact aCat_16 (by with_unfolding_all rfl) | exact rk_eq (by with_unfolding_all rfl) | assumption | exact b2n_lt _ | exact id_b (by with_unfolding_all rfl) | (simp (disch := omega) only [u2_same, u2_ab, u2_aq]; done) | (simp (disch := omega) only [u2_same, u2_ab, u2_aq]; omega) | fail)) only [al_896, wp_iload_1, wk_3, wn_ne_t, wn_ne_f, wp_aloadr_0, wp_aloadk_0, wc_15, wp_freturn0, wp_freturn1, wp_freturnb, al_897, wk_1, wp_iadd, wc_14, wz_ne_t, wz_ne_f, wb_ne_t, wb_ne_f, wm_ne_1, wm_ne_2, wk_0, al_898, wp_istore_2, wp_jsr, wp_iload_2, wz_eq_t, wz_eq_f, wb_eq_t, wb_eq_f, wm_eq_1, wm_eq_2, wp_ldc, wp_goto, al_900, al_901, al_902, wc_19, wp_istore_3, wp_iload_3, wz_ge_t, wz_ge_f, wm_ge_1, wm_ge_2, al_904, wk_2000, al_905, al_906, wk_5, al_907, wc_18, wz_le_t, wz_le_f, wm_le_1, wm_le_2, al_908, al_909, al_910, nl_i, nl_r, nl_k, nl_j, nl_l, nI_add, pk_mul, pk_sub, tl_s, tl_n, aL_inl, u2_same, u2_ab, u2_aq, nI_l, lN_i, Nat.add_zero, Nat.zero_add, Nat.zero_le, true_and, and_true, b2n_10, b2n_T, b2n_F, b2n_0, Decidable.not_not, not_true_eq_false, not_false_eq_true, Nat.reduceAdd, Nat.reduceMul, Nat.reduceSub]
theorem cd_14 {r a n : Nat} (hr : r ≤ 2) (ha : a < 3) (h19 : N 86 19 = n) (hn : n < 80) : aWp ko d 14 (aP.1 (Int.toNat 904)) [.ref 86, .int (nI r), .int (nI 1), .int (nI a)] [] (hp D N I J x) P = aWp ko d 14 (aP.1 (Int.toNat 899)) [.ref 86, .int (nI r), .int (nI (if r = 0 then 0 else 1)), .int (nI a)] [] (hp D (u2 (u2 N 94 n (2000 + a + ofR r)) 86 19 (n + 1)) I J x) P := by
  have t18 := fun (c : Nat) Q => t_18 (ko := ko) (d := d) (D := D) (I := I) (J := J) (x := x) (Q := Q) (c := c) h19 hn
  have h3 : r = 0 ∨ r = 1 ∨ r = 2 := by omega
  rcases h3 with rfl | rfl | rfl
  · have e : 2000 + a + ofR 0 = 2000 + a := rfl
    rw [al_904, e]
    simp (disch := (first | omega | exact aCat_8 (by with_unfolding_all rfl) | exact rk_lt (by with_unfolding_all rfl) | exact aCat_16 (by with_unfolding_all rfl) | exact rk_eq (by with_unfolding_all rfl) | assumption | exact b2n_lt _ | exact id_b (by with_unfolding_all rfl) | (simp (disch := omega) only [u2_same, u2_ab, u2_aq]; done) | (simp (disch := omega) only [u2_same, u2_ab, u2_aq]; omega) | fail)) only [al_896, wp_iload_1, wk_3, wn_ne_t, wn_ne_f, wp_aloadr_0, wp_aloadk_0, wc_15, wp_freturn0, wp_freturn1, wp_freturnb, al_897, wk_1, wp_iadd, wc_14, wz_ne_t, wz_ne_f, wb_ne_t, wb_ne_f, wm_ne_1, wm_ne_2, wk_0, al_898, wp_istore_2, wp_jsr, wp_iload_2, wz_eq_t, wz_eq_f, wb_eq_t, wb_eq_f, wm_eq_1, wm_eq_2, wp_ldc, wp_goto, al_900, al_901, al_902, wc_19, wp_istore_3, wp_iload_3, wz_ge_t, wz_ge_f, wm_ge_1, wm_ge_2, al_903, al_904, wk_2000, al_905, al_906, wk_5, al_907, wc_18, wz_le_t, wz_le_f, wm_le_1, wm_le_2, al_908, al_909, al_910, nl_i, nl_r, nl_k, nl_j, nl_l, nI_add, pk_mul, pk_sub, tl_s, tl_n, aL_inl, u2_same, u2_ab, u2_aq, nI_l, lN_i, Nat.add_zero, Nat.zero_add, Nat.zero_le, true_and, and_true, b2n_10, b2n_T, b2n_F, b2n_0, Decidable.not_not, not_true_eq_false, not_false_eq_true, Nat.reduceAdd, Nat.reduceMul, Nat.reduceSub, t18]
    rfl
  · have e : 2000 + a + ofR 1 = 2000 + a + 3 := rfl
    rw [al_904, e]
    simp (disch := (first | omega | exact aCat_8 (by with_unfolding_all rfl) | exact rk_lt (by with_unfolding_all rfl) | exact aCat_16 (by with_unfolding_all rfl) | exact rk_eq (by with_unfolding_all rfl) | assumption | exact b2n_lt _ | exact id_b (by with_unfolding_all rfl) | (simp (disch := omega) only [u2_same, u2_ab, u2_aq]; done) | (simp (disch := omega) only [u2_same, u2_ab, u2_aq]; omega) | fail)) only [al_896, wp_iload_1, wk_3, wn_ne_t, wn_ne_f, wp_aloadr_0, wp_aloadk_0, wc_15, wp_freturn0, wp_freturn1, wp_freturnb, al_897, wk_1, wp_iadd, wc_14, wz_ne_t, wz_ne_f, wb_ne_t, wb_ne_f, wm_ne_1, wm_ne_2, wk_0, al_898, wp_istore_2, wp_jsr, wp_iload_2, wz_eq_t, wz_eq_f, wb_eq_t, wb_eq_f, wm_eq_1, wm_eq_2, wp_ldc, wp_goto, al_900, al_901, al_902, wc_19, wp_istore_3, wp_iload_3, wz_ge_t, wz_ge_f, wm_ge_1, wm_ge_2, al_903, al_904, wk_2000, al_905, al_906, wk_5, al_907, wc_18, wz_le_t, wz_le_f, wm_le_1, wm_le_2, al_908, al_909, al_910, nl_i, nl_r, nl_k, nl_j, nl_l, nI_add, pk_mul, pk_sub, tl_s, tl_n, aL_inl, u2_same, u2_ab, u2_aq, nI_l, lN_i, Nat.add_zero, Nat.zero_add, Nat.zero_le, true_and, and_true, b2n_10, b2n_T, b2n_F, b2n_0, Decidable.not_not, not_true_eq_false, not_false_eq_true, Nat.reduceAdd, Nat.reduceMul, Nat.reduceSub, t18]
    rfl
  · have e : 2000 + a + ofR 2 = 2000 + a + 5 := rfl
    rw [al_904, e]
    simp (disch := (first | omega | exact aCat_8 (by with_unfolding_all rfl) | exact rk_lt (by with_unfolding_all rfl) | exact aCat_16 (by with_unfolding_all rfl) | exact rk_eq (by with_unfolding_all rfl) | assumption | exact b2n_lt _ | exact id_b (by with_unfolding_all rfl) | (simp (disch := omega) only [u2_same, u2_ab, u2_aq]; done) | (simp (disch := omega) only [u2_same, u2_ab, u2_aq]; omega) | fail)) only [al_896, wp_iload_1, wk_3, wn_ne_t, wn_ne_f, wp_aloadr_0, wp_aloadk_0, wc_15, wp_freturn0, wp_freturn1, wp_freturnb, al_897, wk_1, wp_iadd, wc_14, wz_ne_t, wz_ne_f, wb_ne_t, wb_ne_f, wm_ne_1, wm_ne_2, wk_0, al_898, wp_istore_2, wp_jsr, wp_iload_2, wz_eq_t, wz_eq_f, wb_eq_t, wb_eq_f, wm_eq_1, wm_eq_2, wp_ldc, wp_goto, al_900, al_901, al_902, wc_19, wp_istore_3, wp_iload_3, wz_ge_t, wz_ge_f, wm_ge_1, wm_ge_2, al_903, al_904, wk_2000, al_905, al_906, wk_5, al_907, wc_18, wz_le_t, wz_le_f, wm_le_1, wm_le_2, al_908, al_909, al_910, nl_i, nl_r, nl_k, nl_j, nl_l, nI_add, pk_mul, pk_sub, tl_s, tl_n, aL_inl, u2_same, u2_ab, u2_aq, nI_l, lN_i, Nat.add_zero, Nat.zero_add, Nat.zero_le, true_and, and_true, b2n_10, b2n_T, b2n_F, b2n_0, Decidable.not_not, not_true_eq_false, not_false_eq_true, Nat.reduceAdd, Nat.reduceMul, Nat.reduceSub, t18]
    rfl
/-- the loop of a rank -/
theorem l_14 {N0 : Nat → Nat → Nat} {to g r pos0 ne : Nat} {ro0 w : List Nat} (hk : koT ko) (hto : to ≤ 40) (hb : ∀ i, i < to → N0 91 i < 256) (hr : r ≤ 2) (h14 : cRd ko D I J x N0 to d (r + 1) 14 [.ref 86, .int (nI (r + 1))] (5 - (r + 1)) g) (hne : ne ≤ 4) (hl : ro0.length + w.length ≤ pos0) (htp : tpl (r + 1) w) (hm : (to - pos0) + 4 * (4 - ne) + (5 - r) ≤ g + 1)
    (hY : ∀ (N' : Nat → Nat → Nat) (pos' dg : Nat) (ro' P : List Nat), rsL N0 N' to pos' (revA P ro') ne → pos' ≤ to → rch (N0 91) (ro0, w, ne, 0, true) pos0 (ro', P ++ w, ne, dg, false) pos' → (∀ j, j ∈ P → r + 1 ≤ bnd j) → blk (N0 91) to r pos' (ro', P ++ w, ne, dg, false) → (∀ h, hgt ro0 = some h → hgt (revA P ro') = some (h + 1)) → Q (some (.int (nI 1))) (hp D N' I J x))
    (hN : ∀ (N' : Nat → Nat → Nat) (pos' : Nat) (s' : rdS), rsF N0 N' to pos' → pos' ≤ to → N' 86 19 + pos0 ≤ ro0.length + pos' → rch (N0 91) (ro0, w, ne, 0, true) pos0 s' pos' → ((pos' < to ∧ stp s' (N0 91 pos') = none) ∨ (pos' = to ∧ (s'.2.2.2.2 = true ∨ 0 < s'.2.2.1))) → Q (some (.int (nI 0))) (hp D N' I J x)) :
    ∀ (n : Nat) (N : Nat → Nat → Nat) (pos dg : Nat) (ro P : List Nat) (v3 : Value), to - pos ≤ n → rsL N0 N to pos (revA P ro) ne → pos ≤ to → rch (N0 91) (ro0, w, ne, 0, true) pos0 (ro, P ++ w, ne, dg, false) pos → (∀ j, j ∈ P → max 2 (r + 1) ≤ bnd j) → blk (N0 91) to (r + 1) pos (ro, P ++ w, ne, dg, false) → (∀ h, hgt ro0 = some h → hgt (revA P ro) = some (h + 1)) → aWp ko (d + (g + 1)) 14 (aP.1 (Int.toNat 899)) [.ref 86, .int (nI r), .int (nI 1), v3] [] (hp D N I J x) (aL Q) := by
  intro n
  induction n with
  | zero =>
    intro N pos dg ro P v3 hn hs hpt hrc hP hblk hh
    have e : pos = to := by omega
    obtain ⟨⟨x1, x2, x3, x4⟩, x5, x6, x7⟩ := id hs
    have hx := hY N pos dg ro P hs hpt hrc (fun j hj => by have := hP j hj; omega) (Or.inl e) hh
    rw [hd_14 hr, t_19e (N0 := N) hk (by omega) (by omega) ⟨x1, x2, x3, fun _ _ _ _ => rfl⟩ (by omega) e]
    simp (disch := (first | omega | exact aCat_8 (by with_unfolding_all rfl) | exact rk_lt (by with_unfolding_all rfl) | exact aCat_16 (by with_unfolding_all rfl) | exact rk_eq (by with_unfolding_all rfl) | assumption | exact b2n_lt _ | exact id_b (by with_unfolding_all rfl) | (simp (disch := omega) only [u2_same, u2_ab, u2_aq]; done) | (simp (disch := omega) only [u2_same, u2_ab, u2_aq]; omega) | fail)) only [al_896, wp_iload_1, wk_3, wn_ne_t, wn_ne_f, wp_aloadr_0, wp_aloadk_0, wc_15, wp_freturn0, wp_freturn1, wp_freturnb, al_897, wk_1, wp_iadd, wc_14, wz_ne_t, wz_ne_f, wb_ne_t, wb_ne_f, wm_ne_1, wm_ne_2, wk_0, al_898, wp_istore_2, wp_jsr, wp_iload_2, wz_eq_t, wz_eq_f, wb_eq_t, wb_eq_f, wm_eq_1, wm_eq_2, wp_ldc, wp_goto, al_900, al_901, al_902, wc_19, wp_istore_3, wp_iload_3, wz_ge_t, wz_ge_f, wm_ge_1, wm_ge_2, al_903, wk_2000, al_905, al_906, wk_5, al_907, wc_18, wz_le_t, wz_le_f, wm_le_1, wm_le_2, al_908, al_909, al_910, nl_i, nl_r, nl_k, nl_j, nl_l, nI_add, pk_mul, pk_sub, tl_s, tl_n, aL_inl, u2_same, u2_ab, u2_aq, nI_l, lN_i, Nat.add_zero, Nat.zero_add, Nat.zero_le, true_and, and_true, b2n_10, b2n_T, b2n_F, b2n_0, Decidable.not_not, not_true_eq_false, not_false_eq_true, Nat.reduceAdd, Nat.reduceMul, Nat.reduceSub]
    exact hx
  | succ n ih =>
    intro N pos dg ro P v3 hn hs hpt hrc hP hblk hh
    obtain ⟨⟨x1, x2, x3, x4⟩, x5, x6, x7⟩ := id hs
    have hle0 := rch_le hrc
    have hlen0 := rch_len hrc
    dsimp only at hlen0
    rw [List.length_append] at hlen0
    have hrl0 := revA_len (P := P) (o := ro)
    by_cases e : pos = to
    · have hx := hY N pos dg ro P hs hpt hrc (fun j hj => by have := hP j hj; omega) (Or.inl e) hh
      rw [hd_14 hr, t_19e (N0 := N) hk (by omega) (by omega) ⟨x1, x2, x3, fun _ _ _ _ => rfl⟩ (by omega) e]
      simp (disch := (first | omega | exact aCat_8 (by with_unfolding_all rfl) | exact rk_lt (by with_unfolding_all rfl) | exact aCat_16 (by with_unfolding_all rfl) | exact rk_eq (by with_unfolding_all rfl) | assumption | exact b2n_lt _ | exact id_b (by with_unfolding_all rfl) | (simp (disch := omega) only [u2_same, u2_ab, u2_aq]; done) | (simp (disch := omega) only [u2_same, u2_ab, u2_aq]; omega) | fail)) only [al_896, wp_iload_1, wk_3, wn_ne_t, wn_ne_f, wp_aloadr_0, wp_aloadk_0, wc_15, wp_freturn0, wp_freturn1, wp_freturnb, al_897, wk_1, wp_iadd, wc_14, wz_ne_t, wz_ne_f, wb_ne_t, wb_ne_f, wm_ne_1, wm_ne_2, wk_0, al_898, wp_istore_2, wp_jsr, wp_iload_2, wz_eq_t, wz_eq_f, wb_eq_t, wb_eq_f, wm_eq_1, wm_eq_2, wp_ldc, wp_goto, al_900, al_901, al_902, wc_19, wp_istore_3, wp_iload_3, wz_ge_t, wz_ge_f, wm_ge_1, wm_ge_2, al_903, wk_2000, al_905, al_906, wk_5, al_907, wc_18, wz_le_t, wz_le_f, wm_le_1, wm_le_2, al_908, al_909, al_910, nl_i, nl_r, nl_k, nl_j, nl_l, nI_add, pk_mul, pk_sub, tl_s, tl_n, aL_inl, u2_same, u2_ab, u2_aq, nI_l, lN_i, Nat.add_zero, Nat.zero_add, Nat.zero_le, true_and, and_true, b2n_10, b2n_T, b2n_F, b2n_0, Decidable.not_not, not_true_eq_false, not_false_eq_true, Nat.reduceAdd, Nat.reduceMul, Nat.reduceSub]
      exact hx
    · have e91 : N 91 pos = N0 91 pos := x4 91 pos (by decide) (by omega)
      rw [hd_14 hr]
      refine t_19 (N0 := N) hk (by omega) (by omega) ⟨x1, x2, x3, fun _ _ _ _ => rfl⟩ (by omega) (by omega) (fun i hi => by rw [x4 91 i (by decide) (by omega)]; exact hb i hi) ?_ ?_
      · intro a ha hc1 _ N1 hx1 hf
        have hch := ch_len (i := 4 + r)
        have ha3 : a < 3 := by
          have h3 : r = 0 ∨ r = 1 ∨ r = 2 := by omega
          rcases h3 with rfl | rfl | rfl
          · exact ha
          · have : a < 2 := ha
            omega
          · have : a < 2 := ha
            omega
        obtain ⟨o1, o2⟩ := op_y hr ha
        rw [hc1, e91] at o1
        have hjb := jn_b o1
        have hs1 := rs_fr (p := pos + 1) hs hf hx1.2.1
        obtain ⟨q1, q2⟩ := rp_P (b := max 2 (r + 1)) (P := P) (w := w) (o := ro) hP (tpl_m htp (by omega))
        have hst : stp (ro, P ++ w, ne, dg, false) (N0 91 pos) = some (revA P ro, (2000 + a + ofR r) :: w, ne, 0, true) := by
          rw [stp_j o1, o2, q1, q2]
          refine if_neg ?_
          rintro ⟨y1, y2⟩
          cases w with
          | nil => cases y2
          | cons j w' =>
            have h1 : bnd j < r + 1 := htp
            have h2 : bnd j = 1 := of_decide_eq_true y2
            omega
        rw [← Nat.add_assoc]
        simp (disch := (first | omega | exact aCat_8 (by with_unfolding_all rfl) | exact rk_lt (by with_unfolding_all rfl) | exact aCat_16 (by with_unfolding_all rfl) | exact rk_eq (by with_unfolding_all rfl) | assumption | exact b2n_lt _ | exact id_b (by with_unfolding_all rfl) | (simp (disch := omega) only [u2_same, u2_ab, u2_aq]; done) | (simp (disch := omega) only [u2_same, u2_ab, u2_aq]; omega) | fail)) only [al_896, wp_iload_1, wk_3, wn_ne_t, wn_ne_f, wp_aloadr_0, wp_aloadk_0, wc_15, wp_freturn0, wp_freturn1, wp_freturnb, al_897, wk_1, wp_iadd, wc_14, wz_ne_t, wz_ne_f, wb_ne_t, wb_ne_f, wm_ne_1, wm_ne_2, wk_0, al_898, wp_istore_2, wp_jsr, wp_iload_2, wz_eq_t, wz_eq_f, wb_eq_t, wb_eq_f, wm_eq_1, wm_eq_2, wp_ldc, wp_goto, al_900, al_901, al_902, wc_19, wp_istore_3, wp_iload_3, wz_ge_t, wz_ge_f, wm_ge_1, wm_ge_2, al_903, wk_2000, al_905, al_906, wk_5, al_907, wc_18, wz_le_t, wz_le_f, wm_le_1, wm_le_2, al_908, al_909, al_910, nl_i, nl_r, nl_k, nl_j, nl_l, nI_add, pk_mul, pk_sub, tl_s, tl_n, aL_inl, u2_same, u2_ab, u2_aq, nI_l, lN_i, Nat.add_zero, Nat.zero_add, Nat.zero_le, true_and, and_true, b2n_10, b2n_T, b2n_F, b2n_0, Decidable.not_not, not_true_eq_false, not_false_eq_true, Nat.reduceAdd, Nat.reduceMul, Nat.reduceSub, wr_14]
        refine h14 N1 (pos + 1) ne (revA P ro) ((2000 + a + ofR r) :: w) _ hs1 (by omega) hne (by rw [List.length_cons]; omega) (fun _ => (show bnd (2000 + a + ofR r) < r + 1 + 1 by omega)) (by omega) ?_ ?_
        · intro N2 pos2 dg2 ro2 P2 a1 a2 a3 a4 a5 a6
          have hrc2 := rch_t hrc (rch_t (rch_1 hst) a3)
          have hlen := rch_len a3
          have hle := rch_le a3
          dsimp only at hlen
          rw [List.length_append, List.length_cons] at hlen
          have hrl := revA_len (P := P2) (o := ro2)
          have e1 : P2 ++ (2000 + a + ofR r) :: w = (P2 ++ [2000 + a + ofR r]) ++ w := by rw [List.append_assoc]; rfl
          have hP2 : ∀ j, j ∈ P2 ++ [2000 + a + ofR r] → r + 1 ≤ bnd j := fun j hj => by
            rcases List.mem_append.mp hj with hj | hj
            · have := a4 j hj
              omega
            · rw [List.mem_singleton.mp hj]
              omega
          have hs3 := rs_c (c := 2000 + a + ofR r) a1
          rw [← revA_c] at hs3
          have hh3 : ∀ h, hgt ro0 = some h → hgt (revA (P2 ++ [2000 + a + ofR r]) ro2) = some (h + 1) := fun h y => by
            rw [revA_c]
            have := hgt_j (c := 2000 + a + ofR r) (a6 (h + 1) (hh h y)) (by omega) ⟨hjb.2.2.1, hjb.2.2.2⟩
            exact this
          rw [e1] at hrc2 a5
          have hcd := cd_14 (ko := ko) (d := d + g + 1) (D := D) (I := I) (J := J) (x := x) (N := N2) (P := aL Q) hr ha3 a1.2.2.1 (by omega)
          simp (disch := (first | omega | exact aCat_8 (by with_unfolding_all rfl) | exact rk_lt (by with_unfolding_all rfl) | exact aCat_16 (by with_unfolding_all rfl) | exact rk_eq (by with_unfolding_all rfl) | assumption | exact b2n_lt _ | exact id_b (by with_unfolding_all rfl) | (simp (disch := omega) only [u2_same, u2_ab, u2_aq]; done) | (simp (disch := omega) only [u2_same, u2_ab, u2_aq]; omega) | fail)) only [al_896, wp_iload_1, wk_3, wn_ne_t, wn_ne_f, wp_aloadr_0, wp_aloadk_0, wc_15, wp_freturn0, wp_freturn1, wp_freturnb, al_897, wk_1, wp_iadd, wc_14, wz_ne_t, wz_ne_f, wb_ne_t, wb_ne_f, wm_ne_1, wm_ne_2, wk_0, al_898, wp_istore_2, wp_jsr, wp_iload_2, wz_eq_t, wz_eq_f, wb_eq_t, wb_eq_f, wm_eq_1, wm_eq_2, wp_ldc, wp_goto, al_900, al_901, al_902, wc_19, wp_istore_3, wp_iload_3, wz_ge_t, wz_ge_f, wm_ge_1, wm_ge_2, al_903, wk_2000, al_905, al_906, wk_5, al_907, wc_18, wz_le_t, wz_le_f, wm_le_1, wm_le_2, al_908, al_909, al_910, nl_i, nl_r, nl_k, nl_j, nl_l, nI_add, pk_mul, pk_sub, tl_s, tl_n, aL_inl, u2_same, u2_ab, u2_aq, nI_l, lN_i, Nat.add_zero, Nat.zero_add, Nat.zero_le, true_and, and_true, b2n_10, b2n_T, b2n_F, b2n_0, Decidable.not_not, not_true_eq_false, not_false_eq_true, Nat.reduceAdd, Nat.reduceMul, Nat.reduceSub]
          rw [hcd]
          by_cases r0 : r = 0
          · have hblk2 : blk (N0 91) to r pos2 (ro2, (P2 ++ [2000 + a + ofR r]) ++ w, ne, dg2, false) := by
              rcases a5 with a5 | a5 | a5 | ⟨j, a5, a7⟩
              · exact Or.inl a5
              · exact Or.inr (Or.inl a5)
              · exact Or.inr (Or.inr (Or.inl a5))
              · refine Or.inr (Or.inl ?_)
                have hj1 := jn_b a5
                have hbj : bnd j = 1 := by omega
                obtain ⟨u1, u2'⟩ := rp_P (b := 2) (P := P2) (w := (2000 + a + ofR r) :: w) (o := ro2) (fun i hi => by have := a4 i hi; omega) (show bnd (2000 + a + ofR r) < 2 by omega)
                rw [stp_j a5, hbj, ← e1, show max 2 1 = 2 from rfl, u1, u2']
                exact if_pos ⟨rfl, decide_eq_true (by omega)⟩
            have hx := hY _ pos2 dg2 ro2 _ hs3 a2 hrc2 hP2 hblk2 hh3
            rw [if_pos r0, al_899]
            simp (disch := (first | omega | exact aCat_8 (by with_unfolding_all rfl) | exact rk_lt (by with_unfolding_all rfl) | exact aCat_16 (by with_unfolding_all rfl) | exact rk_eq (by with_unfolding_all rfl) | assumption | exact b2n_lt _ | exact id_b (by with_unfolding_all rfl) | (simp (disch := omega) only [u2_same, u2_ab, u2_aq]; done) | (simp (disch := omega) only [u2_same, u2_ab, u2_aq]; omega) | fail)) only [al_896, wp_iload_1, wk_3, wn_ne_t, wn_ne_f, wp_aloadr_0, wp_aloadk_0, wc_15, wp_freturn0, wp_freturn1, wp_freturnb, al_897, wk_1, wp_iadd, wc_14, wz_ne_t, wz_ne_f, wb_ne_t, wb_ne_f, wm_ne_1, wm_ne_2, wk_0, al_898, wp_istore_2, wp_jsr, wp_iload_2, wz_eq_t, wz_eq_f, wb_eq_t, wb_eq_f, wm_eq_1, wm_eq_2, wp_ldc, wp_goto, al_900, al_901, al_902, wc_19, wp_istore_3, wp_iload_3, wz_ge_t, wz_ge_f, wm_ge_1, wm_ge_2, al_903, wk_2000, al_905, al_906, wk_5, al_907, wc_18, wz_le_t, wz_le_f, wm_le_1, wm_le_2, al_908, al_909, al_910, nl_i, nl_r, nl_k, nl_j, nl_l, nI_add, pk_mul, pk_sub, tl_s, tl_n, aL_inl, u2_same, u2_ab, u2_aq, nI_l, lN_i, Nat.add_zero, Nat.zero_add, Nat.zero_le, true_and, and_true, b2n_10, b2n_T, b2n_F, b2n_0, Decidable.not_not, not_true_eq_false, not_false_eq_true, Nat.reduceAdd, Nat.reduceMul, Nat.reduceSub]
            exact hx
          · rw [if_neg r0]
            exact ih _ pos2 dg2 ro2 _ _ (by omega) hs3 a2 hrc2 (fun j hj => by have := hP2 j hj; omega) a5 hh3
        · intro N2 pos2 s2 b1 b2 b3 b4 b5
          have hx := hN N2 pos2 s2 b1 b2 (by omega) (rch_t hrc (rch_t (rch_1 hst) b4)) b5
          simp (disch := (first | omega | exact aCat_8 (by with_unfolding_all rfl) | exact rk_lt (by with_unfolding_all rfl) | exact aCat_16 (by with_unfolding_all rfl) | exact rk_eq (by with_unfolding_all rfl) | assumption | exact b2n_lt _ | exact id_b (by with_unfolding_all rfl) | (simp (disch := omega) only [u2_same, u2_ab, u2_aq]; done) | (simp (disch := omega) only [u2_same, u2_ab, u2_aq]; omega) | fail)) only [al_896, wp_iload_1, wk_3, wn_ne_t, wn_ne_f, wp_aloadr_0, wp_aloadk_0, wc_15, wp_freturn0, wp_freturn1, wp_freturnb, al_897, wk_1, wp_iadd, wc_14, wz_ne_t, wz_ne_f, wb_ne_t, wb_ne_f, wm_ne_1, wm_ne_2, wk_0, al_898, wp_istore_2, wp_jsr, wp_iload_2, wz_eq_t, wz_eq_f, wb_eq_t, wb_eq_f, wm_eq_1, wm_eq_2, wp_ldc, wp_goto, al_900, al_901, al_902, wc_19, wp_istore_3, wp_iload_3, wz_ge_t, wz_ge_f, wm_ge_1, wm_ge_2, al_903, wk_2000, al_905, al_906, wk_5, al_907, wc_18, wz_le_t, wz_le_f, wm_le_1, wm_le_2, al_908, al_909, al_910, nl_i, nl_r, nl_k, nl_j, nl_l, nI_add, pk_mul, pk_sub, tl_s, tl_n, aL_inl, u2_same, u2_ab, u2_aq, nI_l, lN_i, Nat.add_zero, Nat.zero_add, Nat.zero_le, true_and, and_true, b2n_10, b2n_T, b2n_F, b2n_0, Decidable.not_not, not_true_eq_false, not_false_eq_true, Nat.reduceAdd, Nat.reduceMul, Nat.reduceSub]
          exact hx
      · intro hall
        have hx := hY N pos dg ro P hs hpt hrc (fun j hj => by have := hP j hj; omega) (by
          rcases hblk with a5 | a5 | a5 | ⟨j, a5, a7⟩
          · exact Or.inl a5
          · exact Or.inr (Or.inl a5)
          · exact Or.inr (Or.inr (Or.inl a5))
          · have := op_n hr (fun a ha => by rw [← e91]; exact hall a ha) a5
            exact Or.inr (Or.inr (Or.inr ⟨j, a5, by omega⟩))) hh
        simp (disch := (first | omega | exact aCat_8 (by with_unfolding_all rfl) | exact rk_lt (by with_unfolding_all rfl) | exact aCat_16 (by with_unfolding_all rfl) | exact rk_eq (by with_unfolding_all rfl) | assumption | exact b2n_lt _ | exact id_b (by with_unfolding_all rfl) | (simp (disch := omega) only [u2_same, u2_ab, u2_aq]; done) | (simp (disch := omega) only [u2_same, u2_ab, u2_aq]; omega) | fail)) only [al_896, wp_iload_1, wk_3, wn_ne_t, wn_ne_f, wp_aloadr_0, wp_aloadk_0, wc_15, wp_freturn0, wp_freturn1, wp_freturnb, al_897, wk_1, wp_iadd, wc_14, wz_ne_t, wz_ne_f, wb_ne_t, wb_ne_f, wm_ne_1, wm_ne_2, wk_0, al_898, wp_istore_2, wp_jsr, wp_iload_2, wz_eq_t, wz_eq_f, wb_eq_t, wb_eq_f, wm_eq_1, wm_eq_2, wp_ldc, wp_goto, al_900, al_901, al_902, wc_19, wp_istore_3, wp_iload_3, wz_ge_t, wz_ge_f, wm_ge_1, wm_ge_2, al_903, wk_2000, al_905, al_906, wk_5, al_907, wc_18, wz_le_t, wz_le_f, wm_le_1, wm_le_2, al_908, al_909, al_910, nl_i, nl_r, nl_k, nl_j, nl_l, nI_add, pk_mul, pk_sub, tl_s, tl_n, aL_inl, u2_same, u2_ab, u2_aq, nI_l, lN_i, Nat.add_zero, Nat.zero_add, Nat.zero_le, true_and, and_true, b2n_10, b2n_T, b2n_F, b2n_0, Decidable.not_not, not_true_eq_false, not_false_eq_true, Nat.reduceAdd, Nat.reduceMul, Nat.reduceSub]
        exact hx
theorem k_14 {N0 : Nat → Nat → Nat} {to g r : Nat} (hk : koT ko) (hto : to ≤ 40) (hb : ∀ i, i < to → N0 91 i < 256) (hr : r ≤ 2) (h14 : cRd ko D I J x N0 to d (r + 1) 14 [.ref 86, .int (nI (r + 1))] (5 - (r + 1)) g) : cRd ko D I J x N0 to d r 14 [.ref 86, .int (nI r)] (5 - r) (g + 1) := by
  intro N pos ne ro w Q hs hpt hne hl htp hm hY hN
  rw [me_14]
  have hloop := l_14 (ko := ko) (d := d) (D := D) (I := I) (J := J) (x := x) (Q := Q) (g := g) hk hto hb hr h14 hne hl (htp (by omega)) hm hY hN
  rw [← Nat.add_assoc] at hloop ⊢
  simp (disch := (first | omega | exact aCat_8 (by with_unfolding_all rfl) | exact rk_lt (by with_unfolding_all rfl) | exact aCat_16 (by with_unfolding_all rfl) | exact rk_eq (by with_unfolding_all rfl) | assumption | exact b2n_lt _ | exact id_b (by with_unfolding_all rfl) | (simp (disch := omega) only [u2_same, u2_ab, u2_aq]; done) | (simp (disch := omega) only [u2_same, u2_ab, u2_aq]; omega) | fail)) only [al_896, wp_iload_1, wk_3, wn_ne_t, wn_ne_f, wp_aloadr_0, wp_aloadk_0, wc_15, wp_freturn0, wp_freturn1, wp_freturnb, al_897, wk_1, wp_iadd, wc_14, wz_ne_t, wz_ne_f, wb_ne_t, wb_ne_f, wm_ne_1, wm_ne_2, wk_0, al_898, wp_istore_2, wp_jsr, wp_iload_2, wz_eq_t, wz_eq_f, wb_eq_t, wb_eq_f, wm_eq_1, wm_eq_2, wp_ldc, wp_goto, al_900, al_901, al_902, wc_19, wp_istore_3, wp_iload_3, wz_ge_t, wz_ge_f, wm_ge_1, wm_ge_2, al_903, wk_2000, al_905, al_906, wk_5, al_907, wc_18, wz_le_t, wz_le_f, wm_le_1, wm_le_2, al_908, al_909, al_910, nl_i, nl_r, nl_k, nl_j, nl_l, nI_add, pk_mul, pk_sub, tl_s, tl_n, aL_inl, u2_same, u2_ab, u2_aq, nI_l, lN_i, Nat.add_zero, Nat.zero_add, Nat.zero_le, true_and, and_true, b2n_10, b2n_T, b2n_F, b2n_0, Decidable.not_not, not_true_eq_false, not_false_eq_true, Nat.reduceAdd, Nat.reduceMul, Nat.reduceSub, wr_14]
  refine h14 N pos ne ro w _ hs hpt hne hl (fun y => tpl_m (htp (by omega)) (by omega)) (by omega) ?_ ?_
  · intro N' pos' dg ro' P a1 a2 a3 a4 a5 a6
    simp (disch := (first | omega | exact aCat_8 (by with_unfolding_all rfl) | exact rk_lt (by with_unfolding_all rfl) | exact aCat_16 (by with_unfolding_all rfl) | exact rk_eq (by with_unfolding_all rfl) | assumption | exact b2n_lt _ | exact id_b (by with_unfolding_all rfl) | (simp (disch := omega) only [u2_same, u2_ab, u2_aq]; done) | (simp (disch := omega) only [u2_same, u2_ab, u2_aq]; omega) | fail)) only [al_896, wp_iload_1, wk_3, wn_ne_t, wn_ne_f, wp_aloadr_0, wp_aloadk_0, wc_15, wp_freturn0, wp_freturn1, wp_freturnb, al_897, wk_1, wp_iadd, wc_14, wz_ne_t, wz_ne_f, wb_ne_t, wb_ne_f, wm_ne_1, wm_ne_2, wk_0, al_898, wp_istore_2, wp_jsr, wp_iload_2, wz_eq_t, wz_eq_f, wb_eq_t, wb_eq_f, wm_eq_1, wm_eq_2, wp_ldc, wp_goto, al_900, al_901, al_902, wc_19, wp_istore_3, wp_iload_3, wz_ge_t, wz_ge_f, wm_ge_1, wm_ge_2, al_903, wk_2000, al_905, al_906, wk_5, al_907, wc_18, wz_le_t, wz_le_f, wm_le_1, wm_le_2, al_908, al_909, al_910, nl_i, nl_r, nl_k, nl_j, nl_l, nI_add, pk_mul, pk_sub, tl_s, tl_n, aL_inl, u2_same, u2_ab, u2_aq, nI_l, lN_i, Nat.add_zero, Nat.zero_add, Nat.zero_le, true_and, and_true, b2n_10, b2n_T, b2n_F, b2n_0, Decidable.not_not, not_true_eq_false, not_false_eq_true, Nat.reduceAdd, Nat.reduceMul, Nat.reduceSub]
    exact hloop (to - pos') N' pos' dg ro' P _ (Nat.le_refl _) a1 a2 a3 (fun j hj => by have := a4 j hj; omega) a5 a6
  · intro N' pos' s' b1 b2 b3 b4 b5
    have hx := hN N' pos' s' b1 b2 b3 b4 b5
    simp (disch := (first | omega | exact aCat_8 (by with_unfolding_all rfl) | exact rk_lt (by with_unfolding_all rfl) | exact aCat_16 (by with_unfolding_all rfl) | exact rk_eq (by with_unfolding_all rfl) | assumption | exact b2n_lt _ | exact id_b (by with_unfolding_all rfl) | (simp (disch := omega) only [u2_same, u2_ab, u2_aq]; done) | (simp (disch := omega) only [u2_same, u2_ab, u2_aq]; omega) | fail)) only [al_896, wp_iload_1, wk_3, wn_ne_t, wn_ne_f, wp_aloadr_0, wp_aloadk_0, wc_15, wp_freturn0, wp_freturn1, wp_freturnb, al_897, wk_1, wp_iadd, wc_14, wz_ne_t, wz_ne_f, wb_ne_t, wb_ne_f, wm_ne_1, wm_ne_2, wk_0, al_898, wp_istore_2, wp_jsr, wp_iload_2, wz_eq_t, wz_eq_f, wb_eq_t, wb_eq_f, wm_eq_1, wm_eq_2, wp_ldc, wp_goto, al_900, al_901, al_902, wc_19, wp_istore_3, wp_iload_3, wz_ge_t, wz_ge_f, wm_ge_1, wm_ge_2, al_903, wk_2000, al_905, al_906, wk_5, al_907, wc_18, wz_le_t, wz_le_f, wm_le_1, wm_le_2, al_908, al_909, al_910, nl_i, nl_r, nl_k, nl_j, nl_l, nI_add, pk_mul, pk_sub, tl_s, tl_n, aL_inl, u2_same, u2_ab, u2_aq, nI_l, lN_i, Nat.add_zero, Nat.zero_add, Nat.zero_le, true_and, and_true, b2n_10, b2n_T, b2n_F, b2n_0, Decidable.not_not, not_true_eq_false, not_false_eq_true, Nat.reduceAdd, Nat.reduceMul, Nat.reduceSub]
    exact hx
theorem k_143 {N0 : Nat → Nat → Nat} {to g : Nat} (h15 : cRd ko D I J x N0 to d 3 15 [.ref 86] 1 g) : cRd ko D I J x N0 to d 3 14 [.ref 86, .int (nI 3)] (5 - 3) (g + 1) := by
  intro N pos ne ro w Q hs hpt hne hl htp hm hY hN
  rw [me_14, ← Nat.add_assoc]
  simp (disch := (first | omega | exact aCat_8 (by with_unfolding_all rfl) | exact rk_lt (by with_unfolding_all rfl) | exact aCat_16 (by with_unfolding_all rfl) | exact rk_eq (by with_unfolding_all rfl) | assumption | exact b2n_lt _ | exact id_b (by with_unfolding_all rfl) | (simp (disch := omega) only [u2_same, u2_ab, u2_aq]; done) | (simp (disch := omega) only [u2_same, u2_ab, u2_aq]; omega) | fail)) only [al_896, wp_iload_1, wk_3, wn_ne_t, wn_ne_f, wp_aloadr_0, wp_aloadk_0, wc_15, wp_freturn0, wp_freturn1, wp_freturnb, al_897, wk_1, wp_iadd, wc_14, wz_ne_t, wz_ne_f, wb_ne_t, wb_ne_f, wm_ne_1, wm_ne_2, wk_0, al_898, wp_istore_2, wp_jsr, wp_iload_2, wz_eq_t, wz_eq_f, wb_eq_t, wb_eq_f, wm_eq_1, wm_eq_2, wp_ldc, wp_goto, al_900, al_901, al_902, wc_19, wp_istore_3, wp_iload_3, wz_ge_t, wz_ge_f, wm_ge_1, wm_ge_2, al_903, wk_2000, al_905, al_906, wk_5, al_907, wc_18, wz_le_t, wz_le_f, wm_le_1, wm_le_2, al_908, al_909, al_910, nl_i, nl_r, nl_k, nl_j, nl_l, nI_add, pk_mul, pk_sub, tl_s, tl_n, aL_inl, u2_same, u2_ab, u2_aq, nI_l, lN_i, Nat.add_zero, Nat.zero_add, Nat.zero_le, true_and, and_true, b2n_10, b2n_T, b2n_F, b2n_0, Decidable.not_not, not_true_eq_false, not_false_eq_true, Nat.reduceAdd, Nat.reduceMul, Nat.reduceSub, wr_15]
  refine h15 N pos ne ro w _ hs hpt hne hl htp (by omega) ?_ ?_
  · intro N' pos' dg ro' P a1 a2 a3 a4 a5 a6
    have hx := hY N' pos' dg ro' P a1 a2 a3 a4 a5 a6
    simp (disch := (first | omega | exact aCat_8 (by with_unfolding_all rfl) | exact rk_lt (by with_unfolding_all rfl) | exact aCat_16 (by with_unfolding_all rfl) | exact rk_eq (by with_unfolding_all rfl) | assumption | exact b2n_lt _ | exact id_b (by with_unfolding_all rfl) | (simp (disch := omega) only [u2_same, u2_ab, u2_aq]; done) | (simp (disch := omega) only [u2_same, u2_ab, u2_aq]; omega) | fail)) only [al_896, wp_iload_1, wk_3, wn_ne_t, wn_ne_f, wp_aloadr_0, wp_aloadk_0, wc_15, wp_freturn0, wp_freturn1, wp_freturnb, al_897, wk_1, wp_iadd, wc_14, wz_ne_t, wz_ne_f, wb_ne_t, wb_ne_f, wm_ne_1, wm_ne_2, wk_0, al_898, wp_istore_2, wp_jsr, wp_iload_2, wz_eq_t, wz_eq_f, wb_eq_t, wb_eq_f, wm_eq_1, wm_eq_2, wp_ldc, wp_goto, al_900, al_901, al_902, wc_19, wp_istore_3, wp_iload_3, wz_ge_t, wz_ge_f, wm_ge_1, wm_ge_2, al_903, wk_2000, al_905, al_906, wk_5, al_907, wc_18, wz_le_t, wz_le_f, wm_le_1, wm_le_2, al_908, al_909, al_910, nl_i, nl_r, nl_k, nl_j, nl_l, nI_add, pk_mul, pk_sub, tl_s, tl_n, aL_inl, u2_same, u2_ab, u2_aq, nI_l, lN_i, Nat.add_zero, Nat.zero_add, Nat.zero_le, true_and, and_true, b2n_10, b2n_T, b2n_F, b2n_0, Decidable.not_not, not_true_eq_false, not_false_eq_true, Nat.reduceAdd, Nat.reduceMul, Nat.reduceSub]
    exact hx
  · intro N' pos' s' b1 b2 b3 b4 b5
    have hx := hN N' pos' s' b1 b2 b3 b4 b5
    simp (disch := (first | omega | exact aCat_8 (by with_unfolding_all rfl) | exact rk_lt (by with_unfolding_all rfl) | exact aCat_16 (by with_unfolding_all rfl) | exact rk_eq (by with_unfolding_all rfl) | assumption | exact b2n_lt _ | exact id_b (by with_unfolding_all rfl) | (simp (disch := omega) only [u2_same, u2_ab, u2_aq]; done) | (simp (disch := omega) only [u2_same, u2_ab, u2_aq]; omega) | fail)) only [al_896, wp_iload_1, wk_3, wn_ne_t, wn_ne_f, wp_aloadr_0, wp_aloadk_0, wc_15, wp_freturn0, wp_freturn1, wp_freturnb, al_897, wk_1, wp_iadd, wc_14, wz_ne_t, wz_ne_f, wb_ne_t, wb_ne_f, wm_ne_1, wm_ne_2, wk_0, al_898, wp_istore_2, wp_jsr, wp_iload_2, wz_eq_t, wz_eq_f, wb_eq_t, wb_eq_f, wm_eq_1, wm_eq_2, wp_ldc, wp_goto, al_900, al_901, al_902, wc_19, wp_istore_3, wp_iload_3, wz_ge_t, wz_ge_f, wm_ge_1, wm_ge_2, al_903, wk_2000, al_905, al_906, wk_5, al_907, wc_18, wz_le_t, wz_le_f, wm_le_1, wm_le_2, al_908, al_909, al_910, nl_i, nl_r, nl_k, nl_j, nl_l, nI_add, pk_mul, pk_sub, tl_s, tl_n, aL_inl, u2_same, u2_ab, u2_aq, nI_l, lN_i, Nat.add_zero, Nat.zero_add, Nat.zero_le, true_and, and_true, b2n_10, b2n_T, b2n_F, b2n_0, Decidable.not_not, not_true_eq_false, not_false_eq_true, Nat.reduceAdd, Nat.reduceMul, Nat.reduceSub]
    exact hx
theorem t_rdA {N0 : Nat → Nat → Nat} {to : Nat} (hk : koT ko) (hto : to ≤ 40) (hb : ∀ i, i < to → N0 91 i < 256) : ∀ g, cRd ko D I J x N0 to d 3 15 [.ref 86] 1 g ∧ ∀ r, r ≤ 3 → cRd ko D I J x N0 to d r 14 [.ref 86, .int (nI r)] (5 - r) g := by
  intro g
  induction g with
  | zero => exact ⟨fun N pos ne ro w Q _ _ _ _ _ hm => absurd hm (by omega), fun r hr N pos ne ro w Q _ _ _ _ _ hm => absurd hm (by omega)⟩
  | succ g ih =>
    obtain ⟨i1, i2⟩ := ih
    refine ⟨k_15 hk hto hb i1 (i2 0 (by omega)), fun r hr => ?_⟩
    by_cases e : r = 3
    · subst e
      exact k_143 i1
    · exact k_14 hk hto hb (by omega) (i2 (r + 1) (by omega))
end RG
