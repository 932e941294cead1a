/-! keep, again. From wip/whole/src. -/
theorem kb_or : ∀ m, m < 8 → ∀ i, i < 3 → nI m ||| (nI 1 <<< (nI i &&& 31)) = nI (m ||| 1 <<< i) ∧ (m ||| 1 <<< i) < 8 := by decide +kernel
theorem kb_tb : ∀ m, m < 8 → ∀ i, i < 3 → ∀ j, j < 3 → (m ||| 1 <<< i).testBit j = (m.testBit j || decide (j = i)) := by decide +kernel
theorem kb_bit : ∀ m, m < 8 → ∀ i, i < 3 → tb (lN m) i = m.testBit i := by decide +kernel
theorem st_kept {i : Nat} (h : i < 3) : stB (80 + 2 * i) = true := by
  have : i = 0 ∨ i = 1 ∨ i = 2 := by omega
  rcases this with rfl | rfl | rfl <;> rfl
section K1
variable {ko : aKo} {d k : Nat} {is : List Instr} {ls st : List Value} {σ : aH} {D : Nat → Nat} {N : Nat → Nat → Nat} {I : Nat → Nat → Int32} {J : Nat → Nat → Int64} {x t : Nat} {Q : Option Value → aH → Prop} {P : (Option Value ⊕ Unit) → aH → Prop}
theorem t_221g {i m : Nat} (hi : i < 3) (hm : m < 8) (he : I 0 13 = nI m) : aMm ko d 221 [.ref 0, .int (nI i)] (hp D N I J x) Q = Q (some (.int (nI 1))) (hp D (cpS N (80 + 2 * i) 20) (u2 I 0 13 (nI (m ||| 1 <<< i))) (cpJ J (80 + 2 * i) 20) x) := by
  have hs := st_kept hi
  have hb := (kb_or m hm i hi).1
  rw [me_221]
  simp (disch := (first | omega | exact aCat_8 (by with_unfolding_all rfl) | exact rk_lt (by with_unfolding_all rfl) | exact aCat_16 (by with_unfolding_all rfl) | exact rk_eq (by with_unfolding_all rfl) | assumption | exact b2n_lt _ | exact id_b (by with_unfolding_all rfl) | (simp (disch := omega) only [u2_same, u2_ab, u2_aq]; done) | (simp (disch := omega) only [u2_same, u2_ab, u2_aq]; omega) | fail)) only [al_14144, wp_iload_1, wz_lt_t, wz_lt_f, wm_lt_1, wm_lt_2, wk_3, wn_lt_t, wn_lt_f, wp_jsr, al_14145, wk_0, wp_freturn0, wp_freturn1, wp_freturnb, al_14146, wp_aloadr_0, wp_aloadk_0, hg_0_12, ha_64l, hg_0_7, wp_dupi, wp_dupr, hg_0_13, wk_1, wp_ishl, wp_ior, hp_0_13, nl_i, nl_r, nl_k, nl_j, nl_l, nI_add, pk_mul, pk_sub, tl_s, tl_n, aL_inl, u2_same, u2_ab, u2_aq, nI_l, lN_i, Nat.add_zero, Nat.zero_add, Nat.zero_le, true_and, and_true, b2n_10, b2n_T, b2n_F, b2n_0, Decidable.not_not, not_true_eq_false, not_false_eq_true, Nat.reduceAdd, Nat.reduceMul, Nat.reduceSub, wc_283 (m := 80 + 2 * i) hs, t_283 (s := 80 + 2 * i) (s' := 20) hs rfl (by omega), he, hb]
theorem l_104 {i : Nat} {T : Nat → Nat} (hi : i < 3) : ∀ j q : Nat, q + j = 111 → aWp ko d 104 (aP.1 (Int.toNat 6658)) [.ref 86, .int (nI i), .int (nI q)] [] (hp D (setRow N 124 (puT (N 89) T i q)) I J x) (aL Q) = Q (some (.int (nI 1))) (hp D (setRow N 124 (puT (N 89) T i 111)) I J x) := by
  have en : ∀ (T : Nat → Nat) (b : Nat), b ≠ 124 → setRow N 124 T b = N b := fun T b hb => setRow_n hb
  intro j
  induction j with
  | zero =>
    intro q hq
    have e : q = 111 := by omega
    subst e
    simp (disch := (first | omega | exact aCat_8 (by with_unfolding_all rfl) | exact rk_lt (by with_unfolding_all rfl) | exact aCat_16 (by with_unfolding_all rfl) | exact rk_eq (by with_unfolding_all rfl) | assumption | exact b2n_lt _ | exact id_b (by with_unfolding_all rfl) | (simp (disch := omega) only [u2_same, u2_ab, u2_aq]; done) | (simp (disch := omega) only [u2_same, u2_ab, u2_aq]; omega) | fail)) only [al_6656, wp_aloadr_0, wp_aloadk_0, wk_0, hp_86_0, wp_iload_1, wp_i2l, wl_0, wl_2, wc_4, t_4, lN_le, wz_ne_t, wz_ne_f, wb_ne_t, wb_ne_f, wm_ne_1, wm_ne_2, wp_freturn0, wp_freturn1, wp_freturnb, al_6657, hg_86_57, ha_122l, ha_122s, wk_1, hg_86_58, ha_123l, ha_123s, hg_86_5, wp_istore_2, wp_jsr, al_6658, wp_iload_2, wk_111, wn_ge_t, wn_ge_f, hg_86_59, ha_124l, ha_124s, wp_imul, wp_iadd, hg_86_8, ha_89l, ha_89s, wp_iinc_2_1, wp_goto, al_6659, nl_i, nl_r, nl_k, nl_j, nl_l, nI_add, pk_mul, pk_sub, tl_s, tl_n, aL_inl, u2_same, u2_ab, u2_aq, nI_l, lN_i, Nat.add_zero, Nat.zero_add, Nat.zero_le, true_and, and_true, b2n_10, b2n_T, b2n_F, b2n_0, Decidable.not_not, not_true_eq_false, not_false_eq_true, Nat.reduceAdd, Nat.reduceMul, Nat.reduceSub]
  | succ j ih =>
    intro q hq
    rw [al_6658]
    simp (disch := (first | omega | exact aCat_8 (by with_unfolding_all rfl) | exact rk_lt (by with_unfolding_all rfl) | exact aCat_16 (by with_unfolding_all rfl) | exact rk_eq (by with_unfolding_all rfl) | assumption | exact b2n_lt _ | exact id_b (by with_unfolding_all rfl) | (simp (disch := omega) only [u2_same, u2_ab, u2_aq]; done) | (simp (disch := omega) only [u2_same, u2_ab, u2_aq]; omega) | fail)) only [al_6656, wp_aloadr_0, wp_aloadk_0, wk_0, hp_86_0, wp_iload_1, wp_i2l, wl_0, wl_2, wc_4, t_4, lN_le, wz_ne_t, wz_ne_f, wb_ne_t, wb_ne_f, wm_ne_1, wm_ne_2, wp_freturn0, wp_freturn1, wp_freturnb, al_6657, hg_86_57, ha_122l, ha_122s, wk_1, hg_86_58, ha_123l, ha_123s, hg_86_5, wp_istore_2, wp_jsr, wp_iload_2, wk_111, wn_ge_t, wn_ge_f, hg_86_59, ha_124l, ha_124s, wp_imul, wp_iadd, hg_86_8, ha_89l, ha_89s, wp_iinc_2_1, wp_goto, al_6659, nl_i, nl_r, nl_k, nl_j, nl_l, nI_add, pk_mul, pk_sub, tl_s, tl_n, aL_inl, u2_same, u2_ab, u2_aq, nI_l, lN_i, Nat.add_zero, Nat.zero_add, Nat.zero_le, true_and, and_true, b2n_10, b2n_T, b2n_F, b2n_0, Decidable.not_not, not_true_eq_false, not_false_eq_true, Nat.reduceAdd, Nat.reduceMul, Nat.reduceSub, en, setRow_u, puT_u]
    exact ih (q + 1) (by omega)
theorem t_104g {i : Nat} (hi : i < 3) : aMm ko d 104 [.ref 86, .int (nI i)] (hp D N I J x) Q = Q (some (.int (nI 1))) (hp D (setRow (u2 (u2 (u2 N 86 0 0) 122 i 1) 123 i (N 86 5)) 124 (puT (N 89) (N 124) i 111)) I J x) := by
  have h := @l_104 ko d D (u2 (u2 (u2 N 86 0 0) 122 i 1) 123 i (N 86 5)) I J x Q i (N 124) hi 111 0 rfl
  rw [puT_0] at h
  have e0 : setRow (u2 (u2 (u2 N 86 0 0) 122 i 1) 123 i (N 86 5)) 124 (N 124) = u2 (u2 (u2 N 86 0 0) 122 i 1) 123 i (N 86 5) := by
    have : u2 (u2 (u2 N 86 0 0) 122 i 1) 123 i (N 86 5) 124 = N 124 := by rw [u2_nb (by decide), u2_nb (by decide), u2_nb (by decide)]
    rw [← this, setRow_id]
  have e89 : u2 (u2 (u2 N 86 0 0) 122 i 1) 123 i (N 86 5) 89 = N 89 := by rw [u2_nb (by decide), u2_nb (by decide), u2_nb (by decide)]
  rw [e0, e89] at h
  have h2 : i ≤ 2 := by omega
  rw [me_104]
  simp (disch := (first | omega | exact aCat_8 (by with_unfolding_all rfl) | exact rk_lt (by with_unfolding_all rfl) | exact aCat_16 (by with_unfolding_all rfl) | exact rk_eq (by with_unfolding_all rfl) | assumption | exact b2n_lt _ | exact id_b (by with_unfolding_all rfl) | (simp (disch := omega) only [u2_same, u2_ab, u2_aq]; done) | (simp (disch := omega) only [u2_same, u2_ab, u2_aq]; omega) | fail)) only [al_6656, wp_aloadr_0, wp_aloadk_0, wk_0, hp_86_0, wp_iload_1, wp_i2l, wl_0, wl_2, wc_4, t_4, lN_le, wz_ne_t, wz_ne_f, wb_ne_t, wb_ne_f, wm_ne_1, wm_ne_2, wp_freturn0, wp_freturn1, wp_freturnb, al_6657, hg_86_57, ha_122l, ha_122s, wk_1, hg_86_58, ha_123l, ha_123s, hg_86_5, wp_istore_2, wp_jsr, wp_iload_2, wk_111, wn_ge_t, wn_ge_f, hg_86_59, ha_124l, ha_124s, wp_imul, wp_iadd, hg_86_8, ha_89l, ha_89s, wp_iinc_2_1, wp_goto, al_6659, nl_i, nl_r, nl_k, nl_j, nl_l, nI_add, pk_mul, pk_sub, tl_s, tl_n, aL_inl, u2_same, u2_ab, u2_aq, nI_l, lN_i, Nat.add_zero, Nat.zero_add, Nat.zero_le, true_and, and_true, b2n_10, b2n_T, b2n_F, b2n_0, Decidable.not_not, not_true_eq_false, not_false_eq_true, Nat.reduceAdd, Nat.reduceMul, Nat.reduceSub, b2n_t h2]
  exact h
theorem kp_rw {T S : Nat → Nat} {i j : Nat} (hS : ∀ q, 111 ≤ q → S q = 0) {N' : Nat → Nat → Nat} (h : N' 124 = puT S T i 111) : rwAt N' 124 j = if j = i then S else (fun q => if q < 111 then T (111 * j + q) else 0) := by
  funext q
  unfold rwAt
  rw [h]
  by_cases e : j = i
  · subst e
    rw [if_pos rfl]
    by_cases hq : q < 111
    · rw [if_pos hq]
      unfold puT
      rw [if_pos (by omega)]
      congr 1
      omega
    · rw [if_neg hq, hS q (by omega)]
  · rw [if_neg e]
    show _ = if q < 111 then T (111 * j + q) else 0
    by_cases hq : q < 111
    · rw [if_pos hq, if_pos hq]
      unfold puT
      rw [if_neg (by omega)]
    · rw [if_neg hq, if_neg hq]
theorem o_keep {a : Int32} (h : inv D N I J t) : opO ko d 221 104 [.int a] D N I J x (t + 300) := by
  have h89 := h.1.2.2.2.2.1
  obtain ⟨k1, m, k2, k3, k4⟩ := h.1.2.2.2.2.2.2.1
  rcases rng3 a 0 (b := 2) (by decide) (by decide) with ⟨i, _, hi, rfl⟩ | hbad
  · have hi3 : i < 3 := by omega
    show aMm ko d 221 [.ref 0, .int (nI i)] (hp D N I J x) _
    rw [t_221g hi3 k2 k3, t_104g hi3]
    have ec : ∀ b q, 86 ≤ b → cpS N (80 + 2 * i) 20 b q = N b q := fun b q z => cp_N (by omega) (by omega)
    have e124 : cpS N (80 + 2 * i) 20 124 = N 124 := by funext q; exact ec _ q (by decide)
    have e89 : cpS N (80 + 2 * i) 20 89 = N 89 := by funext q; exact ec _ q (by decide)
    have hfr : ∀ b q, b ≠ 80 + 2 * i → b ≠ 81 + 2 * i → ¬ (122 ≤ b ∧ b ≤ 124) → ¬ (b = 86 ∧ q = 0) → setRow (u2 (u2 (u2 (cpS N (80 + 2 * i) 20) 86 0 0) 122 i 1) 123 i (cpS N (80 + 2 * i) 20 86 5)) 124 (puT (cpS N (80 + 2 * i) 20 89) (cpS N (80 + 2 * i) 20 124) i 111) b q = N b q := by
      intro b q z1 z2 z3 z4
      rw [setRow_n (by omega), u2_rd, if_neg (by omega), u2_rd, if_neg (by omega), u2_rd, if_neg (by omega), cp_N z1 (by omega)]
    refine ⟨rfl, rfl, D, _, _, _, rfl, ?_, td_same h.2 (hfr 3 1 (by omega) (by omega) (by omega) (by omega)) (hfr 86 1 (by omega) (by omega) (by omega) (by omega)) (fun q => cp_J (by omega)) (fun q => cp_J (by omega))⟩
    have hm := kb_or m k2 i hi3
    refine invB_p (fun g => g == 6) rfl h.1 (by omega) ?_ ?_ ?_ (fun z => by cases z) (fun z => by cases z) (fun z => by cases z) (fun z => by cases z) (fun z => by cases z) (fun _ => ?_) (fun z => by cases z) (fun z => by cases z)
    · intro b q z y
      have hi' : i = 0 ∨ i = 1 ∨ i = 2 := by omega
      refine hfr b q ?_ ?_ ?_ (by rintro ⟨rfl, rfl⟩; cases z)
      · rintro rfl
        rcases hi' with rfl | rfl | rfl <;> cases y
      · rintro rfl
        rcases hi' with rfl | rfl | rfl <;> cases y
      · rintro ⟨z1, z2⟩
        have : b = 122 ∨ b = 123 ∨ b = 124 := by omega
        rcases this with rfl | rfl | rfl <;> cases y
    · intro b q z y
      rw [u2_rd, if_neg (by rintro ⟨rfl, rfl⟩; cases y)]
    · intro b q z y
      have hi' : i = 0 ∨ i = 1 ∨ i = 2 := by omega
      refine cp_J ?_
      rintro rfl
      rcases hi' with rfl | rfl | rfl <;> cases y
    · unfold iKp
      have g5 : setRow (u2 (u2 (u2 (cpS N (80 + 2 * i) 20) 86 0 0) 122 i 1) 123 i (cpS N (80 + 2 * i) 20 86 5)) 124 (puT (cpS N (80 + 2 * i) 20 89) (cpS N (80 + 2 * i) 20 124) i 111) 86 5 = N 86 5 := hfr 86 5 (by omega) (by omega) (by omega) (by omega)
      have g122 : ∀ j, setRow (u2 (u2 (u2 (cpS N (80 + 2 * i) 20) 86 0 0) 122 i 1) 123 i (cpS N (80 + 2 * i) 20 86 5)) 124 (puT (cpS N (80 + 2 * i) 20 89) (cpS N (80 + 2 * i) 20 124) i 111) 122 j = if j = i then 1 else N 122 j := by
        intro j
        rw [setRow_n (by decide), u2_ab (by decide), u2_rd]
        by_cases e : j = i
        · rw [if_pos ⟨rfl, e⟩, if_pos e]
        · rw [if_neg (fun z => e z.2), if_neg e, u2_ab (by decide), ec _ _ (by decide)]
      have g123 : ∀ j, setRow (u2 (u2 (u2 (cpS N (80 + 2 * i) 20) 86 0 0) 122 i 1) 123 i (cpS N (80 + 2 * i) 20 86 5)) 124 (puT (cpS N (80 + 2 * i) 20 89) (cpS N (80 + 2 * i) 20 124) i 111) 123 j = if j = i then N 86 5 else N 123 j := by
        intro j
        rw [setRow_n (by decide), u2_rd, ec 86 5 (by decide)]
        by_cases e : j = i
        · rw [if_pos ⟨rfl, e⟩, if_pos e]
        · rw [if_neg (fun z => e z.2), if_neg e, u2_ab (by decide), u2_ab (by decide), ec _ _ (by decide)]
      have gr : ∀ j, rwAt (setRow (u2 (u2 (u2 (cpS N (80 + 2 * i) 20) 86 0 0) 122 i 1) 123 i (cpS N (80 + 2 * i) 20 86 5)) 124 (puT (cpS N (80 + 2 * i) 20 89) (cpS N (80 + 2 * i) 20 124) i 111)) 124 j = if j = i then N 89 else rwAt N 124 j := by
        intro j
        rw [kp_rw (S := N 89) (T := N 124) (i := i) h89.1.2.2.2.2 (by rw [setRow_s, e89, e124])]
        rfl
      rw [g5]
      refine ⟨by omega, m ||| 1 <<< i, hm.2, by rw [u2_same], fun j hj => ?_⟩
      rw [g122, g123, gr, kb_tb m k2 i hi3 j hj]
      obtain ⟨d1, d2, d3, d4⟩ := k4 j hj
      by_cases e : j = i
      · subst e
        rw [if_pos rfl, if_pos rfl, if_pos rfl]
        refine ⟨Nat.le_refl _, Nat.le_refl _, by simp, fun _ => ⟨h89.1, h89.2.1, ⟨by have := h89.2.2.1; omega, h89.2.2.1.2⟩, ?_⟩⟩
        exact clS_c (cp_S (st_kept hi3) rfl (by omega) h89.2.2.2) (fun q => by rw [setRow_n (by omega), u2_ab (by omega), u2_ab (by omega), u2_ab (by omega)]) (fun q => by rw [setRow_n (by omega), u2_ab (by omega), u2_ab (by omega), u2_ab (by omega)]) (fun _ => rfl)
      · rw [if_neg e, if_neg e, if_neg e]
        simp only [e, decide_false, Bool.or_false]
        exact ⟨d1, d2, d3, fun z => iSt_c (d4 z) (by omega) (fun q => hfr _ q (by omega) (by omega) (by omega) (by omega)) (fun q => hfr _ q (by omega) (by omega) (by omega) (by omega)) (fun q => cp_J (by omega))⟩
  · refine op_same (v := .int (nI 0)) h (by omega) ?_ ?_
    · intro Q hQ
      rw [me_221]
      rcases hbad with hb | ⟨hb1, hb2⟩
      · have hb' : a < 0 := hb
        simp (disch := (first | omega | exact aCat_8 (by with_unfolding_all rfl) | exact rk_lt (by with_unfolding_all rfl) | exact aCat_16 (by with_unfolding_all rfl) | exact rk_eq (by with_unfolding_all rfl) | assumption | exact b2n_lt _ | exact id_b (by with_unfolding_all rfl) | (simp (disch := omega) only [u2_same, u2_ab, u2_aq]; done) | (simp (disch := omega) only [u2_same, u2_ab, u2_aq]; omega) | fail)) only [al_14144, wp_iload_1, wz_lt_t, wz_lt_f, wm_lt_1, wm_lt_2, wk_3, wn_lt_t, wn_lt_f, wp_jsr, al_14145, wk_0, wp_freturn0, wp_freturn1, wp_freturnb, al_14146, wp_aloadr_0, wp_aloadk_0, hg_0_12, ha_64l, hg_0_7, wp_dupi, wp_dupr, hg_0_13, wk_1, wp_ishl, wp_ior, hp_0_13, nl_i, nl_r, nl_k, nl_j, nl_l, nI_add, pk_mul, pk_sub, tl_s, tl_n, aL_inl, u2_same, u2_ab, u2_aq, nI_l, lN_i, Nat.add_zero, Nat.zero_add, Nat.zero_le, true_and, and_true, b2n_10, b2n_T, b2n_F, b2n_0, Decidable.not_not, not_true_eq_false, not_false_eq_true, Nat.reduceAdd, Nat.reduceMul, Nat.reduceSub, wy_lt_t hb']
        exact hQ N I J sN_r sI_r sJ_r ⟨rfl, fun _ => rfl⟩ ⟨rfl, fun _ => rfl⟩
      · have hb' : ¬ a < 0 := hb1
        have hb3 : ¬ a < nI 3 := by
          rw [Int32.lt_iff_toInt_lt, nI_toInt (by omega)] at hb2 ⊢
          omega
        simp (disch := (first | omega | exact aCat_8 (by with_unfolding_all rfl) | exact rk_lt (by with_unfolding_all rfl) | exact aCat_16 (by with_unfolding_all rfl) | exact rk_eq (by with_unfolding_all rfl) | assumption | exact b2n_lt _ | exact id_b (by with_unfolding_all rfl) | (simp (disch := omega) only [u2_same, u2_ab, u2_aq]; done) | (simp (disch := omega) only [u2_same, u2_ab, u2_aq]; omega) | fail)) only [al_14144, wp_iload_1, wz_lt_t, wz_lt_f, wm_lt_1, wm_lt_2, wk_3, wn_lt_t, wn_lt_f, wp_jsr, al_14145, wk_0, wp_freturn0, wp_freturn1, wp_freturnb, al_14146, wp_aloadr_0, wp_aloadk_0, hg_0_12, ha_64l, hg_0_7, wp_dupi, wp_dupr, hg_0_13, wk_1, wp_ishl, wp_ior, hp_0_13, nl_i, nl_r, nl_k, nl_j, nl_l, nI_add, pk_mul, pk_sub, tl_s, tl_n, aL_inl, u2_same, u2_ab, u2_aq, nI_l, lN_i, Nat.add_zero, Nat.zero_add, Nat.zero_le, true_and, and_true, b2n_10, b2n_T, b2n_F, b2n_0, Decidable.not_not, not_true_eq_false, not_false_eq_true, Nat.reduceAdd, Nat.reduceMul, Nat.reduceSub, wy_lt_f hb', wx_lt_f hb3]
        exact hQ N I J sN_r sI_r sJ_r ⟨rfl, fun _ => rfl⟩ ⟨rfl, fun _ => rfl⟩
    · intro N1 I1 J1 h1 hN hI hJ Q hQ
      have hin := in_f (a := 0) (b := 2) (by decide) (by decide) hbad
      rw [me_104]
      simp (disch := (first | omega | exact aCat_8 (by with_unfolding_all rfl) | exact rk_lt (by with_unfolding_all rfl) | exact aCat_16 (by with_unfolding_all rfl) | exact rk_eq (by with_unfolding_all rfl) | assumption | exact b2n_lt _ | exact id_b (by with_unfolding_all rfl) | (simp (disch := omega) only [u2_same, u2_ab, u2_aq]; done) | (simp (disch := omega) only [u2_same, u2_ab, u2_aq]; omega) | fail)) only [al_6656, wp_aloadr_0, wp_aloadk_0, wk_0, hp_86_0, wp_iload_1, wp_i2l, wl_0, wl_2, wc_4, t_4, lN_le, wz_ne_t, wz_ne_f, wb_ne_t, wb_ne_f, wm_ne_1, wm_ne_2, wp_freturn0, wp_freturn1, wp_freturnb, al_6657, hg_86_57, ha_122l, ha_122s, wk_1, hg_86_58, ha_123l, ha_123s, hg_86_5, wp_istore_2, wp_jsr, wp_iload_2, wk_111, wn_ge_t, wn_ge_f, hg_86_59, ha_124l, ha_124s, wp_imul, wp_iadd, hg_86_8, ha_89l, ha_89s, wp_iinc_2_1, wp_goto, al_6659, nl_i, nl_r, nl_k, nl_j, nl_l, nI_add, pk_mul, pk_sub, tl_s, tl_n, aL_inl, u2_same, u2_ab, u2_aq, nI_l, lN_i, Nat.add_zero, Nat.zero_add, Nat.zero_le, true_and, and_true, b2n_10, b2n_T, b2n_F, b2n_0, Decidable.not_not, not_true_eq_false, not_false_eq_true, Nat.reduceAdd, Nat.reduceMul, Nat.reduceSub, b2n_f hin]
      exact hQ _ _ _ (qN_u qN_r rfl) sI_r qJ_r ⟨u2_aq (by decide), fun _ => rfl⟩
theorem l_105 {i : Nat} {T : Nat → Nat} (hi : i < 3) : ∀ j q : Nat, q + j = 111 → aWp ko d 105 (aP.1 (Int.toNat 6723)) [.ref 86, .int (nI i), .int (nI q)] [] (hp D (setRow N 89 (mixN (fun q => N 124 (111 * i + q)) T q)) I J x) (aL Q) = Q (some (.int (nI 1))) (hp D (u2 (setRow N 89 (mixN (fun q => N 124 (111 * i + q)) T 111)) 86 26 0) I J x) := by
  have en : ∀ (T : Nat → Nat) (b : Nat), b ≠ 89 → setRow N 89 T b = N b := fun T b hb => setRow_n hb
  have em : ∀ q, upn (mixN (fun q => N 124 (111 * i + q)) T q) q (N 124 (111 * i + q)) = mixN (fun q => N 124 (111 * i + q)) T (q + 1) := fun q => mixN_un (g := fun q => N 124 (111 * i + q))
  intro j
  induction j with
  | zero =>
    intro q hq
    have e : q = 111 := by omega
    subst e
    simp (disch := (first | omega | exact aCat_8 (by with_unfolding_all rfl) | exact rk_lt (by with_unfolding_all rfl) | exact aCat_16 (by with_unfolding_all rfl) | exact rk_eq (by with_unfolding_all rfl) | assumption | exact b2n_lt _ | exact id_b (by with_unfolding_all rfl) | (simp (disch := omega) only [u2_same, u2_ab, u2_aq]; done) | (simp (disch := omega) only [u2_same, u2_ab, u2_aq]; omega) | fail)) only [al_6720, wp_aloadr_0, wp_aloadk_0, wk_0, hp_86_0, wp_iload_1, wp_i2l, wl_0, wl_2, wc_4, t_4, lN_le, wz_eq_t, wz_eq_f, wb_eq_t, wb_eq_f, wm_eq_1, wm_eq_2, hg_86_57, ha_122l, ha_122s, hg_86_58, ha_123l, ha_123s, hg_86_5, wn_eq_t, wn_eq_f, wp_jsr, al_6721, wp_freturn0, wp_freturn1, wp_freturnb, al_6722, wp_istore_2, al_6723, wp_iload_2, wk_111, wn_ge_t, wn_ge_f, hg_86_8, ha_89l, ha_89s, hg_86_59, ha_124l, ha_124s, wp_imul, wp_iadd, wp_iinc_2_1, wp_goto, al_6724, hp_86_26, wk_1, nl_i, nl_r, nl_k, nl_j, nl_l, nI_add, pk_mul, pk_sub, tl_s, tl_n, aL_inl, u2_same, u2_ab, u2_aq, nI_l, lN_i, Nat.add_zero, Nat.zero_add, Nat.zero_le, true_and, and_true, b2n_10, b2n_T, b2n_F, b2n_0, Decidable.not_not, not_true_eq_false, not_false_eq_true, Nat.reduceAdd, Nat.reduceMul, Nat.reduceSub]
  | succ j ih =>
    intro q hq
    rw [al_6723]
    simp (disch := (first | omega | exact aCat_8 (by with_unfolding_all rfl) | exact rk_lt (by with_unfolding_all rfl) | exact aCat_16 (by with_unfolding_all rfl) | exact rk_eq (by with_unfolding_all rfl) | assumption | exact b2n_lt _ | exact id_b (by with_unfolding_all rfl) | (simp (disch := omega) only [u2_same, u2_ab, u2_aq]; done) | (simp (disch := omega) only [u2_same, u2_ab, u2_aq]; omega) | fail)) only [al_6720, wp_aloadr_0, wp_aloadk_0, wk_0, hp_86_0, wp_iload_1, wp_i2l, wl_0, wl_2, wc_4, t_4, lN_le, wz_eq_t, wz_eq_f, wb_eq_t, wb_eq_f, wm_eq_1, wm_eq_2, hg_86_57, ha_122l, ha_122s, hg_86_58, ha_123l, ha_123s, hg_86_5, wn_eq_t, wn_eq_f, wp_jsr, al_6721, wp_freturn0, wp_freturn1, wp_freturnb, al_6722, wp_istore_2, wp_iload_2, wk_111, wn_ge_t, wn_ge_f, hg_86_8, ha_89l, ha_89s, hg_86_59, ha_124l, ha_124s, wp_imul, wp_iadd, wp_iinc_2_1, wp_goto, al_6724, hp_86_26, wk_1, nl_i, nl_r, nl_k, nl_j, nl_l, nI_add, pk_mul, pk_sub, tl_s, tl_n, aL_inl, u2_same, u2_ab, u2_aq, nI_l, lN_i, Nat.add_zero, Nat.zero_add, Nat.zero_le, true_and, and_true, b2n_10, b2n_T, b2n_F, b2n_0, Decidable.not_not, not_true_eq_false, not_false_eq_true, Nat.reduceAdd, Nat.reduceMul, Nat.reduceSub, en, setRow_u, em]
    exact ih (q + 1) (by omega)
theorem o_again {a : Int32} (h : inv D N I J t) (ht : t + 300 < 1000000000) : opO ko d 222 105 [.int a] D N I J x (t + 300) := by
  have h89 := h.1.2.2.2.2.1
  obtain ⟨u1, u2', u3, u4⟩ := id h.1.2.2.2.2.2.1
  obtain ⟨k1, m, k2, k3, k4⟩ := h.1.2.2.2.2.2.2.1
  have hno : (∀ Q : Option Value → aH → Prop, aMm ko d 222 [.ref 0, .int a] (hp D N I J x) Q = Q (some (.int (nI 0))) (hp D N I J x)) → (∀ (N1 : Nat → Nat → Nat) (I1 : Nat → Nat → Int32) (J1 : Nat → Nat → Int64), sN N1 N → ∀ Q : Option Value → aH → Prop, aMm ko d 105 [.ref 86, .int a] (hp D N1 I1 J1 x) Q = Q (some (.int (nI 0))) (hp D (u2 N1 86 0 0) I1 J1 x)) → opO ko d 222 105 [.int a] D N I J x (t + 300) := by
    intro hc hr
    refine op_same (v := .int (nI 0)) h (by omega) ?_ ?_
    · intro Q hQ
      rw [hc]
      exact hQ N I J sN_r sI_r sJ_r ⟨rfl, fun _ => rfl⟩ ⟨rfl, fun _ => rfl⟩
    · intro N1 I1 J1 h1 hN hI hJ Q hQ
      rw [hr N1 I1 J1 hN]
      exact hQ _ _ _ (qN_u qN_r rfl) sI_r qJ_r ⟨u2_aq (by decide), fun _ => rfl⟩
  rcases rng3 a 0 (b := 2) (by decide) (by decide) with ⟨i, _, hi, rfl⟩ | hbad
  · have hi3 : i < 3 := by omega
    obtain ⟨d1, d2, d3, d4⟩ := k4 i hi3
    have hbit := kb_bit m k2 i hi3
    by_cases hb : m.testBit i = true
    · have hst := d4 hb
      have hsk := st_kept hi3
      have hkeep : N 122 i = 1 ∧ N 123 i = N 86 5 := by
        have := d3
        rw [hb] at this
        exact of_decide_eq_true this.symm
      rw [hb] at hbit
      have hc : ∀ Q : Option Value → aH → Prop, aMm ko d 222 [.ref 0, .int (nI i)] (hp D N I J x) Q = Q (some (.int (nI 1))) (hp D (u2 (cpS N 20 (80 + 2 * i)) 32 2 0) I (cpJ J 20 (80 + 2 * i)) x) := by
        intro Q
        have t250 : ∀ (N : Nat → Nat → Nat) (J : Nat → Nat → Int64) (Q : Option Value → aH → Prop), aMm ko d 250 [.ref 32] (hp D N I J x) Q = Q none (hp D (u2 N 32 2 0) I J x) := by
          intro N J Q
          rw [me_250]
          simp (disch := (first | omega | exact aCat_8 (by with_unfolding_all rfl) | exact rk_lt (by with_unfolding_all rfl) | exact aCat_16 (by with_unfolding_all rfl) | exact rk_eq (by with_unfolding_all rfl) | assumption | exact b2n_lt _ | exact id_b (by with_unfolding_all rfl) | (simp (disch := omega) only [u2_same, u2_ab, u2_aq]; done) | (simp (disch := omega) only [u2_same, u2_ab, u2_aq]; omega) | fail)) only [al_16000, wp_aloadr_0, wp_aloadk_0, wk_0, hp_32_2, wp_return, nl_i, nl_r, nl_k, nl_j, nl_l, nI_add, pk_mul, pk_sub, tl_s, tl_n, aL_inl, u2_same, u2_ab, u2_aq, nI_l, lN_i, Nat.add_zero, Nat.zero_add, Nat.zero_le, true_and, and_true, b2n_10, b2n_T, b2n_F, b2n_0, Decidable.not_not, not_true_eq_false, not_false_eq_true, Nat.reduceAdd, Nat.reduceMul, Nat.reduceSub]
        rw [me_222]
        simp (disch := (first | omega | exact aCat_8 (by with_unfolding_all rfl) | exact rk_lt (by with_unfolding_all rfl) | exact aCat_16 (by with_unfolding_all rfl) | exact rk_eq (by with_unfolding_all rfl) | assumption | exact b2n_lt _ | exact id_b (by with_unfolding_all rfl) | (simp (disch := omega) only [u2_same, u2_ab, u2_aq]; done) | (simp (disch := omega) only [u2_same, u2_ab, u2_aq]; omega) | fail)) only [al_14208, wp_iload_1, wz_lt_t, wz_lt_f, wm_lt_1, wm_lt_2, wk_3, wn_ge_t, wn_ge_f, wp_aloadr_0, wp_aloadk_0, hg_0_13, wp_i2l, wc_161, t_161, wz_ne_t, wz_ne_f, wb_ne_t, wb_ne_f, wm_ne_1, wm_ne_2, wp_jsr, al_14209, wk_0, wp_freturn0, wp_freturn1, wp_freturnb, al_14210, hg_0_7, hg_0_12, ha_64l, hg_0_11, wc_250, wk_1, nl_i, nl_r, nl_k, nl_j, nl_l, nI_add, pk_mul, pk_sub, tl_s, tl_n, aL_inl, u2_same, u2_ab, u2_aq, nI_l, lN_i, Nat.add_zero, Nat.zero_add, Nat.zero_le, true_and, and_true, b2n_10, b2n_T, b2n_F, b2n_0, Decidable.not_not, not_true_eq_false, not_false_eq_true, Nat.reduceAdd, Nat.reduceMul, Nat.reduceSub, k3, b2n_t hbit, wc_283 (m := 20) rfl, t_283 (s := 20) (s' := 80 + 2 * i) rfl hsk (by omega), t250]
      show aMm ko d 222 [.ref 0, .int (nI i)] (hp D N I J x) _
      rw [hc]
      have ec : ∀ b q, b ≠ 20 → b ≠ 21 → ¬ (b = 32 ∧ q = 2) → u2 (cpS N 20 (80 + 2 * i)) 32 2 0 b q = N b q := by
        intro b q z1 z2 z3
        rw [u2_rd, if_neg z3, cp_N z1 z2]
      generalize hM : u2 (cpS N 20 (80 + 2 * i)) 32 2 0 = M at ec
      have hMS : clS M (cpJ J 20 (80 + 2 * i)) 20 (rwAt N 124 i) := by
        rw [← hM]
        exact clS_c (cp_S rfl hsk (by omega) hst.2.2.2) (fun q => u2_ab (by decide)) (fun q => u2_ab (by decide)) (fun _ => rfl)
      have hM2 : M 32 2 = 0 := by rw [← hM, u2_same]
      have e124 : M 124 = N 124 := by funext q; exact ec 124 q (by decide) (by decide) (by omega)
      have e89 : M 89 = N 89 := by funext q; exact ec 89 q (by decide) (by decide) (by omega)
      have e5 : M 86 5 = N 86 5 := ec 86 5 (by decide) (by decide) (by omega)
      have e122 : M 122 i = 1 := (ec 122 i (by decide) (by decide) (by omega)).trans hkeep.1
      have e123 : M 123 i = M 86 5 := by rw [ec 123 i (by decide) (by decide) (by omega), e5]; exact hkeep.2
      have hi2 : i ≤ 2 := by omega
      have hM5 : M 86 5 < 1000000000 := by rw [e5]; omega
      rw [me_105]
      have l105 := @l_105 ko d D (u2 M 86 0 0) I (cpJ J 20 (80 + 2 * i)) x
      simp (disch := (first | omega | exact aCat_8 (by with_unfolding_all rfl) | exact rk_lt (by with_unfolding_all rfl) | exact aCat_16 (by with_unfolding_all rfl) | exact rk_eq (by with_unfolding_all rfl) | assumption | exact b2n_lt _ | exact id_b (by with_unfolding_all rfl) | (simp (disch := omega) only [u2_same, u2_ab, u2_aq]; done) | (simp (disch := omega) only [u2_same, u2_ab, u2_aq]; omega) | fail)) only [al_6720, wp_aloadr_0, wp_aloadk_0, wk_0, hp_86_0, wp_iload_1, wp_i2l, wl_0, wl_2, wc_4, t_4, lN_le, wz_eq_t, wz_eq_f, wb_eq_t, wb_eq_f, wm_eq_1, wm_eq_2, hg_86_57, ha_122l, ha_122s, hg_86_58, ha_123l, ha_123s, hg_86_5, wn_eq_t, wn_eq_f, wp_jsr, al_6721, wp_freturn0, wp_freturn1, wp_freturnb, al_6722, wp_istore_2, wp_iload_2, wk_111, wn_ge_t, wn_ge_f, hg_86_8, ha_89l, ha_89s, hg_86_59, ha_124l, ha_124s, wp_imul, wp_iadd, wp_iinc_2_1, wp_goto, al_6724, hp_86_26, wk_1, nl_i, nl_r, nl_k, nl_j, nl_l, nI_add, pk_mul, pk_sub, tl_s, tl_n, aL_inl, u2_same, u2_ab, u2_aq, nI_l, lN_i, Nat.add_zero, Nat.zero_add, Nat.zero_le, true_and, and_true, b2n_10, b2n_T, b2n_F, b2n_0, Decidable.not_not, not_true_eq_false, not_false_eq_true, Nat.reduceAdd, Nat.reduceMul, Nat.reduceSub, b2n_t hi2, e122, e123]
      have hx := fun Q => l105 (Q := Q) (i := i) (T := N 89) hi3 111 0 rfl
      simp only [mixN_0] at hx
      have er : setRow (u2 M 86 0 0) 89 (N 89) = u2 M 86 0 0 := by
        have : u2 M 86 0 0 89 = N 89 := by rw [u2_nb (by decide), e89]
        rw [← this, setRow_id]
      simp only [er] at hx
      refine (hx _).mpr ?_
      have eS : mixN (fun q => u2 M 86 0 0 124 (111 * i + q)) (N 89) 111 = rwAt N 124 i := by
        funext q
        unfold mixN rwAt
        split
        · show u2 M 86 0 0 124 _ = _
          rw [u2_ab (by decide), e124]
        · exact h89.1.2.2.2.2 q (by omega)
      rw [eS]
      have hfr : ∀ b q, b ≠ 89 → ¬ (b = 86 ∧ (q = 0 ∨ q = 26)) → u2 (setRow (u2 M 86 0 0) 89 (rwAt N 124 i)) 86 26 0 b q = M b q := by
        intro b q z1 z2
        rw [u2_rd, if_neg (by omega), setRow_n z1, u2_rd, if_neg (by omega)]
      have g26 : u2 (setRow (u2 M 86 0 0) 89 (rwAt N 124 i)) 86 26 0 86 26 = 0 := u2_same _ _ _ _
      refine ⟨rfl, rfl, D, _, I, _, rfl, ?_, td_same h.2 (by rw [hfr 3 1 (by decide) (by omega), ec 3 1 (by decide) (by decide) (by omega)]) (by rw [hfr 86 1 (by decide) (by omega), ec 86 1 (by decide) (by decide) (by omega)]) (fun q => cp_J (by decide)) (fun q => cp_J (by decide))⟩
      refine invB_g h.1 (by omega) ?_ sI_r ?_ ?_ ?_
      · intro b q z y
        have hrg := act_rng y
        rw [hfr b q (by rintro rfl; cases y) (by
          rintro ⟨rfl, rfl | rfl⟩
          · cases z
          · cases y)]
        exact ec b q (by rintro rfl; cases y) (by rintro rfl; cases y) (by omega)
      · intro b q z y
        exact cp_J (by rintro rfl; cases y)
      · have e9 : u2 (setRow (u2 M 86 0 0) 89 (rwAt N 124 i)) 86 26 0 89 = rwAt N 124 i := by rw [u2_nb (by decide), setRow_s]
        rw [e9]
        exact ⟨hst.1, hst.2.1, ⟨Nat.le_trans hst.2.2.1.1 (by omega), hst.2.2.1.2⟩, clS_c hMS (fun q => hfr 20 q (by decide) (by omega)) (fun q => hfr 21 q (by decide) (by omega)) (fun _ => rfl)⟩
      · unfold iUn
        rw [g26, hfr 32 2 (by decide) (by omega), hfr 32 1 (by decide) (by omega), hM2, ec 32 1 (by decide) (by decide) (by omega)]
        exact ⟨rfl, by omega, u3, fun j hj => absurd hj (by omega)⟩
    · have hbf : ¬ tb (lN m) i = true := by rw [hbit]; exact hb
      refine hno ?_ ?_
      · intro Q
        rw [me_222]
        simp (disch := (first | omega | exact aCat_8 (by with_unfolding_all rfl) | exact rk_lt (by with_unfolding_all rfl) | exact aCat_16 (by with_unfolding_all rfl) | exact rk_eq (by with_unfolding_all rfl) | assumption | exact b2n_lt _ | exact id_b (by with_unfolding_all rfl) | (simp (disch := omega) only [u2_same, u2_ab, u2_aq]; done) | (simp (disch := omega) only [u2_same, u2_ab, u2_aq]; omega) | fail)) only [al_14208, wp_iload_1, wz_lt_t, wz_lt_f, wm_lt_1, wm_lt_2, wk_3, wn_ge_t, wn_ge_f, wp_aloadr_0, wp_aloadk_0, hg_0_13, wp_i2l, wc_161, t_161, wz_ne_t, wz_ne_f, wb_ne_t, wb_ne_f, wm_ne_1, wm_ne_2, wp_jsr, al_14209, wk_0, wp_freturn0, wp_freturn1, wp_freturnb, al_14210, hg_0_7, hg_0_12, ha_64l, hg_0_11, wc_250, wk_1, nl_i, nl_r, nl_k, nl_j, nl_l, nI_add, pk_mul, pk_sub, tl_s, tl_n, aL_inl, u2_same, u2_ab, u2_aq, nI_l, lN_i, Nat.add_zero, Nat.zero_add, Nat.zero_le, true_and, and_true, b2n_10, b2n_T, b2n_F, b2n_0, Decidable.not_not, not_true_eq_false, not_false_eq_true, Nat.reduceAdd, Nat.reduceMul, Nat.reduceSub, k3, b2n_f hbf]
      · intro N1 I1 J1 hN Q
        have e5 : N1 86 5 = N 86 5 := hN 86 5 rfl
        have e122 : N1 122 i = N 122 i := hN 122 i rfl
        have e123 : N1 123 i = N 123 i := hN 123 i rfl
        have hi2 : i ≤ 2 := by omega
        have hM5 : N 86 5 < 1000000000 := by omega
        have hM6 : N 123 i < 1000000000 := by omega
        rw [me_105]
        by_cases h0 : N 122 i = 0
        · simp (disch := (first | omega | exact aCat_8 (by with_unfolding_all rfl) | exact rk_lt (by with_unfolding_all rfl) | exact aCat_16 (by with_unfolding_all rfl) | exact rk_eq (by with_unfolding_all rfl) | assumption | exact b2n_lt _ | exact id_b (by with_unfolding_all rfl) | (simp (disch := omega) only [u2_same, u2_ab, u2_aq]; done) | (simp (disch := omega) only [u2_same, u2_ab, u2_aq]; omega) | fail)) only [al_6720, wp_aloadr_0, wp_aloadk_0, wk_0, hp_86_0, wp_iload_1, wp_i2l, wl_0, wl_2, wc_4, t_4, lN_le, wz_eq_t, wz_eq_f, wb_eq_t, wb_eq_f, wm_eq_1, wm_eq_2, hg_86_57, ha_122l, ha_122s, hg_86_58, ha_123l, ha_123s, hg_86_5, wn_eq_t, wn_eq_f, wp_jsr, al_6721, wp_freturn0, wp_freturn1, wp_freturnb, al_6722, wp_istore_2, wp_iload_2, wk_111, wn_ge_t, wn_ge_f, hg_86_8, ha_89l, ha_89s, hg_86_59, ha_124l, ha_124s, wp_imul, wp_iadd, wp_iinc_2_1, wp_goto, al_6724, hp_86_26, wk_1, nl_i, nl_r, nl_k, nl_j, nl_l, nI_add, pk_mul, pk_sub, tl_s, tl_n, aL_inl, u2_same, u2_ab, u2_aq, nI_l, lN_i, Nat.add_zero, Nat.zero_add, Nat.zero_le, true_and, and_true, b2n_10, b2n_T, b2n_F, b2n_0, Decidable.not_not, not_true_eq_false, not_false_eq_true, Nat.reduceAdd, Nat.reduceMul, Nat.reduceSub, b2n_t hi2, e122, h0]
        · have h1 : N 122 i = 1 := by omega
          have h5 : ¬ N 123 i = N 86 5 := by
            intro z
            rw [decide_eq_true (show N 122 i = 1 ∧ N 123 i = N 86 5 from ⟨h1, z⟩)] at d3
            exact hb d3
          simp (disch := (first | omega | exact aCat_8 (by with_unfolding_all rfl) | exact rk_lt (by with_unfolding_all rfl) | exact aCat_16 (by with_unfolding_all rfl) | exact rk_eq (by with_unfolding_all rfl) | assumption | exact b2n_lt _ | exact id_b (by with_unfolding_all rfl) | (simp (disch := omega) only [u2_same, u2_ab, u2_aq]; done) | (simp (disch := omega) only [u2_same, u2_ab, u2_aq]; omega) | fail)) only [al_6720, wp_aloadr_0, wp_aloadk_0, wk_0, hp_86_0, wp_iload_1, wp_i2l, wl_0, wl_2, wc_4, t_4, lN_le, wz_eq_t, wz_eq_f, wb_eq_t, wb_eq_f, wm_eq_1, wm_eq_2, hg_86_57, ha_122l, ha_122s, hg_86_58, ha_123l, ha_123s, hg_86_5, wn_eq_t, wn_eq_f, wp_jsr, al_6721, wp_freturn0, wp_freturn1, wp_freturnb, al_6722, wp_istore_2, wp_iload_2, wk_111, wn_ge_t, wn_ge_f, hg_86_8, ha_89l, ha_89s, hg_86_59, ha_124l, ha_124s, wp_imul, wp_iadd, wp_iinc_2_1, wp_goto, al_6724, hp_86_26, wk_1, nl_i, nl_r, nl_k, nl_j, nl_l, nI_add, pk_mul, pk_sub, tl_s, tl_n, aL_inl, u2_same, u2_ab, u2_aq, nI_l, lN_i, Nat.add_zero, Nat.zero_add, Nat.zero_le, true_and, and_true, b2n_10, b2n_T, b2n_F, b2n_0, Decidable.not_not, not_true_eq_false, not_false_eq_true, Nat.reduceAdd, Nat.reduceMul, Nat.reduceSub, b2n_t hi2, e122, e123, e5, h1]
  · refine hno ?_ ?_
    · intro Q
      rw [me_222]
      rcases hbad with hb | ⟨hb1, hb2⟩
      · have hb' : a < 0 := hb
        simp (disch := (first | omega | exact aCat_8 (by with_unfolding_all rfl) | exact rk_lt (by with_unfolding_all rfl) | exact aCat_16 (by with_unfolding_all rfl) | exact rk_eq (by with_unfolding_all rfl) | assumption | exact b2n_lt _ | exact id_b (by with_unfolding_all rfl) | (simp (disch := omega) only [u2_same, u2_ab, u2_aq]; done) | (simp (disch := omega) only [u2_same, u2_ab, u2_aq]; omega) | fail)) only [al_14208, wp_iload_1, wz_lt_t, wz_lt_f, wm_lt_1, wm_lt_2, wk_3, wn_ge_t, wn_ge_f, wp_aloadr_0, wp_aloadk_0, hg_0_13, wp_i2l, wc_161, t_161, wz_ne_t, wz_ne_f, wb_ne_t, wb_ne_f, wm_ne_1, wm_ne_2, wp_jsr, al_14209, wk_0, wp_freturn0, wp_freturn1, wp_freturnb, al_14210, hg_0_7, hg_0_12, ha_64l, hg_0_11, wc_250, wk_1, nl_i, nl_r, nl_k, nl_j, nl_l, nI_add, pk_mul, pk_sub, tl_s, tl_n, aL_inl, u2_same, u2_ab, u2_aq, nI_l, lN_i, Nat.add_zero, Nat.zero_add, Nat.zero_le, true_and, and_true, b2n_10, b2n_T, b2n_F, b2n_0, Decidable.not_not, not_true_eq_false, not_false_eq_true, Nat.reduceAdd, Nat.reduceMul, Nat.reduceSub, wy_lt_t hb']
      · have hb' : ¬ a < 0 := hb1
        have hb3 : nI 3 ≤ a := by
          rw [Int32.lt_iff_toInt_lt, nI_toInt (by omega)] at hb2
          rw [Int32.le_iff_toInt_le, nI_toInt (by omega)]
          omega
        simp (disch := (first | omega | exact aCat_8 (by with_unfolding_all rfl) | exact rk_lt (by with_unfolding_all rfl) | exact aCat_16 (by with_unfolding_all rfl) | exact rk_eq (by with_unfolding_all rfl) | assumption | exact b2n_lt _ | exact id_b (by with_unfolding_all rfl) | (simp (disch := omega) only [u2_same, u2_ab, u2_aq]; done) | (simp (disch := omega) only [u2_same, u2_ab, u2_aq]; omega) | fail)) only [al_14208, wp_iload_1, wz_lt_t, wz_lt_f, wm_lt_1, wm_lt_2, wk_3, wn_ge_t, wn_ge_f, wp_aloadr_0, wp_aloadk_0, hg_0_13, wp_i2l, wc_161, t_161, wz_ne_t, wz_ne_f, wb_ne_t, wb_ne_f, wm_ne_1, wm_ne_2, wp_jsr, al_14209, wk_0, wp_freturn0, wp_freturn1, wp_freturnb, al_14210, hg_0_7, hg_0_12, ha_64l, hg_0_11, wc_250, wk_1, nl_i, nl_r, nl_k, nl_j, nl_l, nI_add, pk_mul, pk_sub, tl_s, tl_n, aL_inl, u2_same, u2_ab, u2_aq, nI_l, lN_i, Nat.add_zero, Nat.zero_add, Nat.zero_le, true_and, and_true, b2n_10, b2n_T, b2n_F, b2n_0, Decidable.not_not, not_true_eq_false, not_false_eq_true, Nat.reduceAdd, Nat.reduceMul, Nat.reduceSub, wy_lt_f hb', wx_ge_t hb3]
    · intro N1 I1 J1 hN Q
      have hin := in_f (a := 0) (b := 2) (by decide) (by decide) hbad
      rw [me_105]
      simp (disch := (first | omega | exact aCat_8 (by with_unfolding_all rfl) | exact rk_lt (by with_unfolding_all rfl) | exact aCat_16 (by with_unfolding_all rfl) | exact rk_eq (by with_unfolding_all rfl) | assumption | exact b2n_lt _ | exact id_b (by with_unfolding_all rfl) | (simp (disch := omega) only [u2_same, u2_ab, u2_aq]; done) | (simp (disch := omega) only [u2_same, u2_ab, u2_aq]; omega) | fail)) only [al_6720, wp_aloadr_0, wp_aloadk_0, wk_0, hp_86_0, wp_iload_1, wp_i2l, wl_0, wl_2, wc_4, t_4, lN_le, wz_eq_t, wz_eq_f, wb_eq_t, wb_eq_f, wm_eq_1, wm_eq_2, hg_86_57, ha_122l, ha_122s, hg_86_58, ha_123l, ha_123s, hg_86_5, wn_eq_t, wn_eq_f, wp_jsr, al_6721, wp_freturn0, wp_freturn1, wp_freturnb, al_6722, wp_istore_2, wp_iload_2, wk_111, wn_ge_t, wn_ge_f, hg_86_8, ha_89l, ha_89s, hg_86_59, ha_124l, ha_124s, wp_imul, wp_iadd, wp_iinc_2_1, wp_goto, al_6724, hp_86_26, wk_1, nl_i, nl_r, nl_k, nl_j, nl_l, nI_add, pk_mul, pk_sub, tl_s, tl_n, aL_inl, u2_same, u2_ab, u2_aq, nI_l, lN_i, Nat.add_zero, Nat.zero_add, Nat.zero_le, true_and, and_true, b2n_10, b2n_T, b2n_F, b2n_0, Decidable.not_not, not_true_eq_false, not_false_eq_true, Nat.reduceAdd, Nat.reduceMul, Nat.reduceSub, b2n_f hin]
end K1
