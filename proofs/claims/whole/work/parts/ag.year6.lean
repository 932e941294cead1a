/-! year: an act by each. From wip/whole/src. -/
theorem ln_c {T : Nat → Nat} {e p : Nat} (h : yrB T e p = none) : T p = 110 ∨ T p = 115 ∨ T p = 99 ∨ T p = 104 ∨ T p = 119 := by
  have hl := (gd_len h).1
  unfold lenA at hl
  by_cases a : T p = 99 ∨ T p = 104
  · omega
  · rw [if_neg a] at hl
    by_cases b : T p = 110 ∨ T p = 115
    · omega
    · rw [if_neg b] at hl
      by_cases c : T p = 119
      · omega
      · rw [if_neg c] at hl
        omega
theorem dg_j {T : Nat → Nat} {e p j : Nat} (h : yrB T e p = none) (h1 : 1 ≤ j) (hj : j ≤ lenA (T p)) : p + j < e ∧ isD (T (p + j)) = true := by
  have hl := (gd_len h).1
  unfold yrB at h
  rw [if_neg (by omega)] at h
  have := bad_n _ h j h1 hj
  unfold okD at this
  have h2 := Bool.and_eq_true _ _ |>.mp this
  exact ⟨of_decide_eq_true h2.1, (Bool.and_eq_true _ _ |>.mp h2.2).1⟩
theorem dg_3 {T : Nat → Nat} {e p : Nat} (h : yrB T e p = none) (hl : lenA (T p) = 3) : 49 ≤ T (p + 3) ∧ T (p + 3) ≤ 57 := by
  have h' := h
  unfold yrB at h'
  rw [if_neg (by omega), hl] at h'
  have := bad_n _ h' 3 (by decide) (Nat.le_refl _)
  exact ((ok_3 hl).mp this).2
section YW
variable {ko : aKo} {d k : Nat} {is : List Instr} {ls st : List Value} {σ : aH} {D : Nat → Nat} {N : Nat → Nat → Nat} {I : Nat → Nat → Int32} {J : Nat → Nat → Int64} {x t : Nat} {Q : Option Value → aH → Prop} {P : (Option Value ⊕ Unit) → aH → Prop}
theorem m1_bad {F : Nat} : ((-1 : Int32) < nI 0 ∨ (¬ (-1 : Int32) < nI 0 ∧ nI (F - 1) < -1)) := Or.inl (lt_m1 0 (by decide))
theorem t_174 {N0 : Nat → Nat → Nat} {I0 : Nat → Nat → Int32} {J0 : Nat → Nat → Int64} {u e p : Nat} {S : Nat → Nat} (h : invB D N0 I0 J0 t) (he : e ≤ N0 86 11) (hpe : p < e) (hy : yrB (N0 91) e p = none) (hS : rwG D u S) (hu : u + 9 < 1000000000) (hD : yrC D N0 N I0 I J0 J S)
    (hY : ∀ S', acS D N0 (kdA (N0 91 p)) (N0 91 (p + 1) - 48) (N0 91 (p + 2) - 48) (N0 91 (p + 3) - 48) S = some S' → ∀ (v : Nat) (N' : Nat → Nat → Nat) (I' : Nat → Nat → Int32) (J' : Nat → Nat → Int64), v < 2147483648 → yrC D N0 N' I0 I' J0 J' S' → Q (some (.int (nI v))) (hp D N' I' J' x))
    (hNo : acS D N0 (kdA (N0 91 p)) (N0 91 (p + 1) - 48) (N0 91 (p + 2) - 48) (N0 91 (p + 3) - 48) S = none → ∀ v : Int32, v < 0 → Q (some (.int v)) (hp D N I J x)) : aMm ko d 174 [.ref 0, .int (nI p)] (hp D N I J x) Q := by
  obtain ⟨t1, t2, t3⟩ := h.2.1
  obtain ⟨b1, b2⟩ := tx_N h
  have hF := dm_F h.1.1
  have hd2 : D 2 = D 0 := h.1.2.1
  have hd3 : D 3 = D 1 := h.1.2.2.1
  have h4 := inv_d4 h
  have hd6 := h.1.1.2.2.2
  have hd06 := h.1.1.2.1
  have hd1' := h.1.1.2.2.1
  have e11 : N 1 1 = N0 1 1 := hD.2.2.2.1 1 1 rfl rfl
  have e2 : ∀ i, N 2 i = N0 2 i := fun i => hD.2.2.2.1 2 i rfl rfl
  have ec : ∀ i, txC N i = txC N0 i := fun i => by unfold txC; rw [e11, e2]
  have b1' : N 1 1 ≤ 80 := by rw [e11]; exact b1
  have b2' : ∀ i, i < N 1 1 → N 2 i < 256 := fun i hi => by rw [e11] at hi; rw [e2]; exact b2 i hi
  have g1 := fun Q => t_287 (ko := ko) (d := d) (D := D) (N := N) (I := I) (J := J) (x := x) (Q := Q) (i := p + 1) (by omega) b1' b2'
  have g2 := fun Q => t_287 (ko := ko) (d := d) (D := D) (N := N) (I := I) (J := J) (x := x) (Q := Q) (i := p + 2) (by omega) b1' b2'
  have g3 := fun Q => t_287 (ko := ko) (d := d) (D := D) (N := N) (I := I) (J := J) (x := x) (Q := Q) (i := p + 3) (by omega) b1' b2'
  have g0 := fun Q => t_288 (ko := ko) (d := d) (D := D) (N := N) (I := I) (J := J) (x := x) (Q := Q) (i := p) (by omega) b1' b2'
  rw [ec, txC_e h (by omega)] at g0
  rw [ec] at g1 g2 g3
  obtain ⟨l1, l2⟩ := gd_len hy
  have D1 := dg_j hy (Nat.le_refl 1) l1
  have i1 := isD_iff.mp D1.2
  have ev1 : dgI (txC N0 (p + 1)) = nI (N0 91 (p + 1) - 48) := by
    rw [txC_e h (by omega), dgI, if_pos D1.2]
  rw [ev1] at g1
  have g244 := fun y Q => t_244 (ko := ko) (d := d) (D := D) (N := N) (I := I) (J := J) (x := x) (Q := Q) (r := N0 91 (p + 1) - 48) (y := y) (by omega) (by omega)
  have hcl := hD.1.2.1
  have hro : rwO (D 3) S := hD.1.2.2.1
  rw [me_174]
  rcases ln_c hy with hc | hc | hc | hc | hc
  · -- n
    rw [hc] at g0 hY hNo
    have ea : acS D N0 (kdA 110) (N0 91 (p + 1) - 48) (N0 91 (p + 2) - 48) (N0 91 (p + 3) - 48) S = some (itS D N0 S (N0 91 (p + 1) - 48)) := rfl
    simp (disch := (first | omega | exact aCat_8 (by with_unfolding_all rfl) | exact rk_lt (by with_unfolding_all rfl) | exact aCat_16 (by with_unfolding_all rfl) | exact rk_eq (by with_unfolding_all rfl) | assumption | exact b2n_lt _ | exact id_b (by with_unfolding_all rfl) | (simp (disch := omega) only [u2_same, u2_ab, u2_aq]; done) | (simp (disch := omega) only [u2_same, u2_ab, u2_aq]; omega) | fail)) only [al_11136, wp_aloadr_0, wp_aloadk_0, hg_0_0, wp_iload_1, wk_1, wp_iadd, wc_287, wp_istore_2, hg_0_2, wp_iload_2, wk_2, wc_244, wp_istore_3, wk_3, wp_istore_4, wc_288, al_11137, hg_0_10, hg_0_7, hg_0_4, wc_254, wp_ireturn, al_11138, wp_iload_3, wp_iload_4, wc_163, al_11139, wc_166, al_11140, wc_168, al_11141, wc_170, al_11142, wk_m1, nl_i, nl_r, nl_k, nl_j, nl_l, nI_add, pk_mul, pk_sub, tl_s, tl_n, aL_inl, u2_same, u2_ab, u2_aq, nI_l, lN_i, Nat.add_zero, Nat.zero_add, Nat.zero_le, true_and, and_true, b2n_10, b2n_T, b2n_F, b2n_0, Decidable.not_not, not_true_eq_false, not_false_eq_true, Nat.reduceAdd, Nat.reduceMul, Nat.reduceSub, g0, g1, g2, g3, g244]
    rw [wp_lsw (L := 11137) (by decide)]
    simp (disch := (first | omega | exact aCat_8 (by with_unfolding_all rfl) | exact rk_lt (by with_unfolding_all rfl) | exact aCat_16 (by with_unfolding_all rfl) | exact rk_eq (by with_unfolding_all rfl) | assumption | exact b2n_lt _ | exact id_b (by with_unfolding_all rfl) | (simp (disch := omega) only [u2_same, u2_ab, u2_aq]; done) | (simp (disch := omega) only [u2_same, u2_ab, u2_aq]; omega) | fail)) only [al_11136, wp_aloadr_0, wp_aloadk_0, hg_0_0, wp_iload_1, wk_1, wp_iadd, wc_287, wp_istore_2, hg_0_2, wp_iload_2, wk_2, wc_244, wp_istore_3, wk_3, wp_istore_4, wc_288, al_11137, hg_0_10, hg_0_7, hg_0_4, wc_254, wp_ireturn, al_11138, wp_iload_3, wp_iload_4, wc_163, al_11139, wc_166, al_11140, wc_168, al_11141, wc_170, al_11142, wk_m1, nl_i, nl_r, nl_k, nl_j, nl_l, nI_add, pk_mul, pk_sub, tl_s, tl_n, aL_inl, u2_same, u2_ab, u2_aq, nI_l, lN_i, Nat.add_zero, Nat.zero_add, Nat.zero_le, true_and, and_true, b2n_10, b2n_T, b2n_F, b2n_0, Decidable.not_not, not_true_eq_false, not_false_eq_true, Nat.reduceAdd, Nat.reduceMul, Nat.reduceSub]
    refine yc_tide h hS (by omega) hu hD ?_
    intro N1 I1 J1 hD1
    have hcm := cmS_le (D := D) (N := N0) (S := S) (N0 91 (p + 1) - 48)
    have hq := hY _ ea (cmS D N0 S (N0 91 (p + 1) - 48)) N1 I1 J1 (by omega) hD1
    simp (disch := (first | omega | exact aCat_8 (by with_unfolding_all rfl) | exact rk_lt (by with_unfolding_all rfl) | exact aCat_16 (by with_unfolding_all rfl) | exact rk_eq (by with_unfolding_all rfl) | assumption | exact b2n_lt _ | exact id_b (by with_unfolding_all rfl) | (simp (disch := omega) only [u2_same, u2_ab, u2_aq]; done) | (simp (disch := omega) only [u2_same, u2_ab, u2_aq]; omega) | fail)) only [al_11136, wp_aloadr_0, wp_aloadk_0, hg_0_0, wp_iload_1, wk_1, wp_iadd, wc_287, wp_istore_2, hg_0_2, wp_iload_2, wk_2, wc_244, wp_istore_3, wk_3, wp_istore_4, wc_288, al_11137, hg_0_10, hg_0_7, hg_0_4, wc_254, wp_ireturn, al_11138, wp_iload_3, wp_iload_4, wc_163, al_11139, wc_166, al_11140, wc_168, al_11141, wc_170, al_11142, wk_m1, nl_i, nl_r, nl_k, nl_j, nl_l, nI_add, pk_mul, pk_sub, tl_s, tl_n, aL_inl, u2_same, u2_ab, u2_aq, nI_l, lN_i, Nat.add_zero, Nat.zero_add, Nat.zero_le, true_and, and_true, b2n_10, b2n_T, b2n_F, b2n_0, Decidable.not_not, not_true_eq_false, not_false_eq_true, Nat.reduceAdd, Nat.reduceMul, Nat.reduceSub]
    exact hq
  · -- s
    rw [hc] at g0 hY hNo
    have ea : acS D N0 (kdA 115) (N0 91 (p + 1) - 48) (N0 91 (p + 2) - 48) (N0 91 (p + 3) - 48) S = (if N0 91 (p + 1) - 48 < D 1 ∧ ¬ S 108 = N0 91 (p + 1) - 48 then some (upn S 108 (N0 91 (p + 1) - 48)) else none) := rfl
    rw [ea] at hY hNo
    have e203 : N 20 3 = S 108 := hcl.2.2.1
    simp (disch := (first | omega | exact aCat_8 (by with_unfolding_all rfl) | exact rk_lt (by with_unfolding_all rfl) | exact aCat_16 (by with_unfolding_all rfl) | exact rk_eq (by with_unfolding_all rfl) | assumption | exact b2n_lt _ | exact id_b (by with_unfolding_all rfl) | (simp (disch := omega) only [u2_same, u2_ab, u2_aq]; done) | (simp (disch := omega) only [u2_same, u2_ab, u2_aq]; omega) | fail)) only [al_11136, wp_aloadr_0, wp_aloadk_0, hg_0_0, wp_iload_1, wk_1, wp_iadd, wc_287, wp_istore_2, hg_0_2, wp_iload_2, wk_2, wc_244, wp_istore_3, wk_3, wp_istore_4, wc_288, al_11137, hg_0_10, hg_0_7, hg_0_4, wc_254, wp_ireturn, al_11138, wp_iload_3, wp_iload_4, wc_163, al_11139, wc_166, al_11140, wc_168, al_11141, wc_170, al_11142, wk_m1, nl_i, nl_r, nl_k, nl_j, nl_l, nI_add, pk_mul, pk_sub, tl_s, tl_n, aL_inl, u2_same, u2_ab, u2_aq, nI_l, lN_i, Nat.add_zero, Nat.zero_add, Nat.zero_le, true_and, and_true, b2n_10, b2n_T, b2n_F, b2n_0, Decidable.not_not, not_true_eq_false, not_false_eq_true, Nat.reduceAdd, Nat.reduceMul, Nat.reduceSub, g0, g1, g2, g3, g244]
    rw [wp_lsw (L := 11141) (by decide)]
    by_cases z1 : N0 91 (p + 1) - 48 < D 1
    · by_cases z2 : S 108 = N0 91 (p + 1) - 48
      · have hq := hNo (if_neg (fun y => y.2 z2)) (-2) (by decide)
        have t170 := fun Q => t_170e (ko := ko) (d := d) (D := D) (N := N) (I := I) (J := J) (x := x) (Q := Q) (c := N0 91 (p + 1) - 48) (by omega) (by omega) (e203.trans z2)
        simp (disch := (first | omega | exact aCat_8 (by with_unfolding_all rfl) | exact rk_lt (by with_unfolding_all rfl) | exact aCat_16 (by with_unfolding_all rfl) | exact rk_eq (by with_unfolding_all rfl) | assumption | exact b2n_lt _ | exact id_b (by with_unfolding_all rfl) | (simp (disch := omega) only [u2_same, u2_ab, u2_aq]; done) | (simp (disch := omega) only [u2_same, u2_ab, u2_aq]; omega) | fail)) only [al_11136, wp_aloadr_0, wp_aloadk_0, hg_0_0, wp_iload_1, wk_1, wp_iadd, wc_287, wp_istore_2, hg_0_2, wp_iload_2, wk_2, wc_244, wp_istore_3, wk_3, wp_istore_4, wc_288, al_11137, hg_0_10, hg_0_7, hg_0_4, wc_254, wp_ireturn, al_11138, wp_iload_3, wp_iload_4, wc_163, al_11139, wc_166, al_11140, wc_168, al_11141, wc_170, al_11142, wk_m1, nl_i, nl_r, nl_k, nl_j, nl_l, nI_add, pk_mul, pk_sub, tl_s, tl_n, aL_inl, u2_same, u2_ab, u2_aq, nI_l, lN_i, Nat.add_zero, Nat.zero_add, Nat.zero_le, true_and, and_true, b2n_10, b2n_T, b2n_F, b2n_0, Decidable.not_not, not_true_eq_false, not_false_eq_true, Nat.reduceAdd, Nat.reduceMul, Nat.reduceSub, t170]
        exact hq
      · have hs := hS.1.2.1
        have t170 := fun Q => t_170g (ko := ko) (d := d) (D := D) (N := N) (I := I) (J := J) (x := x) (Q := Q) (c := N0 91 (p + 1) - 48) (by omega) (by omega) (by rw [e203]; omega) (by rw [e203]; exact z2)
        have hq := hY _ (if_pos ⟨z1, z2⟩) (N 20 3) (u2 N 20 3 (N0 91 (p + 1) - 48)) I J (by rw [e203]; omega) (yc_set hD (by rw [hd3]; exact (rw_src hS.1 hS.2.1 z1).1) (by
          have e' : ∀ q, q ≠ 108 → upn S 108 (N0 91 (p + 1) - 48) q = S q := fun q hq => by rw [upn, if_neg hq]
          refine ⟨fun f hf => ?_, fun f hf => ?_, ?_, ?_, ?_⟩
          · rw [u2_ab (by decide), e' f (by omega)]; exact hcl.1 f hf
          · by_cases zf : f < 36
            · rw [e' (36 + f) (by omega), e' (72 + f) (by omega)]; exact hcl.2.1 f hf
            · have := hcl.2.1 f hf
              simp only [zf, decide_false, Bool.false_and] at this ⊢
              exact this
          · rw [u2_same]; simp [upn]
          · rw [u2_aq (by decide), e' _ (by decide)]; exact hcl.2.2.2.1
          · rw [u2_aq (by decide), e' _ (by decide)]; exact hcl.2.2.2.2) (fun b q y1 y2 => u2_ab y1) (fun _ _ _ => rfl))
        simp (disch := (first | omega | exact aCat_8 (by with_unfolding_all rfl) | exact rk_lt (by with_unfolding_all rfl) | exact aCat_16 (by with_unfolding_all rfl) | exact rk_eq (by with_unfolding_all rfl) | assumption | exact b2n_lt _ | exact id_b (by with_unfolding_all rfl) | (simp (disch := omega) only [u2_same, u2_ab, u2_aq]; done) | (simp (disch := omega) only [u2_same, u2_ab, u2_aq]; omega) | fail)) only [al_11136, wp_aloadr_0, wp_aloadk_0, hg_0_0, wp_iload_1, wk_1, wp_iadd, wc_287, wp_istore_2, hg_0_2, wp_iload_2, wk_2, wc_244, wp_istore_3, wk_3, wp_istore_4, wc_288, al_11137, hg_0_10, hg_0_7, hg_0_4, wc_254, wp_ireturn, al_11138, wp_iload_3, wp_iload_4, wc_163, al_11139, wc_166, al_11140, wc_168, al_11141, wc_170, al_11142, wk_m1, nl_i, nl_r, nl_k, nl_j, nl_l, nI_add, pk_mul, pk_sub, tl_s, tl_n, aL_inl, u2_same, u2_ab, u2_aq, nI_l, lN_i, Nat.add_zero, Nat.zero_add, Nat.zero_le, true_and, and_true, b2n_10, b2n_T, b2n_F, b2n_0, Decidable.not_not, not_true_eq_false, not_false_eq_true, Nat.reduceAdd, Nat.reduceMul, Nat.reduceSub, t170]
        exact hq
    · have hq := hNo (if_neg (fun y => z1 y.1)) (-1) (by decide)
      have t170 := fun Q => t_170b (ko := ko) (d := d) (D := D) (N := N) (I := I) (J := J) (x := x) (Q := Q) (a := nI (N0 91 (p + 1) - 48)) (by omega) (by omega) (Or.inr ⟨fun y => by have := (nI_ltI (by omega) (by decide)).mp y; omega, (nI_ltI (by omega) (by omega)).mpr (by omega)⟩)
      simp (disch := (first | omega | exact aCat_8 (by with_unfolding_all rfl) | exact rk_lt (by with_unfolding_all rfl) | exact aCat_16 (by with_unfolding_all rfl) | exact rk_eq (by with_unfolding_all rfl) | assumption | exact b2n_lt _ | exact id_b (by with_unfolding_all rfl) | (simp (disch := omega) only [u2_same, u2_ab, u2_aq]; done) | (simp (disch := omega) only [u2_same, u2_ab, u2_aq]; omega) | fail)) only [al_11136, wp_aloadr_0, wp_aloadk_0, hg_0_0, wp_iload_1, wk_1, wp_iadd, wc_287, wp_istore_2, hg_0_2, wp_iload_2, wk_2, wc_244, wp_istore_3, wk_3, wp_istore_4, wc_288, al_11137, hg_0_10, hg_0_7, hg_0_4, wc_254, wp_ireturn, al_11138, wp_iload_3, wp_iload_4, wc_163, al_11139, wc_166, al_11140, wc_168, al_11141, wc_170, al_11142, wk_m1, nl_i, nl_r, nl_k, nl_j, nl_l, nI_add, pk_mul, pk_sub, tl_s, tl_n, aL_inl, u2_same, u2_ab, u2_aq, nI_l, lN_i, Nat.add_zero, Nat.zero_add, Nat.zero_le, true_and, and_true, b2n_10, b2n_T, b2n_F, b2n_0, Decidable.not_not, not_true_eq_false, not_false_eq_true, Nat.reduceAdd, Nat.reduceMul, Nat.reduceSub, t170]
      exact hq
  · -- c
    rw [hc] at g0 hY hNo l1 l2
    have hl3 : lenA (N0 91 p) = 3 := by rw [hc]; rfl
    have D2 := dg_j hy (show 1 ≤ 2 by decide) (by rw [hl3]; decide)
    have i2 := isD_iff.mp D2.2
    have D3 := dg_j hy (show 1 ≤ 3 by decide) (by rw [hl3]; decide)
    have i3 := dg_3 hy hl3
    have ev2 : dgI (txC N0 (p + 2)) = nI (N0 91 (p + 2) - 48) := by rw [txC_e h (by omega), dgI, if_pos D2.2]
    have ev3 : dgI (txC N0 (p + 3)) = nI (N0 91 (p + 3) - 48) := by rw [txC_e h (by omega), dgI, if_pos D3.2]
    rw [ev2] at g2
    rw [ev3] at g3
    have hfa := fa_n (D := D) (r := N0 91 (p + 1) - 48) (c := N0 91 (p + 2) - 48) (by omega) (by omega)
    rw [hd2, hd3] at hfa
    have ea : acS D N0 (kdA 99) (N0 91 (p + 1) - 48) (N0 91 (p + 2) - 48) (N0 91 (p + 3) - 48) S = (if ¬ (N0 91 (p + 1) - 48 < D 0 ∧ N0 91 (p + 2) - 48 < D 1) then none else (if N0 91 (p + 3) - 48 ≤ S ((N0 91 (p + 1) - 48) * D 1 + (N0 91 (p + 2) - 48)) then some (upn S ((N0 91 (p + 1) - 48) * D 1 + (N0 91 (p + 2) - 48)) (S ((N0 91 (p + 1) - 48) * D 1 + (N0 91 (p + 2) - 48)) - (N0 91 (p + 3) - 48))) else none)) := rfl
    rw [ea] at hY hNo
    simp (disch := (first | omega | exact aCat_8 (by with_unfolding_all rfl) | exact rk_lt (by with_unfolding_all rfl) | exact aCat_16 (by with_unfolding_all rfl) | exact rk_eq (by with_unfolding_all rfl) | assumption | exact b2n_lt _ | exact id_b (by with_unfolding_all rfl) | (simp (disch := omega) only [u2_same, u2_ab, u2_aq]; done) | (simp (disch := omega) only [u2_same, u2_ab, u2_aq]; omega) | fail)) only [al_11136, wp_aloadr_0, wp_aloadk_0, hg_0_0, wp_iload_1, wk_1, wp_iadd, wc_287, wp_istore_2, hg_0_2, wp_iload_2, wk_2, wc_244, wp_istore_3, wk_3, wp_istore_4, wc_288, al_11137, hg_0_10, hg_0_7, hg_0_4, wc_254, wp_ireturn, al_11138, wp_iload_3, wp_iload_4, wc_163, al_11139, wc_166, al_11140, wc_168, al_11141, wc_170, al_11142, wk_m1, nl_i, nl_r, nl_k, nl_j, nl_l, nI_add, pk_mul, pk_sub, tl_s, tl_n, aL_inl, u2_same, u2_ab, u2_aq, nI_l, lN_i, Nat.add_zero, Nat.zero_add, Nat.zero_le, true_and, and_true, b2n_10, b2n_T, b2n_F, b2n_0, Decidable.not_not, not_true_eq_false, not_false_eq_true, Nat.reduceAdd, Nat.reduceMul, Nat.reduceSub, g0, g1, g2, g3, g244]
    rw [wp_lsw (L := 11138) (by decide), hfa]
    by_cases z1 : N0 91 (p + 1) - 48 < D 0 ∧ N0 91 (p + 2) - 48 < D 1
    · rw [if_pos z1]
      rw [if_neg (not_not_intro z1)] at hY hNo
      have hf := fld_lt z1.1 z1.2
      generalize (N0 91 (p + 1) - 48) * D 1 + (N0 91 (p + 2) - 48) = f at *
      have e21 := hcl.1 f (by omega)
      have h9 := (hS.1.1 f (by omega)).1
      by_cases z2 : N0 91 (p + 3) - 48 ≤ S f
      · have t163 := fun Q => t_163g (ko := ko) (d := d) (D := D) (N := N) (I := I) (J := J) (x := x) (Q := Q) (s := 20) (f := f) (n := N0 91 (p + 3) - 48) rfl (by omega) (by omega) (by omega) (by omega) (by rw [e21]; exact z2) (by rw [e21]; exact h9)
        rw [e21] at t163
        have hq := hY _ (if_pos z2) (S f - (N0 91 (p + 3) - 48)) (u2 N 21 f (S f - (N0 91 (p + 3) - 48))) I J (by omega) (yc_set hD (by rw [hd3]; exact (rw_up hS.1 hS.2.1 hf hF.1 (by omega)).1) (cl_up hcl (by omega)) (fun b q y1 y2 => u2_ab y2) (fun _ _ _ => rfl))
        simp (disch := (first | omega | exact aCat_8 (by with_unfolding_all rfl) | exact rk_lt (by with_unfolding_all rfl) | exact aCat_16 (by with_unfolding_all rfl) | exact rk_eq (by with_unfolding_all rfl) | assumption | exact b2n_lt _ | exact id_b (by with_unfolding_all rfl) | (simp (disch := omega) only [u2_same, u2_ab, u2_aq]; done) | (simp (disch := omega) only [u2_same, u2_ab, u2_aq]; omega) | fail)) only [al_11136, wp_aloadr_0, wp_aloadk_0, hg_0_0, wp_iload_1, wk_1, wp_iadd, wc_287, wp_istore_2, hg_0_2, wp_iload_2, wk_2, wc_244, wp_istore_3, wk_3, wp_istore_4, wc_288, al_11137, hg_0_10, hg_0_7, hg_0_4, wc_254, wp_ireturn, al_11138, wp_iload_3, wp_iload_4, wc_163, al_11139, wc_166, al_11140, wc_168, al_11141, wc_170, al_11142, wk_m1, nl_i, nl_r, nl_k, nl_j, nl_l, nI_add, pk_mul, pk_sub, tl_s, tl_n, aL_inl, u2_same, u2_ab, u2_aq, nI_l, lN_i, Nat.add_zero, Nat.zero_add, Nat.zero_le, true_and, and_true, b2n_10, b2n_T, b2n_F, b2n_0, Decidable.not_not, not_true_eq_false, not_false_eq_true, Nat.reduceAdd, Nat.reduceMul, Nat.reduceSub, t163]
        exact hq
      · have t163 := fun Q => t_163l (ko := ko) (d := d) (D := D) (N := N) (I := I) (J := J) (x := x) (Q := Q) (s := 20) (f := f) (n := N0 91 (p + 3) - 48) rfl (by omega) (by omega) (by omega) (by omega) (by rw [e21]; omega)
        have hq := hNo (if_neg z2) (-2) (by decide)
        simp (disch := (first | omega | exact aCat_8 (by with_unfolding_all rfl) | exact rk_lt (by with_unfolding_all rfl) | exact aCat_16 (by with_unfolding_all rfl) | exact rk_eq (by with_unfolding_all rfl) | assumption | exact b2n_lt _ | exact id_b (by with_unfolding_all rfl) | (simp (disch := omega) only [u2_same, u2_ab, u2_aq]; done) | (simp (disch := omega) only [u2_same, u2_ab, u2_aq]; omega) | fail)) only [al_11136, wp_aloadr_0, wp_aloadk_0, hg_0_0, wp_iload_1, wk_1, wp_iadd, wc_287, wp_istore_2, hg_0_2, wp_iload_2, wk_2, wc_244, wp_istore_3, wk_3, wp_istore_4, wc_288, al_11137, hg_0_10, hg_0_7, hg_0_4, wc_254, wp_ireturn, al_11138, wp_iload_3, wp_iload_4, wc_163, al_11139, wc_166, al_11140, wc_168, al_11141, wc_170, al_11142, wk_m1, nl_i, nl_r, nl_k, nl_j, nl_l, nI_add, pk_mul, pk_sub, tl_s, tl_n, aL_inl, u2_same, u2_ab, u2_aq, nI_l, lN_i, Nat.add_zero, Nat.zero_add, Nat.zero_le, true_and, and_true, b2n_10, b2n_T, b2n_F, b2n_0, Decidable.not_not, not_true_eq_false, not_false_eq_true, Nat.reduceAdd, Nat.reduceMul, Nat.reduceSub, t163]
        exact hq
    · rw [if_neg z1]
      rw [if_pos z1] at hY hNo
      have t163 := fun b Q => t_163b (ko := ko) (d := d) (D := D) (N := N) (I := I) (J := J) (x := x) (Q := Q) (s := 20) (a := -1) (b := b) (by omega) (by omega) (Or.inl m1_bad)
      have hq := hNo rfl (-1) (by decide)
      simp (disch := (first | omega | exact aCat_8 (by with_unfolding_all rfl) | exact rk_lt (by with_unfolding_all rfl) | exact aCat_16 (by with_unfolding_all rfl) | exact rk_eq (by with_unfolding_all rfl) | assumption | exact b2n_lt _ | exact id_b (by with_unfolding_all rfl) | (simp (disch := omega) only [u2_same, u2_ab, u2_aq]; done) | (simp (disch := omega) only [u2_same, u2_ab, u2_aq]; omega) | fail)) only [al_11136, wp_aloadr_0, wp_aloadk_0, hg_0_0, wp_iload_1, wk_1, wp_iadd, wc_287, wp_istore_2, hg_0_2, wp_iload_2, wk_2, wc_244, wp_istore_3, wk_3, wp_istore_4, wc_288, al_11137, hg_0_10, hg_0_7, hg_0_4, wc_254, wp_ireturn, al_11138, wp_iload_3, wp_iload_4, wc_163, al_11139, wc_166, al_11140, wc_168, al_11141, wc_170, al_11142, wk_m1, nl_i, nl_r, nl_k, nl_j, nl_l, nI_add, pk_mul, pk_sub, tl_s, tl_n, aL_inl, u2_same, u2_ab, u2_aq, nI_l, lN_i, Nat.add_zero, Nat.zero_add, Nat.zero_le, true_and, and_true, b2n_10, b2n_T, b2n_F, b2n_0, Decidable.not_not, not_true_eq_false, not_false_eq_true, Nat.reduceAdd, Nat.reduceMul, Nat.reduceSub, t163]
      exact hq
  · -- h
    rw [hc] at g0 hY hNo l1 l2
    have hl3 : lenA (N0 91 p) = 3 := by rw [hc]; rfl
    have D2 := dg_j hy (show 1 ≤ 2 by decide) (by rw [hl3]; decide)
    have i2 := isD_iff.mp D2.2
    have D3 := dg_j hy (show 1 ≤ 3 by decide) (by rw [hl3]; decide)
    have i3 := dg_3 hy hl3
    have ev2 : dgI (txC N0 (p + 2)) = nI (N0 91 (p + 2) - 48) := by rw [txC_e h (by omega), dgI, if_pos D2.2]
    have ev3 : dgI (txC N0 (p + 3)) = nI (N0 91 (p + 3) - 48) := by rw [txC_e h (by omega), dgI, if_pos D3.2]
    rw [ev2] at g2
    rw [ev3] at g3
    have hfa := fa_n (D := D) (r := N0 91 (p + 1) - 48) (c := N0 91 (p + 2) - 48) (by omega) (by omega)
    rw [hd2, hd3] at hfa
    have ea : acS D N0 (kdA 104) (N0 91 (p + 1) - 48) (N0 91 (p + 2) - 48) (N0 91 (p + 3) - 48) S = (if ¬ (N0 91 (p + 1) - 48 < D 0 ∧ N0 91 (p + 2) - 48 < D 1) then none else (if S ((N0 91 (p + 1) - 48) * D 1 + (N0 91 (p + 2) - 48)) + (N0 91 (p + 3) - 48) ≤ 9 then some (upn S ((N0 91 (p + 1) - 48) * D 1 + (N0 91 (p + 2) - 48)) (S ((N0 91 (p + 1) - 48) * D 1 + (N0 91 (p + 2) - 48)) + (N0 91 (p + 3) - 48))) else none)) := rfl
    rw [ea] at hY hNo
    simp (disch := (first | omega | exact aCat_8 (by with_unfolding_all rfl) | exact rk_lt (by with_unfolding_all rfl) | exact aCat_16 (by with_unfolding_all rfl) | exact rk_eq (by with_unfolding_all rfl) | assumption | exact b2n_lt _ | exact id_b (by with_unfolding_all rfl) | (simp (disch := omega) only [u2_same, u2_ab, u2_aq]; done) | (simp (disch := omega) only [u2_same, u2_ab, u2_aq]; omega) | fail)) only [al_11136, wp_aloadr_0, wp_aloadk_0, hg_0_0, wp_iload_1, wk_1, wp_iadd, wc_287, wp_istore_2, hg_0_2, wp_iload_2, wk_2, wc_244, wp_istore_3, wk_3, wp_istore_4, wc_288, al_11137, hg_0_10, hg_0_7, hg_0_4, wc_254, wp_ireturn, al_11138, wp_iload_3, wp_iload_4, wc_163, al_11139, wc_166, al_11140, wc_168, al_11141, wc_170, al_11142, wk_m1, nl_i, nl_r, nl_k, nl_j, nl_l, nI_add, pk_mul, pk_sub, tl_s, tl_n, aL_inl, u2_same, u2_ab, u2_aq, nI_l, lN_i, Nat.add_zero, Nat.zero_add, Nat.zero_le, true_and, and_true, b2n_10, b2n_T, b2n_F, b2n_0, Decidable.not_not, not_true_eq_false, not_false_eq_true, Nat.reduceAdd, Nat.reduceMul, Nat.reduceSub, g0, g1, g2, g3, g244]
    rw [wp_lsw (L := 11139) (by decide), hfa]
    by_cases z1 : N0 91 (p + 1) - 48 < D 0 ∧ N0 91 (p + 2) - 48 < D 1
    · rw [if_pos z1]
      rw [if_neg (not_not_intro z1)] at hY hNo
      have hf := fld_lt z1.1 z1.2
      generalize (N0 91 (p + 1) - 48) * D 1 + (N0 91 (p + 2) - 48) = f at *
      have e21 : N 21 f = S f := hcl.1 f (by omega)
      have h9 := (hS.1.1 f (by omega)).1
      by_cases z2 : S f + (N0 91 (p + 3) - 48) ≤ 9
      · have t166 := fun Q => t_166g (ko := ko) (d := d) (D := D) (N := N) (I := I) (J := J) (x := x) (Q := Q) (f := f) (n := N0 91 (p + 3) - 48) (by omega) (by omega) (by omega) (by omega) (by rw [e21]; exact z2)
        rw [e21] at t166
        have hq := hY _ (if_pos z2) (S f + (N0 91 (p + 3) - 48)) (u2 N 21 f (S f + (N0 91 (p + 3) - 48))) I J (by omega) (yc_set hD (by rw [hd3]; exact (rw_up hS.1 hS.2.1 hf hF.1 z2).1) (cl_up hcl (by omega)) (fun b q y1 y2 => u2_ab y2) (fun _ _ _ => rfl))
        simp (disch := (first | omega | exact aCat_8 (by with_unfolding_all rfl) | exact rk_lt (by with_unfolding_all rfl) | exact aCat_16 (by with_unfolding_all rfl) | exact rk_eq (by with_unfolding_all rfl) | assumption | exact b2n_lt _ | exact id_b (by with_unfolding_all rfl) | (simp (disch := omega) only [u2_same, u2_ab, u2_aq]; done) | (simp (disch := omega) only [u2_same, u2_ab, u2_aq]; omega) | fail)) only [al_11136, wp_aloadr_0, wp_aloadk_0, hg_0_0, wp_iload_1, wk_1, wp_iadd, wc_287, wp_istore_2, hg_0_2, wp_iload_2, wk_2, wc_244, wp_istore_3, wk_3, wp_istore_4, wc_288, al_11137, hg_0_10, hg_0_7, hg_0_4, wc_254, wp_ireturn, al_11138, wp_iload_3, wp_iload_4, wc_163, al_11139, wc_166, al_11140, wc_168, al_11141, wc_170, al_11142, wk_m1, nl_i, nl_r, nl_k, nl_j, nl_l, nI_add, pk_mul, pk_sub, tl_s, tl_n, aL_inl, u2_same, u2_ab, u2_aq, nI_l, lN_i, Nat.add_zero, Nat.zero_add, Nat.zero_le, true_and, and_true, b2n_10, b2n_T, b2n_F, b2n_0, Decidable.not_not, not_true_eq_false, not_false_eq_true, Nat.reduceAdd, Nat.reduceMul, Nat.reduceSub, t166]
        exact hq
      · have t166 := fun Q => t_166l (ko := ko) (d := d) (D := D) (N := N) (I := I) (J := J) (x := x) (Q := Q) (f := f) (n := N0 91 (p + 3) - 48) (by omega) (by omega) (by omega) (by omega) (by rw [e21]; exact h9) (by rw [e21]; omega)
        have hq := hNo (if_neg z2) (-3) (by decide)
        simp (disch := (first | omega | exact aCat_8 (by with_unfolding_all rfl) | exact rk_lt (by with_unfolding_all rfl) | exact aCat_16 (by with_unfolding_all rfl) | exact rk_eq (by with_unfolding_all rfl) | assumption | exact b2n_lt _ | exact id_b (by with_unfolding_all rfl) | (simp (disch := omega) only [u2_same, u2_ab, u2_aq]; done) | (simp (disch := omega) only [u2_same, u2_ab, u2_aq]; omega) | fail)) only [al_11136, wp_aloadr_0, wp_aloadk_0, hg_0_0, wp_iload_1, wk_1, wp_iadd, wc_287, wp_istore_2, hg_0_2, wp_iload_2, wk_2, wc_244, wp_istore_3, wk_3, wp_istore_4, wc_288, al_11137, hg_0_10, hg_0_7, hg_0_4, wc_254, wp_ireturn, al_11138, wp_iload_3, wp_iload_4, wc_163, al_11139, wc_166, al_11140, wc_168, al_11141, wc_170, al_11142, wk_m1, nl_i, nl_r, nl_k, nl_j, nl_l, nI_add, pk_mul, pk_sub, tl_s, tl_n, aL_inl, u2_same, u2_ab, u2_aq, nI_l, lN_i, Nat.add_zero, Nat.zero_add, Nat.zero_le, true_and, and_true, b2n_10, b2n_T, b2n_F, b2n_0, Decidable.not_not, not_true_eq_false, not_false_eq_true, Nat.reduceAdd, Nat.reduceMul, Nat.reduceSub, t166]
        exact hq
    · rw [if_neg z1]
      rw [if_pos z1] at hY hNo
      have t166 := fun b Q => t_166b (ko := ko) (d := d) (D := D) (N := N) (I := I) (J := J) (x := x) (Q := Q) (a := -1) (b := b) (by omega) (by omega) (Or.inl m1_bad)
      have hq := hNo rfl (-1) (by decide)
      simp (disch := (first | omega | exact aCat_8 (by with_unfolding_all rfl) | exact rk_lt (by with_unfolding_all rfl) | exact aCat_16 (by with_unfolding_all rfl) | exact rk_eq (by with_unfolding_all rfl) | assumption | exact b2n_lt _ | exact id_b (by with_unfolding_all rfl) | (simp (disch := omega) only [u2_same, u2_ab, u2_aq]; done) | (simp (disch := omega) only [u2_same, u2_ab, u2_aq]; omega) | fail)) only [al_11136, wp_aloadr_0, wp_aloadk_0, hg_0_0, wp_iload_1, wk_1, wp_iadd, wc_287, wp_istore_2, hg_0_2, wp_iload_2, wk_2, wc_244, wp_istore_3, wk_3, wp_istore_4, wc_288, al_11137, hg_0_10, hg_0_7, hg_0_4, wc_254, wp_ireturn, al_11138, wp_iload_3, wp_iload_4, wc_163, al_11139, wc_166, al_11140, wc_168, al_11141, wc_170, al_11142, wk_m1, nl_i, nl_r, nl_k, nl_j, nl_l, nI_add, pk_mul, pk_sub, tl_s, tl_n, aL_inl, u2_same, u2_ab, u2_aq, nI_l, lN_i, Nat.add_zero, Nat.zero_add, Nat.zero_le, true_and, and_true, b2n_10, b2n_T, b2n_F, b2n_0, Decidable.not_not, not_true_eq_false, not_false_eq_true, Nat.reduceAdd, Nat.reduceMul, Nat.reduceSub, t166]
      exact hq
  · -- w
    rw [hc] at g0 hY hNo l1 l2
    have hl2 : lenA (N0 91 p) = 2 := by rw [hc]; rfl
    have D2 := dg_j hy (show 1 ≤ 2 by decide) (by rw [hl2]; decide)
    have i2 := isD_iff.mp D2.2
    have ev2 : dgI (txC N0 (p + 2)) = nI (N0 91 (p + 2) - 48) := by rw [txC_e h (by omega), dgI, if_pos D2.2]
    rw [ev2] at g2
    have hfa := fa_n (D := D) (r := N0 91 (p + 1) - 48) (c := N0 91 (p + 2) - 48) (by omega) (by omega)
    rw [hd2, hd3] at hfa
    have ea : acS D N0 (kdA 119) (N0 91 (p + 1) - 48) (N0 91 (p + 2) - 48) (N0 91 (p + 3) - 48) S = (if ¬ (N0 91 (p + 1) - 48 < D 0 ∧ N0 91 (p + 2) - 48 < D 1) then none else (if S (36 + ((N0 91 (p + 1) - 48) * D 1 + (N0 91 (p + 2) - 48))) = 0 ∧ sumR (fun q => S (36 + q)) (D 0 * D 1) = 8 then none else some (upn S (36 + ((N0 91 (p + 1) - 48) * D 1 + (N0 91 (p + 2) - 48))) (1 - S (36 + ((N0 91 (p + 1) - 48) * D 1 + (N0 91 (p + 2) - 48))))))) := rfl
    rw [ea] at hY hNo
    simp (disch := (first | omega | exact aCat_8 (by with_unfolding_all rfl) | exact rk_lt (by with_unfolding_all rfl) | exact aCat_16 (by with_unfolding_all rfl) | exact rk_eq (by with_unfolding_all rfl) | assumption | exact b2n_lt _ | exact id_b (by with_unfolding_all rfl) | (simp (disch := omega) only [u2_same, u2_ab, u2_aq]; done) | (simp (disch := omega) only [u2_same, u2_ab, u2_aq]; omega) | fail)) only [al_11136, wp_aloadr_0, wp_aloadk_0, hg_0_0, wp_iload_1, wk_1, wp_iadd, wc_287, wp_istore_2, hg_0_2, wp_iload_2, wk_2, wc_244, wp_istore_3, wk_3, wp_istore_4, wc_288, al_11137, hg_0_10, hg_0_7, hg_0_4, wc_254, wp_ireturn, al_11138, wp_iload_3, wp_iload_4, wc_163, al_11139, wc_166, al_11140, wc_168, al_11141, wc_170, al_11142, wk_m1, nl_i, nl_r, nl_k, nl_j, nl_l, nI_add, pk_mul, pk_sub, tl_s, tl_n, aL_inl, u2_same, u2_ab, u2_aq, nI_l, lN_i, Nat.add_zero, Nat.zero_add, Nat.zero_le, true_and, and_true, b2n_10, b2n_T, b2n_F, b2n_0, Decidable.not_not, not_true_eq_false, not_false_eq_true, Nat.reduceAdd, Nat.reduceMul, Nat.reduceSub, g0, g1, g2, g3, g244]
    rw [wp_lsw (L := 11140) (by decide), hfa]
    by_cases z1 : N0 91 (p + 1) - 48 < D 0 ∧ N0 91 (p + 2) - 48 < D 1
    · rw [if_pos z1]
      rw [if_neg (not_not_intro z1)] at hY hNo
      have hf := fld_lt z1.1 z1.2
      generalize (N0 91 (p + 1) - 48) * D 1 + (N0 91 (p + 2) - 48) = f at *
      have h1 := (hS.1.1 f (by omega)).2.1
      have hC := rwG_wal hF.1 hf hS
      have hz : sumR (fun q => S (36 + q)) 36 = sumR (fun q => S (36 + q)) (D 0 * D 1) := sumR_z 36 hF.1 (fun q z1 z2 => (hS.2.1 q z1 z2).2.1)
      have h8 := hS.2.2.2
      unfold walY at hC
      by_cases z2 : S (36 + f) = 0 ∧ sumR (fun q => S (36 + q)) (D 0 * D 1) = 8
      · have t168 := fun Q => t_168f (ko := ko) (d := d) (D := D) (N := N) (I := I) (J := J) (x := x) (Q := Q) (s := 20) (S := S) (f := f) rfl (by omega) (by omega) hcl hS.1 (by rw [h4]; exact hS.2.1) z2.1 (by rw [h4]; exact z2.2)
        have hq := hNo (if_pos z2) (-2) (by decide)
        simp (disch := (first | omega | exact aCat_8 (by with_unfolding_all rfl) | exact rk_lt (by with_unfolding_all rfl) | exact aCat_16 (by with_unfolding_all rfl) | exact rk_eq (by with_unfolding_all rfl) | assumption | exact b2n_lt _ | exact id_b (by with_unfolding_all rfl) | (simp (disch := omega) only [u2_same, u2_ab, u2_aq]; done) | (simp (disch := omega) only [u2_same, u2_ab, u2_aq]; omega) | fail)) only [al_11136, wp_aloadr_0, wp_aloadk_0, hg_0_0, wp_iload_1, wk_1, wp_iadd, wc_287, wp_istore_2, hg_0_2, wp_iload_2, wk_2, wc_244, wp_istore_3, wk_3, wp_istore_4, wc_288, al_11137, hg_0_10, hg_0_7, hg_0_4, wc_254, wp_ireturn, al_11138, wp_iload_3, wp_iload_4, wc_163, al_11139, wc_166, al_11140, wc_168, al_11141, wc_170, al_11142, wk_m1, nl_i, nl_r, nl_k, nl_j, nl_l, nI_add, pk_mul, pk_sub, tl_s, tl_n, aL_inl, u2_same, u2_ab, u2_aq, nI_l, lN_i, Nat.add_zero, Nat.zero_add, Nat.zero_le, true_and, and_true, b2n_10, b2n_T, b2n_F, b2n_0, Decidable.not_not, not_true_eq_false, not_false_eq_true, Nat.reduceAdd, Nat.reduceMul, Nat.reduceSub, t168]
        exact hq
      · rw [if_neg z2] at hC
        have t168 := fun Q => t_168g (ko := ko) (d := d) (D := D) (N := N) (I := I) (J := J) (x := x) (Q := Q) (s := 20) (S := S) (f := f) rfl (by omega) (by omega) hcl hS.1 (by rw [h4]; exact hS.2.1) (by
          rw [h4]
          intro y
          have : ¬ sumR (fun q => S (36 + q)) (D 0 * D 1) = 8 := fun w => z2 ⟨y, w⟩
          omega)
        have hsum : sumR (fun q => upn S (36 + f) (1 - S (36 + f)) (36 + q)) (D 4) < 2147483648 := by
          have := sum_le (S := fun q => upn S (36 + f) (1 - S (36 + f)) (36 + q)) (c := 1) (D 4) (fun q hq => (hC.1.1 q (by omega)).2.1)
          omega
        have hq := hY _ (if_neg z2) _ N I (u2 J 20 1 (J 20 1 ^^^ lN 1 <<< (lN f &&& 63))) hsum (yc_set hD (by rw [hd3]; exact hC.1) (cl_wall hcl (by omega) h1) (fun _ _ _ _ => rfl) (fun b q z => u2_ab z))
        simp (disch := (first | omega | exact aCat_8 (by with_unfolding_all rfl) | exact rk_lt (by with_unfolding_all rfl) | exact aCat_16 (by with_unfolding_all rfl) | exact rk_eq (by with_unfolding_all rfl) | assumption | exact b2n_lt _ | exact id_b (by with_unfolding_all rfl) | (simp (disch := omega) only [u2_same, u2_ab, u2_aq]; done) | (simp (disch := omega) only [u2_same, u2_ab, u2_aq]; omega) | fail)) only [al_11136, wp_aloadr_0, wp_aloadk_0, hg_0_0, wp_iload_1, wk_1, wp_iadd, wc_287, wp_istore_2, hg_0_2, wp_iload_2, wk_2, wc_244, wp_istore_3, wk_3, wp_istore_4, wc_288, al_11137, hg_0_10, hg_0_7, hg_0_4, wc_254, wp_ireturn, al_11138, wp_iload_3, wp_iload_4, wc_163, al_11139, wc_166, al_11140, wc_168, al_11141, wc_170, al_11142, wk_m1, nl_i, nl_r, nl_k, nl_j, nl_l, nI_add, pk_mul, pk_sub, tl_s, tl_n, aL_inl, u2_same, u2_ab, u2_aq, nI_l, lN_i, Nat.add_zero, Nat.zero_add, Nat.zero_le, true_and, and_true, b2n_10, b2n_T, b2n_F, b2n_0, Decidable.not_not, not_true_eq_false, not_false_eq_true, Nat.reduceAdd, Nat.reduceMul, Nat.reduceSub, t168]
        exact hq
    · rw [if_neg z1]
      rw [if_pos z1] at hY hNo
      have t168 := fun Q => t_168b (ko := ko) (d := d) (D := D) (N := N) (I := I) (J := J) (x := x) (Q := Q) (a := -1) (by omega) (by omega) m1_bad
      have hq := hNo rfl (-1) (by decide)
      simp (disch := (first | omega | exact aCat_8 (by with_unfolding_all rfl) | exact rk_lt (by with_unfolding_all rfl) | exact aCat_16 (by with_unfolding_all rfl) | exact rk_eq (by with_unfolding_all rfl) | assumption | exact b2n_lt _ | exact id_b (by with_unfolding_all rfl) | (simp (disch := omega) only [u2_same, u2_ab, u2_aq]; done) | (simp (disch := omega) only [u2_same, u2_ab, u2_aq]; omega) | fail)) only [al_11136, wp_aloadr_0, wp_aloadk_0, hg_0_0, wp_iload_1, wk_1, wp_iadd, wc_287, wp_istore_2, hg_0_2, wp_iload_2, wk_2, wc_244, wp_istore_3, wk_3, wp_istore_4, wc_288, al_11137, hg_0_10, hg_0_7, hg_0_4, wc_254, wp_ireturn, al_11138, wp_iload_3, wp_iload_4, wc_163, al_11139, wc_166, al_11140, wc_168, al_11141, wc_170, al_11142, wk_m1, nl_i, nl_r, nl_k, nl_j, nl_l, nI_add, pk_mul, pk_sub, tl_s, tl_n, aL_inl, u2_same, u2_ab, u2_aq, nI_l, lN_i, Nat.add_zero, Nat.zero_add, Nat.zero_le, true_and, and_true, b2n_10, b2n_T, b2n_F, b2n_0, Decidable.not_not, not_true_eq_false, not_false_eq_true, Nat.reduceAdd, Nat.reduceMul, Nat.reduceSub, t168]
      exact hq
end YW
