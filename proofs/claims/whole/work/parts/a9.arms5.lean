/-! arms: the programs, the pair. From wip/whole/src. -/
section M5
variable {ko : aKo} {d k : Nat} {is : List Instr} {ls st : List Value} {σ : aH} {D : Nat → Nat} {N : Nat → Nat → Nat} {I : Nat → Nat → Int32} {J : Nat → Nat → Int64} {x t : Nat} {Q : Option Value → aH → Prop} {P : (Option Value ⊕ Unit) → aH → Prop}
def amJ (o : Option Nat) : Int64 := match o with
  | none => -1
  | some m => lN m
theorem dm_pre {s n A m : Nat} {p : Nat → Bool} {u : Nat} : ∀ j, (dmL s u (n + 1) A).find? p = some m → (dmL s (u + j) (n + 1) A).find? p = some m := by
  intro j
  induction j with
  | zero => intro h; exact h
  | succ j ih =>
    intro h
    rw [← Nat.add_assoc, dm_s, List.find?_append, ih h]
    rfl
theorem l_195 {n v A a : Nat} (h : invB D N I J t) (hn : n < 3) (hv : v ≤ D 0 * D 1) (hA : A = 2 ^ v * a) (hAF : A + 2 ^ v ≤ 2 ^ (D 0 * D 1))
    (hrec : ∀ (u B b : Nat) (Q : Option Value → aH → Prop), u ≤ D 0 * D 1 → B = 2 ^ u * b → B + 2 ^ u ≤ 2 ^ (D 0 * D 1) → aMm ko d 195 [.ref 5, .ref 20, .int (nI n), .int (nI u), .long (lN B)] (hp D N I J x) Q = Q (some (.long (amJ ((dmL (N 89 108) u n B).find? (amBl D N))))) (hp D N I J x)) :
    ∀ (j u : Nat) (w6 w7 : Value), u + j = v → (dmL (N 89 108) u (n + 1) A).find? (amBl D N) = none → aWp ko (d + 1) 195 (aP.1 (Int.toNat 12484)) [.ref 5, .ref 20, .int (nI (n + 1)), .int (nI v), .long (lN A), aJk, .int (nI u), w6, w7] [] (hp D N I J x) (aL Q) = Q (some (.long (amJ ((dmL (N 89 108) v (n + 1) A).find? (amBl D N))))) (hp D N I J x) := by
  have hF := dm_F h.1.1
  have hA' := inv_rv h
  have e203 : N 20 3 = N 89 108 := hA'.2.1.2.2.1
  have hs := h.2.2.2.2.1.1.2.1
  have hp36 : 2 ^ (D 0 * D 1) ≤ 2 ^ 36 := Nat.pow_le_pow_right (by decide) hF.1
  have h3663 : (2 : Nat) ^ 36 < 2 ^ 63 := by decide
  intro j
  induction j with
  | zero =>
    intro u w6 w7 hj hno
    have e : u = v := by omega
    subst e
    rw [hno, al_12484]
    simp (disch := (first | omega | exact aCat_8 (by with_unfolding_all rfl) | exact rk_lt (by with_unfolding_all rfl) | exact aCat_16 (by with_unfolding_all rfl) | exact rk_eq (by with_unfolding_all rfl) | assumption | exact b2n_lt _ | exact id_b (by with_unfolding_all rfl) | (simp (disch := omega) only [u2_same, u2_ab, u2_aq]; done) | (simp (disch := omega) only [u2_same, u2_ab, u2_aq]; omega) | fail)) only [al_12480, wp_iload_2, wz_gt_t, wz_gt_f, wm_gt_1, wm_gt_2, wp_aloadr_0, wp_aloadk_0, wp_aloadr_1, wp_aloadk_1, hg_20_3, hg_22_3, hg_24_3, hg_20_1, hg_22_1, hg_24_1, wp_lload_4, wp_lor, wc_196, wz_eq_t, wz_eq_f, wb_eq_t, wb_eq_f, wm_eq_1, wm_eq_2, wl_m1, wp_goto, al_12481, wp_jsr, al_12482, wp_lreturn, al_12483, wk_1, wp_isub, wp_istore_6, wp_iload_6, wp_iload_3, wn_ge_t, wn_ge_f, wn_ne_t, wn_ne_f, al_12485, wl_1, wp_lshl, wc_195, wp_lstore_7, wp_lload_7, wp_lcmp, al_12486, wp_iinc_6_1, al_12487, nl_i, nl_r, nl_k, nl_j, nl_l, nI_add, pk_mul, pk_sub, tl_s, tl_n, aL_inl, u2_same, u2_ab, u2_aq, nI_l, lN_i, Nat.add_zero, Nat.zero_add, Nat.zero_le, true_and, and_true, b2n_10, b2n_T, b2n_F, b2n_0, Decidable.not_not, not_true_eq_false, not_false_eq_true, Nat.reduceAdd, Nat.reduceMul, Nat.reduceSub]
    rfl
  | succ j ih =>
    intro u w6 w7 hj hno
    have ih1 := fun w6 w7 => ih (u + 1) w6 w7 (by omega)
    rw [al_12484]
    by_cases hsrc : u = N 89 108
    · have hno' : (dmL (N 89 108) (u + 1) (n + 1) A).find? (amBl D N) = none := by
        rw [dm_s, if_pos hsrc, List.append_nil]
        exact hno
      have e203' : N 20 3 = u := e203.trans hsrc.symm
      simp (disch := (first | omega | exact aCat_8 (by with_unfolding_all rfl) | exact rk_lt (by with_unfolding_all rfl) | exact aCat_16 (by with_unfolding_all rfl) | exact rk_eq (by with_unfolding_all rfl) | assumption | exact b2n_lt _ | exact id_b (by with_unfolding_all rfl) | (simp (disch := omega) only [u2_same, u2_ab, u2_aq]; done) | (simp (disch := omega) only [u2_same, u2_ab, u2_aq]; omega) | fail)) only [al_12480, wp_iload_2, wz_gt_t, wz_gt_f, wm_gt_1, wm_gt_2, wp_aloadr_0, wp_aloadk_0, wp_aloadr_1, wp_aloadk_1, hg_20_3, hg_22_3, hg_24_3, hg_20_1, hg_22_1, hg_24_1, wp_lload_4, wp_lor, wc_196, wz_eq_t, wz_eq_f, wb_eq_t, wb_eq_f, wm_eq_1, wm_eq_2, wl_m1, wp_goto, al_12481, wp_jsr, al_12482, wp_lreturn, al_12483, wk_1, wp_isub, wp_istore_6, wp_iload_6, wp_iload_3, wn_ge_t, wn_ge_f, wn_ne_t, wn_ne_f, al_12485, wl_1, wp_lshl, wc_195, wp_lstore_7, wp_lload_7, wp_lcmp, al_12486, wp_iinc_6_1, al_12487, nl_i, nl_r, nl_k, nl_j, nl_l, nI_add, pk_mul, pk_sub, tl_s, tl_n, aL_inl, u2_same, u2_ab, u2_aq, nI_l, lN_i, Nat.add_zero, Nat.zero_add, Nat.zero_le, true_and, and_true, b2n_10, b2n_T, b2n_F, b2n_0, Decidable.not_not, not_true_eq_false, not_false_eq_true, Nat.reduceAdd, Nat.reduceMul, Nat.reduceSub, e203']
      exact ih1 _ _ hno'
    · have hpos : 0 < 2 ^ u := Nat.pow_pos (by decide)
      have huv : 2 ^ (u + 1) ≤ 2 ^ v := Nat.pow_le_pow_right (by decide) (by omega)
      have hu1 : 2 ^ (u + 1) = 2 ^ u * 2 := Nat.pow_succ ..
      have hor := ln_or (A := A) (u := u) hA (by omega) (by omega) (by omega)
      have hvu : 2 ^ v = 2 ^ u * 2 ^ (v - u) := by rw [← Nat.pow_add]; congr 1; omega
      have hr := fun Q => hrec u (A + 2 ^ u) (2 ^ (v - u) * a + 1) Q (by omega) (by rw [hA, hvu, Nat.mul_add, Nat.mul_one, Nat.mul_assoc]) (by omega)
      cases hq : (dmL (N 89 108) u n (A + 2 ^ u)).find? (amBl D N) with
      | none =>
        rw [hq] at hr
        have em : amJ none = -1 := rfl
        rw [em] at hr
        have hno' : (dmL (N 89 108) (u + 1) (n + 1) A).find? (amBl D N) = none := by
          rw [dm_s, if_neg hsrc, List.find?_append, hno, hq]
          rfl
        simp (disch := (first | omega | exact aCat_8 (by with_unfolding_all rfl) | exact rk_lt (by with_unfolding_all rfl) | exact aCat_16 (by with_unfolding_all rfl) | exact rk_eq (by with_unfolding_all rfl) | assumption | exact b2n_lt _ | exact id_b (by with_unfolding_all rfl) | (simp (disch := omega) only [u2_same, u2_ab, u2_aq]; done) | (simp (disch := omega) only [u2_same, u2_ab, u2_aq]; omega) | fail)) only [al_12480, wp_iload_2, wz_gt_t, wz_gt_f, wm_gt_1, wm_gt_2, wp_aloadr_0, wp_aloadk_0, wp_aloadr_1, wp_aloadk_1, hg_20_3, hg_22_3, hg_24_3, hg_20_1, hg_22_1, hg_24_1, wp_lload_4, wp_lor, wc_196, wz_eq_t, wz_eq_f, wb_eq_t, wb_eq_f, wm_eq_1, wm_eq_2, wl_m1, wp_goto, al_12481, wp_jsr, al_12482, wp_lreturn, al_12483, wk_1, wp_isub, wp_istore_6, wp_iload_6, wp_iload_3, wn_ge_t, wn_ge_f, wn_ne_t, wn_ne_f, al_12485, wl_1, wp_lshl, wc_195, wp_lstore_7, wp_lload_7, wp_lcmp, al_12486, wp_iinc_6_1, al_12487, nl_i, nl_r, nl_k, nl_j, nl_l, nI_add, pk_mul, pk_sub, tl_s, tl_n, aL_inl, u2_same, u2_ab, u2_aq, nI_l, lN_i, Nat.add_zero, Nat.zero_add, Nat.zero_le, true_and, and_true, b2n_10, b2n_T, b2n_F, b2n_0, Decidable.not_not, not_true_eq_false, not_false_eq_true, Nat.reduceAdd, Nat.reduceMul, Nat.reduceSub, e203, hor, wr_195, Nat.add_sub_cancel, hr, wy_eq_t (lc_t (@rfl _ (-1 : Int64)))]
        exact ih1 _ _ hno'
      | some m =>
        rw [hq] at hr
        have em : amJ (some m) = lN m := rfl
        rw [em] at hr
        have hmem := dm_bd u n _ m (List.mem_of_find?_eq_some hq)
        have hne := ln_m1 (m := m) (by omega)
        have hfull : (dmL (N 89 108) v (n + 1) A).find? (amBl D N) = some m := by
          have hst : (dmL (N 89 108) (u + 1) (n + 1) A).find? (amBl D N) = some m := by
            rw [dm_s, if_neg hsrc, List.find?_append, hno, hq]
            rfl
          have := dm_pre (v - (u + 1)) hst
          rw [show u + 1 + (v - (u + 1)) = v by omega] at this
          exact this
        rw [hfull, em]
        simp (disch := (first | omega | exact aCat_8 (by with_unfolding_all rfl) | exact rk_lt (by with_unfolding_all rfl) | exact aCat_16 (by with_unfolding_all rfl) | exact rk_eq (by with_unfolding_all rfl) | assumption | exact b2n_lt _ | exact id_b (by with_unfolding_all rfl) | (simp (disch := omega) only [u2_same, u2_ab, u2_aq]; done) | (simp (disch := omega) only [u2_same, u2_ab, u2_aq]; omega) | fail)) only [al_12480, wp_iload_2, wz_gt_t, wz_gt_f, wm_gt_1, wm_gt_2, wp_aloadr_0, wp_aloadk_0, wp_aloadr_1, wp_aloadk_1, hg_20_3, hg_22_3, hg_24_3, hg_20_1, hg_22_1, hg_24_1, wp_lload_4, wp_lor, wc_196, wz_eq_t, wz_eq_f, wb_eq_t, wb_eq_f, wm_eq_1, wm_eq_2, wl_m1, wp_goto, al_12481, wp_jsr, al_12482, wp_lreturn, al_12483, wk_1, wp_isub, wp_istore_6, wp_iload_6, wp_iload_3, wn_ge_t, wn_ge_f, wn_ne_t, wn_ne_f, al_12485, wl_1, wp_lshl, wc_195, wp_lstore_7, wp_lload_7, wp_lcmp, al_12486, wp_iinc_6_1, al_12487, nl_i, nl_r, nl_k, nl_j, nl_l, nI_add, pk_mul, pk_sub, tl_s, tl_n, aL_inl, u2_same, u2_ab, u2_aq, nI_l, lN_i, Nat.add_zero, Nat.zero_add, Nat.zero_le, true_and, and_true, b2n_10, b2n_T, b2n_F, b2n_0, Decidable.not_not, not_true_eq_false, not_false_eq_true, Nat.reduceAdd, Nat.reduceMul, Nat.reduceSub, e203, hor, wr_195, Nat.add_sub_cancel, hr, wy_eq_f (lc_f hne)]
theorem t_195 (h : invB D N I J t) : ∀ (n d v A a : Nat) (Q : Option Value → aH → Prop), n ≤ 3 → v ≤ D 0 * D 1 → A = 2 ^ v * a → A + 2 ^ v ≤ 2 ^ (D 0 * D 1) → aMm ko (d + n) 195 [.ref 5, .ref 20, .int (nI n), .int (nI v), .long (lN A)] (hp D N I J x) Q = Q (some (.long (amJ ((dmL (N 89 108) v n A).find? (amBl D N))))) (hp D N I J x) := by
  have hF := dm_F h.1.1
  have hA' := inv_rv h
  have e203 : N 20 3 = N 89 108 := hA'.2.1.2.2.1
  have hp36 : 2 ^ (D 0 * D 1) ≤ 2 ^ 36 := Nat.pow_le_pow_right (by decide) hF.1
  have h3663 : (2 : Nat) ^ 36 < 2 ^ 63 := by decide
  intro n
  induction n with
  | zero =>
    intro d v A a Q _ hv hA hAF
    have hpos : 0 < 2 ^ v := Nat.pow_pos (by decide)
    have h196 := fun Q => t_196 (ko := ko) (d := d) (x := x) (Q := Q) (m := A) (sh := J 20 1 ||| lN A) h (fun g hg => by
      rw [tb_or, wl_tb (R := D 0) (C := D 1) hA'.2.1 hF.1 g hg, tb_nat (by omega)])
    rw [dm_0, me_195]
    by_cases z : amC D N A = true
    · have hb : amBl D N A = false := by unfold amBl; rw [z]; rfl
      have e : [A].find? (amBl D N) = none := by
        rw [List.find?_cons, hb]
        rfl
      rw [e]
      simp (disch := (first | omega | exact aCat_8 (by with_unfolding_all rfl) | exact rk_lt (by with_unfolding_all rfl) | exact aCat_16 (by with_unfolding_all rfl) | exact rk_eq (by with_unfolding_all rfl) | assumption | exact b2n_lt _ | exact id_b (by with_unfolding_all rfl) | (simp (disch := omega) only [u2_same, u2_ab, u2_aq]; done) | (simp (disch := omega) only [u2_same, u2_ab, u2_aq]; omega) | fail)) only [al_12480, wp_iload_2, wz_gt_t, wz_gt_f, wm_gt_1, wm_gt_2, wp_aloadr_0, wp_aloadk_0, wp_aloadr_1, wp_aloadk_1, hg_20_3, hg_22_3, hg_24_3, hg_20_1, hg_22_1, hg_24_1, wp_lload_4, wp_lor, wc_196, wz_eq_t, wz_eq_f, wb_eq_t, wb_eq_f, wm_eq_1, wm_eq_2, wl_m1, wp_goto, al_12481, wp_jsr, al_12482, wp_lreturn, al_12483, wk_1, wp_isub, wp_istore_6, wp_iload_6, wp_iload_3, wn_ge_t, wn_ge_f, wn_ne_t, wn_ne_f, al_12485, wl_1, wp_lshl, wc_195, wp_lstore_7, wp_lload_7, wp_lcmp, al_12486, wp_iinc_6_1, al_12487, nl_i, nl_r, nl_k, nl_j, nl_l, nI_add, pk_mul, pk_sub, tl_s, tl_n, aL_inl, u2_same, u2_ab, u2_aq, nI_l, lN_i, Nat.add_zero, Nat.zero_add, Nat.zero_le, true_and, and_true, b2n_10, b2n_T, b2n_F, b2n_0, Decidable.not_not, not_true_eq_false, not_false_eq_true, Nat.reduceAdd, Nat.reduceMul, Nat.reduceSub, e203, h196, b2n_t z]
      rfl
    · have hb : amBl D N A = true := by
        unfold amBl
        have : amC D N A = false := by simpa using z
        rw [this]
        rfl
      have e : [A].find? (amBl D N) = some A := by
        rw [List.find?_cons, hb]
      rw [e]
      simp (disch := (first | omega | exact aCat_8 (by with_unfolding_all rfl) | exact rk_lt (by with_unfolding_all rfl) | exact aCat_16 (by with_unfolding_all rfl) | exact rk_eq (by with_unfolding_all rfl) | assumption | exact b2n_lt _ | exact id_b (by with_unfolding_all rfl) | (simp (disch := omega) only [u2_same, u2_ab, u2_aq]; done) | (simp (disch := omega) only [u2_same, u2_ab, u2_aq]; omega) | fail)) only [al_12480, wp_iload_2, wz_gt_t, wz_gt_f, wm_gt_1, wm_gt_2, wp_aloadr_0, wp_aloadk_0, wp_aloadr_1, wp_aloadk_1, hg_20_3, hg_22_3, hg_24_3, hg_20_1, hg_22_1, hg_24_1, wp_lload_4, wp_lor, wc_196, wz_eq_t, wz_eq_f, wb_eq_t, wb_eq_f, wm_eq_1, wm_eq_2, wl_m1, wp_goto, al_12481, wp_jsr, al_12482, wp_lreturn, al_12483, wk_1, wp_isub, wp_istore_6, wp_iload_6, wp_iload_3, wn_ge_t, wn_ge_f, wn_ne_t, wn_ne_f, al_12485, wl_1, wp_lshl, wc_195, wp_lstore_7, wp_lload_7, wp_lcmp, al_12486, wp_iinc_6_1, al_12487, nl_i, nl_r, nl_k, nl_j, nl_l, nI_add, pk_mul, pk_sub, tl_s, tl_n, aL_inl, u2_same, u2_ab, u2_aq, nI_l, lN_i, Nat.add_zero, Nat.zero_add, Nat.zero_le, true_and, and_true, b2n_10, b2n_T, b2n_F, b2n_0, Decidable.not_not, not_true_eq_false, not_false_eq_true, Nat.reduceAdd, Nat.reduceMul, Nat.reduceSub, e203, h196, b2n_f z]
      rfl
  | succ n ih =>
    intro d v A a Q hn hv hA hAF
    have hx := l_195 (ko := ko) (d := d + n) (x := x) (Q := Q) (n := n) (v := v) (A := A) (a := a) h (by omega) hv hA hAF (fun u B b Q hu hB hBF => ih d u B b Q (by omega) hu hB hBF)
    rw [me_195]
    by_cases hvn : n ≤ v
    · have hy := fun w6 w7 => hx (v - n) n w6 w7 (by omega) (by rw [dm_small n (n + 1) A (by omega)]; rfl)
      rw [Nat.add_assoc] at hy
      simp (disch := (first | omega | exact aCat_8 (by with_unfolding_all rfl) | exact rk_lt (by with_unfolding_all rfl) | exact aCat_16 (by with_unfolding_all rfl) | exact rk_eq (by with_unfolding_all rfl) | assumption | exact b2n_lt _ | exact id_b (by with_unfolding_all rfl) | (simp (disch := omega) only [u2_same, u2_ab, u2_aq]; done) | (simp (disch := omega) only [u2_same, u2_ab, u2_aq]; omega) | fail)) only [al_12480, wp_iload_2, wz_gt_t, wz_gt_f, wm_gt_1, wm_gt_2, wp_aloadr_0, wp_aloadk_0, wp_aloadr_1, wp_aloadk_1, hg_20_3, hg_22_3, hg_24_3, hg_20_1, hg_22_1, hg_24_1, wp_lload_4, wp_lor, wc_196, wz_eq_t, wz_eq_f, wb_eq_t, wb_eq_f, wm_eq_1, wm_eq_2, wl_m1, wp_goto, al_12481, wp_jsr, al_12482, wp_lreturn, al_12483, wk_1, wp_isub, wp_istore_6, wp_iload_6, wp_iload_3, wn_ge_t, wn_ge_f, wn_ne_t, wn_ne_f, al_12485, wl_1, wp_lshl, wc_195, wp_lstore_7, wp_lload_7, wp_lcmp, al_12486, wp_iinc_6_1, al_12487, nl_i, nl_r, nl_k, nl_j, nl_l, nI_add, pk_mul, pk_sub, tl_s, tl_n, aL_inl, u2_same, u2_ab, u2_aq, nI_l, lN_i, Nat.add_zero, Nat.zero_add, Nat.zero_le, true_and, and_true, b2n_10, b2n_T, b2n_F, b2n_0, Decidable.not_not, not_true_eq_false, not_false_eq_true, Nat.reduceAdd, Nat.reduceMul, Nat.reduceSub, Nat.add_sub_cancel]
      exact hy _ _
    · rw [dm_small v (n + 1) A (by omega)]
      simp (disch := (first | omega | exact aCat_8 (by with_unfolding_all rfl) | exact rk_lt (by with_unfolding_all rfl) | exact aCat_16 (by with_unfolding_all rfl) | exact rk_eq (by with_unfolding_all rfl) | assumption | exact b2n_lt _ | exact id_b (by with_unfolding_all rfl) | (simp (disch := omega) only [u2_same, u2_ab, u2_aq]; done) | (simp (disch := omega) only [u2_same, u2_ab, u2_aq]; omega) | fail)) only [al_12480, wp_iload_2, wz_gt_t, wz_gt_f, wm_gt_1, wm_gt_2, wp_aloadr_0, wp_aloadk_0, wp_aloadr_1, wp_aloadk_1, hg_20_3, hg_22_3, hg_24_3, hg_20_1, hg_22_1, hg_24_1, wp_lload_4, wp_lor, wc_196, wz_eq_t, wz_eq_f, wb_eq_t, wb_eq_f, wm_eq_1, wm_eq_2, wl_m1, wp_goto, al_12481, wp_jsr, al_12482, wp_lreturn, al_12483, wk_1, wp_isub, wp_istore_6, al_12484, wp_iload_6, wp_iload_3, wn_ge_t, wn_ge_f, wn_ne_t, wn_ne_f, al_12485, wl_1, wp_lshl, wc_195, wp_lstore_7, wp_lload_7, wp_lcmp, al_12486, wp_iinc_6_1, al_12487, nl_i, nl_r, nl_k, nl_j, nl_l, nI_add, pk_mul, pk_sub, tl_s, tl_n, aL_inl, u2_same, u2_ab, u2_aq, nI_l, lN_i, Nat.add_zero, Nat.zero_add, Nat.zero_le, true_and, and_true, b2n_10, b2n_T, b2n_F, b2n_0, Decidable.not_not, not_true_eq_false, not_false_eq_true, Nat.reduceAdd, Nat.reduceMul, Nat.reduceSub, Nat.add_sub_cancel]
      rfl
/-- what the reference's search leaves -/
def amT' (M N' : Nat → Nat → Nat) (J J' : Nat → Nat → Int64) (o : Option Nat) : Prop := (∀ b q, b ≠ 98 → b ≠ 113 → N' b q = M b q) ∧ (∀ b q, ¬ (b = 86 ∧ q = 45) → J' b q = J b q) ∧ J' 86 45 = amJ o
theorem t_82b {N0 M : Nat → Nat → Nat} {J0 : Nat → Nat → Int64} {A : Nat} {o : Option Nat} {w : Int32} (hd : dmO D) (hw : rwO (D 1) (N0 89)) (e89 : M 89 = N0 89) (hA : A < 2 ^ 36) (ho : ∀ b, o = some b → b < 2 ^ 36) (hT : amT' M N J0 J o)
    (hQ : ∀ (N' : Nat → Nat → Nat) (J' : Nat → Nat → Int64), amT' M N' J0 J' (amU (amBl D N0) o A) → Q none (hp D N' I J' x)) : aMm ko d 82 [.ref 86, .int (nI 0), .int w, .long (lN A)] (hp D N I J x) Q := by
  have h3663 : (2 : Nat) ^ 36 < 2 ^ 63 := by decide
  have e89N : N 89 = N0 89 := by
    rw [← e89]
    funext q
    exact hT.1 89 q (by decide) (by decide)
  rw [me_82]
  simp (disch := (first | omega | exact aCat_8 (by with_unfolding_all rfl) | exact rk_lt (by with_unfolding_all rfl) | exact aCat_16 (by with_unfolding_all rfl) | exact rk_eq (by with_unfolding_all rfl) | assumption | exact b2n_lt _ | exact id_b (by with_unfolding_all rfl) | (simp (disch := omega) only [u2_same, u2_ab, u2_aq]; done) | (simp (disch := omega) only [u2_same, u2_ab, u2_aq]; omega) | fail)) only [al_5248, wp_iload_1, wz_ne_t, wz_ne_f, wb_ne_t, wb_ne_f, wm_ne_1, wm_ne_2, wp_aloadr_0, wp_aloadk_0, wp_lload_3, wc_83, hg_86_45, wl_0, wp_lcmp, wz_lt_t, wz_lt_f, wm_lt_1, wm_lt_2, wz_ge_t, wz_ge_f, wm_ge_1, wm_ge_2, wp_jsr, al_5249, wp_goto, al_5250, al_5251, hp_86_45, wp_return, al_5252, wp_iload_2, wp_istore_5, wp_iload_5, wc_10, t_10, wn_ge_t, wn_ge_f, hg_86_8, ha_89l, ha_89s, wc_26, wk_108, wn_eq_t, wn_eq_f, wk_1, wp_isub, wp_iadd, wl_1, wp_lshl, wp_lor, wc_82, al_5254, wp_iinc_5_1, al_5255, nl_i, nl_r, nl_k, nl_j, nl_l, nI_add, pk_mul, pk_sub, tl_s, tl_n, aL_inl, u2_same, u2_ab, u2_aq, nI_l, lN_i, Nat.add_zero, Nat.zero_add, Nat.zero_le, true_and, and_true, b2n_10, b2n_T, b2n_F, b2n_0, Decidable.not_not, not_true_eq_false, not_false_eq_true, Nat.reduceAdd, Nat.reduceMul, Nat.reduceSub]
  refine t_83 hd hA hw e89N ?_
  intro N1 hN1
  have hN1M : ∀ b q, b ≠ 98 → b ≠ 113 → N1 b q = M b q := fun b q z1 z2 => (hN1 b q z1 z2).trans (hT.1 b q z1 z2)
  have e45 := hT.2.2
  have hfin : ∀ r, amJ r = amJ (amU (amBl D N0) o A) → amT' M N1 J0 (u2 J 86 45 (amJ r)) (amU (amBl D N0) o A) := fun r hr => ⟨hN1M, fun b q z => by rw [u2_rd, if_neg z]; exact hT.2.1 b q z, by rw [u2_same]; exact hr⟩
  by_cases z : amC D N0 A = true
  · have hb : ¬ amBl D N0 A = true := by unfold amBl; rw [z]; decide
    have eu : amU (amBl D N0) o A = o := if_neg hb
    have hq := hQ _ _ (hfin o (by rw [eu]))
    simp (disch := (first | omega | exact aCat_8 (by with_unfolding_all rfl) | exact rk_lt (by with_unfolding_all rfl) | exact aCat_16 (by with_unfolding_all rfl) | exact rk_eq (by with_unfolding_all rfl) | assumption | exact b2n_lt _ | exact id_b (by with_unfolding_all rfl) | (simp (disch := omega) only [u2_same, u2_ab, u2_aq]; done) | (simp (disch := omega) only [u2_same, u2_ab, u2_aq]; omega) | fail)) only [al_5248, wp_iload_1, wz_ne_t, wz_ne_f, wb_ne_t, wb_ne_f, wm_ne_1, wm_ne_2, wp_aloadr_0, wp_aloadk_0, wp_lload_3, wc_83, hg_86_45, wl_0, wp_lcmp, wz_lt_t, wz_lt_f, wm_lt_1, wm_lt_2, wz_ge_t, wz_ge_f, wm_ge_1, wm_ge_2, wp_jsr, al_5249, wp_goto, al_5250, al_5251, hp_86_45, wp_return, al_5252, wp_iload_2, wp_istore_5, wp_iload_5, wc_10, t_10, wn_ge_t, wn_ge_f, hg_86_8, ha_89l, ha_89s, wc_26, wk_108, wn_eq_t, wn_eq_f, wk_1, wp_isub, wp_iadd, wl_1, wp_lshl, wp_lor, wc_82, al_5254, wp_iinc_5_1, al_5255, nl_i, nl_r, nl_k, nl_j, nl_l, nI_add, pk_mul, pk_sub, tl_s, tl_n, aL_inl, u2_same, u2_ab, u2_aq, nI_l, lN_i, Nat.add_zero, Nat.zero_add, Nat.zero_le, true_and, and_true, b2n_10, b2n_T, b2n_F, b2n_0, Decidable.not_not, not_true_eq_false, not_false_eq_true, Nat.reduceAdd, Nat.reduceMul, Nat.reduceSub, b2n_t z, e45]
    exact hq
  · have hb : amBl D N0 A = true := by
      unfold amBl
      have : amC D N0 A = false := by simpa using z
      rw [this]
      rfl
    cases o with
    | none =>
      have eu : amU (amBl D N0) none A = some A := if_pos hb
      have em : amJ none = -1 := rfl
      have em2 : amJ (some A) = lN A := rfl
      have hq := hQ _ _ (hfin (some A) (by rw [eu]))
      rw [em2] at hq
      rw [em] at e45
      have hlt : lg_cmp (-1) (lN 0) < 0 := lc_lt.mpr (by decide)
      simp (disch := (first | omega | exact aCat_8 (by with_unfolding_all rfl) | exact rk_lt (by with_unfolding_all rfl) | exact aCat_16 (by with_unfolding_all rfl) | exact rk_eq (by with_unfolding_all rfl) | assumption | exact b2n_lt _ | exact id_b (by with_unfolding_all rfl) | (simp (disch := omega) only [u2_same, u2_ab, u2_aq]; done) | (simp (disch := omega) only [u2_same, u2_ab, u2_aq]; omega) | fail)) only [al_5248, wp_iload_1, wz_ne_t, wz_ne_f, wb_ne_t, wb_ne_f, wm_ne_1, wm_ne_2, wp_aloadr_0, wp_aloadk_0, wp_lload_3, wc_83, hg_86_45, wl_0, wp_lcmp, wz_lt_t, wz_lt_f, wm_lt_1, wm_lt_2, wz_ge_t, wz_ge_f, wm_ge_1, wm_ge_2, wp_jsr, al_5249, wp_goto, al_5250, al_5251, hp_86_45, wp_return, al_5252, wp_iload_2, wp_istore_5, wp_iload_5, wc_10, t_10, wn_ge_t, wn_ge_f, hg_86_8, ha_89l, ha_89s, wc_26, wk_108, wn_eq_t, wn_eq_f, wk_1, wp_isub, wp_iadd, wl_1, wp_lshl, wp_lor, wc_82, al_5254, wp_iinc_5_1, al_5255, nl_i, nl_r, nl_k, nl_j, nl_l, nI_add, pk_mul, pk_sub, tl_s, tl_n, aL_inl, u2_same, u2_ab, u2_aq, nI_l, lN_i, Nat.add_zero, Nat.zero_add, Nat.zero_le, true_and, and_true, b2n_10, b2n_T, b2n_F, b2n_0, Decidable.not_not, not_true_eq_false, not_false_eq_true, Nat.reduceAdd, Nat.reduceMul, Nat.reduceSub, b2n_f z, e45, wy_lt_t hlt]
      exact hq
    | some b =>
      have hb36 := ho b rfl
      have em : amJ (some b) = lN b := rfl
      rw [em] at e45
      have hnl : ¬ lg_cmp (lN b) (lN 0) < 0 := fun y => by
        have := (pk_lLT (by omega) (by decide)).mp (lc_lt.mp y)
        omega
      by_cases y : A < b
      · have eu : amU (amBl D N0) (some b) A = some A := by
          unfold amU
          rw [if_pos hb]
          exact if_pos y
        have em2 : amJ (some A) = lN A := rfl
        have hq := hQ _ _ (hfin (some A) (by rw [eu]))
        rw [em2] at hq
        have hl2 : ¬ 0 ≤ lg_cmp (lN A) (lN b) := fun c => by
          have := lc_lt.mpr ((pk_lLT (by omega) (by omega)).mpr y)
          exact (Int32.not_lt.mpr c) this
        simp (disch := (first | omega | exact aCat_8 (by with_unfolding_all rfl) | exact rk_lt (by with_unfolding_all rfl) | exact aCat_16 (by with_unfolding_all rfl) | exact rk_eq (by with_unfolding_all rfl) | assumption | exact b2n_lt _ | exact id_b (by with_unfolding_all rfl) | (simp (disch := omega) only [u2_same, u2_ab, u2_aq]; done) | (simp (disch := omega) only [u2_same, u2_ab, u2_aq]; omega) | fail)) only [al_5248, wp_iload_1, wz_ne_t, wz_ne_f, wb_ne_t, wb_ne_f, wm_ne_1, wm_ne_2, wp_aloadr_0, wp_aloadk_0, wp_lload_3, wc_83, hg_86_45, wl_0, wp_lcmp, wz_lt_t, wz_lt_f, wm_lt_1, wm_lt_2, wz_ge_t, wz_ge_f, wm_ge_1, wm_ge_2, wp_jsr, al_5249, wp_goto, al_5250, al_5251, hp_86_45, wp_return, al_5252, wp_iload_2, wp_istore_5, wp_iload_5, wc_10, t_10, wn_ge_t, wn_ge_f, hg_86_8, ha_89l, ha_89s, wc_26, wk_108, wn_eq_t, wn_eq_f, wk_1, wp_isub, wp_iadd, wl_1, wp_lshl, wp_lor, wc_82, al_5254, wp_iinc_5_1, al_5255, nl_i, nl_r, nl_k, nl_j, nl_l, nI_add, pk_mul, pk_sub, tl_s, tl_n, aL_inl, u2_same, u2_ab, u2_aq, nI_l, lN_i, Nat.add_zero, Nat.zero_add, Nat.zero_le, true_and, and_true, b2n_10, b2n_T, b2n_F, b2n_0, Decidable.not_not, not_true_eq_false, not_false_eq_true, Nat.reduceAdd, Nat.reduceMul, Nat.reduceSub, b2n_f z, e45, wy_lt_f hnl, wy_ge_f hl2]
        exact hq
      · have eu : amU (amBl D N0) (some b) A = some b := by
          unfold amU
          rw [if_pos hb]
          exact if_neg y
        have hq := hQ _ _ (hfin (some b) (by rw [eu]))
        rw [em] at hq
        have hl2 : 0 ≤ lg_cmp (lN A) (lN b) := Int32.not_lt.mp (fun c => y ((pk_lLT (by omega) (by omega)).mp (lc_lt.mp c)))
        simp (disch := (first | omega | exact aCat_8 (by with_unfolding_all rfl) | exact rk_lt (by with_unfolding_all rfl) | exact aCat_16 (by with_unfolding_all rfl) | exact rk_eq (by with_unfolding_all rfl) | assumption | exact b2n_lt _ | exact id_b (by with_unfolding_all rfl) | (simp (disch := omega) only [u2_same, u2_ab, u2_aq]; done) | (simp (disch := omega) only [u2_same, u2_ab, u2_aq]; omega) | fail)) only [al_5248, wp_iload_1, wz_ne_t, wz_ne_f, wb_ne_t, wb_ne_f, wm_ne_1, wm_ne_2, wp_aloadr_0, wp_aloadk_0, wp_lload_3, wc_83, hg_86_45, wl_0, wp_lcmp, wz_lt_t, wz_lt_f, wm_lt_1, wm_lt_2, wz_ge_t, wz_ge_f, wm_ge_1, wm_ge_2, wp_jsr, al_5249, wp_goto, al_5250, al_5251, hp_86_45, wp_return, al_5252, wp_iload_2, wp_istore_5, wp_iload_5, wc_10, t_10, wn_ge_t, wn_ge_f, hg_86_8, ha_89l, ha_89s, wc_26, wk_108, wn_eq_t, wn_eq_f, wk_1, wp_isub, wp_iadd, wl_1, wp_lshl, wp_lor, wc_82, al_5254, wp_iinc_5_1, al_5255, nl_i, nl_r, nl_k, nl_j, nl_l, nI_add, pk_mul, pk_sub, tl_s, tl_n, aL_inl, u2_same, u2_ab, u2_aq, nI_l, lN_i, Nat.add_zero, Nat.zero_add, Nat.zero_le, true_and, and_true, b2n_10, b2n_T, b2n_F, b2n_0, Decidable.not_not, not_true_eq_false, not_false_eq_true, Nat.reduceAdd, Nat.reduceMul, Nat.reduceSub, b2n_f z, e45, wy_lt_f hnl, wy_ge_t hl2]
        exact hq
theorem am_lt36 {p : Nat → Bool} {L : List Nat} {o : Option Nat} (hL : ∀ m, m ∈ L → m < 2 ^ 36) (ho : ∀ b, o = some b → b < 2 ^ 36) : ∀ b, L.foldl (amU p) o = some b → b < 2 ^ 36 := by
  intro b hb
  rcases ((fold_least (p := p) L o).2 b hb).1 with h | h
  · exact ho b h
  · exact hL b h.1
end M5
