/-! laws: the pair. From wip/whole/src. -/
def lwNo (o : Option Nat) : Nat := match o with
  | none => 0
  | some _ => 3
def lwJo (o : Option Nat) : Nat → Int64 := match o with
  | none => fun _ => lN 0
  | some q => fun i => if i = 0 then lN (q / 16) else if i = 1 then lN (q / 4 % 4) else lN (q % 4)
section L3
variable {ko : aKo} {d k : Nat} {is : List Instr} {ls st : List Value} {σ : aH} {D : Nat → Nat} {N : Nat → Nat → Nat} {I : Nat → Nat → Int32} {J : Nat → Nat → Int64} {x t : Nat} {Q : Option Value → aH → Prop} {P : (Option Value ⊕ Unit) → aH → Prop}
theorem td3C {N : Nat → Nat → Nat} {J : Nat → Nat → Int64} {a b c : Int64} {M : Nat → Nat → Nat} (h : M 3 1 = 3) : tdC M (u2 (u2 (u2 J 4 0 a) 4 1 b) 4 2 c) 3 (fun i => if i = 0 then a else if i = 1 then b else c) := ⟨h, fun i hi => by
  have : i = 0 ∨ i = 1 ∨ i = 2 := by omega
  rcases this with rfl | rfl | rfl
  · rw [u2_aq (by decide), u2_aq (by decide), u2_same]; rfl
  · rw [u2_aq (by decide), u2_same]; rfl
  · rw [u2_same]; rfl⟩
theorem td3R {N : Nat → Nat → Nat} {J : Nat → Nat → Int64} {a b c : Int64} {M : Nat → Nat → Nat} (h : M 86 1 = 3) : tdR M (u2 (u2 (u2 J 87 0 a) 87 1 b) 87 2 c) 3 (fun i => if i = 0 then a else if i = 1 then b else c) := ⟨h, fun i hi => by
  have : i = 0 ∨ i = 1 ∨ i = 2 := by omega
  rcases this with rfl | rfl | rfl
  · rw [u2_aq (by decide), u2_aq (by decide), u2_same]; rfl
  · rw [u2_aq (by decide), u2_same]; rfl
  · rw [u2_same]; rfl⟩
def lwC (p : Nat → Bool) (m : Nat) (N0 N : Nat → Nat → Nat) (J0 J : Nat → Nat → Int64) : Prop := sN N N0 ∧ sJ J J0 ∧ tdC N J (lwNo (fsP p m)) (lwJo (fsP p m))
theorem l_207c {N0 : Nat → Nat → Nat} {J0 : Nat → Nat → Int64} {a b : Nat} (h : invB D N0 I J0 t) (ha : a ≤ 3) (hb : b ≤ 3)
    (hK : ∀ (N : Nat → Nat → Nat) (J : Nat → Nat → Int64), lwC (amB D N0) (16 * a + 4 * (b + 1)) N0 N J0 J → aWp ko d 207 (aP.1 (Int.toNat 13254)) [.ref 0, .int (nI (cnP (amB D N0) (16 * a + 4 * (b + 1)))), .int (nI a), .int (nI b), .int (nI 4)] [] (hp D N I J x) (aL Q)) :
    ∀ (j c : Nat) (N : Nat → Nat → Nat) (J : Nat → Nat → Int64), c + j = 4 → lwC (amB D N0) (16 * a + (4 * b + c)) N0 N J0 J → aWp ko d 207 (aP.1 (Int.toNat 13251)) [.ref 0, .int (nI (cnP (amB D N0) (16 * a + (4 * b + c)))), .int (nI a), .int (nI b), .int (nI c)] [] (hp D N I J x) (aL Q) := by
  intro j
  induction j with
  | zero =>
    intro c N J hj hC
    have e : c = 4 := by omega
    subst e
    have hx := hK N J
    rw [show 16 * a + 4 * (b + 1) = 16 * a + (4 * b + 4) by omega] at hx
    rw [al_13251]
    simp (disch := (first | omega | exact aCat_8 (by with_unfolding_all rfl) | exact rk_lt (by with_unfolding_all rfl) | exact aCat_16 (by with_unfolding_all rfl) | exact rk_eq (by with_unfolding_all rfl) | assumption | exact b2n_lt _ | exact id_b (by with_unfolding_all rfl) | (simp (disch := omega) only [u2_same, u2_ab, u2_aq]; done) | (simp (disch := omega) only [u2_same, u2_ab, u2_aq]; omega) | fail)) only [al_13248, wp_aloadr_0, wp_aloadk_0, hg_0_1, wc_292, t_292, wk_0, wp_istore_1, wp_istore_2, wp_jsr, wp_iload_2, wk_3, wn_gt_t, wn_gt_f, wp_istore_3, wp_iload_3, wp_istore_4, wp_iload_4, wc_208, wz_ne_t, wz_ne_f, wb_ne_t, wb_ne_f, wm_ne_1, wm_ne_2, wp_goto, al_13252, wp_iinc_1_1, wp_iload_1, wk_1, wn_ne_t, wn_ne_f, wp_i2l, wc_293, t_293, al_13253, wp_iinc_4_1, wp_iinc_3_1, al_13255, wp_iinc_2_1, al_13256, wp_ireturn, nl_i, nl_r, nl_k, nl_j, nl_l, nI_add, pk_mul, pk_sub, tl_s, tl_n, aL_inl, u2_same, u2_ab, u2_aq, nI_l, lN_i, Nat.add_zero, Nat.zero_add, Nat.zero_le, true_and, and_true, b2n_10, b2n_T, b2n_F, b2n_0, Decidable.not_not, not_true_eq_false, not_false_eq_true, Nat.reduceAdd, Nat.reduceMul, Nat.reduceSub]
    exact hx hC
  | succ j ih =>
    intro c N J hj hC
    have hc : c ≤ 3 := by omega
    have hm := cn_le (p := amB D N0) (16 * a + (4 * b + c))
    have ih1 := fun N J => ih (c + 1) N J (by omega)
    rw [show 16 * a + (4 * b + (c + 1)) = 16 * a + (4 * b + c) + 1 by omega] at ih1
    have ht := fun Q => t_208 (ko := ko) (d := d) (D := D) (N := N) (I := I) (J := J) (x := x) (Q := Q) h hC.1 sI_r hC.2.1 ha hb hc
    rw [al_13251]
    by_cases hp1 : amB D N0 (16 * a + (4 * b + c)) = true
    · by_cases h0 : cnP (amB D N0) (16 * a + (4 * b + c)) = 0
      · obtain ⟨c1, c2⟩ := cn_t0 hp1 h0
        unfold lwC at ih1
        rw [c1, c2] at ih1
        have h31 : N 3 1 = 0 := by
          have := hC.2.2.1
          rw [(cn_0 _).mp h0] at this
          exact this
        simp (disch := (first | omega | exact aCat_8 (by with_unfolding_all rfl) | exact rk_lt (by with_unfolding_all rfl) | exact aCat_16 (by with_unfolding_all rfl) | exact rk_eq (by with_unfolding_all rfl) | assumption | exact b2n_lt _ | exact id_b (by with_unfolding_all rfl) | (simp (disch := omega) only [u2_same, u2_ab, u2_aq]; done) | (simp (disch := omega) only [u2_same, u2_ab, u2_aq]; omega) | fail)) only [al_13248, wp_aloadr_0, wp_aloadk_0, hg_0_1, wc_292, t_292, wk_0, wp_istore_1, wp_istore_2, wp_jsr, wp_iload_2, wk_3, wn_gt_t, wn_gt_f, wp_istore_3, wp_iload_3, wp_istore_4, wp_iload_4, wc_208, wz_ne_t, wz_ne_f, wb_ne_t, wb_ne_f, wm_ne_1, wm_ne_2, wp_goto, al_13252, wp_iinc_1_1, wp_iload_1, wk_1, wn_ne_t, wn_ne_f, wp_i2l, wc_293, t_293, al_13253, wp_iinc_4_1, wp_iinc_3_1, al_13255, wp_iinc_2_1, al_13256, wp_ireturn, nl_i, nl_r, nl_k, nl_j, nl_l, nI_add, pk_mul, pk_sub, tl_s, tl_n, aL_inl, u2_same, u2_ab, u2_aq, nI_l, lN_i, Nat.add_zero, Nat.zero_add, Nat.zero_le, true_and, and_true, b2n_10, b2n_T, b2n_F, b2n_0, Decidable.not_not, not_true_eq_false, not_false_eq_true, Nat.reduceAdd, Nat.reduceMul, Nat.reduceSub, ht, b2n_t hp1, h0, h31]
        refine ih1 _ _ ⟨sN_u (sN_u (sN_u hC.1 rfl) rfl) rfl, sJ_u (sJ_u (sJ_u hC.2.1 rfl) rfl) rfl, ?_⟩
        have := td3C (N := N) (J := J) (a := lN a) (b := lN b) (c := lN c) (M := u2 (u2 (u2 N 3 1 1) 3 1 2) 3 1 3) (u2_same _ _ _ _)
        have e : lwJo (some (16 * a + (4 * b + c))) = fun i => if i = 0 then lN a else if i = 1 then lN b else lN c := by
          funext i
          show (if i = 0 then lN ((16 * a + (4 * b + c)) / 16) else if i = 1 then lN ((16 * a + (4 * b + c)) / 4 % 4) else lN ((16 * a + (4 * b + c)) % 4)) = _
          rw [show (16 * a + (4 * b + c)) / 16 = a by omega, show (16 * a + (4 * b + c)) / 4 % 4 = b by omega, show (16 * a + (4 * b + c)) % 4 = c by omega]
        rw [e]
        exact this
      · obtain ⟨c1, c2⟩ := cn_t1 hp1 h0
        unfold lwC at ih1
        rw [c1, c2] at ih1
        have hn1 : ¬ cnP (amB D N0) (16 * a + (4 * b + c)) + 1 = 1 := by omega
        simp (disch := (first | omega | exact aCat_8 (by with_unfolding_all rfl) | exact rk_lt (by with_unfolding_all rfl) | exact aCat_16 (by with_unfolding_all rfl) | exact rk_eq (by with_unfolding_all rfl) | assumption | exact b2n_lt _ | exact id_b (by with_unfolding_all rfl) | (simp (disch := omega) only [u2_same, u2_ab, u2_aq]; done) | (simp (disch := omega) only [u2_same, u2_ab, u2_aq]; omega) | fail)) only [al_13248, wp_aloadr_0, wp_aloadk_0, hg_0_1, wc_292, t_292, wk_0, wp_istore_1, wp_istore_2, wp_jsr, wp_iload_2, wk_3, wn_gt_t, wn_gt_f, wp_istore_3, wp_iload_3, wp_istore_4, wp_iload_4, wc_208, wz_ne_t, wz_ne_f, wb_ne_t, wb_ne_f, wm_ne_1, wm_ne_2, wp_goto, al_13252, wp_iinc_1_1, wp_iload_1, wk_1, wn_ne_t, wn_ne_f, wp_i2l, wc_293, t_293, al_13253, wp_iinc_4_1, wp_iinc_3_1, al_13255, wp_iinc_2_1, al_13256, wp_ireturn, nl_i, nl_r, nl_k, nl_j, nl_l, nI_add, pk_mul, pk_sub, tl_s, tl_n, aL_inl, u2_same, u2_ab, u2_aq, nI_l, lN_i, Nat.add_zero, Nat.zero_add, Nat.zero_le, true_and, and_true, b2n_10, b2n_T, b2n_F, b2n_0, Decidable.not_not, not_true_eq_false, not_false_eq_true, Nat.reduceAdd, Nat.reduceMul, Nat.reduceSub, ht, b2n_t hp1]
        exact ih1 N J hC
    · obtain ⟨c1, c2⟩ := cn_f hp1
      unfold lwC at ih1
      rw [c1, c2] at ih1
      simp (disch := (first | omega | exact aCat_8 (by with_unfolding_all rfl) | exact rk_lt (by with_unfolding_all rfl) | exact aCat_16 (by with_unfolding_all rfl) | exact rk_eq (by with_unfolding_all rfl) | assumption | exact b2n_lt _ | exact id_b (by with_unfolding_all rfl) | (simp (disch := omega) only [u2_same, u2_ab, u2_aq]; done) | (simp (disch := omega) only [u2_same, u2_ab, u2_aq]; omega) | fail)) only [al_13248, wp_aloadr_0, wp_aloadk_0, hg_0_1, wc_292, t_292, wk_0, wp_istore_1, wp_istore_2, wp_jsr, wp_iload_2, wk_3, wn_gt_t, wn_gt_f, wp_istore_3, wp_iload_3, wp_istore_4, wp_iload_4, wc_208, wz_ne_t, wz_ne_f, wb_ne_t, wb_ne_f, wm_ne_1, wm_ne_2, wp_goto, al_13252, wp_iinc_1_1, wp_iload_1, wk_1, wn_ne_t, wn_ne_f, wp_i2l, wc_293, t_293, al_13253, wp_iinc_4_1, wp_iinc_3_1, al_13255, wp_iinc_2_1, al_13256, wp_ireturn, nl_i, nl_r, nl_k, nl_j, nl_l, nI_add, pk_mul, pk_sub, tl_s, tl_n, aL_inl, u2_same, u2_ab, u2_aq, nI_l, lN_i, Nat.add_zero, Nat.zero_add, Nat.zero_le, true_and, and_true, b2n_10, b2n_T, b2n_F, b2n_0, Decidable.not_not, not_true_eq_false, not_false_eq_true, Nat.reduceAdd, Nat.reduceMul, Nat.reduceSub, ht, b2n_f hp1]
      exact ih1 N J hC
theorem l_207b {N0 : Nat → Nat → Nat} {J0 : Nat → Nat → Int64} {a : Nat} (h : invB D N0 I J0 t) (ha : a ≤ 3)
    (hK : ∀ (N : Nat → Nat → Nat) (J : Nat → Nat → Int64) (w : Value), lwC (amB D N0) (16 * (a + 1)) N0 N J0 J → aWp ko d 207 (aP.1 (Int.toNat 13255)) [.ref 0, .int (nI (cnP (amB D N0) (16 * (a + 1)))), .int (nI a), .int (nI 4), w] [] (hp D N I J x) (aL Q)) :
    ∀ (j b : Nat) (N : Nat → Nat → Nat) (J : Nat → Nat → Int64) (w : Value), b + j = 4 → lwC (amB D N0) (16 * a + 4 * b) N0 N J0 J → aWp ko d 207 (aP.1 (Int.toNat 13250)) [.ref 0, .int (nI (cnP (amB D N0) (16 * a + 4 * b))), .int (nI a), .int (nI b), w] [] (hp D N I J x) (aL Q) := by
  intro j
  induction j with
  | zero =>
    intro b N J w hj hC
    have e : b = 4 := by omega
    subst e
    have hx := hK N J w
    rw [show 16 * (a + 1) = 16 * a + 4 * 4 by omega] at hx
    rw [al_13250]
    simp (disch := (first | omega | exact aCat_8 (by with_unfolding_all rfl) | exact rk_lt (by with_unfolding_all rfl) | exact aCat_16 (by with_unfolding_all rfl) | exact rk_eq (by with_unfolding_all rfl) | assumption | exact b2n_lt _ | exact id_b (by with_unfolding_all rfl) | (simp (disch := omega) only [u2_same, u2_ab, u2_aq]; done) | (simp (disch := omega) only [u2_same, u2_ab, u2_aq]; omega) | fail)) only [al_13248, wp_aloadr_0, wp_aloadk_0, hg_0_1, wc_292, t_292, wk_0, wp_istore_1, wp_istore_2, wp_jsr, wp_iload_2, wk_3, wn_gt_t, wn_gt_f, wp_istore_3, wp_iload_3, wp_istore_4, wp_iload_4, wc_208, wz_ne_t, wz_ne_f, wb_ne_t, wb_ne_f, wm_ne_1, wm_ne_2, wp_goto, al_13252, wp_iinc_1_1, wp_iload_1, wk_1, wn_ne_t, wn_ne_f, wp_i2l, wc_293, t_293, al_13253, wp_iinc_4_1, al_13254, wp_iinc_3_1, wp_iinc_2_1, al_13256, wp_ireturn, nl_i, nl_r, nl_k, nl_j, nl_l, nI_add, pk_mul, pk_sub, tl_s, tl_n, aL_inl, u2_same, u2_ab, u2_aq, nI_l, lN_i, Nat.add_zero, Nat.zero_add, Nat.zero_le, true_and, and_true, b2n_10, b2n_T, b2n_F, b2n_0, Decidable.not_not, not_true_eq_false, not_false_eq_true, Nat.reduceAdd, Nat.reduceMul, Nat.reduceSub]
    exact hx hC
  | succ j ih =>
    intro b N J w hj hC
    have hx := l_207c (ko := ko) (d := d) (x := x) (Q := Q) (a := a) (b := b) h ha (by omega) (fun N J hC => by
      have := ih (b + 1) N J (.int (nI 4)) (by omega) hC
      rw [al_13254]
      simp (disch := (first | omega | exact aCat_8 (by with_unfolding_all rfl) | exact rk_lt (by with_unfolding_all rfl) | exact aCat_16 (by with_unfolding_all rfl) | exact rk_eq (by with_unfolding_all rfl) | assumption | exact b2n_lt _ | exact id_b (by with_unfolding_all rfl) | (simp (disch := omega) only [u2_same, u2_ab, u2_aq]; done) | (simp (disch := omega) only [u2_same, u2_ab, u2_aq]; omega) | fail)) only [al_13248, wp_aloadr_0, wp_aloadk_0, hg_0_1, wc_292, t_292, wk_0, wp_istore_1, wp_istore_2, wp_jsr, wp_iload_2, wk_3, wn_gt_t, wn_gt_f, wp_istore_3, wp_iload_3, wp_istore_4, wp_iload_4, wc_208, wz_ne_t, wz_ne_f, wb_ne_t, wb_ne_f, wm_ne_1, wm_ne_2, wp_goto, al_13252, wp_iinc_1_1, wp_iload_1, wk_1, wn_ne_t, wn_ne_f, wp_i2l, wc_293, t_293, al_13253, wp_iinc_4_1, al_13254, wp_iinc_3_1, al_13255, wp_iinc_2_1, al_13256, wp_ireturn, nl_i, nl_r, nl_k, nl_j, nl_l, nI_add, pk_mul, pk_sub, tl_s, tl_n, aL_inl, u2_same, u2_ab, u2_aq, nI_l, lN_i, Nat.add_zero, Nat.zero_add, Nat.zero_le, true_and, and_true, b2n_10, b2n_T, b2n_F, b2n_0, Decidable.not_not, not_true_eq_false, not_false_eq_true, Nat.reduceAdd, Nat.reduceMul, Nat.reduceSub]
      exact this) 4 0 N J (by omega) hC
    rw [al_13250]
    simp (disch := (first | omega | exact aCat_8 (by with_unfolding_all rfl) | exact rk_lt (by with_unfolding_all rfl) | exact aCat_16 (by with_unfolding_all rfl) | exact rk_eq (by with_unfolding_all rfl) | assumption | exact b2n_lt _ | exact id_b (by with_unfolding_all rfl) | (simp (disch := omega) only [u2_same, u2_ab, u2_aq]; done) | (simp (disch := omega) only [u2_same, u2_ab, u2_aq]; omega) | fail)) only [al_13248, wp_aloadr_0, wp_aloadk_0, hg_0_1, wc_292, t_292, wk_0, wp_istore_1, wp_istore_2, wp_jsr, wp_iload_2, wk_3, wn_gt_t, wn_gt_f, wp_istore_3, wp_iload_3, wp_istore_4, wp_iload_4, wc_208, wz_ne_t, wz_ne_f, wb_ne_t, wb_ne_f, wm_ne_1, wm_ne_2, wp_goto, al_13252, wp_iinc_1_1, wp_iload_1, wk_1, wn_ne_t, wn_ne_f, wp_i2l, wc_293, t_293, al_13253, wp_iinc_4_1, al_13254, wp_iinc_3_1, wp_iinc_2_1, al_13256, wp_ireturn, nl_i, nl_r, nl_k, nl_j, nl_l, nI_add, pk_mul, pk_sub, tl_s, tl_n, aL_inl, u2_same, u2_ab, u2_aq, nI_l, lN_i, Nat.add_zero, Nat.zero_add, Nat.zero_le, true_and, and_true, b2n_10, b2n_T, b2n_F, b2n_0, Decidable.not_not, not_true_eq_false, not_false_eq_true, Nat.reduceAdd, Nat.reduceMul, Nat.reduceSub]
    exact hx
theorem l_207a {N0 : Nat → Nat → Nat} {J0 : Nat → Nat → Int64} (h : invB D N0 I J0 t)
    (hQ : ∀ (N : Nat → Nat → Nat) (J : Nat → Nat → Int64), lwC (amB D N0) 64 N0 N J0 J → Q (some (.int (nI (cnP (amB D N0) 64)))) (hp D N I J x)) :
    ∀ (j a : Nat) (N : Nat → Nat → Nat) (J : Nat → Nat → Int64) (w w' : Value), a + j = 4 → lwC (amB D N0) (16 * a) N0 N J0 J → aWp ko d 207 (aP.1 (Int.toNat 13249)) [.ref 0, .int (nI (cnP (amB D N0) (16 * a))), .int (nI a), w, w'] [] (hp D N I J x) (aL Q) := by
  intro j
  induction j with
  | zero =>
    intro a N J w w' hj hC
    have e : a = 4 := by omega
    subst e
    rw [al_13249]
    simp (disch := (first | omega | exact aCat_8 (by with_unfolding_all rfl) | exact rk_lt (by with_unfolding_all rfl) | exact aCat_16 (by with_unfolding_all rfl) | exact rk_eq (by with_unfolding_all rfl) | assumption | exact b2n_lt _ | exact id_b (by with_unfolding_all rfl) | (simp (disch := omega) only [u2_same, u2_ab, u2_aq]; done) | (simp (disch := omega) only [u2_same, u2_ab, u2_aq]; omega) | fail)) only [al_13248, wp_aloadr_0, wp_aloadk_0, hg_0_1, wc_292, t_292, wk_0, wp_istore_1, wp_istore_2, wp_jsr, wp_iload_2, wk_3, wn_gt_t, wn_gt_f, wp_istore_3, wp_iload_3, wp_istore_4, wp_iload_4, wc_208, wz_ne_t, wz_ne_f, wb_ne_t, wb_ne_f, wm_ne_1, wm_ne_2, wp_goto, al_13252, wp_iinc_1_1, wp_iload_1, wk_1, wn_ne_t, wn_ne_f, wp_i2l, wc_293, t_293, al_13253, wp_iinc_4_1, al_13254, wp_iinc_3_1, al_13255, wp_iinc_2_1, al_13256, wp_ireturn, nl_i, nl_r, nl_k, nl_j, nl_l, nI_add, pk_mul, pk_sub, tl_s, tl_n, aL_inl, u2_same, u2_ab, u2_aq, nI_l, lN_i, Nat.add_zero, Nat.zero_add, Nat.zero_le, true_and, and_true, b2n_10, b2n_T, b2n_F, b2n_0, Decidable.not_not, not_true_eq_false, not_false_eq_true, Nat.reduceAdd, Nat.reduceMul, Nat.reduceSub]
    exact hQ N J hC
  | succ j ih =>
    intro a N J w w' hj hC
    have hx := fun w' => l_207b (ko := ko) (d := d) (x := x) (Q := Q) (a := a) h (by omega) (fun N J w hC => by
      have := ih (a + 1) N J (.int (nI 4)) w (by omega) hC
      rw [al_13255]
      simp (disch := (first | omega | exact aCat_8 (by with_unfolding_all rfl) | exact rk_lt (by with_unfolding_all rfl) | exact aCat_16 (by with_unfolding_all rfl) | exact rk_eq (by with_unfolding_all rfl) | assumption | exact b2n_lt _ | exact id_b (by with_unfolding_all rfl) | (simp (disch := omega) only [u2_same, u2_ab, u2_aq]; done) | (simp (disch := omega) only [u2_same, u2_ab, u2_aq]; omega) | fail)) only [al_13248, wp_aloadr_0, wp_aloadk_0, hg_0_1, wc_292, t_292, wk_0, wp_istore_1, wp_istore_2, wp_jsr, wp_iload_2, wk_3, wn_gt_t, wn_gt_f, wp_istore_3, wp_iload_3, wp_istore_4, wp_iload_4, wc_208, wz_ne_t, wz_ne_f, wb_ne_t, wb_ne_f, wm_ne_1, wm_ne_2, wp_goto, al_13252, wp_iinc_1_1, wp_iload_1, wk_1, wn_ne_t, wn_ne_f, wp_i2l, wc_293, t_293, al_13253, wp_iinc_4_1, al_13254, wp_iinc_3_1, al_13255, wp_iinc_2_1, al_13256, wp_ireturn, nl_i, nl_r, nl_k, nl_j, nl_l, nI_add, pk_mul, pk_sub, tl_s, tl_n, aL_inl, u2_same, u2_ab, u2_aq, nI_l, lN_i, Nat.add_zero, Nat.zero_add, Nat.zero_le, true_and, and_true, b2n_10, b2n_T, b2n_F, b2n_0, Decidable.not_not, not_true_eq_false, not_false_eq_true, Nat.reduceAdd, Nat.reduceMul, Nat.reduceSub]
      exact this) 4 0 N J w' (by omega) hC
    rw [al_13249]
    simp (disch := (first | omega | exact aCat_8 (by with_unfolding_all rfl) | exact rk_lt (by with_unfolding_all rfl) | exact aCat_16 (by with_unfolding_all rfl) | exact rk_eq (by with_unfolding_all rfl) | assumption | exact b2n_lt _ | exact id_b (by with_unfolding_all rfl) | (simp (disch := omega) only [u2_same, u2_ab, u2_aq]; done) | (simp (disch := omega) only [u2_same, u2_ab, u2_aq]; omega) | fail)) only [al_13248, wp_aloadr_0, wp_aloadk_0, hg_0_1, wc_292, t_292, wk_0, wp_istore_1, wp_istore_2, wp_jsr, wp_iload_2, wk_3, wn_gt_t, wn_gt_f, wp_istore_3, wp_iload_3, wp_istore_4, wp_iload_4, wc_208, wz_ne_t, wz_ne_f, wb_ne_t, wb_ne_f, wm_ne_1, wm_ne_2, wp_goto, al_13252, wp_iinc_1_1, wp_iload_1, wk_1, wn_ne_t, wn_ne_f, wp_i2l, wc_293, t_293, al_13253, wp_iinc_4_1, al_13254, wp_iinc_3_1, al_13255, wp_iinc_2_1, al_13256, wp_ireturn, nl_i, nl_r, nl_k, nl_j, nl_l, nI_add, pk_mul, pk_sub, tl_s, tl_n, aL_inl, u2_same, u2_ab, u2_aq, nI_l, lN_i, Nat.add_zero, Nat.zero_add, Nat.zero_le, true_and, and_true, b2n_10, b2n_T, b2n_F, b2n_0, Decidable.not_not, not_true_eq_false, not_false_eq_true, Nat.reduceAdd, Nat.reduceMul, Nat.reduceSub]
    exact hx _
def lwR (p : Nat → Bool) (m : Nat) (N0 N : Nat → Nat → Nat) (J0 J : Nat → Nat → Int64) : Prop := qN N N0 ∧ qJ J J0 ∧ tdR N J (lwNo (fsP p m)) (lwJo (fsP p m))
theorem l_93i {N0 : Nat → Nat → Nat} {I0 : Nat → Nat → Int32} {J0 : Nat → Nat → Int64} {q cn : Nat} (h : invB D N0 I0 J0 t) (hr : qN N N0) (hq : q < 64)
    (hK : aWp ko d 93 (aP.1 (Int.toNat 5957)) [.ref 86, .int (nI cn), .int (nI q), .int (nI (b2n (amB D N0 q = true))), .int (nI (N0 86 51))] [] (hp D N I J x) (aL Q)) :
    ∀ (j k : Nat), k + j = N0 86 51 → aWp ko d 93 (aP.1 (Int.toNat 5954)) [.ref 86, .int (nI cn), .int (nI q), .int (nI (b2n (amT D N0 q k = true))), .int (nI k)] [] (hp D N I J x) (aL Q) := by
  obtain ⟨m1, m2, m3⟩ := h.2.2.2.2.2.2.2.2.1
  have hF := dm_F h.1.1
  have e51 : N 86 51 = N0 86 51 := hr 86 51 rfl
  have e89 := sN_89 (qN_s hr)
  intro j
  induction j with
  | zero =>
    intro k hj
    have e : k = N0 86 51 := by omega
    subst e
    rw [al_5954]
    simp (disch := (first | omega | exact aCat_8 (by with_unfolding_all rfl) | exact rk_lt (by with_unfolding_all rfl) | exact aCat_16 (by with_unfolding_all rfl) | exact rk_eq (by with_unfolding_all rfl) | assumption | exact b2n_lt _ | exact id_b (by with_unfolding_all rfl) | (simp (disch := omega) only [u2_same, u2_ab, u2_aq]; done) | (simp (disch := omega) only [u2_same, u2_ab, u2_aq]; omega) | fail)) only [al_5952, wp_aloadr_0, wp_aloadk_0, wk_0, hp_86_0, wp_istore_1, hp_86_1, wp_istore_2, wp_jsr, wp_iload_2, wk_64, wn_ge_t, wn_ge_f, wk_1, wp_istore_3, wp_istore_4, wp_iload_4, hg_86_51, wp_iload_3, wz_eq_t, wz_eq_f, wb_eq_t, wb_eq_f, wm_eq_1, wm_eq_2, hg_86_52, ha_118l, ha_118s, wk_16, wp_idivn, wk_4, wp_iremn, wc_94, hg_86_53, ha_119l, ha_119s, wn_ne_t, wn_ne_f, wp_goto, al_5955, al_5956, wp_iinc_4_1, wp_iload_1, wz_ne_t, wz_ne_f, wb_ne_t, wb_ne_f, wm_ne_1, wm_ne_2, wp_i2l, wc_43, t_43, al_5958, wc_17, t_17, wp_iadd, wp_iinc_2_1, al_5959, wp_ireturn, nl_i, nl_r, nl_k, nl_j, nl_l, nI_add, pk_mul, pk_sub, tl_s, tl_n, aL_inl, u2_same, u2_ab, u2_aq, nI_l, lN_i, Nat.add_zero, Nat.zero_add, Nat.zero_le, true_and, and_true, b2n_10, b2n_T, b2n_F, b2n_0, Decidable.not_not, not_true_eq_false, not_false_eq_true, Nat.reduceAdd, Nat.reduceMul, Nat.reduceSub, e51]
    exact hK
  | succ j ih =>
    intro k hj
    obtain ⟨s1, s2, s3, s4⟩ := m3 k (by omega)
    have e118 : N 118 k = N0 118 k := hr 118 k rfl
    have e119 : N 119 k = N0 119 k := hr 119 k rfl
    have ht := fun Q => t_94 (ko := ko) (d := d) (N := N) (I := I) (J := J) (x := x) (Q := Q) (a := q / 16) (b := q / 4 % 4) (c := q % 4) (f := N0 118 k) h.1.1 (by rw [e89]; exact h.2.2.2.2.1.1) (by omega) (by omega) (by omega) (by omega)
    rw [e89] at ht
    have ih1 := ih (k + 1) (by omega)
    have es : amT D N0 q (k + 1) = (amT D N0 q k && mkB D N0 q k) := rfl
    rw [es] at ih1
    rw [al_5954]
    by_cases hk : amT D N0 q k = true
    · rw [hk, Bool.true_and] at ih1
      unfold mkB at ih1
      rw [b2n_t hk]
      by_cases z : gbI (gbw (D 0) (D 1) (N0 89) (q / 16) (q / 4 % 4) (q % 4) (N0 118 k) 3) = nI (N0 119 k)
      · rw [decide_eq_true z, b2n_t rfl] at ih1
        simp (disch := (first | omega | exact aCat_8 (by with_unfolding_all rfl) | exact rk_lt (by with_unfolding_all rfl) | exact aCat_16 (by with_unfolding_all rfl) | exact rk_eq (by with_unfolding_all rfl) | assumption | exact b2n_lt _ | exact id_b (by with_unfolding_all rfl) | (simp (disch := omega) only [u2_same, u2_ab, u2_aq]; done) | (simp (disch := omega) only [u2_same, u2_ab, u2_aq]; omega) | fail)) only [al_5952, wp_aloadr_0, wp_aloadk_0, wk_0, hp_86_0, wp_istore_1, hp_86_1, wp_istore_2, wp_jsr, wp_iload_2, wk_64, wn_ge_t, wn_ge_f, wk_1, wp_istore_3, wp_istore_4, wp_iload_4, hg_86_51, wp_iload_3, wz_eq_t, wz_eq_f, wb_eq_t, wb_eq_f, wm_eq_1, wm_eq_2, hg_86_52, ha_118l, ha_118s, wk_16, wp_idivn, wk_4, wp_iremn, wc_94, hg_86_53, ha_119l, ha_119s, wn_ne_t, wn_ne_f, wp_goto, al_5955, al_5956, wp_iinc_4_1, wp_iload_1, wz_ne_t, wz_ne_f, wb_ne_t, wb_ne_f, wm_ne_1, wm_ne_2, wp_i2l, wc_43, t_43, al_5958, wc_17, t_17, wp_iadd, wp_iinc_2_1, al_5959, wp_ireturn, nl_i, nl_r, nl_k, nl_j, nl_l, nI_add, pk_mul, pk_sub, tl_s, tl_n, aL_inl, u2_same, u2_ab, u2_aq, nI_l, lN_i, Nat.add_zero, Nat.zero_add, Nat.zero_le, true_and, and_true, b2n_10, b2n_T, b2n_F, b2n_0, Decidable.not_not, not_true_eq_false, not_false_eq_true, Nat.reduceAdd, Nat.reduceMul, Nat.reduceSub, e51, e118, e119, ht, wx_ne_f (not_not_intro z)]
        exact ih1
      · rw [decide_eq_false z, b2n_f (by decide)] at ih1
        simp (disch := (first | omega | exact aCat_8 (by with_unfolding_all rfl) | exact rk_lt (by with_unfolding_all rfl) | exact aCat_16 (by with_unfolding_all rfl) | exact rk_eq (by with_unfolding_all rfl) | assumption | exact b2n_lt _ | exact id_b (by with_unfolding_all rfl) | (simp (disch := omega) only [u2_same, u2_ab, u2_aq]; done) | (simp (disch := omega) only [u2_same, u2_ab, u2_aq]; omega) | fail)) only [al_5952, wp_aloadr_0, wp_aloadk_0, wk_0, hp_86_0, wp_istore_1, hp_86_1, wp_istore_2, wp_jsr, wp_iload_2, wk_64, wn_ge_t, wn_ge_f, wk_1, wp_istore_3, wp_istore_4, wp_iload_4, hg_86_51, wp_iload_3, wz_eq_t, wz_eq_f, wb_eq_t, wb_eq_f, wm_eq_1, wm_eq_2, hg_86_52, ha_118l, ha_118s, wk_16, wp_idivn, wk_4, wp_iremn, wc_94, hg_86_53, ha_119l, ha_119s, wn_ne_t, wn_ne_f, wp_goto, al_5955, al_5956, wp_iinc_4_1, wp_iload_1, wz_ne_t, wz_ne_f, wb_ne_t, wb_ne_f, wm_ne_1, wm_ne_2, wp_i2l, wc_43, t_43, al_5958, wc_17, t_17, wp_iadd, wp_iinc_2_1, al_5959, wp_ireturn, nl_i, nl_r, nl_k, nl_j, nl_l, nI_add, pk_mul, pk_sub, tl_s, tl_n, aL_inl, u2_same, u2_ab, u2_aq, nI_l, lN_i, Nat.add_zero, Nat.zero_add, Nat.zero_le, true_and, and_true, b2n_10, b2n_T, b2n_F, b2n_0, Decidable.not_not, not_true_eq_false, not_false_eq_true, Nat.reduceAdd, Nat.reduceMul, Nat.reduceSub, e51, e118, e119, ht, wx_ne_t z]
        exact ih1
    · have hkf : amT D N0 q k = false := by simpa using hk
      rw [hkf, Bool.false_and, b2n_f (by decide)] at ih1
      rw [b2n_f hk]
      simp (disch := (first | omega | exact aCat_8 (by with_unfolding_all rfl) | exact rk_lt (by with_unfolding_all rfl) | exact aCat_16 (by with_unfolding_all rfl) | exact rk_eq (by with_unfolding_all rfl) | assumption | exact b2n_lt _ | exact id_b (by with_unfolding_all rfl) | (simp (disch := omega) only [u2_same, u2_ab, u2_aq]; done) | (simp (disch := omega) only [u2_same, u2_ab, u2_aq]; omega) | fail)) only [al_5952, wp_aloadr_0, wp_aloadk_0, wk_0, hp_86_0, wp_istore_1, hp_86_1, wp_istore_2, wp_jsr, wp_iload_2, wk_64, wn_ge_t, wn_ge_f, wk_1, wp_istore_3, wp_istore_4, wp_iload_4, hg_86_51, wp_iload_3, wz_eq_t, wz_eq_f, wb_eq_t, wb_eq_f, wm_eq_1, wm_eq_2, hg_86_52, ha_118l, ha_118s, wk_16, wp_idivn, wk_4, wp_iremn, wc_94, hg_86_53, ha_119l, ha_119s, wn_ne_t, wn_ne_f, wp_goto, al_5955, al_5956, wp_iinc_4_1, wp_iload_1, wz_ne_t, wz_ne_f, wb_ne_t, wb_ne_f, wm_ne_1, wm_ne_2, wp_i2l, wc_43, t_43, al_5958, wc_17, t_17, wp_iadd, wp_iinc_2_1, al_5959, wp_ireturn, nl_i, nl_r, nl_k, nl_j, nl_l, nI_add, pk_mul, pk_sub, tl_s, tl_n, aL_inl, u2_same, u2_ab, u2_aq, nI_l, lN_i, Nat.add_zero, Nat.zero_add, Nat.zero_le, true_and, and_true, b2n_10, b2n_T, b2n_F, b2n_0, Decidable.not_not, not_true_eq_false, not_false_eq_true, Nat.reduceAdd, Nat.reduceMul, Nat.reduceSub, e51]
      exact ih1
theorem l_93 {N0 : Nat → Nat → Nat} {I0 : Nat → Nat → Int32} {J0 : Nat → Nat → Int64} (h : invB D N0 I0 J0 t)
    (hQ : ∀ (N : Nat → Nat → Nat) (J : Nat → Nat → Int64), lwR (amB D N0) 64 N0 N J0 J → Q (some (.int (nI (cnP (amB D N0) 64)))) (hp D N I J x)) :
    ∀ (j q : Nat) (N : Nat → Nat → Nat) (J : Nat → Nat → Int64) (w w' : Value), q + j = 64 → lwR (amB D N0) q N0 N J0 J → aWp ko d 93 (aP.1 (Int.toNat 5953)) [.ref 86, .int (nI (cnP (amB D N0) q)), .int (nI q), w, w'] [] (hp D N I J x) (aL Q) := by
  intro j
  induction j with
  | zero =>
    intro q N J w w' hj hC
    have e : q = 64 := by omega
    subst e
    rw [al_5953]
    simp (disch := (first | omega | exact aCat_8 (by with_unfolding_all rfl) | exact rk_lt (by with_unfolding_all rfl) | exact aCat_16 (by with_unfolding_all rfl) | exact rk_eq (by with_unfolding_all rfl) | assumption | exact b2n_lt _ | exact id_b (by with_unfolding_all rfl) | (simp (disch := omega) only [u2_same, u2_ab, u2_aq]; done) | (simp (disch := omega) only [u2_same, u2_ab, u2_aq]; omega) | fail)) only [al_5952, wp_aloadr_0, wp_aloadk_0, wk_0, hp_86_0, wp_istore_1, hp_86_1, wp_istore_2, wp_jsr, wp_iload_2, wk_64, wn_ge_t, wn_ge_f, wk_1, wp_istore_3, wp_istore_4, wp_iload_4, hg_86_51, wp_iload_3, wz_eq_t, wz_eq_f, wb_eq_t, wb_eq_f, wm_eq_1, wm_eq_2, hg_86_52, ha_118l, ha_118s, wk_16, wp_idivn, wk_4, wp_iremn, wc_94, hg_86_53, ha_119l, ha_119s, wn_ne_t, wn_ne_f, wp_goto, al_5955, al_5956, wp_iinc_4_1, al_5957, wp_iload_1, wz_ne_t, wz_ne_f, wb_ne_t, wb_ne_f, wm_ne_1, wm_ne_2, wp_i2l, wc_43, t_43, al_5958, wc_17, t_17, wp_iadd, wp_iinc_2_1, al_5959, wp_ireturn, nl_i, nl_r, nl_k, nl_j, nl_l, nI_add, pk_mul, pk_sub, tl_s, tl_n, aL_inl, u2_same, u2_ab, u2_aq, nI_l, lN_i, Nat.add_zero, Nat.zero_add, Nat.zero_le, true_and, and_true, b2n_10, b2n_T, b2n_F, b2n_0, Decidable.not_not, not_true_eq_false, not_false_eq_true, Nat.reduceAdd, Nat.reduceMul, Nat.reduceSub]
    exact hQ N J hC
  | succ j ih =>
    intro q N J w w' hj hC
    have hm := cn_le (p := amB D N0) q
    have ih1 := fun N J w w' => ih (q + 1) N J w w' (by omega)
    have m2 := h.2.2.2.2.2.2.2.2.1.2.1
    have hx := l_93i (ko := ko) (d := d) (I := I) (x := x) (J := J) (Q := Q) (q := q) (cn := cnP (amB D N0) q) (N := N) h hC.1 (by omega) (by
      rw [al_5957]
      by_cases hp1 : amB D N0 q = true
      · rw [b2n_t hp1]
        by_cases h0 : cnP (amB D N0) q = 0
        · obtain ⟨c1, c2⟩ := cn_t0 hp1 h0
          unfold lwR at ih1
          rw [c1, c2] at ih1
          have h31 : N 86 1 = 0 := by
            have := hC.2.2.1
            rw [(cn_0 _).mp h0] at this
            exact this
          simp (disch := (first | omega | exact aCat_8 (by with_unfolding_all rfl) | exact rk_lt (by with_unfolding_all rfl) | exact aCat_16 (by with_unfolding_all rfl) | exact rk_eq (by with_unfolding_all rfl) | assumption | exact b2n_lt _ | exact id_b (by with_unfolding_all rfl) | (simp (disch := omega) only [u2_same, u2_ab, u2_aq]; done) | (simp (disch := omega) only [u2_same, u2_ab, u2_aq]; omega) | fail)) only [al_5952, wp_aloadr_0, wp_aloadk_0, wk_0, hp_86_0, wp_istore_1, hp_86_1, wp_istore_2, wp_jsr, wp_iload_2, wk_64, wn_ge_t, wn_ge_f, wk_1, wp_istore_3, wp_istore_4, wp_iload_4, hg_86_51, wp_iload_3, wz_eq_t, wz_eq_f, wb_eq_t, wb_eq_f, wm_eq_1, wm_eq_2, hg_86_52, ha_118l, ha_118s, wk_16, wp_idivn, wk_4, wp_iremn, wc_94, hg_86_53, ha_119l, ha_119s, wn_ne_t, wn_ne_f, wp_goto, al_5955, al_5956, wp_iinc_4_1, al_5957, wp_iload_1, wz_ne_t, wz_ne_f, wb_ne_t, wb_ne_f, wm_ne_1, wm_ne_2, wp_i2l, wc_43, t_43, al_5958, wc_17, t_17, wp_iadd, wp_iinc_2_1, al_5959, wp_ireturn, nl_i, nl_r, nl_k, nl_j, nl_l, nI_add, pk_mul, pk_sub, tl_s, tl_n, aL_inl, u2_same, u2_ab, u2_aq, nI_l, lN_i, Nat.add_zero, Nat.zero_add, Nat.zero_le, true_and, and_true, b2n_10, b2n_T, b2n_F, b2n_0, Decidable.not_not, not_true_eq_false, not_false_eq_true, Nat.reduceAdd, Nat.reduceMul, Nat.reduceSub, h0, h31]
          refine ih1 _ _ _ _ ⟨qN_u (qN_u (qN_u hC.1 rfl) rfl) rfl, qJ_u (qJ_u (qJ_u hC.2.1 rfl) rfl) rfl, ?_⟩
          exact td3R (N := N) (J := J) (a := lN (q / 16)) (b := lN (q / 4 % 4)) (c := lN (q % 4)) (u2_same _ _ _ _)
        · obtain ⟨c1, c2⟩ := cn_t1 hp1 h0
          unfold lwR at ih1
          rw [c1, c2] at ih1
          simp (disch := (first | omega | exact aCat_8 (by with_unfolding_all rfl) | exact rk_lt (by with_unfolding_all rfl) | exact aCat_16 (by with_unfolding_all rfl) | exact rk_eq (by with_unfolding_all rfl) | assumption | exact b2n_lt _ | exact id_b (by with_unfolding_all rfl) | (simp (disch := omega) only [u2_same, u2_ab, u2_aq]; done) | (simp (disch := omega) only [u2_same, u2_ab, u2_aq]; omega) | fail)) only [al_5952, wp_aloadr_0, wp_aloadk_0, wk_0, hp_86_0, wp_istore_1, hp_86_1, wp_istore_2, wp_jsr, wp_iload_2, wk_64, wn_ge_t, wn_ge_f, wk_1, wp_istore_3, wp_istore_4, wp_iload_4, hg_86_51, wp_iload_3, wz_eq_t, wz_eq_f, wb_eq_t, wb_eq_f, wm_eq_1, wm_eq_2, hg_86_52, ha_118l, ha_118s, wk_16, wp_idivn, wk_4, wp_iremn, wc_94, hg_86_53, ha_119l, ha_119s, wn_ne_t, wn_ne_f, wp_goto, al_5955, al_5956, wp_iinc_4_1, al_5957, wp_iload_1, wz_ne_t, wz_ne_f, wb_ne_t, wb_ne_f, wm_ne_1, wm_ne_2, wp_i2l, wc_43, t_43, al_5958, wc_17, t_17, wp_iadd, wp_iinc_2_1, al_5959, wp_ireturn, nl_i, nl_r, nl_k, nl_j, nl_l, nI_add, pk_mul, pk_sub, tl_s, tl_n, aL_inl, u2_same, u2_ab, u2_aq, nI_l, lN_i, Nat.add_zero, Nat.zero_add, Nat.zero_le, true_and, and_true, b2n_10, b2n_T, b2n_F, b2n_0, Decidable.not_not, not_true_eq_false, not_false_eq_true, Nat.reduceAdd, Nat.reduceMul, Nat.reduceSub]
          exact ih1 N J _ _ hC
      · rw [b2n_f hp1]
        obtain ⟨c1, c2⟩ := cn_f hp1
        unfold lwR at ih1
        rw [c1, c2] at ih1
        simp (disch := (first | omega | exact aCat_8 (by with_unfolding_all rfl) | exact rk_lt (by with_unfolding_all rfl) | exact aCat_16 (by with_unfolding_all rfl) | exact rk_eq (by with_unfolding_all rfl) | assumption | exact b2n_lt _ | exact id_b (by with_unfolding_all rfl) | (simp (disch := omega) only [u2_same, u2_ab, u2_aq]; done) | (simp (disch := omega) only [u2_same, u2_ab, u2_aq]; omega) | fail)) only [al_5952, wp_aloadr_0, wp_aloadk_0, wk_0, hp_86_0, wp_istore_1, hp_86_1, wp_istore_2, wp_jsr, wp_iload_2, wk_64, wn_ge_t, wn_ge_f, wk_1, wp_istore_3, wp_istore_4, wp_iload_4, hg_86_51, wp_iload_3, wz_eq_t, wz_eq_f, wb_eq_t, wb_eq_f, wm_eq_1, wm_eq_2, hg_86_52, ha_118l, ha_118s, wk_16, wp_idivn, wk_4, wp_iremn, wc_94, hg_86_53, ha_119l, ha_119s, wn_ne_t, wn_ne_f, wp_goto, al_5955, al_5956, wp_iinc_4_1, al_5957, wp_iload_1, wz_ne_t, wz_ne_f, wb_ne_t, wb_ne_f, wm_ne_1, wm_ne_2, wp_i2l, wc_43, t_43, al_5958, wc_17, t_17, wp_iadd, wp_iinc_2_1, al_5959, wp_ireturn, nl_i, nl_r, nl_k, nl_j, nl_l, nI_add, pk_mul, pk_sub, tl_s, tl_n, aL_inl, u2_same, u2_ab, u2_aq, nI_l, lN_i, Nat.add_zero, Nat.zero_add, Nat.zero_le, true_and, and_true, b2n_10, b2n_T, b2n_F, b2n_0, Decidable.not_not, not_true_eq_false, not_false_eq_true, Nat.reduceAdd, Nat.reduceMul, Nat.reduceSub]
        exact ih1 N J _ _ hC) (N0 86 51) 0 (by omega)
    have ea : amT D N0 q 0 = true := rfl
    rw [b2n_t ea] at hx
    rw [al_5953]
    simp (disch := (first | omega | exact aCat_8 (by with_unfolding_all rfl) | exact rk_lt (by with_unfolding_all rfl) | exact aCat_16 (by with_unfolding_all rfl) | exact rk_eq (by with_unfolding_all rfl) | assumption | exact b2n_lt _ | exact id_b (by with_unfolding_all rfl) | (simp (disch := omega) only [u2_same, u2_ab, u2_aq]; done) | (simp (disch := omega) only [u2_same, u2_ab, u2_aq]; omega) | fail)) only [al_5952, wp_aloadr_0, wp_aloadk_0, wk_0, hp_86_0, wp_istore_1, hp_86_1, wp_istore_2, wp_jsr, wp_iload_2, wk_64, wn_ge_t, wn_ge_f, wk_1, wp_istore_3, wp_istore_4, wp_iload_4, hg_86_51, wp_iload_3, wz_eq_t, wz_eq_f, wb_eq_t, wb_eq_f, wm_eq_1, wm_eq_2, hg_86_52, ha_118l, ha_118s, wk_16, wp_idivn, wk_4, wp_iremn, wc_94, hg_86_53, ha_119l, ha_119s, wn_ne_t, wn_ne_f, wp_goto, al_5955, al_5956, wp_iinc_4_1, al_5957, wp_iload_1, wz_ne_t, wz_ne_f, wb_ne_t, wb_ne_f, wm_ne_1, wm_ne_2, wp_i2l, wc_43, t_43, al_5958, wc_17, t_17, wp_iadd, wp_iinc_2_1, al_5959, wp_ireturn, nl_i, nl_r, nl_k, nl_j, nl_l, nI_add, pk_mul, pk_sub, tl_s, tl_n, aL_inl, u2_same, u2_ab, u2_aq, nI_l, lN_i, Nat.add_zero, Nat.zero_add, Nat.zero_le, true_and, and_true, b2n_10, b2n_T, b2n_F, b2n_0, Decidable.not_not, not_true_eq_false, not_false_eq_true, Nat.reduceAdd, Nat.reduceMul, Nat.reduceSub]
    exact hx
theorem am_sm {N1 : Nat → Nat → Nat} (hN : sN N1 N) : amB D N1 = amB D N := by
  funext q
  have e : ∀ k, mkB D N1 q k = mkB D N q k := by
    intro k
    unfold mkB
    rw [sN_89 hN, hN 118 k rfl, hN 119 k rfl]
  have e2 : ∀ k, amT D N1 q k = amT D N q k := by
    intro k
    induction k with
    | zero => rfl
    | succ k ih => rw [amT, amT, ih, e]
  unfold amB
  rw [e2, hN 86 51 rfl]
theorem o_laws (h : inv D N I J t) : opO ko d 207 93 [] D N I J x (t + 300) := by
  refine op_ans (v := .int (nI (cnP (amB D N) 64))) (m := lwNo (fsP (amB D N) 64)) (f := lwJo (fsP (amB D N) 64)) h (by
    cases fsP (amB D N) 64 with
    | none => exact Nat.zero_le _
    | some a => exact (by decide : 3 ≤ 36)) (by omega) ?_ ?_
  · intro Q hQ
    have hx := fun w w' => l_207a (ko := ko) (d := d) (D := D) (I := I) (x := x) (Q := Q) (N0 := N) (J0 := J) h.1 (fun N' J' hC => hQ N' I J' hC.1 sI_r hC.2.1 hC.2.2) 4 0 (u2 N 3 1 0) J w w' rfl ⟨sN_u sN_r rfl, sJ_r, u2_same _ _ _ _, fun i hi => absurd hi (Nat.not_lt_zero i)⟩
    rw [me_207]
    simp (disch := (first | omega | exact aCat_8 (by with_unfolding_all rfl) | exact rk_lt (by with_unfolding_all rfl) | exact aCat_16 (by with_unfolding_all rfl) | exact rk_eq (by with_unfolding_all rfl) | assumption | exact b2n_lt _ | exact id_b (by with_unfolding_all rfl) | (simp (disch := omega) only [u2_same, u2_ab, u2_aq]; done) | (simp (disch := omega) only [u2_same, u2_ab, u2_aq]; omega) | fail)) only [al_13248, wp_aloadr_0, wp_aloadk_0, hg_0_1, wc_292, t_292, wk_0, wp_istore_1, wp_istore_2, wp_jsr, wp_iload_2, wk_3, wn_gt_t, wn_gt_f, wp_istore_3, wp_iload_3, wp_istore_4, wp_iload_4, wc_208, wz_ne_t, wz_ne_f, wb_ne_t, wb_ne_f, wm_ne_1, wm_ne_2, wp_goto, al_13252, wp_iinc_1_1, wp_iload_1, wk_1, wn_ne_t, wn_ne_f, wp_i2l, wc_293, t_293, al_13253, wp_iinc_4_1, al_13254, wp_iinc_3_1, al_13255, wp_iinc_2_1, al_13256, wp_ireturn, nl_i, nl_r, nl_k, nl_j, nl_l, nI_add, pk_mul, pk_sub, tl_s, tl_n, aL_inl, u2_same, u2_ab, u2_aq, nI_l, lN_i, Nat.add_zero, Nat.zero_add, Nat.zero_le, true_and, and_true, b2n_10, b2n_T, b2n_F, b2n_0, Decidable.not_not, not_true_eq_false, not_false_eq_true, Nat.reduceAdd, Nat.reduceMul, Nat.reduceSub]
    exact hx _ _
  · intro N1 I1 J1 h1 hN hI hJ Q hQ
    rw [← am_sm hN] at hQ
    have hx := fun w w' => l_93 (ko := ko) (d := d) (D := D) (I := I1) (x := x) (Q := Q) (N0 := N1) (I0 := I1) (J0 := J1) h1 (fun N' J' hC => hQ N' I1 J' hC.1 sI_r hC.2.1 hC.2.2) 64 0 (u2 (u2 N1 86 0 0) 86 1 0) J1 w w' rfl ⟨qN_u (qN_u qN_r rfl) rfl, qJ_r, u2_same _ _ _ _, fun i hi => absurd hi (Nat.not_lt_zero i)⟩
    rw [me_93]
    simp (disch := (first | omega | exact aCat_8 (by with_unfolding_all rfl) | exact rk_lt (by with_unfolding_all rfl) | exact aCat_16 (by with_unfolding_all rfl) | exact rk_eq (by with_unfolding_all rfl) | assumption | exact b2n_lt _ | exact id_b (by with_unfolding_all rfl) | (simp (disch := omega) only [u2_same, u2_ab, u2_aq]; done) | (simp (disch := omega) only [u2_same, u2_ab, u2_aq]; omega) | fail)) only [al_5952, wp_aloadr_0, wp_aloadk_0, wk_0, hp_86_0, wp_istore_1, hp_86_1, wp_istore_2, wp_jsr, wp_iload_2, wk_64, wn_ge_t, wn_ge_f, wk_1, wp_istore_3, wp_istore_4, wp_iload_4, hg_86_51, wp_iload_3, wz_eq_t, wz_eq_f, wb_eq_t, wb_eq_f, wm_eq_1, wm_eq_2, hg_86_52, ha_118l, ha_118s, wk_16, wp_idivn, wk_4, wp_iremn, wc_94, hg_86_53, ha_119l, ha_119s, wn_ne_t, wn_ne_f, wp_goto, al_5955, al_5956, wp_iinc_4_1, al_5957, wp_iload_1, wz_ne_t, wz_ne_f, wb_ne_t, wb_ne_f, wm_ne_1, wm_ne_2, wp_i2l, wc_43, t_43, al_5958, wc_17, t_17, wp_iadd, wp_iinc_2_1, al_5959, wp_ireturn, nl_i, nl_r, nl_k, nl_j, nl_l, nI_add, pk_mul, pk_sub, tl_s, tl_n, aL_inl, u2_same, u2_ab, u2_aq, nI_l, lN_i, Nat.add_zero, Nat.zero_add, Nat.zero_le, true_and, and_true, b2n_10, b2n_T, b2n_F, b2n_0, Decidable.not_not, not_true_eq_false, not_false_eq_true, Nat.reduceAdd, Nat.reduceMul, Nat.reduceSub]
    exact hx _ _
end L3
