/-! longest. From wip/whole/src. -/
/-- the course, were there a wall more -/
def wcS (D : Nat → Nat) (N : Nat → Nat → Nat) (S : Nat → Nat) (f : Nat) : Nat × (Nat → Nat) × Bool := crsS D N (upn S (36 + f) 1)
/-- of the first i fields the one whose wall makes the course longest -/
def lgS (D : Nat → Nat) (N : Nat → Nat → Nat) (S : Nat → Nat) : Nat → Option (Nat × Nat)
  | 0 => none
  | i + 1 => if S (36 + i) = 1 ∨ i = S 108 then lgS D N S i else (match lgS D N S i with
    | none => some (i, (wcS D N S i).1)
    | some (b, l) => if l < (wcS D N S i).1 then some (i, (wcS D N S i).1) else some (b, l))
theorem lg_skip {D : Nat → Nat} {N : Nat → Nat → Nat} {S : Nat → Nat} {i : Nat} (h : S (36 + i) = 1 ∨ i = S 108) : lgS D N S (i + 1) = lgS D N S i := if_pos h
theorem lg_none {D : Nat → Nat} {N : Nat → Nat → Nat} {S : Nat → Nat} {i : Nat} (h : ¬ (S (36 + i) = 1 ∨ i = S 108)) (h2 : lgS D N S i = none) : lgS D N S (i + 1) = some (i, (wcS D N S i).1) := by rw [lgS, if_neg h, h2]
theorem lg_more {D : Nat → Nat} {N : Nat → Nat → Nat} {S : Nat → Nat} {i b l : Nat} (h : ¬ (S (36 + i) = 1 ∨ i = S 108)) (h2 : lgS D N S i = some (b, l)) (h3 : l < (wcS D N S i).1) : lgS D N S (i + 1) = some (i, (wcS D N S i).1) := by
  rw [lgS, if_neg h, h2]
  exact if_pos h3
theorem lg_less {D : Nat → Nat} {N : Nat → Nat → Nat} {S : Nat → Nat} {i b l : Nat} (h : ¬ (S (36 + i) = 1 ∨ i = S 108)) (h2 : lgS D N S i = some (b, l)) (h3 : ¬ l < (wcS D N S i).1) : lgS D N S (i + 1) = some (b, l) := by
  rw [lgS, if_neg h, h2]
  exact if_neg h3
section L1
variable {ko : aKo} {d k : Nat} {is : List Instr} {ls st : List Value} {σ : aH} {D : Nat → Nat} {N : Nat → Nat → Nat} {I : Nat → Nat → Int32} {J : Nat → Nat → Int64} {x t : Nat} {Q : Option Value → aH → Prop} {P : (Option Value ⊕ Unit) → aH → Prop}
theorem up_rw {S : Nat → Nat} {f : Nat} (hd : dmO D) (hS : rwO (D 1) S) (hz : rwZ (D 0 * D 1) S) (hf : f < D 0 * D 1) : rwO (D 1) (upn S (36 + f) 1) := (rw_wall hS hz hf (dm_F hd).1 (by decide)).1
theorem wc_K (h : invB D N I J t) {f : Nat} (hf : f < D 0 * D 1) : crK (D 0) (D 1) (wcS D N (N 89) f) := crsS_K h.1.1 (up_rw h.1.1 h.2.2.2.2.1.1 h.2.2.2.2.1.2.1 hf)
theorem lg_b (h : invB D N I J t) : ∀ i, i ≤ D 0 * D 1 → ∀ b l, lgS D N (N 89) i = some (b, l) → b < D 0 * D 1 ∧ l ≤ 36 := by
  have hF := dm_F h.1.1
  intro i
  induction i with
  | zero => intro _ b l e; cases e
  | succ i ih =>
    intro hi b l e
    have ih1 := ih (by omega)
    have hL := (wc_K h (f := i) (by omega)).1
    by_cases hs : N 89 (36 + i) = 1 ∨ i = N 89 108
    · rw [lg_skip hs] at e
      exact ih1 b l e
    · cases hq : lgS D N (N 89) i with
      | none =>
        rw [lg_none hs hq] at e
        cases e
        exact ⟨by omega, by omega⟩
      | some p =>
        obtain ⟨b', l'⟩ := p
        by_cases h3 : l' < (wcS D N (N 89) i).1
        · rw [lg_more hs hq h3] at e
          cases e
          exact ⟨by omega, by omega⟩
        · rw [lg_less hs hq h3] at e
          exact ih1 b l (hq.trans e)
theorem wc_eq (h : invB D N I J t) {f : Nat} {wl : Int64} (hf : f < D 0 * D 1) (hw : ∀ g, g < D 0 * D 1 → tb wl g = (wlS (N 89) g || decide (g = f))) : crs0 (D 2) (D 3) (dslG (D 3) (N 93) (N 86 18) (skC N) (N 89)) (tb wl) (N 89 108) = wcS D N (N 89) f := by
  have hF := dm_F h.1.1
  have h89 := h.2.2.2.2.1
  have hs := h89.1.2.1
  have hd := h.1.1
  have e : ∀ q, q ≠ 36 + f → upn (N 89) (36 + f) 1 q = N 89 q := fun q hq => by rw [upn, if_neg hq]
  rw [h.1.2.1, h.1.2.2.1, inv_sk h]
  unfold wcS crsS
  rw [e 108 (by omega)]
  refine crs0_congr (by have := hd.2.2.1; omega) (by omega) ?_ ?_
  · intro g hg
    rw [hw g hg]
    unfold wlS
    by_cases z : g = f
    · subst z; simp [upn]
    · rw [e (36 + g) (by omega)]; simp [z]
  · intro g b hg hb
    unfold dslG dsl asks
    rw [e g (by omega), e (72 + g) (by omega), e 109 (by omega)]
/-- the class, while it tries walls -/
def lgO (D : Nat → Nat) (N0 N : Nat → Nat → Nat) (I0 I : Nat → Nat → Int32) (J0 J : Nat → Nat → Int64) : Prop := rvA D N I J 20 11 (N0 93) (N0 86 18) (N0 89) ∧ rvO D N I J 20 11 (N0 93) (N0 86 18) (skC N0) (N0 89) ∧ sN N N0 ∧ sI I I0 ∧ sJ J J0 ∧ tdSC N N0 J J0 ∧ tdSR N N0 J J0
theorem lg_1 {N0 : Nat → Nat → Nat} {I0 : Nat → Nat → Int32} {J0 : Nat → Nat → Int64} {f : Nat} (h : invB D N0 I0 J0 t) (hf : f < D 0 * D 1) (hO : lgO D N0 N I0 I J0 J)
    (hQ : ∀ (N' : Nat → Nat → Nat) (I' : Nat → Nat → Int32) (J' : Nat → Nat → Int64), lgO D N0 N' I0 I' J0 J' → N' 26 9 = (wcS D N0 (N0 89) f).1 → Q none (hp D N' I' J' x)) : aMm ko d 256 [.ref 26, .long (J 20 1 ||| lN 1 <<< (lN f &&& 63))] (hp D N I J x) Q := by
  obtain ⟨hA, hv, hN, hI, hJ, hC, hR⟩ := hO
  have hF := dm_F h.1.1
  refine t_256 (sk := skC N0) rfl rfl hA hv ?_
  intro N' I' J' hv' hN' hI' hJ' hc
  rw [wc_eq h hf (by
    intro g hg
    rw [tb_or, tb_p2 (by omega) (by omega), wl_tb (R := D 0) (C := D 1) hA.2.1 hF.1 g hg])] at hc
  refine hQ N' I' J' ⟨rvA_f rfl rfl hA hN' hI' hJ', hv', sN_t (fN_s hN') hN, sI_t (fI_s hI') hI, sJ_t (fJ_s hJ') hJ, ⟨(hN' 3 1 (by decide) (by omega)).trans hC.1, fun q => (hJ' 4 q (by decide) (by omega)).trans (hC.2 q)⟩, ⟨(hN' 86 1 (by decide) (by omega)).trans hR.1, fun q => (hJ' 87 q (by decide) (by omega)).trans (hR.2 q)⟩⟩ hc.1
def oB (o : Option (Nat × Nat)) : Int32 := match o with
  | none => -1
  | some (b, _) => nI b
def oL (o : Option (Nat × Nat)) : Int32 := match o with
  | none => nI 0
  | some (_, l) => nI l
theorem l_187 {N0 : Nat → Nat → Nat} {I0 : Nat → Nat → Int32} {J0 : Nat → Nat → Int64} {L0 : Nat} (h : invB D N0 I0 J0 t) (hL0 : L0 ≤ 36)
    (hN : lgS D N0 (N0 89) (D 0 * D 1) = none → ∀ (N' : Nat → Nat → Nat) (I' : Nat → Nat → Int32) (J' : Nat → Nat → Int64), sN N' N0 → sI I' I0 → sJ J' J0 → tdSC N' N0 J' J0 → tdSR N' N0 J' J0 → Q (some (.int (-2))) (hp D N' I' J' x))
    (hS : ∀ b l, lgS D N0 (N0 89) (D 0 * D 1) = some (b, l) → ansC D N0 I0 J0 x (.int (nI b)) 2 (fun i => if i = 0 then lN l else lN L0) Q) :
    ∀ (j i : Nat) (N : Nat → Nat → Nat) (I : Nat → Nat → Int32) (J : Nat → Nat → Int64), i + j = D 0 * D 1 → lgO D N0 N I0 I J0 J → aWp ko d 187 (aP.1 (Int.toNat 11969)) [.ref 0, .int (nI L0), .int (oB (lgS D N0 (N0 89) i)), .int (oL (lgS D N0 (N0 89) i)), .int (nI i)] [] (hp D N I J x) (aL Q) := by
  have hF := dm_F h.1.1
  have h4 := inv_d4 h
  have h89 := h.2.2.2.2.1
  intro j
  induction j with
  | zero =>
    intro i N I J hi hO
    have e : i = D 0 * D 1 := by omega
    subst e
    cases hq : lgS D N0 (N0 89) (D 0 * D 1) with
    | none =>
      have e1 : oB none = -1 := rfl
      have e2 : oL none = nI 0 := rfl
      rw [e1, e2]
      simp (disch := (first | omega | exact aCat_8 (by with_unfolding_all rfl) | exact rk_lt (by with_unfolding_all rfl) | exact aCat_16 (by with_unfolding_all rfl) | exact rk_eq (by with_unfolding_all rfl) | assumption | exact b2n_lt _ | exact id_b (by with_unfolding_all rfl) | (simp (disch := omega) only [u2_same, u2_ab, u2_aq]; done) | (simp (disch := omega) only [u2_same, u2_ab, u2_aq]; omega) | fail)) only [al_11968, wp_aloadr_0, wp_aloadk_0, hg_0_10, hg_0_7, hg_0_4, wc_260, hg_26_9, wp_istore_1, wk_m1, wp_istore_2, wk_0, wp_istore_3, wp_istore_4, wp_jsr, al_11969, wp_iload_4, hg_0_2, hg_5_2, wn_ge_t, wn_ge_f, hg_20_3, hg_22_3, hg_24_3, wn_eq_t, wn_eq_f, hg_20_1, hg_22_1, hg_24_1, wc_161, t_161, wk_1, wn_ne_t, wn_ne_f, wp_goto, al_11970, wl_1, wp_lshl, wp_lor, wc_256, wp_iload_2, wp_iload_3, wn_le_t, wn_le_f, al_11971, al_11972, wp_iinc_4_1, al_11973, wk_m2, wp_ireturn, al_11974, hg_0_1, wc_292, t_292, wp_i2l, wc_293, t_293, wp_iload_1, nl_i, nl_r, nl_k, nl_j, nl_l, nI_add, pk_mul, pk_sub, tl_s, tl_n, aL_inl, u2_same, u2_ab, u2_aq, nI_l, lN_i, Nat.add_zero, Nat.zero_add, Nat.zero_le, true_and, and_true, b2n_10, b2n_T, b2n_F, b2n_0, Decidable.not_not, not_true_eq_false, not_false_eq_true, Nat.reduceAdd, Nat.reduceMul, Nat.reduceSub, h4, qe_n1, qe_m1, qn_n1, qn_m1, qe_n2, qe_m2, qn_n2, qn_m2]
      exact hN hq N I J hO.2.2.1 hO.2.2.2.1 hO.2.2.2.2.1 hO.2.2.2.2.2.1 hO.2.2.2.2.2.2
    | some p =>
      obtain ⟨b, l⟩ := p
      obtain ⟨b1, l1⟩ := lg_b h _ (Nat.le_refl _) b l hq
      have e1 : oB (some (b, l)) = nI b := rfl
      have e2 : oL (some (b, l)) = nI l := rfl
      rw [e1, e2]
      simp (disch := (first | omega | exact aCat_8 (by with_unfolding_all rfl) | exact rk_lt (by with_unfolding_all rfl) | exact aCat_16 (by with_unfolding_all rfl) | exact rk_eq (by with_unfolding_all rfl) | assumption | exact b2n_lt _ | exact id_b (by with_unfolding_all rfl) | (simp (disch := omega) only [u2_same, u2_ab, u2_aq]; done) | (simp (disch := omega) only [u2_same, u2_ab, u2_aq]; omega) | fail)) only [al_11968, wp_aloadr_0, wp_aloadk_0, hg_0_10, hg_0_7, hg_0_4, wc_260, hg_26_9, wp_istore_1, wk_m1, wp_istore_2, wk_0, wp_istore_3, wp_istore_4, wp_jsr, al_11969, wp_iload_4, hg_0_2, hg_5_2, wn_ge_t, wn_ge_f, hg_20_3, hg_22_3, hg_24_3, wn_eq_t, wn_eq_f, hg_20_1, hg_22_1, hg_24_1, wc_161, t_161, wk_1, wn_ne_t, wn_ne_f, wp_goto, al_11970, wl_1, wp_lshl, wp_lor, wc_256, wp_iload_2, wp_iload_3, wn_le_t, wn_le_f, al_11971, al_11972, wp_iinc_4_1, al_11973, wk_m2, wp_ireturn, al_11974, hg_0_1, wc_292, t_292, wp_i2l, wc_293, t_293, wp_iload_1, nl_i, nl_r, nl_k, nl_j, nl_l, nI_add, pk_mul, pk_sub, tl_s, tl_n, aL_inl, u2_same, u2_ab, u2_aq, nI_l, lN_i, Nat.add_zero, Nat.zero_add, Nat.zero_le, true_and, and_true, b2n_10, b2n_T, b2n_F, b2n_0, Decidable.not_not, not_true_eq_false, not_false_eq_true, Nat.reduceAdd, Nat.reduceMul, Nat.reduceSub, h4, qe_n1, qe_m1, qn_n1, qn_m1, qe_n2, qe_m2, qn_n2, qn_m2]
      refine hS b l hq _ _ _ ?_ hO.2.2.2.1 ?_ td2C
      · exact sN_u (sN_u (sN_u hO.2.2.1 rfl) rfl) rfl
      · exact sJ_u (sJ_u hO.2.2.2.2.1 rfl) rfl
  | succ j ih =>
    intro i N I J hi hO
    have hif : i < D 0 * D 1 := by omega
    have ih1 := fun N I J => ih (i + 1) N I J (by omega)
    have hcl := hO.1.2.1
    have h108 := h89.1.2.1
    have e203 := hcl.2.2.1
    have hbit := (hcl.2.1 i (by omega)).1
    have hL := (wc_K h hif).1
    have hi36 : i < 36 := by omega
    rw [al_11969]
    by_cases hsrc : i = N0 89 108
    · rw [lg_skip (Or.inr hsrc)] at ih1
      have e203' : N 20 3 = i := e203.trans hsrc.symm
      simp (disch := (first | omega | exact aCat_8 (by with_unfolding_all rfl) | exact rk_lt (by with_unfolding_all rfl) | exact aCat_16 (by with_unfolding_all rfl) | exact rk_eq (by with_unfolding_all rfl) | assumption | exact b2n_lt _ | exact id_b (by with_unfolding_all rfl) | (simp (disch := omega) only [u2_same, u2_ab, u2_aq]; done) | (simp (disch := omega) only [u2_same, u2_ab, u2_aq]; omega) | fail)) only [al_11968, wp_aloadr_0, wp_aloadk_0, hg_0_10, hg_0_7, hg_0_4, wc_260, hg_26_9, wp_istore_1, wk_m1, wp_istore_2, wk_0, wp_istore_3, wp_istore_4, wp_jsr, wp_iload_4, hg_0_2, hg_5_2, wn_ge_t, wn_ge_f, hg_20_3, hg_22_3, hg_24_3, wn_eq_t, wn_eq_f, hg_20_1, hg_22_1, hg_24_1, wc_161, t_161, wk_1, wn_ne_t, wn_ne_f, wp_goto, al_11970, wl_1, wp_lshl, wp_lor, wc_256, wp_iload_2, wp_iload_3, wn_le_t, wn_le_f, al_11971, al_11972, wp_iinc_4_1, al_11973, wk_m2, wp_ireturn, al_11974, hg_0_1, wc_292, t_292, wp_i2l, wc_293, t_293, wp_iload_1, nl_i, nl_r, nl_k, nl_j, nl_l, nI_add, pk_mul, pk_sub, tl_s, tl_n, aL_inl, u2_same, u2_ab, u2_aq, nI_l, lN_i, Nat.add_zero, Nat.zero_add, Nat.zero_le, true_and, and_true, b2n_10, b2n_T, b2n_F, b2n_0, Decidable.not_not, not_true_eq_false, not_false_eq_true, Nat.reduceAdd, Nat.reduceMul, Nat.reduceSub, h4, e203']
      exact ih1 N I J hO
    · by_cases hw : N0 89 (36 + i) = 1
      · rw [lg_skip (Or.inl hw)] at ih1
        have hb : tb (J 20 1) i = true := by rw [hbit, hw]; simp [hi36]
        simp (disch := (first | omega | exact aCat_8 (by with_unfolding_all rfl) | exact rk_lt (by with_unfolding_all rfl) | exact aCat_16 (by with_unfolding_all rfl) | exact rk_eq (by with_unfolding_all rfl) | assumption | exact b2n_lt _ | exact id_b (by with_unfolding_all rfl) | (simp (disch := omega) only [u2_same, u2_ab, u2_aq]; done) | (simp (disch := omega) only [u2_same, u2_ab, u2_aq]; omega) | fail)) only [al_11968, wp_aloadr_0, wp_aloadk_0, hg_0_10, hg_0_7, hg_0_4, wc_260, hg_26_9, wp_istore_1, wk_m1, wp_istore_2, wk_0, wp_istore_3, wp_istore_4, wp_jsr, wp_iload_4, hg_0_2, hg_5_2, wn_ge_t, wn_ge_f, hg_20_3, hg_22_3, hg_24_3, wn_eq_t, wn_eq_f, hg_20_1, hg_22_1, hg_24_1, wc_161, t_161, wk_1, wn_ne_t, wn_ne_f, wp_goto, al_11970, wl_1, wp_lshl, wp_lor, wc_256, wp_iload_2, wp_iload_3, wn_le_t, wn_le_f, al_11971, al_11972, wp_iinc_4_1, al_11973, wk_m2, wp_ireturn, al_11974, hg_0_1, wc_292, t_292, wp_i2l, wc_293, t_293, wp_iload_1, nl_i, nl_r, nl_k, nl_j, nl_l, nI_add, pk_mul, pk_sub, tl_s, tl_n, aL_inl, u2_same, u2_ab, u2_aq, nI_l, lN_i, Nat.add_zero, Nat.zero_add, Nat.zero_le, true_and, and_true, b2n_10, b2n_T, b2n_F, b2n_0, Decidable.not_not, not_true_eq_false, not_false_eq_true, Nat.reduceAdd, Nat.reduceMul, Nat.reduceSub, h4, e203, b2n_t hb]
        exact ih1 N I J hO
      · have hskip : ¬ (N0 89 (36 + i) = 1 ∨ i = N0 89 108) := by omega
        have hb : ¬ tb (J 20 1) i = true := by rw [hbit]; simp [hw]
        cases hq : lgS D N0 (N0 89) i with
        | none =>
          rw [lg_none hskip hq] at ih1
          have e1 : oB none = -1 := rfl
          have e2 : oL none = nI 0 := rfl
          have e3 : oB (some (i, (wcS D N0 (N0 89) i).1)) = nI i := rfl
          have e4 : oL (some (i, (wcS D N0 (N0 89) i).1)) = nI (wcS D N0 (N0 89) i).1 := rfl
          rw [e3, e4] at ih1
          rw [e1, e2]
          simp (disch := (first | omega | exact aCat_8 (by with_unfolding_all rfl) | exact rk_lt (by with_unfolding_all rfl) | exact aCat_16 (by with_unfolding_all rfl) | exact rk_eq (by with_unfolding_all rfl) | assumption | exact b2n_lt _ | exact id_b (by with_unfolding_all rfl) | (simp (disch := omega) only [u2_same, u2_ab, u2_aq]; done) | (simp (disch := omega) only [u2_same, u2_ab, u2_aq]; omega) | fail)) only [al_11968, wp_aloadr_0, wp_aloadk_0, hg_0_10, hg_0_7, hg_0_4, wc_260, hg_26_9, wp_istore_1, wk_m1, wp_istore_2, wk_0, wp_istore_3, wp_istore_4, wp_jsr, wp_iload_4, hg_0_2, hg_5_2, wn_ge_t, wn_ge_f, hg_20_3, hg_22_3, hg_24_3, wn_eq_t, wn_eq_f, hg_20_1, hg_22_1, hg_24_1, wc_161, t_161, wk_1, wn_ne_t, wn_ne_f, wp_goto, al_11970, wl_1, wp_lshl, wp_lor, wc_256, wp_iload_2, wp_iload_3, wn_le_t, wn_le_f, al_11971, al_11972, wp_iinc_4_1, al_11973, wk_m2, wp_ireturn, al_11974, hg_0_1, wc_292, t_292, wp_i2l, wc_293, t_293, wp_iload_1, nl_i, nl_r, nl_k, nl_j, nl_l, nI_add, pk_mul, pk_sub, tl_s, tl_n, aL_inl, u2_same, u2_ab, u2_aq, nI_l, lN_i, Nat.add_zero, Nat.zero_add, Nat.zero_le, true_and, and_true, b2n_10, b2n_T, b2n_F, b2n_0, Decidable.not_not, not_true_eq_false, not_false_eq_true, Nat.reduceAdd, Nat.reduceMul, Nat.reduceSub, h4, e203, b2n_f hb, qe_n1, qe_m1, qn_n1, qn_m1, qe_n2, qe_m2, qn_n2, qn_m2]
          refine lg_1 h hif hO ?_
          intro N' I' J' hO' h9
          simp (disch := (first | omega | exact aCat_8 (by with_unfolding_all rfl) | exact rk_lt (by with_unfolding_all rfl) | exact aCat_16 (by with_unfolding_all rfl) | exact rk_eq (by with_unfolding_all rfl) | assumption | exact b2n_lt _ | exact id_b (by with_unfolding_all rfl) | (simp (disch := omega) only [u2_same, u2_ab, u2_aq]; done) | (simp (disch := omega) only [u2_same, u2_ab, u2_aq]; omega) | fail)) only [al_11968, wp_aloadr_0, wp_aloadk_0, hg_0_10, hg_0_7, hg_0_4, wc_260, hg_26_9, wp_istore_1, wk_m1, wp_istore_2, wk_0, wp_istore_3, wp_istore_4, wp_jsr, wp_iload_4, hg_0_2, hg_5_2, wn_ge_t, wn_ge_f, hg_20_3, hg_22_3, hg_24_3, wn_eq_t, wn_eq_f, hg_20_1, hg_22_1, hg_24_1, wc_161, t_161, wk_1, wn_ne_t, wn_ne_f, wp_goto, al_11970, wl_1, wp_lshl, wp_lor, wc_256, wp_iload_2, wp_iload_3, wn_le_t, wn_le_f, al_11971, al_11972, wp_iinc_4_1, al_11973, wk_m2, wp_ireturn, al_11974, hg_0_1, wc_292, t_292, wp_i2l, wc_293, t_293, wp_iload_1, nl_i, nl_r, nl_k, nl_j, nl_l, nI_add, pk_mul, pk_sub, tl_s, tl_n, aL_inl, u2_same, u2_ab, u2_aq, nI_l, lN_i, Nat.add_zero, Nat.zero_add, Nat.zero_le, true_and, and_true, b2n_10, b2n_T, b2n_F, b2n_0, Decidable.not_not, not_true_eq_false, not_false_eq_true, Nat.reduceAdd, Nat.reduceMul, Nat.reduceSub, h9, qe_n1, qe_m1, qn_n1, qn_m1, qe_n2, qe_m2, qn_n2, qn_m2]
          exact ih1 N' I' J' hO'
        | some p =>
          obtain ⟨b, l⟩ := p
          obtain ⟨b1, l1⟩ := lg_b h i (by omega) b l hq
          have e1 : oB (some (b, l)) = nI b := rfl
          have e2 : oL (some (b, l)) = nI l := rfl
          rw [e1, e2]
          simp (disch := (first | omega | exact aCat_8 (by with_unfolding_all rfl) | exact rk_lt (by with_unfolding_all rfl) | exact aCat_16 (by with_unfolding_all rfl) | exact rk_eq (by with_unfolding_all rfl) | assumption | exact b2n_lt _ | exact id_b (by with_unfolding_all rfl) | (simp (disch := omega) only [u2_same, u2_ab, u2_aq]; done) | (simp (disch := omega) only [u2_same, u2_ab, u2_aq]; omega) | fail)) only [al_11968, wp_aloadr_0, wp_aloadk_0, hg_0_10, hg_0_7, hg_0_4, wc_260, hg_26_9, wp_istore_1, wk_m1, wp_istore_2, wk_0, wp_istore_3, wp_istore_4, wp_jsr, wp_iload_4, hg_0_2, hg_5_2, wn_ge_t, wn_ge_f, hg_20_3, hg_22_3, hg_24_3, wn_eq_t, wn_eq_f, hg_20_1, hg_22_1, hg_24_1, wc_161, t_161, wk_1, wn_ne_t, wn_ne_f, wp_goto, al_11970, wl_1, wp_lshl, wp_lor, wc_256, wp_iload_2, wp_iload_3, wn_le_t, wn_le_f, al_11971, al_11972, wp_iinc_4_1, al_11973, wk_m2, wp_ireturn, al_11974, hg_0_1, wc_292, t_292, wp_i2l, wc_293, t_293, wp_iload_1, nl_i, nl_r, nl_k, nl_j, nl_l, nI_add, pk_mul, pk_sub, tl_s, tl_n, aL_inl, u2_same, u2_ab, u2_aq, nI_l, lN_i, Nat.add_zero, Nat.zero_add, Nat.zero_le, true_and, and_true, b2n_10, b2n_T, b2n_F, b2n_0, Decidable.not_not, not_true_eq_false, not_false_eq_true, Nat.reduceAdd, Nat.reduceMul, Nat.reduceSub, h4, e203, b2n_f hb, qe_n1, qe_m1, qn_n1, qn_m1, qe_n2, qe_m2, qn_n2, qn_m2]
          refine lg_1 h hif hO ?_
          intro N' I' J' hO' h9
          by_cases h3 : l < (wcS D N0 (N0 89) i).1
          · rw [lg_more hskip hq h3] at ih1
            have e3 : oB (some (i, (wcS D N0 (N0 89) i).1)) = nI i := rfl
            have e4 : oL (some (i, (wcS D N0 (N0 89) i).1)) = nI (wcS D N0 (N0 89) i).1 := rfl
            rw [e3, e4] at ih1
            simp (disch := (first | omega | exact aCat_8 (by with_unfolding_all rfl) | exact rk_lt (by with_unfolding_all rfl) | exact aCat_16 (by with_unfolding_all rfl) | exact rk_eq (by with_unfolding_all rfl) | assumption | exact b2n_lt _ | exact id_b (by with_unfolding_all rfl) | (simp (disch := omega) only [u2_same, u2_ab, u2_aq]; done) | (simp (disch := omega) only [u2_same, u2_ab, u2_aq]; omega) | fail)) only [al_11968, wp_aloadr_0, wp_aloadk_0, hg_0_10, hg_0_7, hg_0_4, wc_260, hg_26_9, wp_istore_1, wk_m1, wp_istore_2, wk_0, wp_istore_3, wp_istore_4, wp_jsr, wp_iload_4, hg_0_2, hg_5_2, wn_ge_t, wn_ge_f, hg_20_3, hg_22_3, hg_24_3, wn_eq_t, wn_eq_f, hg_20_1, hg_22_1, hg_24_1, wc_161, t_161, wk_1, wn_ne_t, wn_ne_f, wp_goto, al_11970, wl_1, wp_lshl, wp_lor, wc_256, wp_iload_2, wp_iload_3, wn_le_t, wn_le_f, al_11971, al_11972, wp_iinc_4_1, al_11973, wk_m2, wp_ireturn, al_11974, hg_0_1, wc_292, t_292, wp_i2l, wc_293, t_293, wp_iload_1, nl_i, nl_r, nl_k, nl_j, nl_l, nI_add, pk_mul, pk_sub, tl_s, tl_n, aL_inl, u2_same, u2_ab, u2_aq, nI_l, lN_i, Nat.add_zero, Nat.zero_add, Nat.zero_le, true_and, and_true, b2n_10, b2n_T, b2n_F, b2n_0, Decidable.not_not, not_true_eq_false, not_false_eq_true, Nat.reduceAdd, Nat.reduceMul, Nat.reduceSub, h9, qe_n1, qe_m1, qn_n1, qn_m1, qe_n2, qe_m2, qn_n2, qn_m2]
            exact ih1 N' I' J' hO'
          · rw [lg_less hskip hq h3, e1, e2] at ih1
            simp (disch := (first | omega | exact aCat_8 (by with_unfolding_all rfl) | exact rk_lt (by with_unfolding_all rfl) | exact aCat_16 (by with_unfolding_all rfl) | exact rk_eq (by with_unfolding_all rfl) | assumption | exact b2n_lt _ | exact id_b (by with_unfolding_all rfl) | (simp (disch := omega) only [u2_same, u2_ab, u2_aq]; done) | (simp (disch := omega) only [u2_same, u2_ab, u2_aq]; omega) | fail)) only [al_11968, wp_aloadr_0, wp_aloadk_0, hg_0_10, hg_0_7, hg_0_4, wc_260, hg_26_9, wp_istore_1, wk_m1, wp_istore_2, wk_0, wp_istore_3, wp_istore_4, wp_jsr, wp_iload_4, hg_0_2, hg_5_2, wn_ge_t, wn_ge_f, hg_20_3, hg_22_3, hg_24_3, wn_eq_t, wn_eq_f, hg_20_1, hg_22_1, hg_24_1, wc_161, t_161, wk_1, wn_ne_t, wn_ne_f, wp_goto, al_11970, wl_1, wp_lshl, wp_lor, wc_256, wp_iload_2, wp_iload_3, wn_le_t, wn_le_f, al_11971, al_11972, wp_iinc_4_1, al_11973, wk_m2, wp_ireturn, al_11974, hg_0_1, wc_292, t_292, wp_i2l, wc_293, t_293, wp_iload_1, nl_i, nl_r, nl_k, nl_j, nl_l, nI_add, pk_mul, pk_sub, tl_s, tl_n, aL_inl, u2_same, u2_ab, u2_aq, nI_l, lN_i, Nat.add_zero, Nat.zero_add, Nat.zero_le, true_and, and_true, b2n_10, b2n_T, b2n_F, b2n_0, Decidable.not_not, not_true_eq_false, not_false_eq_true, Nat.reduceAdd, Nat.reduceMul, Nat.reduceSub, h9, qe_n1, qe_m1, qn_n1, qn_m1, qe_n2, qe_m2, qn_n2, qn_m2]
            exact ih1 N' I' J' hO'
end L1
