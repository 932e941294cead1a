/-! laws. From wip/whole/src. -/
/-- of how many of the first m it is so; which is the first -/
def cnP (p : Nat → Bool) : Nat → Nat
  | 0 => 0
  | m + 1 => cnP p m + b2n (p m = true)
def fsP (p : Nat → Bool) : Nat → Option Nat
  | 0 => none
  | m + 1 => match fsP p m with
    | some a => some a
    | none => if p m = true then some m else none
theorem cn_le {p : Nat → Bool} : ∀ m, cnP p m ≤ m
  | 0 => Nat.le_refl _
  | m + 1 => by
    have := cn_le (p := p) m
    have := b2n_le (p m = true)
    rw [cnP]
    omega
theorem cn_f {p : Nat → Bool} {m : Nat} (h : ¬ p m = true) : cnP p (m + 1) = cnP p m ∧ fsP p (m + 1) = fsP p m := by
  refine ⟨by rw [cnP, b2n_f h, Nat.add_zero], ?_⟩
  rw [fsP]
  cases fsP p m with
  | none => exact if_neg h
  | some a => rfl
theorem cn_0 {p : Nat → Bool} : ∀ m, (cnP p m = 0 ↔ fsP p m = none)
  | 0 => ⟨fun _ => rfl, fun _ => rfl⟩
  | m + 1 => by
    have ih := cn_0 (p := p) m
    by_cases h : p m = true
    · rw [cnP, b2n_t h, fsP]
      cases hq : fsP p m with
      | none =>
        show _ ↔ (if p m = true then some m else none) = none
        rw [if_pos h]
        exact ⟨fun z => by omega, fun z => by cases z⟩
      | some a =>
        show _ ↔ some a = none
        exact ⟨fun z => by omega, fun z => by cases z⟩
    · rw [(cn_f h).1, (cn_f h).2]
      exact ih
theorem cn_t0 {p : Nat → Bool} {m : Nat} (h : p m = true) (h0 : cnP p m = 0) : cnP p (m + 1) = 1 ∧ fsP p (m + 1) = some m := by
  refine ⟨by rw [cnP, b2n_t h, h0], ?_⟩
  rw [fsP, (cn_0 m).mp h0]
  exact if_pos h
theorem cn_t1 {p : Nat → Bool} {m : Nat} (h : p m = true) (h0 : ¬ cnP p m = 0) : cnP p (m + 1) = cnP p m + 1 ∧ fsP p (m + 1) = fsP p m := by
  refine ⟨by rw [cnP, b2n_t h], ?_⟩
  cases hq : fsP p m with
  | none => exact absurd ((cn_0 m).mpr hq) h0
  | some a => rw [fsP, hq]
/-- how little a way is liked by a law -/
def lwV (S : Nat → Nat) (a b c g w : Nat) : Int32 := nI (a * S g + (if w = 0 then 0 else b)) - nI (c * S (72 + g))
/-- the way that a law takes, of the first w -/
def gbw (R C : Nat) (S : Nat → Nat) (a b c f : Nat) : Nat → Option (Nat × Int32)
  | 0 => none
  | w + 1 => match bsd R C f w with
    | none => gbw R C S a b c f w
    | some g => if S (36 + g) = 1 then gbw R C S a b c f w else (match gbw R C S a b c f w with
      | none => some (w, lwV S a b c g w)
      | some (u, l) => if lwV S a b c g w < l then some (w, lwV S a b c g w) else some (u, l))
def gbI (o : Option (Nat × Int32)) : Int32 := match o with
  | none => -1
  | some (u, _) => nI u
def gbV (o : Option (Nat × Int32)) : Int32 := match o with
  | none => nI 0
  | some (_, l) => l
theorem gbw_lt {R C : Nat} {S : Nat → Nat} {a b c f : Nat} : ∀ w u l, gbw R C S a b c f w = some (u, l) → u < w := by
  intro w
  induction w with
  | zero => intro u l h; cases h
  | succ w ih =>
    intro u l h
    rw [gbw] at h
    cases hb : bsd R C f w with
    | none =>
      rw [hb] at h
      have := ih u l h
      omega
    | some g =>
      rw [hb] at h
      dsimp only at h
      split at h
      · have := ih u l h
        omega
      · cases hq : gbw R C S a b c f w with
        | none =>
          rw [hq] at h
          cases h
          omega
        | some p =>
          obtain ⟨u', l'⟩ := p
          rw [hq] at h
          dsimp only at h
          split at h
          · cases h
            omega
          · cases h
            have := ih u l hq
            omega
section L1
variable {ko : aKo} {d k : Nat} {is : List Instr} {ls st : List Value} {σ : aH} {D : Nat → Nat} {N : Nat → Nat → Nat} {I : Nat → Nat → Int32} {J : Nat → Nat → Int64} {x t : Nat} {Q : Option Value → aH → Prop} {P : (Option Value ⊕ Unit) → aH → Prop}
theorem l_209 {a b c f : Nat} {S : Nat → Nat} (hL : ldO D N I J) (hS : clS N J 20 S) (hw : rwO (D 3) S) (ha : a ≤ 3) (hb : b ≤ 3) (hc : c ≤ 3) (hf : f < D 2 * D 3) :
    ∀ (j w : Nat) (w8 w9 : Value), w + j = 3 → aWp ko d 209 (aP.1 (Int.toNat 13377)) [.ref 0, .int (nI f), .int (nI a), .int (nI b), .int (nI c), .int (gbI (gbw (D 2) (D 3) S a b c f w)), .int (gbV (gbw (D 2) (D 3) S a b c f w)), .int (nI w), w8, w9] [] (hp D N I J x) (aL Q) = Q (some (.int (gbI (gbw (D 2) (D 3) S a b c f 3)))) (hp D N I J x) := by
  have hF := ld_F hL
  intro j
  induction j with
  | zero =>
    intro w w8 w9 hj
    have e : w = 3 := by omega
    subst e
    rw [al_13377]
    simp (disch := (first | omega | exact aCat_8 (by with_unfolding_all rfl) | exact rk_lt (by with_unfolding_all rfl) | exact aCat_16 (by with_unfolding_all rfl) | exact rk_eq (by with_unfolding_all rfl) | assumption | exact b2n_lt _ | exact id_b (by with_unfolding_all rfl) | (simp (disch := omega) only [u2_same, u2_ab, u2_aq]; done) | (simp (disch := omega) only [u2_same, u2_ab, u2_aq]; omega) | fail)) only [al_13376, wk_m1, wp_istore_5, wk_0, wp_istore_6, wp_istore_7, wp_jsr, wp_iload_7, wk_3, wn_ge_t, wn_ge_f, wp_aloadr_0, wp_aloadk_0, hg_0_2, wp_iload_1, wc_241, wp_istore_8, wp_iload_8, wn_eq_t, wn_eq_f, hg_0_7, hg_20_1, hg_22_1, hg_24_1, wc_161, t_161, wk_1, wn_ne_t, wn_ne_f, wp_goto, al_13378, wp_iload_2, hg_20_0, ha_21l, ha_21s, hg_22_0, ha_23l, ha_23s, hg_24_0, ha_25l, ha_25s, wp_imul, wz_ne_t, wz_ne_f, wb_ne_t, wb_ne_f, wm_ne_1, wm_ne_2, al_13379, wp_iload_3, al_13380, wp_iadd, wp_iload_4, hg_20_2, hg_22_2, hg_24_2, wp_isub, wp_istore_9, wp_iload_5, wp_iload_9, wp_iload_6, al_13381, al_13382, wp_iinc_7_1, al_13383, wp_ireturn, nl_i, nl_r, nl_k, nl_j, nl_l, nI_add, pk_mul, pk_sub, tl_s, tl_n, aL_inl, u2_same, u2_ab, u2_aq, nI_l, lN_i, Nat.add_zero, Nat.zero_add, Nat.zero_le, true_and, and_true, b2n_10, b2n_T, b2n_F, b2n_0, Decidable.not_not, not_true_eq_false, not_false_eq_true, Nat.reduceAdd, Nat.reduceMul, Nat.reduceSub]
  | succ j ih =>
    intro w w8 w9 hj
    have h241 := fun Q => t_241 (ko := ko) (d := d) (D := D) (N := N) (I := I) (J := J) (x := x) (Q := Q) (f := f) (w := w) hL hf (by omega)
    have ih1 := fun w8 w9 => ih (w + 1) w8 w9 (by omega)
    rw [gbw] at ih1
    rw [al_13377]
    cases hbs : bsd (D 2) (D 3) f w with
    | none =>
      rw [hbs] at ih1 h241
      simp (disch := (first | omega | exact aCat_8 (by with_unfolding_all rfl) | exact rk_lt (by with_unfolding_all rfl) | exact aCat_16 (by with_unfolding_all rfl) | exact rk_eq (by with_unfolding_all rfl) | assumption | exact b2n_lt _ | exact id_b (by with_unfolding_all rfl) | (simp (disch := omega) only [u2_same, u2_ab, u2_aq]; done) | (simp (disch := omega) only [u2_same, u2_ab, u2_aq]; omega) | fail)) only [al_13376, wk_m1, wp_istore_5, wk_0, wp_istore_6, wp_istore_7, wp_jsr, wp_iload_7, wk_3, wn_ge_t, wn_ge_f, wp_aloadr_0, wp_aloadk_0, hg_0_2, wp_iload_1, wc_241, wp_istore_8, wp_iload_8, wn_eq_t, wn_eq_f, hg_0_7, hg_20_1, hg_22_1, hg_24_1, wc_161, t_161, wk_1, wn_ne_t, wn_ne_f, wp_goto, al_13378, wp_iload_2, hg_20_0, ha_21l, ha_21s, hg_22_0, ha_23l, ha_23s, hg_24_0, ha_25l, ha_25s, wp_imul, wz_ne_t, wz_ne_f, wb_ne_t, wb_ne_f, wm_ne_1, wm_ne_2, al_13379, wp_iload_3, al_13380, wp_iadd, wp_iload_4, hg_20_2, hg_22_2, hg_24_2, wp_isub, wp_istore_9, wp_iload_5, wp_iload_9, wp_iload_6, al_13381, al_13382, wp_iinc_7_1, al_13383, wp_ireturn, nl_i, nl_r, nl_k, nl_j, nl_l, nI_add, pk_mul, pk_sub, tl_s, tl_n, aL_inl, u2_same, u2_ab, u2_aq, nI_l, lN_i, Nat.add_zero, Nat.zero_add, Nat.zero_le, true_and, and_true, b2n_10, b2n_T, b2n_F, b2n_0, Decidable.not_not, not_true_eq_false, not_false_eq_true, Nat.reduceAdd, Nat.reduceMul, Nat.reduceSub, h241, oI_n, qe_n1, qe_m1, qn_n1, qn_m1, qe_n2, qe_m2, qn_n2, qn_m2]
      exact ih1 _ _
    | some g =>
      rw [hbs] at ih1 h241
      dsimp only at ih1
      have hg : g < D 2 * D 3 := bsd_lt (by have := hL.1.2.2.1; omega) hf hbs
      have hg36 : g < 36 := by omega
      have hbit := (hS.2.1 g (by omega)).1
      have hbit2 := (hS.2.1 g (by omega)).2
      have e21 := hS.1 g hg36
      obtain ⟨r1, r2, r3⟩ := hw.1 g hg36
      by_cases hwl : S (36 + g) = 1
      · rw [if_pos hwl] at ih1
        have hb1 : tb (J 20 1) g = true := by rw [hbit]; simp [hg36, hwl]
        simp (disch := (first | omega | exact aCat_8 (by with_unfolding_all rfl) | exact rk_lt (by with_unfolding_all rfl) | exact aCat_16 (by with_unfolding_all rfl) | exact rk_eq (by with_unfolding_all rfl) | assumption | exact b2n_lt _ | exact id_b (by with_unfolding_all rfl) | (simp (disch := omega) only [u2_same, u2_ab, u2_aq]; done) | (simp (disch := omega) only [u2_same, u2_ab, u2_aq]; omega) | fail)) only [al_13376, wk_m1, wp_istore_5, wk_0, wp_istore_6, wp_istore_7, wp_jsr, wp_iload_7, wk_3, wn_ge_t, wn_ge_f, wp_aloadr_0, wp_aloadk_0, hg_0_2, wp_iload_1, wc_241, wp_istore_8, wp_iload_8, wn_eq_t, wn_eq_f, hg_0_7, hg_20_1, hg_22_1, hg_24_1, wc_161, t_161, wk_1, wn_ne_t, wn_ne_f, wp_goto, al_13378, wp_iload_2, hg_20_0, ha_21l, ha_21s, hg_22_0, ha_23l, ha_23s, hg_24_0, ha_25l, ha_25s, wp_imul, wz_ne_t, wz_ne_f, wb_ne_t, wb_ne_f, wm_ne_1, wm_ne_2, al_13379, wp_iload_3, al_13380, wp_iadd, wp_iload_4, hg_20_2, hg_22_2, hg_24_2, wp_isub, wp_istore_9, wp_iload_5, wp_iload_9, wp_iload_6, al_13381, al_13382, wp_iinc_7_1, al_13383, wp_ireturn, nl_i, nl_r, nl_k, nl_j, nl_l, nI_add, pk_mul, pk_sub, tl_s, tl_n, aL_inl, u2_same, u2_ab, u2_aq, nI_l, lN_i, Nat.add_zero, Nat.zero_add, Nat.zero_le, true_and, and_true, b2n_10, b2n_T, b2n_F, b2n_0, Decidable.not_not, not_true_eq_false, not_false_eq_true, Nat.reduceAdd, Nat.reduceMul, Nat.reduceSub, h241, oI_s, b2n_t hb1, qe_n1, qe_m1, qn_n1, qn_m1, qe_n2, qe_m2, qn_n2, qn_m2]
        exact ih1 _ _
      · rw [if_neg hwl] at ih1
        have hb1 : ¬ tb (J 20 1) g = true := by rw [hbit]; simp [hwl]
        have hb2 : b2n (tb (J 20 2) g = true) = S (72 + g) := by
          rw [hbit2]
          by_cases z : S (72 + g) = 1
          · rw [b2n_t (by simp [hg36, z]), z]
          · rw [b2n_f (by simp [z])]; omega
        have m1 : a * S g ≤ 3 * 9 := Nat.mul_le_mul ha r1
        have m2 : c * S (72 + g) ≤ 3 * 1 := Nat.mul_le_mul hc r3
        cases hq : gbw (D 2) (D 3) S a b c f w with
        | none =>
          rw [hq] at ih1
          dsimp only at ih1
          have e1 : gbI none = -1 := rfl
          have e2 : gbV none = nI 0 := rfl
          have e3 : ∀ l, gbI (some (w, l)) = nI w := fun _ => rfl
          have e4 : ∀ l, gbV (some (w, l)) = l := fun _ => rfl
          rw [e3, e4] at ih1
          unfold lwV at ih1
          rw [e1, e2]
          by_cases hw0 : w = 0
          · subst hw0
            rw [if_pos rfl] at ih1
            simp (disch := (first | omega | exact aCat_8 (by with_unfolding_all rfl) | exact rk_lt (by with_unfolding_all rfl) | exact aCat_16 (by with_unfolding_all rfl) | exact rk_eq (by with_unfolding_all rfl) | assumption | exact b2n_lt _ | exact id_b (by with_unfolding_all rfl) | (simp (disch := omega) only [u2_same, u2_ab, u2_aq]; done) | (simp (disch := omega) only [u2_same, u2_ab, u2_aq]; omega) | fail)) only [al_13376, wk_m1, wp_istore_5, wk_0, wp_istore_6, wp_istore_7, wp_jsr, wp_iload_7, wk_3, wn_ge_t, wn_ge_f, wp_aloadr_0, wp_aloadk_0, hg_0_2, wp_iload_1, wc_241, wp_istore_8, wp_iload_8, wn_eq_t, wn_eq_f, hg_0_7, hg_20_1, hg_22_1, hg_24_1, wc_161, t_161, wk_1, wn_ne_t, wn_ne_f, wp_goto, al_13378, wp_iload_2, hg_20_0, ha_21l, ha_21s, hg_22_0, ha_23l, ha_23s, hg_24_0, ha_25l, ha_25s, wp_imul, wz_ne_t, wz_ne_f, wb_ne_t, wb_ne_f, wm_ne_1, wm_ne_2, al_13379, wp_iload_3, al_13380, wp_iadd, wp_iload_4, hg_20_2, hg_22_2, hg_24_2, wp_isub, wp_istore_9, wp_iload_5, wp_iload_9, wp_iload_6, al_13381, al_13382, wp_iinc_7_1, al_13383, wp_ireturn, nl_i, nl_r, nl_k, nl_j, nl_l, nI_add, pk_mul, pk_sub, tl_s, tl_n, aL_inl, u2_same, u2_ab, u2_aq, nI_l, lN_i, Nat.add_zero, Nat.zero_add, Nat.zero_le, true_and, and_true, b2n_10, b2n_T, b2n_F, b2n_0, Decidable.not_not, not_true_eq_false, not_false_eq_true, Nat.reduceAdd, Nat.reduceMul, Nat.reduceSub, h241, oI_s, b2n_f hb1, hb2, e21, qe_n1, qe_m1, qn_n1, qn_m1, qe_n2, qe_m2, qn_n2, qn_m2]
            exact ih1 _ _
          · rw [if_neg hw0] at ih1
            simp (disch := (first | omega | exact aCat_8 (by with_unfolding_all rfl) | exact rk_lt (by with_unfolding_all rfl) | exact aCat_16 (by with_unfolding_all rfl) | exact rk_eq (by with_unfolding_all rfl) | assumption | exact b2n_lt _ | exact id_b (by with_unfolding_all rfl) | (simp (disch := omega) only [u2_same, u2_ab, u2_aq]; done) | (simp (disch := omega) only [u2_same, u2_ab, u2_aq]; omega) | fail)) only [al_13376, wk_m1, wp_istore_5, wk_0, wp_istore_6, wp_istore_7, wp_jsr, wp_iload_7, wk_3, wn_ge_t, wn_ge_f, wp_aloadr_0, wp_aloadk_0, hg_0_2, wp_iload_1, wc_241, wp_istore_8, wp_iload_8, wn_eq_t, wn_eq_f, hg_0_7, hg_20_1, hg_22_1, hg_24_1, wc_161, t_161, wk_1, wn_ne_t, wn_ne_f, wp_goto, al_13378, wp_iload_2, hg_20_0, ha_21l, ha_21s, hg_22_0, ha_23l, ha_23s, hg_24_0, ha_25l, ha_25s, wp_imul, wz_ne_t, wz_ne_f, wb_ne_t, wb_ne_f, wm_ne_1, wm_ne_2, al_13379, wp_iload_3, al_13380, wp_iadd, wp_iload_4, hg_20_2, hg_22_2, hg_24_2, wp_isub, wp_istore_9, wp_iload_5, wp_iload_9, wp_iload_6, al_13381, al_13382, wp_iinc_7_1, al_13383, wp_ireturn, nl_i, nl_r, nl_k, nl_j, nl_l, nI_add, pk_mul, pk_sub, tl_s, tl_n, aL_inl, u2_same, u2_ab, u2_aq, nI_l, lN_i, Nat.add_zero, Nat.zero_add, Nat.zero_le, true_and, and_true, b2n_10, b2n_T, b2n_F, b2n_0, Decidable.not_not, not_true_eq_false, not_false_eq_true, Nat.reduceAdd, Nat.reduceMul, Nat.reduceSub, h241, oI_s, b2n_f hb1, hb2, e21, qe_n1, qe_m1, qn_n1, qn_m1, qe_n2, qe_m2, qn_n2, qn_m2]
            exact ih1 _ _
        | some p =>
          obtain ⟨u, l⟩ := p
          have hu := gbw_lt w u l hq
          rw [hq] at ih1
          dsimp only at ih1
          have e1 : gbI (some (u, l)) = nI u := rfl
          have e2 : gbV (some (u, l)) = l := rfl
          have hw0 : ¬ w = 0 := by omega
          have ev : lwV S a b c g w = nI (a * S g + b) - nI (c * S (72 + g)) := by
            unfold lwV
            rw [if_neg hw0]
          rw [ev] at ih1
          rw [e1, e2]
          by_cases hlt : nI (a * S g + b) - nI (c * S (72 + g)) < l
          · rw [if_pos hlt] at ih1
            have e3 : ∀ l, gbI (some (w, l)) = nI w := fun _ => rfl
            have e4 : ∀ l, gbV (some (w, l)) = l := fun _ => rfl
            rw [e3, e4] at ih1
            have hng : ¬ l ≤ nI (a * S g + b) - nI (c * S (72 + g)) := fun z => (Int32.not_lt.mpr z) hlt
            simp (disch := (first | omega | exact aCat_8 (by with_unfolding_all rfl) | exact rk_lt (by with_unfolding_all rfl) | exact aCat_16 (by with_unfolding_all rfl) | exact rk_eq (by with_unfolding_all rfl) | assumption | exact b2n_lt _ | exact id_b (by with_unfolding_all rfl) | (simp (disch := omega) only [u2_same, u2_ab, u2_aq]; done) | (simp (disch := omega) only [u2_same, u2_ab, u2_aq]; omega) | fail)) only [al_13376, wk_m1, wp_istore_5, wk_0, wp_istore_6, wp_istore_7, wp_jsr, wp_iload_7, wk_3, wn_ge_t, wn_ge_f, wp_aloadr_0, wp_aloadk_0, hg_0_2, wp_iload_1, wc_241, wp_istore_8, wp_iload_8, wn_eq_t, wn_eq_f, hg_0_7, hg_20_1, hg_22_1, hg_24_1, wc_161, t_161, wk_1, wn_ne_t, wn_ne_f, wp_goto, al_13378, wp_iload_2, hg_20_0, ha_21l, ha_21s, hg_22_0, ha_23l, ha_23s, hg_24_0, ha_25l, ha_25s, wp_imul, wz_ne_t, wz_ne_f, wb_ne_t, wb_ne_f, wm_ne_1, wm_ne_2, al_13379, wp_iload_3, al_13380, wp_iadd, wp_iload_4, hg_20_2, hg_22_2, hg_24_2, wp_isub, wp_istore_9, wp_iload_5, wp_iload_9, wp_iload_6, al_13381, al_13382, wp_iinc_7_1, al_13383, wp_ireturn, nl_i, nl_r, nl_k, nl_j, nl_l, nI_add, pk_mul, pk_sub, tl_s, tl_n, aL_inl, u2_same, u2_ab, u2_aq, nI_l, lN_i, Nat.add_zero, Nat.zero_add, Nat.zero_le, true_and, and_true, b2n_10, b2n_T, b2n_F, b2n_0, Decidable.not_not, not_true_eq_false, not_false_eq_true, Nat.reduceAdd, Nat.reduceMul, Nat.reduceSub, h241, oI_s, b2n_f hb1, hb2, e21, wx_ge_f hng, qe_n1, qe_m1, qn_n1, qn_m1, qe_n2, qe_m2, qn_n2, qn_m2]
            exact ih1 _ _
          · rw [if_neg hlt] at ih1
            rw [e1, e2] at ih1
            have hge : l ≤ nI (a * S g + b) - nI (c * S (72 + g)) := Int32.not_lt.mp hlt
            simp (disch := (first | omega | exact aCat_8 (by with_unfolding_all rfl) | exact rk_lt (by with_unfolding_all rfl) | exact aCat_16 (by with_unfolding_all rfl) | exact rk_eq (by with_unfolding_all rfl) | assumption | exact b2n_lt _ | exact id_b (by with_unfolding_all rfl) | (simp (disch := omega) only [u2_same, u2_ab, u2_aq]; done) | (simp (disch := omega) only [u2_same, u2_ab, u2_aq]; omega) | fail)) only [al_13376, wk_m1, wp_istore_5, wk_0, wp_istore_6, wp_istore_7, wp_jsr, wp_iload_7, wk_3, wn_ge_t, wn_ge_f, wp_aloadr_0, wp_aloadk_0, hg_0_2, wp_iload_1, wc_241, wp_istore_8, wp_iload_8, wn_eq_t, wn_eq_f, hg_0_7, hg_20_1, hg_22_1, hg_24_1, wc_161, t_161, wk_1, wn_ne_t, wn_ne_f, wp_goto, al_13378, wp_iload_2, hg_20_0, ha_21l, ha_21s, hg_22_0, ha_23l, ha_23s, hg_24_0, ha_25l, ha_25s, wp_imul, wz_ne_t, wz_ne_f, wb_ne_t, wb_ne_f, wm_ne_1, wm_ne_2, al_13379, wp_iload_3, al_13380, wp_iadd, wp_iload_4, hg_20_2, hg_22_2, hg_24_2, wp_isub, wp_istore_9, wp_iload_5, wp_iload_9, wp_iload_6, al_13381, al_13382, wp_iinc_7_1, al_13383, wp_ireturn, nl_i, nl_r, nl_k, nl_j, nl_l, nI_add, pk_mul, pk_sub, tl_s, tl_n, aL_inl, u2_same, u2_ab, u2_aq, nI_l, lN_i, Nat.add_zero, Nat.zero_add, Nat.zero_le, true_and, and_true, b2n_10, b2n_T, b2n_F, b2n_0, Decidable.not_not, not_true_eq_false, not_false_eq_true, Nat.reduceAdd, Nat.reduceMul, Nat.reduceSub, h241, oI_s, b2n_f hb1, hb2, e21, wx_ge_t hge, qe_n1, qe_m1, qn_n1, qn_m1, qe_n2, qe_m2, qn_n2, qn_m2]
            exact ih1 _ _
end L1
