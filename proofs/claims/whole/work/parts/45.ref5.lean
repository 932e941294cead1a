/-! The reference: mouth, isBesideCourse, tideGoes, tidesGo, copies. From wip/whole/src. -/
def setRow (N : Nat → Nat → Nat) (r : Nat) (S : Nat → Nat) : Nat → Nat → Nat := fun b => if b = r then S else N b
theorem setRow_s {N : Nat → Nat → Nat} {r : Nat} {S : Nat → Nat} : setRow N r S r = S := by simp [setRow]
theorem setRow_n {N : Nat → Nat → Nat} {r b : Nat} {S : Nat → Nat} (h : b ≠ r) : setRow N r S b = N b := by simp [setRow, h]
theorem setRow_u {N : Nat → Nat → Nat} {r j v : Nat} {S : Nat → Nat} : u2 (setRow N r S) r j v = setRow N r (upn S j v) := by
  funext b q
  unfold u2 setRow upn
  by_cases h : b = r
  · subst h; simp
  · simp [h]
theorem setRow_id {N : Nat → Nat → Nat} {r : Nat} : setRow N r (N r) = N := by
  funext b
  unfold setRow
  split
  · rename_i h; rw [h]
  · rfl
theorem setRow_setRow {N : Nat → Nat → Nat} {r : Nat} {S T : Nat → Nat} : setRow (setRow N r S) r T = setRow N r T := by
  funext b
  unfold setRow
  split <;> rfl
/-- whether one of the first w fields beside is on -/
def besW (R C : Nat) (o : Nat → Bool) (f : Nat) : Nat → Bool
  | 0 => false
  | w + 1 => besW R C o f w || (match bsd R C f w with
    | none => false
    | some g => o g)
/-- a height behind a tide, before the seat is raised -/
def hiN (R C : Nat) (on : Nat → Bool) (S : Nat → Nat) (f : Nat) : Nat := if on f = true then S f - 1 else if S (36 + f) = 1 then S f else if besW R C on f 4 = true then min 9 (S f + 1) else S f
/-- a row while a tide goes by: the first i fields are through -/
def mixT (R C : Nat) (on : Nat → Bool) (S : Nat → Nat) (i : Nat) : Nat → Nat := fun q => if q < i then hiN R C on S q else if 72 ≤ q ∧ q < 72 + i then b2n (on (q - 72) = true) else S q
/-- a row behind a tide, by its course -/
def tdS (R C : Nat) (c : Nat × (Nat → Nat) × Bool) (S : Nat → Nat) : Nat → Nat := fun q =>
  if q = 109 then S 109 + 1
  else if q = 110 then (if c.2.2 = true then min 9999 (S 110 + 1) else S 110)
  else if c.2.2 = true ∧ 0 < c.1 ∧ q = c.2.1 (c.1 - 1) then min 9 (mixT R C (onP c.1 c.2.1) S (R * C) q + 3)
  else mixT R C (onP c.1 c.2.1) S (R * C) q
theorem mixT_0 {R C : Nat} {on : Nat → Bool} {S : Nat → Nat} : mixT R C on S 0 = S := by
  funext q
  unfold mixT
  rw [if_neg (by omega), if_neg (by omega)]
theorem mixT_u {R C : Nat} {on : Nat → Bool} {S : Nat → Nat} {i : Nat} (hi : i < 36) : upn (upn (mixT R C on S i) i (hiN R C on S i)) (72 + i) (b2n (on i = true)) = mixT R C on S (i + 1) := by
  funext q
  unfold upn mixT
  by_cases h1 : q = 72 + i
  · subst h1
    rw [if_pos rfl, if_neg (by omega), if_pos (by omega)]
    simp
  · rw [if_neg h1]
    by_cases h2 : q = i
    · subst h2
      rw [if_pos rfl, if_pos (by omega)]
    · rw [if_neg h2]
      by_cases h3 : q < i
      · rw [if_pos h3, if_pos (by omega)]
      · rw [if_neg h3, if_neg (by omega : ¬ q < i + 1)]
        by_cases h4 : 72 ≤ q ∧ q < 72 + i
        · rw [if_pos h4, if_pos (by omega)]
        · rw [if_neg h4, if_neg (by omega)]
section R5
variable {ko : aKo} {d k : Nat} {is : List Instr} {ls st : List Value} {σ : aH} {D : Nat → Nat} {N : Nat → Nat → Nat} {I : Nat → Nat → Int32} {J : Nat → Nat → Int64} {x : Nat} {Q : Option Value → aH → Prop} {P : (Option Value ⊕ Unit) → aH → Prop}
/-- the column of a mouth; a lake -/
def mth (C : Nat) (c : Nat × (Nat → Nat) × Bool) : Int32 := if c.2.2 = true then -2 else nI (c.2.1 (c.1 - 1) % C)
theorem t_58 {c : Nat × (Nat → Nat) × Bool} (hd : dmO D) (hc : crO N c) (hk : crK (D 0) (D 1) c) : aMm ko d 58 [.ref 86] (hp D N I J x) Q = Q (some (.int (mth (D 1) c))) (hp D N I J x) := by
  obtain ⟨hd0, hd1, hd2, hd3⟩ := id hd
  have hF := dm_F hd
  obtain ⟨L, p, lk⟩ := c
  have h24 : N 86 24 = L := hc.1
  have h25 : N 86 25 = b2n (lk = true) := hc.2.1
  have hL : L ≤ D 0 * D 1 := hk.1
  rw [me_58]
  cases lk with
  | true =>
    have h25' : N 86 25 = 1 := h25.trans (b2n_t rfl)
    simp (disch := (first | omega | exact aCat_8 (by with_unfolding_all rfl) | exact rk_lt (by with_unfolding_all rfl) | exact aCat_16 (by with_unfolding_all rfl) | exact rk_eq (by with_unfolding_all rfl) | assumption | exact b2n_lt _ | exact id_b (by with_unfolding_all rfl) | (simp (disch := omega) only [u2_same, u2_ab, u2_aq]; done) | (simp (disch := omega) only [u2_same, u2_ab, u2_aq]; omega) | fail)) only [al_3712, wp_aloadr_0, wp_aloadk_0, hg_86_25, wz_eq_t, wz_eq_f, wb_eq_t, wb_eq_f, wm_eq_1, wm_eq_2, wk_m2, wp_goto, al_3713, hg_86_22, ha_97l, ha_97s, hg_86_24, wk_1, wp_isub, hg_86_4, wp_iremn, wp_jsr, al_3714, wp_ireturn, nl_i, nl_r, nl_k, nl_j, nl_l, nI_add, pk_mul, pk_sub, tl_s, tl_n, aL_inl, u2_same, u2_ab, u2_aq, nI_l, lN_i, Nat.add_zero, Nat.zero_add, Nat.zero_le, true_and, and_true, b2n_10, b2n_T, b2n_F, b2n_0, Decidable.not_not, not_true_eq_false, not_false_eq_true, Nat.reduceAdd, Nat.reduceMul, mth]
    rfl
  | false =>
    have h25' : N 86 25 = 0 := h25.trans (b2n_f (by simp))
    obtain ⟨h0, h1⟩ := hk.2.2.2 rfl
    have h0' : 0 < L := h0
    have hp1 : p (L - 1) < D 0 * D 1 := hk.2.1 (L - 1) (show L - 1 < L by omega)
    have h97 : N 97 (L - 1) = p (L - 1) := hc.2.2.1 (L - 1) (show L - 1 < L by omega)
    simp (disch := (first | omega | exact aCat_8 (by with_unfolding_all rfl) | exact rk_lt (by with_unfolding_all rfl) | exact aCat_16 (by with_unfolding_all rfl) | exact rk_eq (by with_unfolding_all rfl) | assumption | exact b2n_lt _ | exact id_b (by with_unfolding_all rfl) | (simp (disch := omega) only [u2_same, u2_ab, u2_aq]; done) | (simp (disch := omega) only [u2_same, u2_ab, u2_aq]; omega) | fail)) only [al_3712, wp_aloadr_0, wp_aloadk_0, hg_86_25, wz_eq_t, wz_eq_f, wb_eq_t, wb_eq_f, wm_eq_1, wm_eq_2, wk_m2, wp_goto, al_3713, hg_86_22, ha_97l, ha_97s, hg_86_24, wk_1, wp_isub, hg_86_4, wp_iremn, wp_jsr, al_3714, wp_ireturn, nl_i, nl_r, nl_k, nl_j, nl_l, nI_add, pk_mul, pk_sub, tl_s, tl_n, aL_inl, u2_same, u2_ab, u2_aq, nI_l, lN_i, Nat.add_zero, Nat.zero_add, Nat.zero_le, true_and, and_true, b2n_10, b2n_T, b2n_F, b2n_0, Decidable.not_not, not_true_eq_false, not_false_eq_true, Nat.reduceAdd, Nat.reduceMul, h24, h97]
    rfl
theorem l_42 {o : Nat → Bool} {f : Nat} (hd : dmO D) (hf : f < D 0 * D 1) (ho : ∀ g, g < 36 → N 98 g = b2n (o g = true)) : ∀ (j w : Nat) (v4 : Value), w + j = 4 → aWp ko d 42 (aP.1 (Int.toNat 2689)) [.ref 86, .int (nI f), .int (nI (b2n (besW (D 0) (D 1) o f w = true))), .int (nI w), v4] [] (hp D N I J x) (aL Q) = Q (some (.int (nI (b2n (besW (D 0) (D 1) o f 4 = true))))) (hp D N I J x) := by
  obtain ⟨hd0, hd1, hd2, hd3⟩ := id hd
  have hF := dm_F hd
  intro j
  induction j with
  | zero =>
    intro w v4 hj
    have e : w = 4 := by omega
    subst e
    simp (disch := (first | omega | exact aCat_8 (by with_unfolding_all rfl) | exact rk_lt (by with_unfolding_all rfl) | exact aCat_16 (by with_unfolding_all rfl) | exact rk_eq (by with_unfolding_all rfl) | assumption | exact b2n_lt _ | exact id_b (by with_unfolding_all rfl) | (simp (disch := omega) only [u2_same, u2_ab, u2_aq]; done) | (simp (disch := omega) only [u2_same, u2_ab, u2_aq]; omega) | fail)) only [al_2688, wk_0, wp_istore_2, wp_istore_3, wp_jsr, al_2689, wp_iload_3, wk_4, wn_ge_t, wn_ge_f, wp_aloadr_0, wp_aloadk_0, wp_iload_1, wc_29, wp_istore_4, wp_iload_2, wz_ne_t, wz_ne_f, wb_ne_t, wb_ne_f, wm_ne_1, wm_ne_2, wp_iload_4, wz_lt_t, wz_lt_f, wm_lt_1, wm_lt_2, hg_86_23, ha_98l, ha_98s, wz_eq_t, wz_eq_f, wb_eq_t, wb_eq_f, wm_eq_1, wm_eq_2, al_2690, wk_1, wp_goto, al_2691, al_2692, wp_iinc_3_1, al_2693, wp_freturn0, wp_freturn1, wp_freturnb, nl_i, nl_r, nl_k, nl_j, nl_l, nI_add, pk_mul, pk_sub, tl_s, tl_n, aL_inl, u2_same, u2_ab, u2_aq, nI_l, lN_i, Nat.add_zero, Nat.zero_add, Nat.zero_le, true_and, and_true, b2n_10, b2n_T, b2n_F, b2n_0, Decidable.not_not, not_true_eq_false, not_false_eq_true, Nat.reduceAdd, Nat.reduceMul]
  | succ j ih =>
    intro w v4 hj
    rw [al_2689]
    by_cases h1 : besW (D 0) (D 1) o f w = true
    · have e : besW (D 0) (D 1) o f (w + 1) = true := by simp [besW, h1]
      have := fun v4 => ih (w + 1) v4 (by omega)
      rw [b2n_t e] at this
      rw [b2n_t h1]
      simp (disch := (first | omega | exact aCat_8 (by with_unfolding_all rfl) | exact rk_lt (by with_unfolding_all rfl) | exact aCat_16 (by with_unfolding_all rfl) | exact rk_eq (by with_unfolding_all rfl) | assumption | exact b2n_lt _ | exact id_b (by with_unfolding_all rfl) | (simp (disch := omega) only [u2_same, u2_ab, u2_aq]; done) | (simp (disch := omega) only [u2_same, u2_ab, u2_aq]; omega) | fail)) only [al_2688, wk_0, wp_istore_2, wp_istore_3, wp_jsr, wp_iload_3, wk_4, wn_ge_t, wn_ge_f, wp_aloadr_0, wp_aloadk_0, wp_iload_1, wc_29, wp_istore_4, wp_iload_2, wz_ne_t, wz_ne_f, wb_ne_t, wb_ne_f, wm_ne_1, wm_ne_2, wp_iload_4, wz_lt_t, wz_lt_f, wm_lt_1, wm_lt_2, hg_86_23, ha_98l, ha_98s, wz_eq_t, wz_eq_f, wb_eq_t, wb_eq_f, wm_eq_1, wm_eq_2, al_2690, wk_1, wp_goto, al_2691, al_2692, wp_iinc_3_1, al_2693, wp_freturn0, wp_freturn1, wp_freturnb, nl_i, nl_r, nl_k, nl_j, nl_l, nI_add, pk_mul, pk_sub, tl_s, tl_n, aL_inl, u2_same, u2_ab, u2_aq, nI_l, lN_i, Nat.add_zero, Nat.zero_add, Nat.zero_le, true_and, and_true, b2n_10, b2n_T, b2n_F, b2n_0, Decidable.not_not, not_true_eq_false, not_false_eq_true, Nat.reduceAdd, Nat.reduceMul, t_29]
      exact this _
    · cases hb : bsd (D 0) (D 1) f w with
      | none =>
        have e : ¬ besW (D 0) (D 1) o f (w + 1) = true := by simp [besW, h1, hb]
        have := fun v4 => ih (w + 1) v4 (by omega)
        rw [b2n_f e] at this
        rw [b2n_f h1]
        simp (disch := (first | omega | exact aCat_8 (by with_unfolding_all rfl) | exact rk_lt (by with_unfolding_all rfl) | exact aCat_16 (by with_unfolding_all rfl) | exact rk_eq (by with_unfolding_all rfl) | assumption | exact b2n_lt _ | exact id_b (by with_unfolding_all rfl) | (simp (disch := omega) only [u2_same, u2_ab, u2_aq]; done) | (simp (disch := omega) only [u2_same, u2_ab, u2_aq]; omega) | fail)) only [al_2688, wk_0, wp_istore_2, wp_istore_3, wp_jsr, wp_iload_3, wk_4, wn_ge_t, wn_ge_f, wp_aloadr_0, wp_aloadk_0, wp_iload_1, wc_29, wp_istore_4, wp_iload_2, wz_ne_t, wz_ne_f, wb_ne_t, wb_ne_f, wm_ne_1, wm_ne_2, wp_iload_4, wz_lt_t, wz_lt_f, wm_lt_1, wm_lt_2, hg_86_23, ha_98l, ha_98s, wz_eq_t, wz_eq_f, wb_eq_t, wb_eq_f, wm_eq_1, wm_eq_2, al_2690, wk_1, wp_goto, al_2691, al_2692, wp_iinc_3_1, al_2693, wp_freturn0, wp_freturn1, wp_freturnb, nl_i, nl_r, nl_k, nl_j, nl_l, nI_add, pk_mul, pk_sub, tl_s, tl_n, aL_inl, u2_same, u2_ab, u2_aq, nI_l, lN_i, Nat.add_zero, Nat.zero_add, Nat.zero_le, true_and, and_true, b2n_10, b2n_T, b2n_F, b2n_0, Decidable.not_not, not_true_eq_false, not_false_eq_true, Nat.reduceAdd, Nat.reduceMul, t_29, hb, oI_n]
        exact this _
      | some g =>
        have hg : g < D 0 * D 1 := bsd_lt (by omega) hf hb
        have h98 := ho g (by omega)
        by_cases h2 : o g = true
        · have e : besW (D 0) (D 1) o f (w + 1) = true := by simp [besW, h1, hb, h2]
          have := fun v4 => ih (w + 1) v4 (by omega)
          rw [b2n_t e] at this
          rw [b2n_t h2] at h98
          rw [b2n_f h1]
          simp (disch := (first | omega | exact aCat_8 (by with_unfolding_all rfl) | exact rk_lt (by with_unfolding_all rfl) | exact aCat_16 (by with_unfolding_all rfl) | exact rk_eq (by with_unfolding_all rfl) | assumption | exact b2n_lt _ | exact id_b (by with_unfolding_all rfl) | (simp (disch := omega) only [u2_same, u2_ab, u2_aq]; done) | (simp (disch := omega) only [u2_same, u2_ab, u2_aq]; omega) | fail)) only [al_2688, wk_0, wp_istore_2, wp_istore_3, wp_jsr, wp_iload_3, wk_4, wn_ge_t, wn_ge_f, wp_aloadr_0, wp_aloadk_0, wp_iload_1, wc_29, wp_istore_4, wp_iload_2, wz_ne_t, wz_ne_f, wb_ne_t, wb_ne_f, wm_ne_1, wm_ne_2, wp_iload_4, wz_lt_t, wz_lt_f, wm_lt_1, wm_lt_2, hg_86_23, ha_98l, ha_98s, wz_eq_t, wz_eq_f, wb_eq_t, wb_eq_f, wm_eq_1, wm_eq_2, al_2690, wk_1, wp_goto, al_2691, al_2692, wp_iinc_3_1, al_2693, wp_freturn0, wp_freturn1, wp_freturnb, nl_i, nl_r, nl_k, nl_j, nl_l, nI_add, pk_mul, pk_sub, tl_s, tl_n, aL_inl, u2_same, u2_ab, u2_aq, nI_l, lN_i, Nat.add_zero, Nat.zero_add, Nat.zero_le, true_and, and_true, b2n_10, b2n_T, b2n_F, b2n_0, Decidable.not_not, not_true_eq_false, not_false_eq_true, Nat.reduceAdd, Nat.reduceMul, t_29, hb, oI_s]
          exact this _
        · have e : ¬ besW (D 0) (D 1) o f (w + 1) = true := by simp [besW, h1, hb, h2]
          have := fun v4 => ih (w + 1) v4 (by omega)
          rw [b2n_f e] at this
          rw [b2n_f h2] at h98
          rw [b2n_f h1]
          simp (disch := (first | omega | exact aCat_8 (by with_unfolding_all rfl) | exact rk_lt (by with_unfolding_all rfl) | exact aCat_16 (by with_unfolding_all rfl) | exact rk_eq (by with_unfolding_all rfl) | assumption | exact b2n_lt _ | exact id_b (by with_unfolding_all rfl) | (simp (disch := omega) only [u2_same, u2_ab, u2_aq]; done) | (simp (disch := omega) only [u2_same, u2_ab, u2_aq]; omega) | fail)) only [al_2688, wk_0, wp_istore_2, wp_istore_3, wp_jsr, wp_iload_3, wk_4, wn_ge_t, wn_ge_f, wp_aloadr_0, wp_aloadk_0, wp_iload_1, wc_29, wp_istore_4, wp_iload_2, wz_ne_t, wz_ne_f, wb_ne_t, wb_ne_f, wm_ne_1, wm_ne_2, wp_iload_4, wz_lt_t, wz_lt_f, wm_lt_1, wm_lt_2, hg_86_23, ha_98l, ha_98s, wz_eq_t, wz_eq_f, wb_eq_t, wb_eq_f, wm_eq_1, wm_eq_2, al_2690, wk_1, wp_goto, al_2691, al_2692, wp_iinc_3_1, al_2693, wp_freturn0, wp_freturn1, wp_freturnb, nl_i, nl_r, nl_k, nl_j, nl_l, nI_add, pk_mul, pk_sub, tl_s, tl_n, aL_inl, u2_same, u2_ab, u2_aq, nI_l, lN_i, Nat.add_zero, Nat.zero_add, Nat.zero_le, true_and, and_true, b2n_10, b2n_T, b2n_F, b2n_0, Decidable.not_not, not_true_eq_false, not_false_eq_true, Nat.reduceAdd, Nat.reduceMul, t_29, hb, oI_s]
          exact this _
theorem t_42 {o : Nat → Bool} {f : Nat} (hd : dmO D) (hf : f < D 0 * D 1) (ho : ∀ g, g < 36 → N 98 g = b2n (o g = true)) : aMm ko d 42 [.ref 86, .int (nI f)] (hp D N I J x) Q = Q (some (.int (nI (b2n (besW (D 0) (D 1) o f 4 = true))))) (hp D N I J x) := by
  rw [me_42]
  simp (disch := (first | omega | exact aCat_8 (by with_unfolding_all rfl) | exact rk_lt (by with_unfolding_all rfl) | exact aCat_16 (by with_unfolding_all rfl) | exact rk_eq (by with_unfolding_all rfl) | assumption | exact b2n_lt _ | exact id_b (by with_unfolding_all rfl) | (simp (disch := omega) only [u2_same, u2_ab, u2_aq]; done) | (simp (disch := omega) only [u2_same, u2_ab, u2_aq]; omega) | fail)) only [al_2688, wk_0, wp_istore_2, wp_istore_3, wp_jsr, wp_iload_3, wk_4, wn_ge_t, wn_ge_f, wp_aloadr_0, wp_aloadk_0, wp_iload_1, wc_29, wp_istore_4, wp_iload_2, wz_ne_t, wz_ne_f, wb_ne_t, wb_ne_f, wm_ne_1, wm_ne_2, wp_iload_4, wz_lt_t, wz_lt_f, wm_lt_1, wm_lt_2, hg_86_23, ha_98l, ha_98s, wz_eq_t, wz_eq_f, wb_eq_t, wb_eq_f, wm_eq_1, wm_eq_2, al_2690, wk_1, wp_goto, al_2691, al_2692, wp_iinc_3_1, al_2693, wp_freturn0, wp_freturn1, wp_freturnb, nl_i, nl_r, nl_k, nl_j, nl_l, nI_add, pk_mul, pk_sub, tl_s, tl_n, aL_inl, u2_same, u2_ab, u2_aq, nI_l, lN_i, Nat.add_zero, Nat.zero_add, Nat.zero_le, true_and, and_true, b2n_10, b2n_T, b2n_F, b2n_0, Decidable.not_not, not_true_eq_false, not_false_eq_true, Nat.reduceAdd, Nat.reduceMul]
  exact l_42 hd hf ho 4 0 _ rfl
end R5
