/-! alters. From wip/whole/src. -/
/-- the same course, as a row of fields -/
def smB (c c0 : Nat × (Nat → Nat) × Bool) : Bool := decide (c.1 = c0.1) && (List.range c.1).all (fun k => c.2.1 k == c0.2.1 k)
theorem smB_iff {c c0 : Nat × (Nat → Nat) × Bool} : smB c c0 = true ↔ c.1 = c0.1 ∧ ∀ k, k < c.1 → c.2.1 k = c0.2.1 k := by
  unfold smB
  simp [List.all_eq_true, List.mem_range]
theorem smB_r (c : Nat × (Nat → Nat) × Bool) : smB c c = true := smB_iff.mpr ⟨rfl, fun _ _ => rfl⟩
section O4
variable {ko : aKo} {d k : Nat} {is : List Instr} {ls st : List Value} {σ : aH} {D : Nat → Nat} {N : Nat → Nat → Nat} {I : Nat → Nat → Int32} {J : Nat → Nat → Int64} {x t : Nat} {Q : Option Value → aH → Prop} {P : (Option Value ⊕ Unit) → aH → Prop}
theorem t_261 : aMm ko d 261 [.ref 26] (hp D N I J x) Q = Q none (hp D (u2 (setRow N 31 (mixN (N 30) (N 31) 36)) 26 14 (N 26 9)) I J x) := by
  have e1 : ∀ T : Nat → Nat, setRow N 31 T 26 = N 26 := fun T => setRow_n (by decide)
  rw [me_261]
  simp (disch := (first | omega | exact aCat_8 (by with_unfolding_all rfl) | exact rk_lt (by with_unfolding_all rfl) | exact aCat_16 (by with_unfolding_all rfl) | exact rk_eq (by with_unfolding_all rfl) | assumption | exact b2n_lt _ | exact id_b (by with_unfolding_all rfl) | (simp (disch := omega) only [u2_same, u2_ab, u2_aq]; done) | (simp (disch := omega) only [u2_same, u2_ab, u2_aq]; omega) | fail)) only [al_16704, wp_aloadr_0, wp_aloadk_0, hg_26_8, ha_30l, ha_30s, wk_0, hg_26_13, ha_31l, ha_31s, wk_36, hg_26_9, hp_26_14, wp_return, nl_i, nl_r, nl_k, nl_j, nl_l, nI_add, pk_mul, pk_sub, tl_s, tl_n, aL_inl, u2_same, u2_ab, u2_aq, nI_l, lN_i, Nat.add_zero, Nat.zero_add, Nat.zero_le, true_and, and_true, b2n_10, b2n_T, b2n_F, b2n_0, Decidable.not_not, not_true_eq_false, not_false_eq_true, Nat.reduceAdd, Nat.reduceMul, wp_cpyN (a := 30) (b := 31) (by decide) (by decide) (fun _ _ _ _ => rfl) (fun _ _ _ _ => rfl), e1]
theorem l_262 {c c0 : Nat × (Nat → Nat) × Bool} (h9 : N 26 9 = c.1) (h14 : N 26 14 = c0.1) (hc : ∀ k, k < c.1 → N 30 k = c.2.1 k ∧ c.2.1 k < 36) (hc0 : ∀ k, k < c0.1 → N 31 k = c0.2.1 k ∧ c0.2.1 k < 36) (hL : c.1 ≤ 36) (he : c.1 = c0.1) : ∀ j i : Nat, i + j = c.1 → (∀ k, k < i → c.2.1 k = c0.2.1 k) → aWp ko d 262 (aP.1 (Int.toNat 16770)) [.ref 26, .int (nI i)] [] (hp D N I J x) (aL Q) = Q (some (.int (nI (b2n (smB c c0 = true))))) (hp D N I J x) := by
  intro j
  induction j with
  | zero =>
    intro i hi hs
    have e : i = c.1 := by omega
    subst e
    rw [b2n_t (smB_iff.mpr ⟨he, hs⟩), al_16770]
    simp (disch := (first | omega | exact aCat_8 (by with_unfolding_all rfl) | exact rk_lt (by with_unfolding_all rfl) | exact aCat_16 (by with_unfolding_all rfl) | exact rk_eq (by with_unfolding_all rfl) | assumption | exact b2n_lt _ | exact id_b (by with_unfolding_all rfl) | (simp (disch := omega) only [u2_same, u2_ab, u2_aq]; done) | (simp (disch := omega) only [u2_same, u2_ab, u2_aq]; omega) | fail)) only [al_16768, wp_aloadr_0, wp_aloadk_0, hg_26_9, hg_26_14, wn_eq_t, wn_eq_f, wk_0, wp_freturn0, wp_freturn1, wp_freturnb, al_16769, wp_istore_1, wp_jsr, wp_iload_1, wn_ge_t, wn_ge_f, hg_26_8, ha_30l, ha_30s, hg_26_13, ha_31l, ha_31s, al_16771, wp_iinc_1_1, wp_goto, al_16772, wk_1, nl_i, nl_r, nl_k, nl_j, nl_l, nI_add, pk_mul, pk_sub, tl_s, tl_n, aL_inl, u2_same, u2_ab, u2_aq, nI_l, lN_i, Nat.add_zero, Nat.zero_add, Nat.zero_le, true_and, and_true, b2n_10, b2n_T, b2n_F, b2n_0, Decidable.not_not, not_true_eq_false, not_false_eq_true, Nat.reduceAdd, Nat.reduceMul, h9]
  | succ j ih =>
    intro i hi hs
    have a1 := hc i (by omega)
    have a2 := hc0 i (by omega)
    by_cases q : c.2.1 i = c0.2.1 i
    · rw [al_16770]
      have e1 := a1.1
      have e2 := a2.1
      simp (disch := (first | omega | exact aCat_8 (by with_unfolding_all rfl) | exact rk_lt (by with_unfolding_all rfl) | exact aCat_16 (by with_unfolding_all rfl) | exact rk_eq (by with_unfolding_all rfl) | assumption | exact b2n_lt _ | exact id_b (by with_unfolding_all rfl) | (simp (disch := omega) only [u2_same, u2_ab, u2_aq]; done) | (simp (disch := omega) only [u2_same, u2_ab, u2_aq]; omega) | fail)) only [al_16768, wp_aloadr_0, wp_aloadk_0, hg_26_9, hg_26_14, wn_eq_t, wn_eq_f, wk_0, wp_freturn0, wp_freturn1, wp_freturnb, al_16769, wp_istore_1, wp_jsr, wp_iload_1, wn_ge_t, wn_ge_f, hg_26_8, ha_30l, ha_30s, hg_26_13, ha_31l, ha_31s, al_16771, wp_iinc_1_1, wp_goto, al_16772, wk_1, nl_i, nl_r, nl_k, nl_j, nl_l, nI_add, pk_mul, pk_sub, tl_s, tl_n, aL_inl, u2_same, u2_ab, u2_aq, nI_l, lN_i, Nat.add_zero, Nat.zero_add, Nat.zero_le, true_and, and_true, b2n_10, b2n_T, b2n_F, b2n_0, Decidable.not_not, not_true_eq_false, not_false_eq_true, Nat.reduceAdd, Nat.reduceMul, h9]
      refine ih (i + 1) (by omega) ?_
      intro k hk
      by_cases e : k = i
      · rw [e]; exact q
      · exact hs k (by omega)
    · rw [b2n_f (fun z => q ((smB_iff.mp z).2 i (by omega))), al_16770]
      have e1 := a1.1
      have e2 := a2.1
      simp (disch := (first | omega | exact aCat_8 (by with_unfolding_all rfl) | exact rk_lt (by with_unfolding_all rfl) | exact aCat_16 (by with_unfolding_all rfl) | exact rk_eq (by with_unfolding_all rfl) | assumption | exact b2n_lt _ | exact id_b (by with_unfolding_all rfl) | (simp (disch := omega) only [u2_same, u2_ab, u2_aq]; done) | (simp (disch := omega) only [u2_same, u2_ab, u2_aq]; omega) | fail)) only [al_16768, wp_aloadr_0, wp_aloadk_0, hg_26_9, hg_26_14, wn_eq_t, wn_eq_f, wk_0, wp_freturn0, wp_freturn1, wp_freturnb, al_16769, wp_istore_1, wp_jsr, wp_iload_1, wn_ge_t, wn_ge_f, hg_26_8, ha_30l, ha_30s, hg_26_13, ha_31l, ha_31s, al_16771, wp_iinc_1_1, wp_goto, al_16772, wk_1, nl_i, nl_r, nl_k, nl_j, nl_l, nI_add, pk_mul, pk_sub, tl_s, tl_n, aL_inl, u2_same, u2_ab, u2_aq, nI_l, lN_i, Nat.add_zero, Nat.zero_add, Nat.zero_le, true_and, and_true, b2n_10, b2n_T, b2n_F, b2n_0, Decidable.not_not, not_true_eq_false, not_false_eq_true, Nat.reduceAdd, Nat.reduceMul, h9]
theorem t_262 {c c0 : Nat × (Nat → Nat) × Bool} (h9 : N 26 9 = c.1) (h14 : N 26 14 = c0.1) (hc : ∀ k, k < c.1 → N 30 k = c.2.1 k ∧ c.2.1 k < 36) (hc0 : ∀ k, k < c0.1 → N 31 k = c0.2.1 k ∧ c0.2.1 k < 36) (hL : c.1 ≤ 36) (hL0 : c0.1 ≤ 36) : aMm ko d 262 [.ref 26] (hp D N I J x) Q = Q (some (.int (nI (b2n (smB c c0 = true))))) (hp D N I J x) := by
  rw [me_262]
  by_cases he : c.1 = c0.1
  · simp (disch := (first | omega | exact aCat_8 (by with_unfolding_all rfl) | exact rk_lt (by with_unfolding_all rfl) | exact aCat_16 (by with_unfolding_all rfl) | exact rk_eq (by with_unfolding_all rfl) | assumption | exact b2n_lt _ | exact id_b (by with_unfolding_all rfl) | (simp (disch := omega) only [u2_same, u2_ab, u2_aq]; done) | (simp (disch := omega) only [u2_same, u2_ab, u2_aq]; omega) | fail)) only [al_16768, wp_aloadr_0, wp_aloadk_0, hg_26_9, hg_26_14, wn_eq_t, wn_eq_f, wk_0, wp_freturn0, wp_freturn1, wp_freturnb, al_16769, wp_istore_1, wp_jsr, wp_iload_1, wn_ge_t, wn_ge_f, hg_26_8, ha_30l, ha_30s, hg_26_13, ha_31l, ha_31s, al_16771, wp_iinc_1_1, wp_goto, al_16772, wk_1, nl_i, nl_r, nl_k, nl_j, nl_l, nI_add, pk_mul, pk_sub, tl_s, tl_n, aL_inl, u2_same, u2_ab, u2_aq, nI_l, lN_i, Nat.add_zero, Nat.zero_add, Nat.zero_le, true_and, and_true, b2n_10, b2n_T, b2n_F, b2n_0, Decidable.not_not, not_true_eq_false, not_false_eq_true, Nat.reduceAdd, Nat.reduceMul]
    exact l_262 h9 h14 hc hc0 hL he c.1 0 (by omega) (fun k hk => absurd hk (Nat.not_lt_zero _))
  · rw [b2n_f (fun z => he (smB_iff.mp z).1)]
    simp (disch := (first | omega | exact aCat_8 (by with_unfolding_all rfl) | exact rk_lt (by with_unfolding_all rfl) | exact aCat_16 (by with_unfolding_all rfl) | exact rk_eq (by with_unfolding_all rfl) | assumption | exact b2n_lt _ | exact id_b (by with_unfolding_all rfl) | (simp (disch := omega) only [u2_same, u2_ab, u2_aq]; done) | (simp (disch := omega) only [u2_same, u2_ab, u2_aq]; omega) | fail)) only [al_16768, wp_aloadr_0, wp_aloadk_0, hg_26_9, hg_26_14, wn_eq_t, wn_eq_f, wk_0, wp_freturn0, wp_freturn1, wp_freturnb, al_16769, wp_istore_1, wp_jsr, wp_iload_1, wn_ge_t, wn_ge_f, hg_26_8, ha_30l, ha_30s, hg_26_13, ha_31l, ha_31s, al_16771, wp_iinc_1_1, wp_goto, al_16772, wk_1, nl_i, nl_r, nl_k, nl_j, nl_l, nI_add, pk_mul, pk_sub, tl_s, tl_n, aL_inl, u2_same, u2_ab, u2_aq, nI_l, lN_i, Nat.add_zero, Nat.zero_add, Nat.zero_le, true_and, and_true, b2n_10, b2n_T, b2n_F, b2n_0, Decidable.not_not, not_true_eq_false, not_false_eq_true, Nat.reduceAdd, Nat.reduceMul]
/-- the reference puts a course by -/
theorem l_63 {L : Nat} {T : Nat → Nat} (hL : L ≤ 36) (h24 : N 86 24 = L) : ∀ j i : Nat, i + j = L → aWp ko d 63 (aP.1 (Int.toNat 4033)) [.ref 86, .int (nI i)] [] (hp D (setRow N 104 (mixN (N 97) T i)) I J x) (aL Q) = Q none (hp D (setRow N 104 (mixN (N 97) T L)) I J x) := by
  have e1 : ∀ (T : Nat → Nat) (b : Nat), b ≠ 104 → setRow N 104 T b = N b := fun T b hb => setRow_n hb
  intro j
  induction j with
  | zero =>
    intro i hi
    have e : i = L := by omega
    subst e
    simp (disch := (first | omega | exact aCat_8 (by with_unfolding_all rfl) | exact rk_lt (by with_unfolding_all rfl) | exact aCat_16 (by with_unfolding_all rfl) | exact rk_eq (by with_unfolding_all rfl) | assumption | exact b2n_lt _ | exact id_b (by with_unfolding_all rfl) | (simp (disch := omega) only [u2_same, u2_ab, u2_aq]; done) | (simp (disch := omega) only [u2_same, u2_ab, u2_aq]; omega) | fail)) only [al_4032, wp_aloadr_0, wp_aloadk_0, hg_86_24, hp_86_34, wk_0, wp_istore_1, wp_jsr, al_4033, wp_iload_1, wn_ge_t, wn_ge_f, hg_86_33, ha_104l, ha_104s, hg_86_22, ha_97l, ha_97s, wp_iinc_1_1, wp_goto, al_4034, wp_return, nl_i, nl_r, nl_k, nl_j, nl_l, nI_add, pk_mul, pk_sub, tl_s, tl_n, aL_inl, u2_same, u2_ab, u2_aq, nI_l, lN_i, Nat.add_zero, Nat.zero_add, Nat.zero_le, true_and, and_true, b2n_10, b2n_T, b2n_F, b2n_0, Decidable.not_not, not_true_eq_false, not_false_eq_true, Nat.reduceAdd, Nat.reduceMul, e1, h24]
  | succ j ih =>
    intro i hi
    rw [al_4033]
    simp (disch := (first | omega | exact aCat_8 (by with_unfolding_all rfl) | exact rk_lt (by with_unfolding_all rfl) | exact aCat_16 (by with_unfolding_all rfl) | exact rk_eq (by with_unfolding_all rfl) | assumption | exact b2n_lt _ | exact id_b (by with_unfolding_all rfl) | (simp (disch := omega) only [u2_same, u2_ab, u2_aq]; done) | (simp (disch := omega) only [u2_same, u2_ab, u2_aq]; omega) | fail)) only [al_4032, wp_aloadr_0, wp_aloadk_0, hg_86_24, hp_86_34, wk_0, wp_istore_1, wp_jsr, wp_iload_1, wn_ge_t, wn_ge_f, hg_86_33, ha_104l, ha_104s, hg_86_22, ha_97l, ha_97s, wp_iinc_1_1, wp_goto, al_4034, wp_return, nl_i, nl_r, nl_k, nl_j, nl_l, nI_add, pk_mul, pk_sub, tl_s, tl_n, aL_inl, u2_same, u2_ab, u2_aq, nI_l, lN_i, Nat.add_zero, Nat.zero_add, Nat.zero_le, true_and, and_true, b2n_10, b2n_T, b2n_F, b2n_0, Decidable.not_not, not_true_eq_false, not_false_eq_true, Nat.reduceAdd, Nat.reduceMul, e1, h24, setRow_s, setRow_u, mixN_un]
    exact ih (i + 1) (by omega)
theorem t_63 (hL : N 86 24 ≤ 36) : aMm ko d 63 [.ref 86] (hp D N I J x) Q = Q none (hp D (setRow (u2 N 86 34 (N 86 24)) 104 (mixN (N 97) (N 104) (N 86 24))) I J x) := by
  have e97 : u2 N 86 34 (N 86 24) 97 = N 97 := u2_nb (by decide)
  have e104 : u2 N 86 34 (N 86 24) 104 = N 104 := u2_nb (by decide)
  have h := @l_63 ko d D (u2 N 86 34 (N 86 24)) I J x Q (N 86 24) (u2 N 86 34 (N 86 24) 104) hL (u2_aq (by decide)) (N 86 24) 0 (by omega)
  rw [mixN_0, setRow_id, e97, e104] at h
  rw [me_63]
  simp (disch := (first | omega | exact aCat_8 (by with_unfolding_all rfl) | exact rk_lt (by with_unfolding_all rfl) | exact aCat_16 (by with_unfolding_all rfl) | exact rk_eq (by with_unfolding_all rfl) | assumption | exact b2n_lt _ | exact id_b (by with_unfolding_all rfl) | (simp (disch := omega) only [u2_same, u2_ab, u2_aq]; done) | (simp (disch := omega) only [u2_same, u2_ab, u2_aq]; omega) | fail)) only [al_4032, wp_aloadr_0, wp_aloadk_0, hg_86_24, hp_86_34, wk_0, wp_istore_1, wp_jsr, wp_iload_1, wn_ge_t, wn_ge_f, hg_86_33, ha_104l, ha_104s, hg_86_22, ha_97l, ha_97s, wp_iinc_1_1, wp_goto, al_4034, wp_return, nl_i, nl_r, nl_k, nl_j, nl_l, nI_add, pk_mul, pk_sub, tl_s, tl_n, aL_inl, u2_same, u2_ab, u2_aq, nI_l, lN_i, Nat.add_zero, Nat.zero_add, Nat.zero_le, true_and, and_true, b2n_10, b2n_T, b2n_F, b2n_0, Decidable.not_not, not_true_eq_false, not_false_eq_true, Nat.reduceAdd, Nat.reduceMul]
  exact h
theorem l_64 {c c0 : Nat × (Nat → Nat) × Bool} (h24 : N 86 24 = c.1) (hc : ∀ k, k < c.1 → N 97 k = c.2.1 k ∧ c.2.1 k < 36) (hc0 : ∀ k, k < c0.1 → N 104 k = c0.2.1 k ∧ c0.2.1 k < 36) (hL : c.1 ≤ 36) : ∀ (j i : Nat) (b : Bool), i + j = c.1 → (b = true ↔ (c.1 = c0.1 ∧ ∀ k, k < i → c.2.1 k = c0.2.1 k)) → aWp ko d 64 (aP.1 (Int.toNat 4099)) [.ref 86, .int (nI (b2n (b = true))), .int (nI i)] [] (hp D N I J x) (aL Q) = Q (some (.int (nI (b2n (smB c c0 = true))))) (hp D N I J x) := by
  have hfin : ∀ (i : Nat), i ≤ c.1 → ¬ (c.1 = c0.1 ∧ ∀ k, k < i → c.2.1 k = c0.2.1 k) → ¬ smB c c0 = true := fun i hi hn z => hn ⟨(smB_iff.mp z).1, fun k hk => (smB_iff.mp z).2 k (by omega)⟩
  intro j
  induction j with
  | zero =>
    intro i b hi hb
    have e : i = c.1 := by omega
    subst e
    have eb : b2n (smB c c0 = true) = b2n (b = true) := by
      by_cases z : b = true
      · rw [b2n_t z, b2n_t (smB_iff.mpr (hb.mp z))]
      · rw [b2n_f z, b2n_f (hfin c.1 (Nat.le_refl _) (fun y => z (hb.mpr y)))]
    rw [eb, al_4099]
    simp (disch := (first | omega | exact aCat_8 (by with_unfolding_all rfl) | exact rk_lt (by with_unfolding_all rfl) | exact aCat_16 (by with_unfolding_all rfl) | exact rk_eq (by with_unfolding_all rfl) | assumption | exact b2n_lt _ | exact id_b (by with_unfolding_all rfl) | (simp (disch := omega) only [u2_same, u2_ab, u2_aq]; done) | (simp (disch := omega) only [u2_same, u2_ab, u2_aq]; omega) | fail)) only [al_4096, wp_aloadr_0, wp_aloadk_0, hg_86_34, hg_86_24, wn_ne_t, wn_ne_f, wk_1, wp_goto, al_4097, wk_0, wp_jsr, al_4098, wp_istore_1, wp_istore_2, wp_iload_2, wn_ge_t, wn_ge_f, wp_iload_1, wz_eq_t, wz_eq_f, wb_eq_t, wb_eq_f, wm_eq_1, wm_eq_2, hg_86_33, ha_104l, ha_104s, hg_86_22, ha_97l, ha_97s, al_4100, al_4101, wp_iinc_2_1, al_4102, wp_freturn0, wp_freturn1, wp_freturnb, nl_i, nl_r, nl_k, nl_j, nl_l, nI_add, pk_mul, pk_sub, tl_s, tl_n, aL_inl, u2_same, u2_ab, u2_aq, nI_l, lN_i, Nat.add_zero, Nat.zero_add, Nat.zero_le, true_and, and_true, b2n_10, b2n_T, b2n_F, b2n_0, Decidable.not_not, not_true_eq_false, not_false_eq_true, Nat.reduceAdd, Nat.reduceMul, h24]
  | succ j ih =>
    intro i b hi hb
    rw [al_4099]
    by_cases z : b = true
    · have hbb := hb.mp z
      have a1 := hc i (by omega)
      have a2 := hc0 i (by omega)
      have e1 := a1.1
      have e2 := a2.1
      by_cases q : c.2.1 i = c0.2.1 i
      · have := ih (i + 1) true (by omega) ⟨fun _ => ⟨hbb.1, fun k hk => by
          by_cases e : k = i
          · rw [e]; exact q
          · exact hbb.2 k (by omega)⟩, fun _ => rfl⟩
        rw [b2n_t rfl] at this
        rw [b2n_t z]
        simp (disch := (first | omega | exact aCat_8 (by with_unfolding_all rfl) | exact rk_lt (by with_unfolding_all rfl) | exact aCat_16 (by with_unfolding_all rfl) | exact rk_eq (by with_unfolding_all rfl) | assumption | exact b2n_lt _ | exact id_b (by with_unfolding_all rfl) | (simp (disch := omega) only [u2_same, u2_ab, u2_aq]; done) | (simp (disch := omega) only [u2_same, u2_ab, u2_aq]; omega) | fail)) only [al_4096, wp_aloadr_0, wp_aloadk_0, hg_86_34, hg_86_24, wn_ne_t, wn_ne_f, wk_1, wp_goto, al_4097, wk_0, wp_jsr, al_4098, wp_istore_1, wp_istore_2, wp_iload_2, wn_ge_t, wn_ge_f, wp_iload_1, wz_eq_t, wz_eq_f, wb_eq_t, wb_eq_f, wm_eq_1, wm_eq_2, hg_86_33, ha_104l, ha_104s, hg_86_22, ha_97l, ha_97s, al_4100, al_4101, wp_iinc_2_1, al_4102, wp_freturn0, wp_freturn1, wp_freturnb, nl_i, nl_r, nl_k, nl_j, nl_l, nI_add, pk_mul, pk_sub, tl_s, tl_n, aL_inl, u2_same, u2_ab, u2_aq, nI_l, lN_i, Nat.add_zero, Nat.zero_add, Nat.zero_le, true_and, and_true, b2n_10, b2n_T, b2n_F, b2n_0, Decidable.not_not, not_true_eq_false, not_false_eq_true, Nat.reduceAdd, Nat.reduceMul, h24]
        exact this
      · have := ih (i + 1) false (by omega) ⟨fun y => (by cases y), fun y => absurd (y.2 i (by omega)) q⟩
        rw [b2n_f (by simp)] at this
        rw [b2n_t z]
        simp (disch := (first | omega | exact aCat_8 (by with_unfolding_all rfl) | exact rk_lt (by with_unfolding_all rfl) | exact aCat_16 (by with_unfolding_all rfl) | exact rk_eq (by with_unfolding_all rfl) | assumption | exact b2n_lt _ | exact id_b (by with_unfolding_all rfl) | (simp (disch := omega) only [u2_same, u2_ab, u2_aq]; done) | (simp (disch := omega) only [u2_same, u2_ab, u2_aq]; omega) | fail)) only [al_4096, wp_aloadr_0, wp_aloadk_0, hg_86_34, hg_86_24, wn_ne_t, wn_ne_f, wk_1, wp_goto, al_4097, wk_0, wp_jsr, al_4098, wp_istore_1, wp_istore_2, wp_iload_2, wn_ge_t, wn_ge_f, wp_iload_1, wz_eq_t, wz_eq_f, wb_eq_t, wb_eq_f, wm_eq_1, wm_eq_2, hg_86_33, ha_104l, ha_104s, hg_86_22, ha_97l, ha_97s, al_4100, al_4101, wp_iinc_2_1, al_4102, wp_freturn0, wp_freturn1, wp_freturnb, nl_i, nl_r, nl_k, nl_j, nl_l, nI_add, pk_mul, pk_sub, tl_s, tl_n, aL_inl, u2_same, u2_ab, u2_aq, nI_l, lN_i, Nat.add_zero, Nat.zero_add, Nat.zero_le, true_and, and_true, b2n_10, b2n_T, b2n_F, b2n_0, Decidable.not_not, not_true_eq_false, not_false_eq_true, Nat.reduceAdd, Nat.reduceMul, h24]
        exact this
    · rw [b2n_f (hfin i (by omega) (fun y => z (hb.mpr y))), b2n_f z]
      simp (disch := (first | omega | exact aCat_8 (by with_unfolding_all rfl) | exact rk_lt (by with_unfolding_all rfl) | exact aCat_16 (by with_unfolding_all rfl) | exact rk_eq (by with_unfolding_all rfl) | assumption | exact b2n_lt _ | exact id_b (by with_unfolding_all rfl) | (simp (disch := omega) only [u2_same, u2_ab, u2_aq]; done) | (simp (disch := omega) only [u2_same, u2_ab, u2_aq]; omega) | fail)) only [al_4096, wp_aloadr_0, wp_aloadk_0, hg_86_34, hg_86_24, wn_ne_t, wn_ne_f, wk_1, wp_goto, al_4097, wk_0, wp_jsr, al_4098, wp_istore_1, wp_istore_2, wp_iload_2, wn_ge_t, wn_ge_f, wp_iload_1, wz_eq_t, wz_eq_f, wb_eq_t, wb_eq_f, wm_eq_1, wm_eq_2, hg_86_33, ha_104l, ha_104s, hg_86_22, ha_97l, ha_97s, al_4100, al_4101, wp_iinc_2_1, al_4102, wp_freturn0, wp_freturn1, wp_freturnb, nl_i, nl_r, nl_k, nl_j, nl_l, nI_add, pk_mul, pk_sub, tl_s, tl_n, aL_inl, u2_same, u2_ab, u2_aq, nI_l, lN_i, Nat.add_zero, Nat.zero_add, Nat.zero_le, true_and, and_true, b2n_10, b2n_T, b2n_F, b2n_0, Decidable.not_not, not_true_eq_false, not_false_eq_true, Nat.reduceAdd, Nat.reduceMul, h24]
theorem t_64 {c c0 : Nat × (Nat → Nat) × Bool} (h24 : N 86 24 = c.1) (h34 : N 86 34 = c0.1) (hc : ∀ k, k < c.1 → N 97 k = c.2.1 k ∧ c.2.1 k < 36) (hc0 : ∀ k, k < c0.1 → N 104 k = c0.2.1 k ∧ c0.2.1 k < 36) (hL : c.1 ≤ 36) (hL0 : c0.1 ≤ 36) : aMm ko d 64 [.ref 86] (hp D N I J x) Q = Q (some (.int (nI (b2n (smB c c0 = true))))) (hp D N I J x) := by
  rw [me_64]
  by_cases he : c.1 = c0.1
  · have := @l_64 ko d D N I J x Q c c0 h24 hc hc0 hL c.1 0 true (by omega) ⟨fun _ => ⟨he, fun k hk => absurd hk (Nat.not_lt_zero _)⟩, fun _ => rfl⟩
    rw [b2n_t rfl] at this
    simp (disch := (first | omega | exact aCat_8 (by with_unfolding_all rfl) | exact rk_lt (by with_unfolding_all rfl) | exact aCat_16 (by with_unfolding_all rfl) | exact rk_eq (by with_unfolding_all rfl) | assumption | exact b2n_lt _ | exact id_b (by with_unfolding_all rfl) | (simp (disch := omega) only [u2_same, u2_ab, u2_aq]; done) | (simp (disch := omega) only [u2_same, u2_ab, u2_aq]; omega) | fail)) only [al_4096, wp_aloadr_0, wp_aloadk_0, hg_86_34, hg_86_24, wn_ne_t, wn_ne_f, wk_1, wp_goto, al_4097, wk_0, wp_jsr, al_4098, wp_istore_1, wp_istore_2, wp_iload_2, wn_ge_t, wn_ge_f, wp_iload_1, wz_eq_t, wz_eq_f, wb_eq_t, wb_eq_f, wm_eq_1, wm_eq_2, hg_86_33, ha_104l, ha_104s, hg_86_22, ha_97l, ha_97s, al_4100, al_4101, wp_iinc_2_1, al_4102, wp_freturn0, wp_freturn1, wp_freturnb, nl_i, nl_r, nl_k, nl_j, nl_l, nI_add, pk_mul, pk_sub, tl_s, tl_n, aL_inl, u2_same, u2_ab, u2_aq, nI_l, lN_i, Nat.add_zero, Nat.zero_add, Nat.zero_le, true_and, and_true, b2n_10, b2n_T, b2n_F, b2n_0, Decidable.not_not, not_true_eq_false, not_false_eq_true, Nat.reduceAdd, Nat.reduceMul]
    exact this
  · have := @l_64 ko d D N I J x Q c c0 h24 hc hc0 hL c.1 0 false (by omega) ⟨fun y => (by cases y), fun y => absurd y.1 he⟩
    rw [b2n_f (by simp)] at this
    simp (disch := (first | omega | exact aCat_8 (by with_unfolding_all rfl) | exact rk_lt (by with_unfolding_all rfl) | exact aCat_16 (by with_unfolding_all rfl) | exact rk_eq (by with_unfolding_all rfl) | assumption | exact b2n_lt _ | exact id_b (by with_unfolding_all rfl) | (simp (disch := omega) only [u2_same, u2_ab, u2_aq]; done) | (simp (disch := omega) only [u2_same, u2_ab, u2_aq]; omega) | fail)) only [al_4096, wp_aloadr_0, wp_aloadk_0, hg_86_34, hg_86_24, wn_ne_t, wn_ne_f, wk_1, wp_goto, al_4097, wk_0, wp_jsr, al_4098, wp_istore_1, wp_istore_2, wp_iload_2, wn_ge_t, wn_ge_f, wp_iload_1, wz_eq_t, wz_eq_f, wb_eq_t, wb_eq_f, wm_eq_1, wm_eq_2, hg_86_33, ha_104l, ha_104s, hg_86_22, ha_97l, ha_97s, al_4100, al_4101, wp_iinc_2_1, al_4102, wp_freturn0, wp_freturn1, wp_freturnb, nl_i, nl_r, nl_k, nl_j, nl_l, nI_add, pk_mul, pk_sub, tl_s, tl_n, aL_inl, u2_same, u2_ab, u2_aq, nI_l, lN_i, Nat.add_zero, Nat.zero_add, Nat.zero_le, true_and, and_true, b2n_10, b2n_T, b2n_F, b2n_0, Decidable.not_not, not_true_eq_false, not_false_eq_true, Nat.reduceAdd, Nat.reduceMul]
    exact this
end O4
