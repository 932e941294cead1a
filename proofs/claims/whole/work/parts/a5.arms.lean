/-! arms: what is shut off. From wip/whole/src. -/
/-- open: no wall, and not in the set m -/
def amO (D : Nat → Nat) (N : Nat → Nat → Nat) (m g : Nat) : Bool := decide (g < D 0 * D 1) && (!wlS (N 89) g && !m.testBit g)
def amA (N : Nat → Nat → Nat) (g : Nat) : Bool := decide (g = N 89 108)
def amF (D : Nat → Nat) (N : Nat → Nat → Nat) (m k g : Nat) : Bool := fl (D 0) (D 1) (amO D N m) (amA N) k g
/-- it comes down to the last row -/
def amC (D : Nat → Nat) (N : Nat → Nat → Nat) (m : Nat) : Bool := (List.range 36).any (fun g => wyA D g && amF D N m (D 0 * D 1) g)
section M1
variable {ko : aKo} {d k : Nat} {is : List Instr} {ls st : List Value} {σ : aH} {D : Nat → Nat} {N : Nat → Nat → Nat} {I : Nat → Nat → Int32} {J : Nat → Nat → Int64} {x t : Nat} {Q : Option Value → aH → Prop} {P : (Option Value ⊕ Unit) → aH → Prop}
theorem am_in {m k g : Nat} (h : amF D N m k g = true) : g < D 0 * D 1 := by
  have := fl_open k h
  unfold amO at this
  exact of_decide_eq_true (Bool.and_eq_true _ _ |>.mp this).1
theorem am_all (hd : dmO D) {m k g : Nat} (h : amF D N m k g = true) : amF D N m (D 0 * D 1) g = true := by
  have hC := hd.2.2.1
  obtain ⟨i, i1, i2⟩ := fl_first k h
  have hi := fl_lt (by omega) (am_in h) i2
  have := fl_up i (D 0 * D 1 - i) i2.1
  rw [show i + (D 0 * D 1 - i) = D 0 * D 1 by omega] at this
  exact this
theorem am_t (hd : dmO D) {m k g : Nat} (h : amF D N m k g = true) (hl : D 0 * D 1 - D 1 ≤ g) : amC D N m = true := by
  have hF := dm_F hd
  have := am_in h
  unfold amC
  rw [List.any_eq_true]
  refine ⟨g, List.mem_range.mpr (by omega), ?_⟩
  rw [am_all hd h]
  unfold wyA
  simp [hl]
theorem am_fls {m : Nat} (h : ∀ g, amF D N m (D 0 * D 1) g = true → ¬ D 0 * D 1 - D 1 ≤ g) : amC D N m = false := by
  cases hq : amC D N m with
  | false => rfl
  | true =>
    unfold amC at hq
    obtain ⟨g, _, hg⟩ := List.any_eq_true.mp hq
    have h1 := (Bool.and_eq_true _ _ |>.mp hg)
    exact absurd (of_decide_eq_true h1.1) (h g h1.2)
/-- nothing more is reached once a step reached nothing more -/
theorem fl_stop {R C : Nat} {O A : Nat → Bool} {k : Nat} (h : ∀ g, fl R C O A (k + 1) g = fl R C O A k g) : ∀ j g, fl R C O A (k + j) g = fl R C O A k g := by
  intro j
  induction j with
  | zero => intro g; rfl
  | succ j ih =>
    intro g
    have e : fl R C O A (k + j) = fl R C O A k := funext ih
    rw [← Nat.add_assoc, fl_s, e]
    exact h g
theorem l_196 {m : Nat} {w1 : Int32} {sh : Int64} (h : invB D N I J t) (hsh : ∀ g, g < D 0 * D 1 → tb sh g = (wlS (N 89) g || m.testBit g)) :
    ∀ (j k : Nat) (cur : Int64) (w6 w7 : Value), k + j = D 0 * D 1 → (∀ g, g < 64 → tb cur g = amF D N m k g) → (0 < k → ∀ g, amF D N m k g = true → ¬ D 0 * D 1 - D 1 ≤ g) → aWp ko d 196 (aP.1 (Int.toNat 12545)) [.ref 5, .int w1, .long sh, aJk, .long cur, aJk, .int (nI k), w6, w7] [] (hp D N I J x) (aL Q) = Q (some (.int (nI (b2n (amC D N m = true))))) (hp D N I J x) := by
  have hF := dm_F h.1.1
  have hd6 := h.1.1.2.2.2
  have h4 := inv_d4 h
  intro j
  induction j with
  | zero =>
    intro k cur w6 w7 hj hc hno
    have e : k = D 0 * D 1 := by omega
    subst e
    have hf := am_fls (hno (by omega))
    rw [b2n_f (by rw [hf]; decide), al_12545]
    simp (disch := (first | omega | exact aCat_8 (by with_unfolding_all rfl) | exact rk_lt (by with_unfolding_all rfl) | exact aCat_16 (by with_unfolding_all rfl) | exact rk_eq (by with_unfolding_all rfl) | assumption | exact b2n_lt _ | exact id_b (by with_unfolding_all rfl) | (simp (disch := omega) only [u2_same, u2_ab, u2_aq]; done) | (simp (disch := omega) only [u2_same, u2_ab, u2_aq]; omega) | fail)) only [al_12544, wl_1, wp_iload_1, wp_lshl, wp_lload_2, wl_m1, wp_lxor, wp_land, wp_lstore_4, wk_0, wp_istore_6, wp_jsr, wp_iload_6, wp_aloadr_0, wp_aloadk_0, hg_5_2, wn_ge_t, wn_ge_f, wp_lload_4, wc_243, wp_lor, wp_lstore_7, wp_lload_7, hg_5_4, wl_0, wp_lcmp, wz_eq_t, wz_eq_f, wb_eq_t, wb_eq_f, wm_eq_1, wm_eq_2, wk_1, wp_freturn0, wp_freturn1, wp_freturnb, al_12546, wz_ne_t, wz_ne_f, wb_ne_t, wb_ne_f, wm_ne_1, wm_ne_2, al_12547, wp_iinc_6_1, wp_goto, al_12548, nl_i, nl_r, nl_k, nl_j, nl_l, nI_add, pk_mul, pk_sub, tl_s, tl_n, aL_inl, u2_same, u2_ab, u2_aq, nI_l, lN_i, Nat.add_zero, Nat.zero_add, Nat.zero_le, true_and, and_true, b2n_10, b2n_T, b2n_F, b2n_0, Decidable.not_not, not_true_eq_false, not_false_eq_true, Nat.reduceAdd, Nat.reduceMul, Nat.reduceSub, h4]
  | succ j ih =>
    intro k cur w6 w7 hj hc hno
    have hnx : ∀ g, g < 64 → tb (cur ||| arJ D J cur &&& (sh ^^^ -1)) g = amF D N m (k + 1) g := by
      intro g hg
      rw [tb_or, tb_and, hc g hg, tb_sets h.1.2.2.2 h.1.2.1 h.1.2.2.1 hc (fun g hg => by
        cases hq : amF D N m k g with
        | false => rfl
        | true =>
          have := am_in hq
          omega) hg, tb_not hg]
      show _ = (amF D N m k g || (amO D N m g && besW (D 0) (D 1) (amF D N m k) g 4))
      congr 1
      by_cases z : g < D 0 * D 1
      · rw [hsh g z]
        unfold amO
        simp only [z, decide_true, Bool.true_and]
        rw [Bool.and_comm]
        cases wlS (N 89) g <;> cases m.testBit g <;> rfl
      · unfold amO
        simp [z]
    generalize hnd : cur ||| arJ D J cur &&& (sh ^^^ -1) = nx at hnx
    have hlast : ∀ g, g < 64 → tb (nx &&& J 5 4) g = (amF D N m (k + 1) g && decide (D 0 * D 1 - D 1 ≤ g ∧ g < D 0 * D 1)) := by
      intro g hg
      rw [tb_and, hnx g hg, (h.1.2.2.2.2.2.2 g hg).2.1, h.1.2.1, h.1.2.2.1]
    rw [al_12545]
    by_cases hz : nx &&& J 5 4 = lN 0
    · have hnl : ∀ g, amF D N m (k + 1) g = true → ¬ D 0 * D 1 - D 1 ≤ g := by
        intro g hg hl
        have hgF := am_in hg
        have := hlast g (by omega)
        rw [hz, tb_0, hg] at this
        simp [hl, hgF] at this
      by_cases he : nx = cur
      · have hst : ∀ g, amF D N m (k + 1) g = amF D N m k g := by
          intro g
          by_cases z : g < 64
          · rw [← hnx g z, ← hc g z, he]
          · cases hq : amF D N m (k + 1) g with
            | true => have := am_in hq; omega
            | false =>
              cases hq2 : amF D N m k g with
              | true => have := am_in hq2; omega
              | false => rfl
        have hf := am_fls (D := D) (N := N) (m := m) (by
          intro g hg
          have := fl_stop hst (D 0 * D 1 - k) g
          rw [show k + (D 0 * D 1 - k) = D 0 * D 1 by omega] at this
          have hg' : fl (D 0) (D 1) (amO D N m) (amA N) (D 0 * D 1) g = true := hg
          rw [hg'] at this
          exact hnl g ((hst g).trans this.symm))
        rw [b2n_f (by rw [hf]; decide)]
        simp (disch := (first | omega | exact aCat_8 (by with_unfolding_all rfl) | exact rk_lt (by with_unfolding_all rfl) | exact aCat_16 (by with_unfolding_all rfl) | exact rk_eq (by with_unfolding_all rfl) | assumption | exact b2n_lt _ | exact id_b (by with_unfolding_all rfl) | (simp (disch := omega) only [u2_same, u2_ab, u2_aq]; done) | (simp (disch := omega) only [u2_same, u2_ab, u2_aq]; omega) | fail)) only [al_12544, wl_1, wp_iload_1, wp_lshl, wp_lload_2, wl_m1, wp_lxor, wp_land, wp_lstore_4, wk_0, wp_istore_6, wp_jsr, wp_iload_6, wp_aloadr_0, wp_aloadk_0, hg_5_2, wn_ge_t, wn_ge_f, wp_lload_4, wc_243, wp_lor, wp_lstore_7, wp_lload_7, hg_5_4, wl_0, wp_lcmp, wz_eq_t, wz_eq_f, wb_eq_t, wb_eq_f, wm_eq_1, wm_eq_2, wk_1, wp_freturn0, wp_freturn1, wp_freturnb, al_12546, wz_ne_t, wz_ne_f, wb_ne_t, wb_ne_f, wm_ne_1, wm_ne_2, al_12547, wp_iinc_6_1, wp_goto, al_12548, nl_i, nl_r, nl_k, nl_j, nl_l, nI_add, pk_mul, pk_sub, tl_s, tl_n, aL_inl, u2_same, u2_ab, u2_aq, nI_l, lN_i, Nat.add_zero, Nat.zero_add, Nat.zero_le, true_and, and_true, b2n_10, b2n_T, b2n_F, b2n_0, Decidable.not_not, not_true_eq_false, not_false_eq_true, Nat.reduceAdd, Nat.reduceMul, Nat.reduceSub, h4, t_243 (show D 3 ≤ 6 by rw [h.1.2.2.1]; exact hd6), hnd, wy_eq_t (lc_t hz), wy_ne_f (not_not_intro (lc_t he))]
      · have ih1 := fun w6 w7 => ih (k + 1) nx w6 w7 (by omega) hnx (fun _ => hnl)
        simp (disch := (first | omega | exact aCat_8 (by with_unfolding_all rfl) | exact rk_lt (by with_unfolding_all rfl) | exact aCat_16 (by with_unfolding_all rfl) | exact rk_eq (by with_unfolding_all rfl) | assumption | exact b2n_lt _ | exact id_b (by with_unfolding_all rfl) | (simp (disch := omega) only [u2_same, u2_ab, u2_aq]; done) | (simp (disch := omega) only [u2_same, u2_ab, u2_aq]; omega) | fail)) only [al_12544, wl_1, wp_iload_1, wp_lshl, wp_lload_2, wl_m1, wp_lxor, wp_land, wp_lstore_4, wk_0, wp_istore_6, wp_jsr, wp_iload_6, wp_aloadr_0, wp_aloadk_0, hg_5_2, wn_ge_t, wn_ge_f, wp_lload_4, wc_243, wp_lor, wp_lstore_7, wp_lload_7, hg_5_4, wl_0, wp_lcmp, wz_eq_t, wz_eq_f, wb_eq_t, wb_eq_f, wm_eq_1, wm_eq_2, wk_1, wp_freturn0, wp_freturn1, wp_freturnb, al_12546, wz_ne_t, wz_ne_f, wb_ne_t, wb_ne_f, wm_ne_1, wm_ne_2, al_12547, wp_iinc_6_1, wp_goto, al_12548, nl_i, nl_r, nl_k, nl_j, nl_l, nI_add, pk_mul, pk_sub, tl_s, tl_n, aL_inl, u2_same, u2_ab, u2_aq, nI_l, lN_i, Nat.add_zero, Nat.zero_add, Nat.zero_le, true_and, and_true, b2n_10, b2n_T, b2n_F, b2n_0, Decidable.not_not, not_true_eq_false, not_false_eq_true, Nat.reduceAdd, Nat.reduceMul, Nat.reduceSub, h4, t_243 (show D 3 ≤ 6 by rw [h.1.2.2.1]; exact hd6), hnd, wy_eq_t (lc_t hz), wy_ne_t (lc_f he)]
        exact ih1 _ _
    · have hex : ∃ g, amF D N m (k + 1) g = true ∧ D 0 * D 1 - D 1 ≤ g := by
        apply Classical.byContradiction
        intro hno2
        apply hz
        apply tb_ext
        intro g hg
        rw [hlast g hg, tb_0]
        cases hq : amF D N m (k + 1) g with
        | false => rfl
        | true =>
          have : ¬ D 0 * D 1 - D 1 ≤ g := fun y => hno2 ⟨g, hq, y⟩
          simp [this]
      obtain ⟨g, g1, g2⟩ := hex
      have ht := am_t h.1.1 g1 g2
      rw [b2n_t ht]
      simp (disch := (first | omega | exact aCat_8 (by with_unfolding_all rfl) | exact rk_lt (by with_unfolding_all rfl) | exact aCat_16 (by with_unfolding_all rfl) | exact rk_eq (by with_unfolding_all rfl) | assumption | exact b2n_lt _ | exact id_b (by with_unfolding_all rfl) | (simp (disch := omega) only [u2_same, u2_ab, u2_aq]; done) | (simp (disch := omega) only [u2_same, u2_ab, u2_aq]; omega) | fail)) only [al_12544, wl_1, wp_iload_1, wp_lshl, wp_lload_2, wl_m1, wp_lxor, wp_land, wp_lstore_4, wk_0, wp_istore_6, wp_jsr, wp_iload_6, wp_aloadr_0, wp_aloadk_0, hg_5_2, wn_ge_t, wn_ge_f, wp_lload_4, wc_243, wp_lor, wp_lstore_7, wp_lload_7, hg_5_4, wl_0, wp_lcmp, wz_eq_t, wz_eq_f, wb_eq_t, wb_eq_f, wm_eq_1, wm_eq_2, wk_1, wp_freturn0, wp_freturn1, wp_freturnb, al_12546, wz_ne_t, wz_ne_f, wb_ne_t, wb_ne_f, wm_ne_1, wm_ne_2, al_12547, wp_iinc_6_1, wp_goto, al_12548, nl_i, nl_r, nl_k, nl_j, nl_l, nI_add, pk_mul, pk_sub, tl_s, tl_n, aL_inl, u2_same, u2_ab, u2_aq, nI_l, lN_i, Nat.add_zero, Nat.zero_add, Nat.zero_le, true_and, and_true, b2n_10, b2n_T, b2n_F, b2n_0, Decidable.not_not, not_true_eq_false, not_false_eq_true, Nat.reduceAdd, Nat.reduceMul, Nat.reduceSub, h4, t_243 (show D 3 ≤ 6 by rw [h.1.2.2.1]; exact hd6), hnd, wy_eq_f (lc_f hz)]
theorem t_196 {m : Nat} {sh : Int64} (h : invB D N I J t) (hsh : ∀ g, g < D 0 * D 1 → tb sh g = (wlS (N 89) g || m.testBit g)) : aMm ko d 196 [.ref 5, .int (nI (N 89 108)), .long sh] (hp D N I J x) Q = Q (some (.int (nI (b2n (amC D N m = true))))) (hp D N I J x) := by
  have hF := dm_F h.1.1
  have hA := inv_rv h
  have e203 : N 20 3 = N 89 108 := hA.2.1.2.2.1
  have hs : N 89 108 < D 0 * D 1 := by have := h.2.2.2.2.1.1.2.1; omega
  have hx := fun w6 w7 => l_196 (ko := ko) (d := d) (x := x) (Q := Q) (w1 := nI (N 89 108)) h hsh (D 0 * D 1) 0 (lN 1 <<< (lN (N 89 108) &&& 63) &&& (sh ^^^ -1)) w6 w7 (by omega) (by
    intro g hg
    rw [tb_and, tb_p2 (by omega) hg, tb_not hg]
    show _ = (amA N g && amO D N m g)
    unfold amA amO
    by_cases z : g = N 89 108
    · have hgF : g < D 0 * D 1 := by omega
      rw [hsh g hgF]
      simp only [z, decide_true, Bool.true_and]
      rw [← z]
      simp only [hgF, decide_true, Bool.true_and]
      cases wlS (N 89) g <;> cases m.testBit g <;> rfl
    · simp [z]) (fun z => absurd z (Nat.lt_irrefl 0))
  rw [me_196]
  simp (disch := (first | omega | exact aCat_8 (by with_unfolding_all rfl) | exact rk_lt (by with_unfolding_all rfl) | exact aCat_16 (by with_unfolding_all rfl) | exact rk_eq (by with_unfolding_all rfl) | assumption | exact b2n_lt _ | exact id_b (by with_unfolding_all rfl) | (simp (disch := omega) only [u2_same, u2_ab, u2_aq]; done) | (simp (disch := omega) only [u2_same, u2_ab, u2_aq]; omega) | fail)) only [al_12544, wl_1, wp_iload_1, wp_lshl, wp_lload_2, wl_m1, wp_lxor, wp_land, wp_lstore_4, wk_0, wp_istore_6, wp_jsr, wp_iload_6, wp_aloadr_0, wp_aloadk_0, hg_5_2, wn_ge_t, wn_ge_f, wp_lload_4, wc_243, wp_lor, wp_lstore_7, wp_lload_7, hg_5_4, wl_0, wp_lcmp, wz_eq_t, wz_eq_f, wb_eq_t, wb_eq_f, wm_eq_1, wm_eq_2, wk_1, wp_freturn0, wp_freturn1, wp_freturnb, al_12546, wz_ne_t, wz_ne_f, wb_ne_t, wb_ne_f, wm_ne_1, wm_ne_2, al_12547, wp_iinc_6_1, wp_goto, al_12548, nl_i, nl_r, nl_k, nl_j, nl_l, nI_add, pk_mul, pk_sub, tl_s, tl_n, aL_inl, u2_same, u2_ab, u2_aq, nI_l, lN_i, Nat.add_zero, Nat.zero_add, Nat.zero_le, true_and, and_true, b2n_10, b2n_T, b2n_F, b2n_0, Decidable.not_not, not_true_eq_false, not_false_eq_true, Nat.reduceAdd, Nat.reduceMul, Nat.reduceSub, e203]
  exact hx _ _
end M1
