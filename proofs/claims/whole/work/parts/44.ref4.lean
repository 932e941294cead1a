/-! The reference: laysCourse, its contract. From wip/whole/src. -/
/-- a course laid out in the reference's rows -/
def crO (N : Nat → Nat → Nat) (c : Nat × (Nat → Nat) × Bool) : Prop := N 86 24 = c.1 ∧ N 86 25 = b2n (c.2.2 = true) ∧ (∀ k, k < c.1 → N 97 k = c.2.1 k) ∧ ∀ g, g < 36 → N 98 g = b2n (onP c.1 c.2.1 g = true)
def frC (b q : Nat) : Bool := b == 97 || (b == 98 || (b == 86 && (q == 24 || q == 25)))
/-- what is known of a course -/
def crK (R C : Nat) (c : Nat × (Nat → Nat) × Bool) : Prop := c.1 ≤ R * C ∧ (∀ k, k < c.1 → c.2.1 k < R * C) ∧ (∀ i j, i < j → j < c.1 → c.2.1 i ≠ c.2.1 j) ∧ (c.2.2 = false → 0 < c.1 ∧ R * C - C ≤ c.2.1 (c.1 - 1))
theorem onP_up {L : Nat} {p : Nat → Nat} {g v : Nat} : (onP (L + 1) (upn p L v) g = true) ↔ (g = v ∨ onP L p g = true) := by
  rw [onP_iff, onP_iff]
  constructor
  · rintro ⟨k, hk, he⟩
    by_cases q : k = L
    · subst q
      simp [upn] at he
      exact Or.inl he.symm
    · simp [upn, q] at he
      exact Or.inr ⟨k, by omega, he⟩
  · rintro (h | ⟨k, hk, he⟩)
    · exact ⟨L, by omega, by simp [upn, h]⟩
    · exact ⟨k, by omega, by rw [upn, if_neg (by omega)]; exact he⟩
theorem crs_K {R C : Nat} {dis : Nat → Nat → Int32} {wl : Nat → Bool} (hC : 0 < C) : ∀ (n L : Nat) (p : Nat → Nat), 0 < L → (∀ k, k < L → p k < R * C) → (∀ i j, i < j → j < L → p i ≠ p j) → crK R C (crs R C dis wl n L p) := by
  intro n
  induction n with
  | zero =>
    intro L p h0 h1 h2
    exact ⟨pig _ _ _ h1 h2, h1, h2, fun q => by cases q⟩
  | succ n ih =>
    intro L p h0 h1 h2
    unfold crs
    split
    · rename_i h
      exact ⟨pig _ _ _ h1 h2, h1, h2, fun _ => ⟨h0, h⟩⟩
    · split
      · exact ⟨pig _ _ _ h1 h2, h1, h2, fun q => by cases q⟩
      · rename_i g l hb
        obtain ⟨⟨v, hv1, hv2⟩, hv3⟩ := bst_some hb
        have hg : g < R * C := bsd_lt hC (h1 _ (by omega)) hv2
        have hno : ¬ onP L p g = true := by
          simp at hv3
          simp [hv3.2]
        refine ih (L + 1) (upn p L g) (by omega) ?_ ?_
        · intro k hk
          unfold upn
          split
          · exact hg
          · exact h1 k (by omega)
        · intro i j hij hj
          by_cases q : j = L
          · subst q
            have e1 : upn p j g j = g := by simp [upn]
            have e2 : upn p j g i = p i := by rw [upn, if_neg (by omega)]
            rw [e1, e2]
            intro e
            exact hno (onP_iff.mpr ⟨i, hij, e⟩)
          · have e1 : upn p L g j = p j := by rw [upn, if_neg q]
            have e2 : upn p L g i = p i := by rw [upn, if_neg (by omega)]
            rw [e1, e2]
            exact h2 i j hij (by omega)
theorem crs0_K {R C s : Nat} {dis : Nat → Nat → Int32} {wl : Nat → Bool} (hC : 0 < C) (hs : s < R * C) : crK R C (crs0 R C dis wl s) := by
  unfold crs0
  split
  · exact ⟨by omega, fun k hk => absurd hk (by simp), fun i j _ hj => absurd hj (by simp), fun q => by cases q⟩
  · refine crs_K hC 36 1 _ (by omega) ?_ ?_
    · intro k hk
      have : k = 0 := by omega
      subst this
      simpa [upn] using hs
    · intro i j hij hj
      omega
section R4
variable {ko : aKo} {d k : Nat} {is : List Instr} {ls st : List Value} {σ : aH} {D : Nat → Nat} {N : Nat → Nat → Nat} {I : Nat → Nat → Int32} {J : Nat → Nat → Int64} {x : Nat} {Q : Option Value → aH → Prop} {P : (Option Value ⊕ Unit) → aH → Prop}
theorem l_25c {N0 : Nat → Nat → Nat} {I0 : Nat → Nat → Int32} {r : Nat} (hr : r = 89 ∨ r = 90) (hd : dmO D) (hw : rwO (D 1) (N0 r)) (hl : rlO N0) :
    ∀ (n L : Nat) (p : Nat → Nat) (N : Nat → Nat → Nat) (I : Nat → Nat → Int32) (v3 v4 v5 v6 v7 : Value), L + n = 37 → 0 < L → (∀ k, k < L → p k < D 0 * D 1) → (∀ i j, i < j → j < L → p i ≠ p j) → crO N (L, p, false) → (∀ b q, frC b q = false → N b q = N0 b q) → (∀ b q, b ≠ 95 → b ≠ 96 → I b q = I0 b q) →
    (∀ (N' : Nat → Nat → Nat) (I' : Nat → Nat → Int32), crO N' (crs (D 0) (D 1) (dsl (D 1) N0 (N0 r)) (wlS (N0 r)) n L p) → (∀ b q, frC b q = false → N' b q = N0 b q) → (∀ b q, b ≠ 95 → b ≠ 96 → I' b q = I0 b q) → Q none (hp D N' I' J x)) →
    aWp ko d 25 (aP.1 (Int.toNat 1604)) [.ref 86, .ref r, .int (nI (p (L - 1))), v3, v4, v5, v6, v7] [] (hp D N I J x) (aL Q) := by
  obtain ⟨hd0, hd1, hd2, hd3⟩ := id hd
  have hF := dm_F hd
  intro n
  induction n with
  | zero =>
    intro L p N I v3 v4 v5 v6 v7 hn h0 h1 h2
    have := pig _ _ _ h1 h2
    omega
  | succ n ih =>
    intro L p N I v3 v4 v5 v6 v7 hn h0 h1 h2 hc hfN hfI hQ
    have hLF := pig _ _ _ h1 h2
    have hp1 := h1 (L - 1) (by omega)
    have eS : N r = N0 r := by funext q; exact hfN r q (by rcases hr with rfl | rfl <;> rfl)
    have e93 : N 93 = N0 93 := by funext q; exact hfN 93 q rfl
    have e88 : N 88 = N0 88 := by funext q; exact hfN 88 q rfl
    have e18 : N 86 18 = N0 86 18 := hfN 86 18 rfl
    have e6 : N 86 6 = N0 86 6 := hfN 86 6 rfl
    have hl' : rlO N := by unfold rlO; rw [e93, e18, e6]; exact hl
    have edsl : dsl (D 1) N (N r) = dsl (D 1) N0 (N0 r) := by unfold dsl skR; rw [e93, e18, e6, e88, eS]
    have hlk : N 86 25 = 0 := hc.2.1.trans (b2n_f (by simp))
    rw [al_1604]
    by_cases hlast : D 0 * D 1 - D 1 ≤ p (L - 1)
    · simp (disch := (first | omega | exact aCat_8 (by with_unfolding_all rfl) | exact rk_lt (by with_unfolding_all rfl) | exact aCat_16 (by with_unfolding_all rfl) | exact rk_eq (by with_unfolding_all rfl) | assumption | exact b2n_lt _ | exact id_b (by with_unfolding_all rfl) | (simp (disch := omega) only [u2_same, u2_ab, u2_aq]; done) | (simp (disch := omega) only [u2_same, u2_ab, u2_aq]; omega) | fail)) only [al_1600, wp_aloadr_0, wp_aloadk_0, wk_0, hp_86_24, wp_istore_2, wp_jsr, wp_iload_2, wk_36, wn_ge_t, wn_ge_f, hg_86_23, ha_98l, ha_98s, wp_iinc_2_1, wp_goto, al_1602, wp_aloadr_1, wp_aloadk_1, wk_108, wc_26, hp_86_25, hg_86_25, wz_eq_t, wz_eq_f, wb_eq_t, wb_eq_f, wm_eq_1, wm_eq_2, wp_return, al_1603, wc_27, wz_ne_t, wz_ne_f, wb_ne_t, wb_ne_f, wm_ne_1, wm_ne_2, wc_28, wk_m1, wp_istore_3, wp_istore_4, wp_istore_5, wp_iload_5, wk_3, wc_29, wp_istore_6, wp_iload_6, wz_lt_t, wz_lt_f, wm_lt_1, wm_lt_2, wz_le_t, wz_le_f, wm_le_1, wm_le_2, wk_1, al_1606, al_1607, wc_17, t_17, wc_30, wp_istore_7, wp_iload_3, wp_iload_7, wp_iload_4, al_1608, al_1609, al_1610, wn_ne_t, wn_ne_f, al_1611, al_1612, al_1613, wp_iinc_5_1, al_1614, wz_ge_t, wz_ge_f, wm_ge_1, wm_ge_2, al_1615, al_1616, al_1617, al_1618, nl_i, nl_r, nl_k, nl_j, nl_l, nI_add, pk_mul, pk_sub, tl_s, tl_n, aL_inl, u2_same, u2_ab, u2_aq, nI_l, lN_i, Nat.add_zero, Nat.zero_add, Nat.zero_le, true_and, and_true, b2n_10, b2n_T, b2n_F, b2n_0, Decidable.not_not, not_true_eq_false, not_false_eq_true, Nat.reduceAdd, Nat.reduceMul, t_28]
      refine hQ N I ?_ hfN hfI
      rw [crs, if_pos hlast]
      exact hc
    · simp (disch := (first | omega | exact aCat_8 (by with_unfolding_all rfl) | exact rk_lt (by with_unfolding_all rfl) | exact aCat_16 (by with_unfolding_all rfl) | exact rk_eq (by with_unfolding_all rfl) | assumption | exact b2n_lt _ | exact id_b (by with_unfolding_all rfl) | (simp (disch := omega) only [u2_same, u2_ab, u2_aq]; done) | (simp (disch := omega) only [u2_same, u2_ab, u2_aq]; omega) | fail)) only [al_1600, wp_aloadr_0, wp_aloadk_0, wk_0, hp_86_24, wp_istore_2, wp_jsr, wp_iload_2, wk_36, wn_ge_t, wn_ge_f, hg_86_23, ha_98l, ha_98s, wp_iinc_2_1, wp_goto, al_1602, wp_aloadr_1, wp_aloadk_1, wk_108, wc_26, hp_86_25, hg_86_25, wz_eq_t, wz_eq_f, wb_eq_t, wb_eq_f, wm_eq_1, wm_eq_2, wp_return, al_1603, wc_27, wz_ne_t, wz_ne_f, wb_ne_t, wb_ne_f, wm_ne_1, wm_ne_2, wc_28, wk_m1, wp_istore_3, wp_istore_4, wp_istore_5, wp_iload_5, wk_3, wc_29, wp_istore_6, wp_iload_6, wz_lt_t, wz_lt_f, wm_lt_1, wm_lt_2, wz_le_t, wz_le_f, wm_le_1, wm_le_2, wk_1, al_1606, al_1607, wc_17, t_17, wc_30, wp_istore_7, wp_iload_3, wp_iload_7, wp_iload_4, al_1608, al_1609, al_1610, wn_ne_t, wn_ne_f, al_1611, al_1612, al_1613, wp_iinc_5_1, al_1614, wz_ge_t, wz_ge_f, wm_ge_1, wm_ge_2, al_1615, al_1616, al_1617, al_1618, nl_i, nl_r, nl_k, nl_j, nl_l, nI_add, pk_mul, pk_sub, tl_s, tl_n, aL_inl, u2_same, u2_ab, u2_aq, nI_l, lN_i, Nat.add_zero, Nat.zero_add, Nat.zero_le, true_and, and_true, b2n_10, b2n_T, b2n_F, b2n_0, Decidable.not_not, not_true_eq_false, not_false_eq_true, Nat.reduceAdd, Nat.reduceMul, t_28]
      refine l_25w (L := L) (p := p) (I0 := I0) hr hd (by rw [eS]; exact hw) hl' hp1 hc.2.2.2 ?_ 3 0 I _ _ (by omega) hfI
      intro I' v6 v7 hI'
      rw [edsl, eS]
      rw [crs, if_neg hlast] at hQ
      rw [al_1614]
      cases hb : bst (D 0) (D 1) (dsl (D 1) N0 (N0 r)) (fun g => wlS (N0 r) g || onP L p g) (p (L - 1)) 3 with
      | none =>
        rw [hb] at hQ
        simp only [bB, bL]
        simp (disch := (first | omega | exact aCat_8 (by with_unfolding_all rfl) | exact rk_lt (by with_unfolding_all rfl) | exact aCat_16 (by with_unfolding_all rfl) | exact rk_eq (by with_unfolding_all rfl) | assumption | exact b2n_lt _ | exact id_b (by with_unfolding_all rfl) | (simp (disch := omega) only [u2_same, u2_ab, u2_aq]; done) | (simp (disch := omega) only [u2_same, u2_ab, u2_aq]; omega) | fail)) only [al_1600, wp_aloadr_0, wp_aloadk_0, wk_0, hp_86_24, wp_istore_2, wp_jsr, wp_iload_2, wk_36, wn_ge_t, wn_ge_f, hg_86_23, ha_98l, ha_98s, wp_iinc_2_1, wp_goto, al_1602, wp_aloadr_1, wp_aloadk_1, wk_108, wc_26, hp_86_25, hg_86_25, wz_eq_t, wz_eq_f, wb_eq_t, wb_eq_f, wm_eq_1, wm_eq_2, wp_return, al_1603, wc_27, al_1604, wz_ne_t, wz_ne_f, wb_ne_t, wb_ne_f, wm_ne_1, wm_ne_2, wc_28, wk_m1, wp_istore_3, wp_istore_4, wp_istore_5, wp_iload_5, wk_3, wc_29, wp_istore_6, wp_iload_6, wz_lt_t, wz_lt_f, wm_lt_1, wm_lt_2, wz_le_t, wz_le_f, wm_le_1, wm_le_2, wk_1, al_1606, al_1607, wc_17, t_17, wc_30, wp_istore_7, wp_iload_3, wp_iload_7, wp_iload_4, al_1608, al_1609, al_1610, wn_ne_t, wn_ne_f, al_1611, al_1612, al_1613, wp_iinc_5_1, al_1614, wz_ge_t, wz_ge_f, wm_ge_1, wm_ge_2, al_1615, al_1616, al_1617, al_1618, nl_i, nl_r, nl_k, nl_j, nl_l, nI_add, pk_mul, pk_sub, tl_s, tl_n, aL_inl, u2_same, u2_ab, u2_aq, nI_l, lN_i, Nat.add_zero, Nat.zero_add, Nat.zero_le, true_and, and_true, b2n_10, b2n_T, b2n_F, b2n_0, Decidable.not_not, not_true_eq_false, not_false_eq_true, Nat.reduceAdd, Nat.reduceMul]
        refine hQ _ I' ?_ ?_ hI'
        · refine ⟨?_, ?_, ?_, ?_⟩
          · rw [u2_aq (by decide)]; exact hc.1
          · rw [u2_same]; rfl
          · intro k hk
            rw [u2_ab (by decide)]; exact hc.2.2.1 k hk
          · intro g hg
            rw [u2_ab (by decide)]; exact hc.2.2.2 g hg
        · intro b q hbq
          have : ¬ (b = 86 ∧ q = 25) := by
            rintro ⟨rfl, rfl⟩
            exact absurd hbq (by decide)
          rw [u2_rd, if_neg this]
          exact hfN b q hbq
      | some bl =>
        obtain ⟨g, l⟩ := bl
        rw [hb] at hQ
        obtain ⟨⟨v, hv1, hv2⟩, hv3⟩ := bst_some hb
        have hg : g < D 0 * D 1 := bsd_lt (by omega) hp1 hv2
        have hno : ¬ onP L p g = true := by
          simp at hv3
          simp [hv3.2]
        have hL24 : N 86 24 = L := hc.1
        have k1 : ∀ k, k < L + 1 → upn p L g k < D 0 * D 1 := by
          intro k hk
          unfold upn
          split
          · exact hg
          · exact h1 k (by omega)
        have k2 : ∀ i j, i < j → j < L + 1 → upn p L g i ≠ upn p L g j := by
          intro i j hij hj
          by_cases q : j = L
          · subst q
            have e1 : upn p j g j = g := by simp [upn]
            have e2 : upn p j g i = p i := by rw [upn, if_neg (by omega)]
            rw [e1, e2]
            intro e
            exact hno (onP_iff.mpr ⟨i, hij, e⟩)
          · have e1 : upn p L g j = p j := by rw [upn, if_neg q]
            have e2 : upn p L g i = p i := by rw [upn, if_neg (by omega)]
            rw [e1, e2]
            exact h2 i j hij (by omega)
        have hL1 := pig _ _ _ k1 k2
        simp only [bB, bL]
        simp (disch := (first | omega | exact aCat_8 (by with_unfolding_all rfl) | exact rk_lt (by with_unfolding_all rfl) | exact aCat_16 (by with_unfolding_all rfl) | exact rk_eq (by with_unfolding_all rfl) | assumption | exact b2n_lt _ | exact id_b (by with_unfolding_all rfl) | (simp (disch := omega) only [u2_same, u2_ab, u2_aq]; done) | (simp (disch := omega) only [u2_same, u2_ab, u2_aq]; omega) | fail)) only [al_1600, wp_aloadr_0, wp_aloadk_0, wk_0, hp_86_24, wp_istore_2, wp_jsr, wp_iload_2, wk_36, wn_ge_t, wn_ge_f, hg_86_23, ha_98l, ha_98s, wp_iinc_2_1, wp_goto, al_1602, wp_aloadr_1, wp_aloadk_1, wk_108, wc_26, hp_86_25, hg_86_25, wz_eq_t, wz_eq_f, wb_eq_t, wb_eq_f, wm_eq_1, wm_eq_2, wp_return, al_1603, wc_27, wz_ne_t, wz_ne_f, wb_ne_t, wb_ne_f, wm_ne_1, wm_ne_2, wc_28, wk_m1, wp_istore_3, wp_istore_4, wp_istore_5, wp_iload_5, wk_3, wc_29, wp_istore_6, wp_iload_6, wz_lt_t, wz_lt_f, wm_lt_1, wm_lt_2, wz_le_t, wz_le_f, wm_le_1, wm_le_2, wk_1, al_1606, al_1607, wc_17, t_17, wc_30, wp_istore_7, wp_iload_3, wp_iload_7, wp_iload_4, al_1608, al_1609, al_1610, wn_ne_t, wn_ne_f, al_1611, al_1612, al_1613, wp_iinc_5_1, al_1614, wz_ge_t, wz_ge_f, wm_ge_1, wm_ge_2, al_1615, al_1616, al_1617, al_1618, nl_i, nl_r, nl_k, nl_j, nl_l, nI_add, pk_mul, pk_sub, tl_s, tl_n, aL_inl, u2_same, u2_ab, u2_aq, nI_l, lN_i, Nat.add_zero, Nat.zero_add, Nat.zero_le, true_and, and_true, b2n_10, b2n_T, b2n_F, b2n_0, Decidable.not_not, not_true_eq_false, not_false_eq_true, Nat.reduceAdd, Nat.reduceMul, t_27, hL24]
        have := ih (L + 1) (upn p L g) (u2 (u2 (u2 (u2 N 86 25 0) 97 L g) 86 24 (L + 1)) 98 g 1) I' (.int (nI g)) (.int l) (.int (nI 3)) v6 v7 (by omega) (by omega) k1 k2 ?_ ?_ hI' hQ
        · rw [show upn p L g (L + 1 - 1) = g by simp [upn]] at this
          exact this
        · refine ⟨?_, ?_, ?_, ?_⟩
          · rw [u2_ab (by decide), u2_same]
          · rw [u2_ab (by decide), u2_aq (by decide), u2_ab (by decide), u2_same]; rfl
          · intro k hk
            show _ = upn p L g k
            rw [u2_ab (by decide), u2_ab (by decide), u2_rd]
            unfold upn
            by_cases q : k = L
            · simp [q]
            · simp only [q, and_false, if_false]
              rw [u2_ab (by decide)]
              exact hc.2.2.1 k (by have : k < L + 1 := hk; show k < L; omega)
          · intro g' hg'
            show _ = b2n (onP (L + 1) (upn p L g) g' = true)
            rw [u2_rd]
            by_cases q : g' = g
            · subst q
              rw [if_pos ⟨rfl, rfl⟩, b2n_t (onP_up.mpr (Or.inl rfl))]
            · simp only [q, and_false, if_false]
              rw [u2_ab (by decide), u2_ab (by decide), u2_ab (by decide), hc.2.2.2 g' hg']
              by_cases q2 : onP L p g' = true
              · rw [b2n_t (P := onP (L, p, false).1 (L, p, false).2.1 g' = true) q2, b2n_t (onP_up.mpr (Or.inr q2))]
              · rw [b2n_f (P := onP (L, p, false).1 (L, p, false).2.1 g' = true) q2, b2n_f (fun z => (onP_up.mp z).elim q q2)]
        · intro b q hbq
          have a1 : ¬ (b = 98 ∧ q = g) := by
            rintro ⟨rfl, _⟩
            exact absurd hbq (by simp [frC])
          have a2 : ¬ (b = 86 ∧ q = 24) := by
            rintro ⟨rfl, rfl⟩
            exact absurd hbq (by decide)
          have a3 : ¬ (b = 97 ∧ q = L) := by
            rintro ⟨rfl, _⟩
            exact absurd hbq (by simp [frC])
          have a4 : ¬ (b = 86 ∧ q = 25) := by
            rintro ⟨rfl, rfl⟩
            exact absurd hbq (by decide)
          rw [u2_rd, if_neg a1, u2_rd, if_neg a2, u2_rd, if_neg a3, u2_rd, if_neg a4]
          exact hfN b q hbq
theorem t_25 {r : Nat} (hr : r = 89 ∨ r = 90) (hd : dmO D) (hw : rwO (D 1) (N r)) (hl : rlO N)
    (hQ : ∀ (N' : Nat → Nat → Nat) (I' : Nat → Nat → Int32), crO N' (crs0 (D 0) (D 1) (dsl (D 1) N (N r)) (wlS (N r)) (N r 108)) → (∀ b q, frC b q = false → N' b q = N b q) → (∀ b q, b ≠ 95 → b ≠ 96 → I' b q = I b q) → Q none (hp D N' I' J x)) :
    aMm ko d 25 [.ref 86, .ref r] (hp D N I J x) Q := by
  obtain ⟨hd0, hd1, hd2, hd3⟩ := id hd
  have hF := dm_F hd
  have hs := hw.2.1
  have hsF : N r 108 < D 0 * D 1 := by omega
  have hwl := (hw.1 (N r 108) (by omega)).2.1
  have hfr : ∀ b q, frC b q = false → fillN (u2 N 86 24 0) 98 36 0 b q = N b q := by
    intro b q hbq
    have a2 : ¬ (b = 86 ∧ q = 24) := by
      rintro ⟨rfl, rfl⟩
      exact absurd hbq (by decide)
    have a1 : b ≠ 98 := by
      rintro rfl
      exact absurd hbq (by simp [frC])
    rw [fillN_ab a1, u2_rd, if_neg a2]
  have er : ∀ q, fillN (u2 N 86 24 0) 98 36 0 r q = N r q := fun q => hfr r q (by rcases hr with rfl | rfl <;> rfl)
  have e98 : ∀ g, g < 36 → fillN (u2 N 86 24 0) 98 36 0 98 g = 0 := by
    intro g hg
    simp [fillN, hg]
  have e24 : fillN (u2 N 86 24 0) 98 36 0 86 24 = 0 := by simp [fillN, u2]
  rw [me_25]
  simp (disch := (first | omega | exact aCat_8 (by with_unfolding_all rfl) | exact rk_lt (by with_unfolding_all rfl) | exact aCat_16 (by with_unfolding_all rfl) | exact rk_eq (by with_unfolding_all rfl) | assumption | exact b2n_lt _ | exact id_b (by with_unfolding_all rfl) | (simp (disch := omega) only [u2_same, u2_ab, u2_aq]; done) | (simp (disch := omega) only [u2_same, u2_ab, u2_aq]; omega) | fail)) only [al_1600, wp_aloadr_0, wp_aloadk_0, wk_0, hp_86_24, wp_istore_2, wp_jsr, wp_iload_2, wk_36, wn_ge_t, wn_ge_f, hg_86_23, ha_98l, ha_98s, wp_iinc_2_1, wp_goto, al_1602, wp_aloadr_1, wp_aloadk_1, wk_108, wc_26, hp_86_25, hg_86_25, wz_eq_t, wz_eq_f, wb_eq_t, wb_eq_f, wm_eq_1, wm_eq_2, wp_return, al_1603, wc_27, wz_ne_t, wz_ne_f, wb_ne_t, wb_ne_f, wm_ne_1, wm_ne_2, wc_28, wk_m1, wp_istore_3, wp_istore_4, wp_istore_5, wp_iload_5, wk_3, wc_29, wp_istore_6, wp_iload_6, wz_lt_t, wz_lt_f, wm_lt_1, wm_lt_2, wz_le_t, wz_le_f, wm_le_1, wm_le_2, wk_1, al_1606, al_1607, wc_17, t_17, wc_30, wp_istore_7, wp_iload_3, wp_iload_7, wp_iload_4, al_1608, al_1609, al_1610, wn_ne_t, wn_ne_f, al_1611, al_1612, al_1613, wp_iinc_5_1, al_1614, wz_ge_t, wz_ge_f, wm_ge_1, wm_ge_2, al_1615, al_1616, al_1617, al_1618, nl_i, nl_r, nl_k, nl_j, nl_l, nI_add, pk_mul, pk_sub, tl_s, tl_n, aL_inl, u2_same, u2_ab, u2_aq, nI_l, lN_i, Nat.add_zero, Nat.zero_add, Nat.zero_le, true_and, and_true, b2n_10, b2n_T, b2n_F, b2n_0, Decidable.not_not, not_true_eq_false, not_false_eq_true, Nat.reduceAdd, Nat.reduceMul]
  have h0 := @l_25a ko d D (u2 N 86 24 0) I J x (aL Q) r aJk aJk aJk aJk aJk 36 0 rfl
  rw [fillN_0] at h0
  refine h0.mpr ?_
  rw [al_1602]
  unfold crs0 at hQ
  by_cases h1 : N r (36 + N r 108) = 1
  · rw [if_pos (by simp [wlS, h1])] at hQ
    have h1' : fillN (u2 N 86 24 0) 98 36 0 r (36 + N r 108) = 1 := by rw [er]; exact h1
    simp (disch := (first | omega | exact aCat_8 (by with_unfolding_all rfl) | exact rk_lt (by with_unfolding_all rfl) | exact aCat_16 (by with_unfolding_all rfl) | exact rk_eq (by with_unfolding_all rfl) | assumption | exact b2n_lt _ | exact id_b (by with_unfolding_all rfl) | (simp (disch := omega) only [u2_same, u2_ab, u2_aq]; done) | (simp (disch := omega) only [u2_same, u2_ab, u2_aq]; omega) | fail)) only [al_1600, wp_aloadr_0, wp_aloadk_0, wk_0, hp_86_24, wp_istore_2, wp_jsr, wp_iload_2, wk_36, wn_ge_t, wn_ge_f, hg_86_23, ha_98l, ha_98s, wp_iinc_2_1, wp_goto, al_1602, wp_aloadr_1, wp_aloadk_1, wk_108, wc_26, hp_86_25, hg_86_25, wz_eq_t, wz_eq_f, wb_eq_t, wb_eq_f, wm_eq_1, wm_eq_2, wp_return, al_1603, wc_27, wz_ne_t, wz_ne_f, wb_ne_t, wb_ne_f, wm_ne_1, wm_ne_2, wc_28, wk_m1, wp_istore_3, wp_istore_4, wp_istore_5, wp_iload_5, wk_3, wc_29, wp_istore_6, wp_iload_6, wz_lt_t, wz_lt_f, wm_lt_1, wm_lt_2, wz_le_t, wz_le_f, wm_le_1, wm_le_2, wk_1, al_1606, al_1607, wc_17, t_17, wc_30, wp_istore_7, wp_iload_3, wp_iload_7, wp_iload_4, al_1608, al_1609, al_1610, wn_ne_t, wn_ne_f, al_1611, al_1612, al_1613, wp_iinc_5_1, al_1614, wz_ge_t, wz_ge_f, wm_ge_1, wm_ge_2, al_1615, al_1616, al_1617, al_1618, nl_i, nl_r, nl_k, nl_j, nl_l, nI_add, pk_mul, pk_sub, tl_s, tl_n, aL_inl, u2_same, u2_ab, u2_aq, nI_l, lN_i, Nat.add_zero, Nat.zero_add, Nat.zero_le, true_and, and_true, b2n_10, b2n_T, b2n_F, b2n_0, Decidable.not_not, not_true_eq_false, not_false_eq_true, Nat.reduceAdd, Nat.reduceMul, ra_l hr, er, t_26 hr]
    refine hQ _ I ?_ ?_ (fun _ _ _ _ => rfl)
    · refine ⟨?_, ?_, ?_, ?_⟩
      · rw [u2_aq (by decide)]; exact e24
      · rw [u2_same]
        simp [h1, b2n]
      · intro k hk
        exact absurd hk (by simp)
      · intro g hg
        rw [u2_ab (by decide), e98 g hg, b2n_f (by simp [onP])]
    · intro b q hbq
      have : ¬ (b = 86 ∧ q = 25) := by
        rintro ⟨rfl, rfl⟩
        exact absurd hbq (by decide)
      rw [u2_rd, if_neg this]
      exact hfr b q hbq
  · rw [if_neg (by simp [wlS, h1])] at hQ
    have h1' : ¬ fillN (u2 N 86 24 0) 98 36 0 r (36 + N r 108) = 1 := by rw [er]; exact h1
    have h1b : fillN (u2 N 86 24 0) 98 36 0 r (36 + N r 108) ≤ 1 := by rw [er]; exact hwl
    simp (disch := (first | omega | exact aCat_8 (by with_unfolding_all rfl) | exact rk_lt (by with_unfolding_all rfl) | exact aCat_16 (by with_unfolding_all rfl) | exact rk_eq (by with_unfolding_all rfl) | assumption | exact b2n_lt _ | exact id_b (by with_unfolding_all rfl) | (simp (disch := omega) only [u2_same, u2_ab, u2_aq]; done) | (simp (disch := omega) only [u2_same, u2_ab, u2_aq]; omega) | fail)) only [al_1600, wp_aloadr_0, wp_aloadk_0, wk_0, hp_86_24, wp_istore_2, wp_jsr, wp_iload_2, wk_36, wn_ge_t, wn_ge_f, hg_86_23, ha_98l, ha_98s, wp_iinc_2_1, wp_goto, al_1602, wp_aloadr_1, wp_aloadk_1, wk_108, wc_26, hp_86_25, hg_86_25, wz_eq_t, wz_eq_f, wb_eq_t, wb_eq_f, wm_eq_1, wm_eq_2, wp_return, al_1603, wc_27, wz_ne_t, wz_ne_f, wb_ne_t, wb_ne_f, wm_ne_1, wm_ne_2, wc_28, wk_m1, wp_istore_3, wp_istore_4, wp_istore_5, wp_iload_5, wk_3, wc_29, wp_istore_6, wp_iload_6, wz_lt_t, wz_lt_f, wm_lt_1, wm_lt_2, wz_le_t, wz_le_f, wm_le_1, wm_le_2, wk_1, al_1606, al_1607, wc_17, t_17, wc_30, wp_istore_7, wp_iload_3, wp_iload_7, wp_iload_4, al_1608, al_1609, al_1610, wn_ne_t, wn_ne_f, al_1611, al_1612, al_1613, wp_iinc_5_1, al_1614, wz_ge_t, wz_ge_f, wm_ge_1, wm_ge_2, al_1615, al_1616, al_1617, al_1618, nl_i, nl_r, nl_k, nl_j, nl_l, nI_add, pk_mul, pk_sub, tl_s, tl_n, aL_inl, u2_same, u2_ab, u2_aq, nI_l, lN_i, Nat.add_zero, Nat.zero_add, Nat.zero_le, true_and, and_true, b2n_10, b2n_T, b2n_F, b2n_0, Decidable.not_not, not_true_eq_false, not_false_eq_true, Nat.reduceAdd, Nat.reduceMul, ra_l hr, er, t_26 hr, t_27]
    have := l_25c (ko := ko) (d := d) (D := D) (J := J) (x := x) (Q := Q) (N0 := N) (I0 := I) hr hd hw hl 36 1 (upn (fun _ => 0) 0 (N r 108)) (u2 (u2 (u2 (u2 (fillN (u2 N 86 24 0) 98 36 0) 86 25 0) 97 0 (N r 108)) 86 24 1) 98 (N r 108) 1) I aJk aJk aJk aJk aJk rfl (by omega) ?_ (by intro i j h2 h3; omega) ?_ ?_ (fun _ _ _ _ => rfl) hQ
    · simpa [upn, h1, b2n, e24, u2] using this
    · intro k hk
      have : k = 0 := by omega
      subst this
      simpa [upn] using hsF
    · refine ⟨?_, ?_, ?_, ?_⟩
      · rw [u2_ab (by decide), u2_same]
      · rw [u2_ab (by decide), u2_aq (by decide), u2_ab (by decide), u2_same]; rfl
      · intro k hk
        have : k = 0 := by have : k < 1 := hk; omega
        subst this
        rw [u2_ab (by decide), u2_ab (by decide), u2_same]
        simp [upn]
      · intro g' hg'
        show _ = b2n (onP (0 + 1) (upn (fun _ => 0) 0 (N r 108)) g' = true)
        rw [u2_rd]
        by_cases q : g' = N r 108
        · subst q
          rw [if_pos ⟨rfl, rfl⟩, b2n_t (onP_up.mpr (Or.inl rfl))]
        · simp only [q, and_false, if_false]
          rw [u2_ab (by decide), u2_ab (by decide), u2_ab (by decide), e98 g' hg', b2n_f (fun z => (onP_up.mp z).elim q (by simp [onP]))]
    · intro b q hbq
      have a1 : ¬ (b = 98 ∧ q = N r 108) := by
        rintro ⟨rfl, _⟩
        exact absurd hbq (by simp [frC])
      have a2 : ¬ (b = 86 ∧ q = 24) := by
        rintro ⟨rfl, rfl⟩
        exact absurd hbq (by decide)
      have a3 : ¬ (b = 97 ∧ q = 0) := by
        rintro ⟨rfl, _⟩
        exact absurd hbq (by simp [frC])
      have a4 : ¬ (b = 86 ∧ q = 25) := by
        rintro ⟨rfl, rfl⟩
        exact absurd hbq (by decide)
      rw [u2_rd, if_neg a1, u2_rd, if_neg a2, u2_rd, if_neg a3, u2_rd, if_neg a4]
      exact hfr b q hbq
end R4
