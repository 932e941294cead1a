/-! sits. From wip/whole/src. -/
theorem firstOf (p : Nat → Prop) : ∀ n, (∃ k, k < n ∧ p k ∧ ∀ i, i < k → ¬ p i) ∨ ∀ i, i < n → ¬ p i := by
  intro n
  induction n with
  | zero => exact Or.inr (fun i hi => absurd hi (Nat.not_lt_zero _))
  | succ n ih =>
    rcases ih with ⟨k, h1, h2, h3⟩ | h
    · exact Or.inl ⟨k, by omega, h2, h3⟩
    · by_cases hp : p n
      · exact Or.inl ⟨n, by omega, hp, h⟩
      · refine Or.inr (fun i hi => ?_)
        by_cases e : i = n
        · rw [e]; exact hp
        · exact h i (by omega)
theorem first_u {p : Nat → Prop} {a b : Nat} (ha : p a) (ha2 : ∀ i, i < a → ¬ p i) (hb : p b) (hb2 : ∀ i, i < b → ¬ p i) : a = b := by
  rcases Nat.lt_trichotomy a b with h | h | h
  · exact absurd ha (hb2 a h)
  · exact h
  · exact absurd hb (ha2 b h)
/-- the dream of the class, while it is asked about tides to come -/
def drO (D : Nat → Nat) (N0 N : Nat → Nat → Nat) (I0 I : Nat → Nat → Int32) (J0 J : Nat → Nat → Int64) (S : Nat → Nat) : Prop := rvA D N I J 24 11 (N0 93) (N0 86 18) S ∧ skC N = skC N0 ∧ N 9 1 = N0 9 1 ∧ sN N N0 ∧ sI I I0 ∧ sJ J J0 ∧ tdSC N N0 J J0 ∧ tdSR N N0 J J0
/-- the reference's row of what would be -/
def thO (N0 N : Nat → Nat → Nat) (I0 I : Nat → Nat → Int32) (S : Nat → Nat) : Prop := N 90 = S ∧ qN N N0 ∧ sI I I0 ∧ N 86 1 = N0 86 1
section O3
variable {ko : aKo} {d k : Nat} {is : List Instr} {ls st : List Value} {σ : aH} {D : Nat → Nat} {N : Nat → Nat → Nat} {I : Nat → Nat → Int32} {J : Nat → Nat → Int64} {x t : Nat} {Q : Option Value → aH → Prop} {P : (Option Value ⊕ Unit) → aH → Prop}
theorem dr_0 (h : invB D N I J t) : drO D N (cpS N 24 20) I I J (cpJ J 24 20) (N 89) := ⟨dr_A h, dr_sk, cp_N (by decide) (by decide), cp_sN, sI_r, cp_sJ, ⟨cp_N (by decide) (by decide), fun q => cp_J (by decide)⟩, ⟨cp_N (by decide) (by decide), fun q => cp_J (by decide)⟩⟩
/-- one tide of the dream -/
theorem dr_1 {N0 : Nat → Nat → Nat} {I0 : Nat → Nat → Int32} {J0 : Nat → Nat → Int64} {k : Nat} (h : invB D N0 I0 J0 t) (hk : k ≤ 100) (ht : t + 300 < 1000000000) (hD : drO D N0 N I0 I J0 J (itS D N0 (N0 89) k))
    (hQ : ∀ (N' : Nat → Nat → Nat) (I' : Nat → Nat → Int32) (J' : Nat → Nat → Int64), drO D N0 N' I0 I' J0 J' (itS D N0 (N0 89) (k + 1)) → clC (D 1) N' I' J' (crsS D N0 (itS D N0 (N0 89) k)) → pN 24 N' N → fI I' I → pJ 24 J' J → Q (some (.int (nI (b2n ((crsS D N0 (itS D N0 (N0 89) k)).2.2 = false))))) (hp D N' I' J' x)) :
    aMm ko d 254 [.ref 26, .ref 24, .ref 11, .int (nI 1)] (hp D N I J x) Q := by
  obtain ⟨hA, hsk, h91, hN, hI, hJ, hC, hR⟩ := hD
  have h89 := h.2.2.2.2.1
  have hz : rwZ (D 2 * D 3) (itS D N0 (N0 89) k) := by
    have := itG_Z (n := N0 86 18) (c := N0 93) (sk := skC N0) h.1.2.2.2.1 (by rw [h.1.2.2.1]; exact h89.1) (inv_z h) k (by have := h89.2.2.1; omega)
    rw [inv_it h] at this
    exact this
  refine t_254 (s := 24) (ru := 11) rfl rfl hA hz (by rw [h91]; exact inv_s1 h) (by rw [h91]; exact inv_s2 h) (by decide) (by rw [itS_t]; have := h89.2.2.1; omega) ?_
  intro N' I' J' hA' hN' hI' hJ' hc'
  have hc := hc' (by decide)
  have e1 : itG (D 2) (D 3) (N0 93) (N0 86 18) (skC N) (itS D N0 (N0 89) k) 1 = itS D N0 (N0 89) (k + 1) := by
    rw [hsk, inv_it h]
    rfl
  have e2 : cmG (D 2) (D 3) (N0 93) (N0 86 18) (skC N) (itS D N0 (N0 89) k) 1 = b2n ((crsS D N0 (itS D N0 (N0 89) k)).2.2 = false) := by
    rw [hsk, inv_cm h]
    show 0 + _ = _
    rw [Nat.zero_add]
    rfl
  rw [e1] at hA'
  rw [e2]
  have e3 : crsG (D 2) (D 3) (N0 93) (N0 86 18) (skC N) (itG (D 2) (D 3) (N0 93) (N0 86 18) (skC N) (itS D N0 (N0 89) k) (1 - 1)) = crsS D N0 (itS D N0 (N0 89) k) := by
    rw [hsk]
    show crsG _ _ _ _ _ (itS D N0 (N0 89) k) = _
    rw [inv_G h]
  rw [e3, h.1.2.2.1] at hc
  obtain ⟨f1, f2⟩ := pN_sk (s := 24) rfl hN'
  refine hQ N' I' J' ⟨hA', f1.trans hsk, f2.trans h91, sN_t (pN_s hN') hN, sI_t (fI_s hI') hI, sJ_t (pJ_s hJ') hJ, ⟨?_, ?_⟩, ⟨?_, ?_⟩⟩ hc hN' hI' hJ'
  · rw [hN' 3 1 (by decide) (by omega) (by decide) (by decide)]; exact hC.1
  · intro q
    rw [hJ' 4 q (by decide) (by omega) (by decide)]; exact hC.2 q
  · rw [hN' 86 1 (by decide) (by omega) (by decide) (by decide)]; exact hR.1
  · intro q
    rw [hJ' 87 q (by decide) (by omega) (by decide)]; exact hR.2 q
def seatJ (c : Nat × (Nat → Nat) × Bool) : Int64 := if 0 < c.1 then lN (c.2.1 (c.1 - 1)) else -1
theorem l_178 {N0 : Nat → Nat → Nat} {I0 : Nat → Nat → Int32} {J0 : Nat → Nat → Int64} (h : invB D N0 I0 J0 t) (ht : t + 300 < 1000000000)
    (hS : ∀ k, k < 100 → (crsS D N0 (itS D N0 (N0 89) k)).2.2 = true → (∀ i, i < k → ¬ (crsS D N0 (itS D N0 (N0 89) i)).2.2 = true) → ansC D N0 I0 J0 x (.int (nI k)) 1 (fun _ => seatJ (crsS D N0 (itS D N0 (N0 89) k))) Q)
    (hN : (∀ i, i < 100 → ¬ (crsS D N0 (itS D N0 (N0 89) i)).2.2 = true) → ∀ (N' : Nat → Nat → Nat) (I' : Nat → Nat → Int32) (J' : Nat → Nat → Int64), sN N' N0 → sI I' I0 → sJ J' J0 → tdSC N' N0 J' J0 → tdSR N' N0 J' J0 → Q (some (.int (-2))) (hp D N' I' J' x)) :
    ∀ (j k : Nat) (N : Nat → Nat → Nat) (I : Nat → Nat → Int32) (J : Nat → Nat → Int64), k + j = 100 → (∀ i, i < k → ¬ (crsS D N0 (itS D N0 (N0 89) i)).2.2 = true) → drO D N0 N I0 I J0 J (itS D N0 (N0 89) k) → aWp ko d 178 (aP.1 (Int.toNat 11393)) [.ref 0, .int (nI k)] [] (hp D N I J x) (aL Q) := by
  have hF := dm_F h.1.1
  have h89 := h.2.2.2.2.1
  intro j
  induction j with
  | zero =>
    intro k N I J hj hno hD
    have e : k = 100 := by omega
    subst e
    rw [al_11393]
    simp (disch := (first | omega | exact aCat_8 (by with_unfolding_all rfl) | exact rk_lt (by with_unfolding_all rfl) | exact aCat_16 (by with_unfolding_all rfl) | exact rk_eq (by with_unfolding_all rfl) | assumption | exact b2n_lt _ | exact id_b (by with_unfolding_all rfl) | (simp (disch := omega) only [u2_same, u2_ab, u2_aq]; done) | (simp (disch := omega) only [u2_same, u2_ab, u2_aq]; omega) | fail)) only [al_11392, wp_aloadr_0, wp_aloadk_0, hg_0_9, hg_0_7, wk_0, wp_istore_1, wp_jsr, wp_iload_1, wk_99, wn_gt_t, wn_gt_f, hg_0_10, hg_0_4, wk_1, wc_254, wp_pop, hg_26_11, wk_m2, wn_ne_t, wn_ne_f, hg_0_1, wc_292, t_292, hg_26_12, wp_i2l, wc_293, t_293, wp_ireturn, al_11394, wp_iinc_1_1, wp_goto, al_11395, nl_i, nl_r, nl_k, nl_j, nl_l, nI_add, pk_mul, pk_sub, tl_s, tl_n, aL_inl, u2_same, u2_ab, u2_aq, nI_l, lN_i, Nat.add_zero, Nat.zero_add, Nat.zero_le, true_and, and_true, b2n_10, b2n_T, b2n_F, b2n_0, Decidable.not_not, not_true_eq_false, not_false_eq_true, Nat.reduceAdd, Nat.reduceMul]
    exact hN hno N I J hD.2.2.2.1 hD.2.2.2.2.1 hD.2.2.2.2.2.1 hD.2.2.2.2.2.2.1 hD.2.2.2.2.2.2.2
  | succ j ih =>
    intro k N I J hj hno hD
    rw [al_11393]
    simp (disch := (first | omega | exact aCat_8 (by with_unfolding_all rfl) | exact rk_lt (by with_unfolding_all rfl) | exact aCat_16 (by with_unfolding_all rfl) | exact rk_eq (by with_unfolding_all rfl) | assumption | exact b2n_lt _ | exact id_b (by with_unfolding_all rfl) | (simp (disch := omega) only [u2_same, u2_ab, u2_aq]; done) | (simp (disch := omega) only [u2_same, u2_ab, u2_aq]; omega) | fail)) only [al_11392, wp_aloadr_0, wp_aloadk_0, hg_0_9, hg_0_7, wk_0, wp_istore_1, wp_jsr, wp_iload_1, wk_99, wn_gt_t, wn_gt_f, hg_0_10, hg_0_4, wk_1, wc_254, wp_pop, hg_26_11, wk_m2, wn_ne_t, wn_ne_f, hg_0_1, wc_292, t_292, hg_26_12, wp_i2l, wc_293, t_293, wp_ireturn, al_11394, wp_iinc_1_1, wp_goto, al_11395, nl_i, nl_r, nl_k, nl_j, nl_l, nI_add, pk_mul, pk_sub, tl_s, tl_n, aL_inl, u2_same, u2_ab, u2_aq, nI_l, lN_i, Nat.add_zero, Nat.zero_add, Nat.zero_le, true_and, and_true, b2n_10, b2n_T, b2n_F, b2n_0, Decidable.not_not, not_true_eq_false, not_false_eq_true, Nat.reduceAdd, Nat.reduceMul]
    refine dr_1 h (by omega) ht hD ?_
    intro N' I' J' hD' hc' _ _ _
    have e11 := hc'.2.2.2.1
    have e12 := hc'.2.2.2.2
    have hK := crsS_K (N := N0) h.1.1 (itS_O (N := N0) h.1.1 h89.1 k (by have := h89.2.2.1; omega))
    by_cases hlk : (crsS D N0 (itS D N0 (N0 89) k)).2.2 = true
    · rw [mth, if_pos hlk] at e11
      have e12' : (I' 26 12).toInt64 = seatJ (crsS D N0 (itS D N0 (N0 89) k)) := by
        rw [e12]
        unfold seatJ
        by_cases hL : 0 < (crsS D N0 (itS D N0 (N0 89) k)).1
        · rw [if_pos ⟨hlk, hL⟩, if_pos hL, nI_l (by have := hK.2.1 ((crsS D N0 (itS D N0 (N0 89) k)).1 - 1) (by omega); omega)]
        · rw [if_neg (fun z => hL z.2), if_neg hL]
          rfl
      simp (disch := (first | omega | exact aCat_8 (by with_unfolding_all rfl) | exact rk_lt (by with_unfolding_all rfl) | exact aCat_16 (by with_unfolding_all rfl) | exact rk_eq (by with_unfolding_all rfl) | assumption | exact b2n_lt _ | exact id_b (by with_unfolding_all rfl) | (simp (disch := omega) only [u2_same, u2_ab, u2_aq]; done) | (simp (disch := omega) only [u2_same, u2_ab, u2_aq]; omega) | fail)) only [al_11392, wp_aloadr_0, wp_aloadk_0, hg_0_9, hg_0_7, wk_0, wp_istore_1, wp_jsr, wp_iload_1, wk_99, wn_gt_t, wn_gt_f, hg_0_10, hg_0_4, wk_1, wc_254, wp_pop, hg_26_11, wk_m2, wn_ne_t, wn_ne_f, hg_0_1, wc_292, t_292, hg_26_12, wp_i2l, wc_293, t_293, wp_ireturn, al_11394, wp_iinc_1_1, wp_goto, al_11395, nl_i, nl_r, nl_k, nl_j, nl_l, nI_add, pk_mul, pk_sub, tl_s, tl_n, aL_inl, u2_same, u2_ab, u2_aq, nI_l, lN_i, Nat.add_zero, Nat.zero_add, Nat.zero_le, true_and, and_true, b2n_10, b2n_T, b2n_F, b2n_0, Decidable.not_not, not_true_eq_false, not_false_eq_true, Nat.reduceAdd, Nat.reduceMul, e11, e12', qe_n1, qe_m1, qn_n1, qn_m1, qe_n2, qe_m2, qn_n2, qn_m2]
      exact hS k (by omega) hlk hno _ _ _ (sN_u (sN_u hD'.2.2.2.1 rfl) rfl) hD'.2.2.2.2.1 (sJ_u hD'.2.2.2.2.2.1 rfl) td1C
    · rw [mth, if_neg hlk] at e11
      have hm := Nat.mod_lt ((crsS D N0 (itS D N0 (N0 89) k)).2.1 ((crsS D N0 (itS D N0 (N0 89) k)).1 - 1)) (show D 1 > 0 by have := h.1.1.2.2.1; omega)
      have hd6 := h.1.1.2.2.2
      simp (disch := (first | omega | exact aCat_8 (by with_unfolding_all rfl) | exact rk_lt (by with_unfolding_all rfl) | exact aCat_16 (by with_unfolding_all rfl) | exact rk_eq (by with_unfolding_all rfl) | assumption | exact b2n_lt _ | exact id_b (by with_unfolding_all rfl) | (simp (disch := omega) only [u2_same, u2_ab, u2_aq]; done) | (simp (disch := omega) only [u2_same, u2_ab, u2_aq]; omega) | fail)) only [al_11392, wp_aloadr_0, wp_aloadk_0, hg_0_9, hg_0_7, wk_0, wp_istore_1, wp_jsr, wp_iload_1, wk_99, wn_gt_t, wn_gt_f, hg_0_10, hg_0_4, wk_1, wc_254, wp_pop, hg_26_11, wk_m2, wn_ne_t, wn_ne_f, hg_0_1, wc_292, t_292, hg_26_12, wp_i2l, wc_293, t_293, wp_ireturn, al_11394, wp_iinc_1_1, wp_goto, al_11395, nl_i, nl_r, nl_k, nl_j, nl_l, nI_add, pk_mul, pk_sub, tl_s, tl_n, aL_inl, u2_same, u2_ab, u2_aq, nI_l, lN_i, Nat.add_zero, Nat.zero_add, Nat.zero_le, true_and, and_true, b2n_10, b2n_T, b2n_F, b2n_0, Decidable.not_not, not_true_eq_false, not_false_eq_true, Nat.reduceAdd, Nat.reduceMul, e11, qe_n1, qe_m1, qn_n1, qn_m1, qe_n2, qe_m2, qn_n2, qn_m2]
      refine ih (k + 1) N' I' J' (by omega) ?_ hD'
      intro i hi
      by_cases e : i = k
      · rw [e]; exact hlk
      · exact hno i (by omega)
theorem th_0 (h : invB D N I J t) {M : Nat → Nat → Nat} (hM : qN M N) (h1 : M 86 1 = N 86 1) (h9 : ∀ q, 111 ≤ q → M 89 q = 0) : thO N (setRow M 90 (M 89)) I I (N 89) := by
  have e : M 89 = N 89 := by funext q; exact hM 89 q rfl
  refine ⟨by rw [setRow_s, e], qN_w90 hM (fun q hq => by rw [h9 q hq, h.2.2.2.2.2.2.2.2.2 q hq]), sI_r, by rw [setRow_n (by decide)]; exact h1⟩
/-- the reference lays out the course of what would be -/
theorem th_c {N0 : Nat → Nat → Nat} {I0 : Nat → Nat → Int32} {J0 : Nat → Nat → Int64} {k : Nat} (h : invB D N0 I0 J0 t) (hk : k ≤ 200) (ht : t + 300 < 1000000000) (hT : thO N0 N I0 I (itS D N0 (N0 89) k))
    (hQ : ∀ (N' : Nat → Nat → Nat) (I' : Nat → Nat → Int32), thO N0 N' I0 I' (itS D N0 (N0 89) k) → crO N' (crsS D N0 (itS D N0 (N0 89) k)) → (∀ b q, frC b q = false → N' b q = N b q) → (∀ b q, b ≠ 95 → b ≠ 96 → I' b q = I b q) → Q none (hp D N' I' J x)) :
    aMm ko d 25 [.ref 86, .ref 90] (hp D N I J x) Q := by
  obtain ⟨hS, hN, hI, h1⟩ := hT
  have h89 := h.2.2.2.2.1
  have hs := sN_sm (qN_s hN)
  refine t_25 (r := 90) (Or.inr rfl) h.1.1 (by rw [hS]; exact itS_O h.1.1 h89.1 k (by have := h89.2.2.1; omega)) (smR_rl hs (inv_rl h)) ?_
  intro N' I' hc hN' hI'
  have hcc : crs0 (D 0) (D 1) (dsl (D 1) N (N 90)) (wlS (N 90)) (N 90 108) = crsS D N0 (itS D N0 (N0 89) k) := by
    rw [hS, smR_dsl hs]
    rfl
  rw [hcc] at hc
  refine hQ N' I' ⟨?_, qN_t (rN_q hN') hN, sI_t (rI_s hI') hI, (hN' 86 1 rfl).trans h1⟩ hc hN' hI'
  rw [← hS]
  funext q
  exact hN' 90 q rfl
/-- a tide of what would be -/
theorem th_1 {N0 : Nat → Nat → Nat} {I0 : Nat → Nat → Int32} {J0 : Nat → Nat → Int64} {k : Nat} (h : invB D N0 I0 J0 t) (hk : k ≤ 200) (ht : t + 300 < 1000000000) (hT : thO N0 N I0 I (itS D N0 (N0 89) k))
    (hQ : ∀ (N' : Nat → Nat → Nat) (I' : Nat → Nat → Int32), thO N0 N' I0 I' (itS D N0 (N0 89) (k + 1)) → crO N' (crsS D N0 (itS D N0 (N0 89) k)) → (∀ b q, frC b q = false → b ≠ 90 → N' b q = N b q) → (∀ b q, b ≠ 95 → b ≠ 96 → I' b q = I b q) → Q none (hp D N' I' J x)) :
    aMm ko d 41 [.ref 86, .ref 90] (hp D N I J x) Q := by
  obtain ⟨hS, hN, hI, h1⟩ := hT
  have h89 := h.2.2.2.2.1
  have hs := sN_sm (qN_s hN)
  have hw := itS_O (N := N0) h.1.1 h89.1 k (by have := h89.2.2.1; omega)
  have hw1 := itS_O (N := N0) h.1.1 h89.1 (k + 1) (by have := h89.2.2.1; omega)
  refine t_41 (r := 90) (Or.inr rfl) h.1.1 (by rw [hS]; exact hw) (smR_rl hs (inv_rl h)) ?_
  intro N' I' hc hS' hN' hI'
  rw [hS, smR_crs hs] at hc
  rw [hS, smR_td hs] at hS'
  refine hQ N' I' ⟨hS', qN_t (rN_q9 hN' ?_) hN, sI_t (rI_s hI') hI, (hN' 86 1 rfl (by decide)).trans h1⟩ hc hN' hI'
  intro q hq
  rw [hS', hS, hw.2.2.2.2 q hq]
  exact hw1.2.2.2.2 q hq
theorem l_61 {N0 : Nat → Nat → Nat} {I0 : Nat → Nat → Int32} {J0 : Nat → Nat → Int64} (h : invB D N0 I0 J0 t) (ht : t + 300 < 1000000000)
    (hS : ∀ k, k < 100 → (crsS D N0 (itS D N0 (N0 89) k)).2.2 = true → (∀ i, i < k → ¬ (crsS D N0 (itS D N0 (N0 89) i)).2.2 = true) → ansR D N0 I0 J0 x (.int (nI k)) 1 (fun _ => seatJ (crsS D N0 (itS D N0 (N0 89) k))) Q)
    (hN : (∀ i, i < 100 → ¬ (crsS D N0 (itS D N0 (N0 89) i)).2.2 = true) → ∀ (N' : Nat → Nat → Nat) (I' : Nat → Nat → Int32) (J' : Nat → Nat → Int64), qN N' N0 → sI I' I0 → qJ J' J0 → tdSR N' N0 J' J0 → Q (some (.int (-2))) (hp D N' I' J' x)) :
    ∀ (j k : Nat) (N : Nat → Nat → Nat) (I : Nat → Nat → Int32), k + j = 100 → (∀ i, i < k → ¬ (crsS D N0 (itS D N0 (N0 89) i)).2.2 = true) → thO N0 N I0 I (itS D N0 (N0 89) k) → aWp ko d 61 (aP.1 (Int.toNat 3905)) [.ref 86, .int (nI k)] [] (hp D N I J0 x) (aL Q) := by
  have hF := dm_F h.1.1
  have h89 := h.2.2.2.2.1
  intro j
  induction j with
  | zero =>
    intro k N I hj hno hT
    have e : k = 100 := by omega
    subst e
    rw [al_3905]
    simp (disch := (first | omega | exact aCat_8 (by with_unfolding_all rfl) | exact rk_lt (by with_unfolding_all rfl) | exact aCat_16 (by with_unfolding_all rfl) | exact rk_eq (by with_unfolding_all rfl) | assumption | exact b2n_lt _ | exact id_b (by with_unfolding_all rfl) | (simp (disch := omega) only [u2_same, u2_ab, u2_aq]; done) | (simp (disch := omega) only [u2_same, u2_ab, u2_aq]; omega) | fail)) only [al_3904, wp_aloadr_0, wp_aloadk_0, wk_0, hp_86_0, wc_60, wp_istore_1, wp_jsr, wp_iload_1, wk_99, wn_gt_t, wn_gt_f, hg_86_9, ha_90l, ha_90s, wc_25, hg_86_25, wz_eq_t, wz_eq_f, wb_eq_t, wb_eq_f, wm_eq_1, wm_eq_2, hp_86_1, hg_86_24, wz_ne_t, wz_ne_f, wb_ne_t, wb_ne_f, wm_ne_1, wm_ne_2, wl_m1, wp_goto, al_3906, hg_86_22, ha_97l, ha_97s, wk_1, wp_isub, wp_i2l, al_3907, wc_43, t_43, wp_ireturn, al_3908, wc_41, wp_iinc_1_1, al_3909, wk_m2, nl_i, nl_r, nl_k, nl_j, nl_l, nI_add, pk_mul, pk_sub, tl_s, tl_n, aL_inl, u2_same, u2_ab, u2_aq, nI_l, lN_i, Nat.add_zero, Nat.zero_add, Nat.zero_le, true_and, and_true, b2n_10, b2n_T, b2n_F, b2n_0, Decidable.not_not, not_true_eq_false, not_false_eq_true, Nat.reduceAdd, Nat.reduceMul]
    exact hN hno N I J0 hT.2.1 hT.2.2.1 qJ_r ⟨hT.2.2.2, fun _ => rfl⟩
  | succ j ih =>
    intro k N I hj hno hT
    rw [al_3905]
    simp (disch := (first | omega | exact aCat_8 (by with_unfolding_all rfl) | exact rk_lt (by with_unfolding_all rfl) | exact aCat_16 (by with_unfolding_all rfl) | exact rk_eq (by with_unfolding_all rfl) | assumption | exact b2n_lt _ | exact id_b (by with_unfolding_all rfl) | (simp (disch := omega) only [u2_same, u2_ab, u2_aq]; done) | (simp (disch := omega) only [u2_same, u2_ab, u2_aq]; omega) | fail)) only [al_3904, wp_aloadr_0, wp_aloadk_0, wk_0, hp_86_0, wc_60, wp_istore_1, wp_jsr, wp_iload_1, wk_99, wn_gt_t, wn_gt_f, hg_86_9, ha_90l, ha_90s, wc_25, hg_86_25, wz_eq_t, wz_eq_f, wb_eq_t, wb_eq_f, wm_eq_1, wm_eq_2, hp_86_1, hg_86_24, wz_ne_t, wz_ne_f, wb_ne_t, wb_ne_f, wm_ne_1, wm_ne_2, wl_m1, wp_goto, al_3906, hg_86_22, ha_97l, ha_97s, wk_1, wp_isub, wp_i2l, al_3907, wc_43, t_43, wp_ireturn, al_3908, wc_41, wp_iinc_1_1, al_3909, wk_m2, nl_i, nl_r, nl_k, nl_j, nl_l, nI_add, pk_mul, pk_sub, tl_s, tl_n, aL_inl, u2_same, u2_ab, u2_aq, nI_l, lN_i, Nat.add_zero, Nat.zero_add, Nat.zero_le, true_and, and_true, b2n_10, b2n_T, b2n_F, b2n_0, Decidable.not_not, not_true_eq_false, not_false_eq_true, Nat.reduceAdd, Nat.reduceMul]
    refine th_c h (by omega) ht hT ?_
    intro N1 I1 hT1 hc1 hN1 _
    have h25 := hc1.2.1
    have h24 := hc1.1
    have hK := crsS_K (N := N0) h.1.1 (itS_O (N := N0) h.1.1 h89.1 k (by have := h89.2.2.1; omega))
    have hLF := hK.1
    by_cases hlk : (crsS D N0 (itS D N0 (N0 89) k)).2.2 = true
    · rw [b2n_t hlk] at h25
      by_cases hL : 0 < (crsS D N0 (itS D N0 (N0 89) k)).1
      · have h97 := hc1.2.2.1 ((crsS D N0 (itS D N0 (N0 89) k)).1 - 1) (by omega)
        have hp1 := hK.2.1 ((crsS D N0 (itS D N0 (N0 89) k)).1 - 1) (by omega)
        have hS' := hS k (by omega) hlk hno
        rw [seatJ, if_pos hL] at hS'
        simp (disch := (first | omega | exact aCat_8 (by with_unfolding_all rfl) | exact rk_lt (by with_unfolding_all rfl) | exact aCat_16 (by with_unfolding_all rfl) | exact rk_eq (by with_unfolding_all rfl) | assumption | exact b2n_lt _ | exact id_b (by with_unfolding_all rfl) | (simp (disch := omega) only [u2_same, u2_ab, u2_aq]; done) | (simp (disch := omega) only [u2_same, u2_ab, u2_aq]; omega) | fail)) only [al_3904, wp_aloadr_0, wp_aloadk_0, wk_0, hp_86_0, wc_60, wp_istore_1, wp_jsr, wp_iload_1, wk_99, wn_gt_t, wn_gt_f, hg_86_9, ha_90l, ha_90s, wc_25, hg_86_25, wz_eq_t, wz_eq_f, wb_eq_t, wb_eq_f, wm_eq_1, wm_eq_2, hp_86_1, hg_86_24, wz_ne_t, wz_ne_f, wb_ne_t, wb_ne_f, wm_ne_1, wm_ne_2, wl_m1, wp_goto, al_3906, hg_86_22, ha_97l, ha_97s, wk_1, wp_isub, wp_i2l, al_3907, wc_43, t_43, wp_ireturn, al_3908, wc_41, wp_iinc_1_1, al_3909, wk_m2, nl_i, nl_r, nl_k, nl_j, nl_l, nI_add, pk_mul, pk_sub, tl_s, tl_n, aL_inl, u2_same, u2_ab, u2_aq, nI_l, lN_i, Nat.add_zero, Nat.zero_add, Nat.zero_le, true_and, and_true, b2n_10, b2n_T, b2n_F, b2n_0, Decidable.not_not, not_true_eq_false, not_false_eq_true, Nat.reduceAdd, Nat.reduceMul, h24, h97]
        exact hS' _ _ _ (qN_u (qN_u hT1.2.1 rfl) rfl) hT1.2.2.1 (qJ_u qJ_r rfl) td1R
      · have hS' := hS k (by omega) hlk hno
        rw [seatJ, if_neg hL] at hS'
        have hL0 : (crsS D N0 (itS D N0 (N0 89) k)).1 = 0 := by omega
        rw [hL0] at h24
        simp (disch := (first | omega | exact aCat_8 (by with_unfolding_all rfl) | exact rk_lt (by with_unfolding_all rfl) | exact aCat_16 (by with_unfolding_all rfl) | exact rk_eq (by with_unfolding_all rfl) | assumption | exact b2n_lt _ | exact id_b (by with_unfolding_all rfl) | (simp (disch := omega) only [u2_same, u2_ab, u2_aq]; done) | (simp (disch := omega) only [u2_same, u2_ab, u2_aq]; omega) | fail)) only [al_3904, wp_aloadr_0, wp_aloadk_0, wk_0, hp_86_0, wc_60, wp_istore_1, wp_jsr, wp_iload_1, wk_99, wn_gt_t, wn_gt_f, hg_86_9, ha_90l, ha_90s, wc_25, hg_86_25, wz_eq_t, wz_eq_f, wb_eq_t, wb_eq_f, wm_eq_1, wm_eq_2, hp_86_1, hg_86_24, wz_ne_t, wz_ne_f, wb_ne_t, wb_ne_f, wm_ne_1, wm_ne_2, wl_m1, wp_goto, al_3906, hg_86_22, ha_97l, ha_97s, wk_1, wp_isub, wp_i2l, al_3907, wc_43, t_43, wp_ireturn, al_3908, wc_41, wp_iinc_1_1, al_3909, wk_m2, nl_i, nl_r, nl_k, nl_j, nl_l, nI_add, pk_mul, pk_sub, tl_s, tl_n, aL_inl, u2_same, u2_ab, u2_aq, nI_l, lN_i, Nat.add_zero, Nat.zero_add, Nat.zero_le, true_and, and_true, b2n_10, b2n_T, b2n_F, b2n_0, Decidable.not_not, not_true_eq_false, not_false_eq_true, Nat.reduceAdd, Nat.reduceMul, h24]
        exact hS' _ _ _ (qN_u (qN_u hT1.2.1 rfl) rfl) hT1.2.2.1 (qJ_u qJ_r rfl) td1R
    · rw [b2n_f hlk] at h25
      simp (disch := (first | omega | exact aCat_8 (by with_unfolding_all rfl) | exact rk_lt (by with_unfolding_all rfl) | exact aCat_16 (by with_unfolding_all rfl) | exact rk_eq (by with_unfolding_all rfl) | assumption | exact b2n_lt _ | exact id_b (by with_unfolding_all rfl) | (simp (disch := omega) only [u2_same, u2_ab, u2_aq]; done) | (simp (disch := omega) only [u2_same, u2_ab, u2_aq]; omega) | fail)) only [al_3904, wp_aloadr_0, wp_aloadk_0, wk_0, hp_86_0, wc_60, wp_istore_1, wp_jsr, wp_iload_1, wk_99, wn_gt_t, wn_gt_f, hg_86_9, ha_90l, ha_90s, wc_25, hg_86_25, wz_eq_t, wz_eq_f, wb_eq_t, wb_eq_f, wm_eq_1, wm_eq_2, hp_86_1, hg_86_24, wz_ne_t, wz_ne_f, wb_ne_t, wb_ne_f, wm_ne_1, wm_ne_2, wl_m1, wp_goto, al_3906, hg_86_22, ha_97l, ha_97s, wk_1, wp_isub, wp_i2l, al_3907, wc_43, t_43, wp_ireturn, al_3908, wc_41, wp_iinc_1_1, al_3909, wk_m2, nl_i, nl_r, nl_k, nl_j, nl_l, nI_add, pk_mul, pk_sub, tl_s, tl_n, aL_inl, u2_same, u2_ab, u2_aq, nI_l, lN_i, Nat.add_zero, Nat.zero_add, Nat.zero_le, true_and, and_true, b2n_10, b2n_T, b2n_F, b2n_0, Decidable.not_not, not_true_eq_false, not_false_eq_true, Nat.reduceAdd, Nat.reduceMul]
      refine th_1 h (by omega) ht hT1 ?_
      intro N2 I2 hT2 _ _ _
      simp (disch := (first | omega | exact aCat_8 (by with_unfolding_all rfl) | exact rk_lt (by with_unfolding_all rfl) | exact aCat_16 (by with_unfolding_all rfl) | exact rk_eq (by with_unfolding_all rfl) | assumption | exact b2n_lt _ | exact id_b (by with_unfolding_all rfl) | (simp (disch := omega) only [u2_same, u2_ab, u2_aq]; done) | (simp (disch := omega) only [u2_same, u2_ab, u2_aq]; omega) | fail)) only [al_3904, wp_aloadr_0, wp_aloadk_0, wk_0, hp_86_0, wc_60, wp_istore_1, wp_jsr, wp_iload_1, wk_99, wn_gt_t, wn_gt_f, hg_86_9, ha_90l, ha_90s, wc_25, hg_86_25, wz_eq_t, wz_eq_f, wb_eq_t, wb_eq_f, wm_eq_1, wm_eq_2, hp_86_1, hg_86_24, wz_ne_t, wz_ne_f, wb_ne_t, wb_ne_f, wm_ne_1, wm_ne_2, wl_m1, wp_goto, al_3906, hg_86_22, ha_97l, ha_97s, wk_1, wp_isub, wp_i2l, al_3907, wc_43, t_43, wp_ireturn, al_3908, wc_41, wp_iinc_1_1, al_3909, wk_m2, nl_i, nl_r, nl_k, nl_j, nl_l, nI_add, pk_mul, pk_sub, tl_s, tl_n, aL_inl, u2_same, u2_ab, u2_aq, nI_l, lN_i, Nat.add_zero, Nat.zero_add, Nat.zero_le, true_and, and_true, b2n_10, b2n_T, b2n_F, b2n_0, Decidable.not_not, not_true_eq_false, not_false_eq_true, Nat.reduceAdd, Nat.reduceMul]
      refine ih (k + 1) N2 I2 (by omega) ?_ hT2
      intro i hi
      by_cases e : i = k
      · rw [e]; exact hlk
      · exact hno i (by omega)
theorem o_sits (h : inv D N I J t) (ht : t + 300 < 1000000000) : opO ko d 178 61 [] D N I J x (t + 300) := by
  have hcl : ∀ (Q : Option Value → aH → Prop), (∀ k, k < 100 → (crsS D N (itS D N (N 89) k)).2.2 = true → (∀ i, i < k → ¬ (crsS D N (itS D N (N 89) i)).2.2 = true) → ansC D N I J x (.int (nI k)) 1 (fun _ => seatJ (crsS D N (itS D N (N 89) k))) Q) → ((∀ i, i < 100 → ¬ (crsS D N (itS D N (N 89) i)).2.2 = true) → ∀ (N' : Nat → Nat → Nat) (I' : Nat → Nat → Int32) (J' : Nat → Nat → Int64), sN N' N → sI I' I → sJ J' J → tdSC N' N J' J → tdSR N' N J' J → Q (some (.int (-2))) (hp D N' I' J' x)) → aMm ko d 178 [.ref 0] (hp D N I J x) Q := by
    intro Q hS hN
    rw [me_178]
    simp (disch := (first | omega | exact aCat_8 (by with_unfolding_all rfl) | exact rk_lt (by with_unfolding_all rfl) | exact aCat_16 (by with_unfolding_all rfl) | exact rk_eq (by with_unfolding_all rfl) | assumption | exact b2n_lt _ | exact id_b (by with_unfolding_all rfl) | (simp (disch := omega) only [u2_same, u2_ab, u2_aq]; done) | (simp (disch := omega) only [u2_same, u2_ab, u2_aq]; omega) | fail)) only [al_11392, wp_aloadr_0, wp_aloadk_0, hg_0_9, hg_0_7, wk_0, wp_istore_1, wp_jsr, wp_iload_1, wk_99, wn_gt_t, wn_gt_f, hg_0_10, hg_0_4, wk_1, wc_254, wp_pop, hg_26_11, wk_m2, wn_ne_t, wn_ne_f, hg_0_1, wc_292, t_292, hg_26_12, wp_i2l, wc_293, t_293, wp_ireturn, al_11394, wp_iinc_1_1, wp_goto, al_11395, nl_i, nl_r, nl_k, nl_j, nl_l, nI_add, pk_mul, pk_sub, tl_s, tl_n, aL_inl, u2_same, u2_ab, u2_aq, nI_l, lN_i, Nat.add_zero, Nat.zero_add, Nat.zero_le, true_and, and_true, b2n_10, b2n_T, b2n_F, b2n_0, Decidable.not_not, not_true_eq_false, not_false_eq_true, Nat.reduceAdd, Nat.reduceMul, wc_283 (m := 24) rfl, t_283 (s := 24) (s' := 20) rfl rfl (by decide)]
    exact l_178 h.1 ht hS hN 100 0 _ _ _ rfl (fun i hi => absurd hi (Nat.not_lt_zero _)) (dr_0 h.1)
  have hrf : ∀ (N1 : Nat → Nat → Nat) (I1 : Nat → Nat → Int32) (J1 : Nat → Nat → Int64) (_ : invB D N1 I1 J1 t) (Q : Option Value → aH → Prop), (∀ k, k < 100 → (crsS D N1 (itS D N1 (N1 89) k)).2.2 = true → (∀ i, i < k → ¬ (crsS D N1 (itS D N1 (N1 89) i)).2.2 = true) → ansR D N1 I1 J1 x (.int (nI k)) 1 (fun _ => seatJ (crsS D N1 (itS D N1 (N1 89) k))) Q) → ((∀ i, i < 100 → ¬ (crsS D N1 (itS D N1 (N1 89) i)).2.2 = true) → ∀ (N' : Nat → Nat → Nat) (I' : Nat → Nat → Int32) (J' : Nat → Nat → Int64), qN N' N1 → sI I' I1 → qJ J' J1 → tdSR N' N1 J' J1 → Q (some (.int (-2))) (hp D N' I' J' x)) → aMm ko d 61 [.ref 86] (hp D N1 I1 J1 x) Q := by
    intro N1 I1 J1 h1 Q hS hN
    have hz1 : ∀ q, 111 ≤ q → u2 N1 86 0 0 89 q = 0 := fun q hq => by rw [u2_ab (by decide)]; exact h1.2.2.2.2.1.1.2.2.2.2 q hq
    have hz2 : ∀ q, 111 ≤ q → u2 N1 86 0 0 90 q = 0 := fun q hq => by rw [u2_ab (by decide)]; exact h1.2.2.2.2.2.2.2.2.2 q hq
    rw [me_61]
    simp (disch := (first | omega | exact aCat_8 (by with_unfolding_all rfl) | exact rk_lt (by with_unfolding_all rfl) | exact aCat_16 (by with_unfolding_all rfl) | exact rk_eq (by with_unfolding_all rfl) | assumption | exact b2n_lt _ | exact id_b (by with_unfolding_all rfl) | (simp (disch := omega) only [u2_same, u2_ab, u2_aq]; done) | (simp (disch := omega) only [u2_same, u2_ab, u2_aq]; omega) | fail)) only [al_3904, wp_aloadr_0, wp_aloadk_0, wk_0, hp_86_0, wc_60, wp_istore_1, wp_jsr, wp_iload_1, wk_99, wn_gt_t, wn_gt_f, hg_86_9, ha_90l, ha_90s, wc_25, hg_86_25, wz_eq_t, wz_eq_f, wb_eq_t, wb_eq_f, wm_eq_1, wm_eq_2, hp_86_1, hg_86_24, wz_ne_t, wz_ne_f, wb_ne_t, wb_ne_f, wm_ne_1, wm_ne_2, wl_m1, wp_goto, al_3906, hg_86_22, ha_97l, ha_97s, wk_1, wp_isub, wp_i2l, al_3907, wc_43, t_43, wp_ireturn, al_3908, wc_41, wp_iinc_1_1, al_3909, wk_m2, nl_i, nl_r, nl_k, nl_j, nl_l, nI_add, pk_mul, pk_sub, tl_s, tl_n, aL_inl, u2_same, u2_ab, u2_aq, nI_l, lN_i, Nat.add_zero, Nat.zero_add, Nat.zero_le, true_and, and_true, b2n_10, b2n_T, b2n_F, b2n_0, Decidable.not_not, not_true_eq_false, not_false_eq_true, Nat.reduceAdd, Nat.reduceMul, t_60 hz1 hz2]
    exact l_61 h1 ht hS hN 100 0 _ _ rfl (fun i hi => absurd hi (Nat.not_lt_zero _)) (th_0 h1 (qN_u qN_r rfl) (u2_aq (by decide)) hz1)
  rcases firstOf (fun k => (crsS D N (itS D N (N 89) k)).2.2 = true) 100 with ⟨k0, hk, hp, hno⟩ | hno
  · refine op_ans (v := .int (nI k0)) (m := 1) (f := fun _ => seatJ (crsS D N (itS D N (N 89) k0))) h (by decide) (by omega) ?_ ?_
    · intro Q hQ
      refine hcl Q (fun k1 _ hp1 hno1 => ?_) (fun z => absurd hp (z k0 hk))
      have := first_u (p := fun k => (crsS D N (itS D N (N 89) k)).2.2 = true) hp1 hno1 hp hno
      subst this
      exact hQ
    · intro N1 I1 J1 h1 hN hI hJ Q hQ
      have ee : ∀ k, crsS D N1 (itS D N1 (N1 89) k) = crsS D N (itS D N (N 89) k) := fun k => by rw [sN_89 hN, smR_it (sN_sm hN), smR_crs (sN_sm hN)]
      refine hrf N1 I1 J1 h1 Q (fun k1 _ hp1 hno1 => ?_) (fun z => absurd hp (by have := z k0 hk; rw [ee] at this; exact this))
      rw [ee] at hp1 ⊢
      have := first_u (p := fun k => (crsS D N (itS D N (N 89) k)).2.2 = true) hp1 (fun i hi => by have := hno1 i hi; rw [ee] at this; exact this) hp hno
      subst this
      exact hQ
  · refine op_same (v := .int (-2)) h (by omega) ?_ ?_
    · intro Q hQ
      exact hcl Q (fun k1 hk1 hp1 _ => absurd hp1 (hno k1 hk1)) (fun _ => hQ)
    · intro N1 I1 J1 h1 hN hI hJ Q hQ
      have ee : ∀ k, crsS D N1 (itS D N1 (N1 89) k) = crsS D N (itS D N (N 89) k) := fun k => by rw [sN_89 hN, smR_it (sN_sm hN), smR_crs (sN_sm hN)]
      exact hrf N1 I1 J1 h1 Q (fun k1 hk1 hp1 _ => absurd (by rw [ee] at hp1; exact hp1) (hno k1 hk1)) (fun _ => hQ)
end O3
