/-! sends, stops: the class. From wip/whole/src. -/
theorem lc_t {a b : Int64} (h : a = b) : lg_cmp a b = 0 := of_decide_eq_true ((@lg_eq a b).trans (decide_eq_true h))
theorem lc_f {a b : Int64} (h : ¬ a = b) : ¬ lg_cmp a b = 0 := of_decide_eq_false ((@lg_eq a b).trans (decide_eq_false h))
theorem fnd_dn {D : Nat → Nat} {N : Nat → Nat → Nat} {S : Nat → Nat} {m : Int32} {A : Nat → Bool} {j r : Nat} (h : fnd D N S m (j + 1) r A = none) : fnd D N S m j r A = none := by
  cases r with
  | zero => rw [fnd_0] at h ⊢; exact h
  | succ r =>
    by_cases hk : S (36 + (D 0 * D 1 - (j + 1))) = 1 ∨ D 0 * D 1 - (j + 1) = S 108
    · rw [fnd_k hk] at h
      exact h
    · cases hq : fnd D N S m j r (adA A (D 0 * D 1 - (j + 1))) with
      | none =>
        rw [fnd_n hk hq] at h
        exact h
      | some l =>
        rw [fnd_s hk hq] at h
        cases h
theorem fnd_ch {D : Nat → Nat} {N : Nat → Nat → Nat} {S : Nat → Nat} {m : Int32} {A : Nat → Bool} {j r : Nat} (hk : ¬ (S (36 + (D 0 * D 1 - (j + 1))) = 1 ∨ D 0 * D 1 - (j + 1) = S 108)) (h : fnd D N S m (j + 1) (r + 1) A = none) : fnd D N S m j r (adA A (D 0 * D 1 - (j + 1))) = none := by
  cases hq : fnd D N S m j r (adA A (D 0 * D 1 - (j + 1))) with
  | none => rfl
  | some l =>
    rw [fnd_s hk hq] at h
    cases h
section W2
variable {ko : aKo} {d k : Nat} {is : List Instr} {ls st : List Value} {σ : aH} {D : Nat → Nat} {N : Nat → Nat → Nat} {I : Nat → Nat → Int32} {J : Nat → Nat → Int64} {x t : Nat} {Q : Option Value → aH → Prop} {P : (Option Value ⊕ Unit) → aH → Prop}
theorem wca_eq (h : invB D N I J t) {A : Nat → Bool} {wl : Int64} (hw : ∀ g, g < D 0 * D 1 → tb wl g = (wlS (N 89) g || A g)) : crs0 (D 2) (D 3) (dslG (D 3) (N 93) (N 86 18) (skC N) (N 89)) (tb wl) (N 89 108) = wcA D N (N 89) A := by
  have hF := dm_F h.1.1
  have hs := h.2.2.2.2.1.1.2.1
  have hd := h.1.1
  rw [h.1.2.1, h.1.2.2.1, inv_sk h]
  unfold wcA
  refine crs0_congr (by have := hd.2.2.1; omega) (by omega) hw ?_
  intro g b hg hb
  rfl
theorem lg_A {N0 : Nat → Nat → Nat} {I0 : Nat → Nat → Int32} {J0 : Nat → Nat → Int64} {A : Nat → Bool} {a : Int64} (h : invB D N0 I0 J0 t) (hb : ∀ g, g < 64 → tb a g = A g) (hO : lgO D N0 N I0 I J0 J)
    (hQ : ∀ (N' : Nat → Nat → Nat) (I' : Nat → Nat → Int32) (J' : Nat → Nat → Int64), lgO D N0 N' I0 I' J0 J' → clC (D 1) N' I' J' (wcA D N0 (N0 89) A) → Q none (hp D N' I' J' x)) : aMm ko d 256 [.ref 26, .long (J 20 1 ||| a)] (hp D N I J x) Q := by
  obtain ⟨hA, hv, hN, hI, hJ, hC, hR⟩ := hO
  have hF := dm_F h.1.1
  refine t_256 (sk := skC N0) rfl rfl hA hv ?_
  intro N' I' J' hv' hN' hI' hJ' hc
  rw [wca_eq (A := A) h (by
    intro g hg
    rw [tb_or, hb g (by omega), wl_tb (R := D 0) (C := D 1) hA.2.1 hF.1 g hg]), h.1.2.2.1] at hc
  exact hQ N' I' J' ⟨rvA_f rfl rfl hA hN' hI' hJ', hv', sN_t (fN_s hN') hN, sI_t (fI_s hI') hI, sJ_t (fJ_s hJ') hJ, ⟨(hN' 3 1 (by decide) (by omega)).trans hC.1, fun q => (hJ' 4 q (by decide) (by omega)).trans (hC.2 q)⟩, ⟨(hN' 86 1 (by decide) (by omega)).trans hR.1, fun q => (hJ' 87 q (by decide) (by omega)).trans (hR.2 q)⟩⟩ hc
/-- what a search of the class answers -/
def rsl (A : Nat → Bool) (o : Option (List Nat)) (r : Int64) : Prop := match o with
  | none => r = -1
  | some l => ∀ g, g < 64 → tb r g = (A g || l.contains g)
theorem rsl_ne {A : Nat → Bool} {j n : Nat} {l : List Nat} {r : Int64} {N0 : Nat → Nat → Nat} {S : Nat → Nat} {m : Int32} (hF : D 0 * D 1 ≤ 36) (hj : j ≤ D 0 * D 1) (hA : ∀ g, A g = true → g < D 0 * D 1 - j) (hl : fnd D N0 S m j n A = some l) (hr : ∀ g, g < 64 → tb r g = (A g || l.contains g)) : ¬ r = -1 := by
  intro e
  have := hr 63 (by decide)
  rw [e, tb_m1 63 (by decide)] at this
  have h2 := Bool.or_eq_true _ _ |>.mp this.symm
  rcases h2 with h2 | h2
  · have := hA 63 h2
    omega
  · have := ((fnd_ok j n A l hj hl).2.1 63 (List.contains_iff_mem.mp h2)).2
    omega
theorem l_185 {N0 : Nat → Nat → Nat} {I0 : Nat → Nat → Int32} {J0 : Nat → Nat → Int64} {m w2 : Int32} {a cd : Int64} {A : Nat → Bool} {r : Nat} (h : invB D N0 I0 J0 t) (hr : r < 3) (hb : ∀ g, g < 64 → tb a g = A g)
    (hcd : ∀ g, g < D 0 * D 1 → tb cd g = ((decide (0 < r) || onP (wcA D N0 (N0 89) A).1 (wcA D N0 (N0 89) A).2.1 g) && !wlS (N0 89) g))
    (hrec : ∀ (j : Nat) (A : Nat → Bool) (a : Int64) (N : Nat → Nat → Nat) (I : Nat → Nat → Int32) (J : Nat → Nat → Int64) (Q : Option Value → aH → Prop), j ≤ D 0 * D 1 → (∀ g, A g = true → g < D 0 * D 1 - j) → (∀ g, g < 64 → tb a g = A g) → (∀ r', r = r' + 1 → fnd D N0 (N0 89) m j r' A = none) → lgO D N0 N I0 I J0 J → (∀ (N' : Nat → Nat → Nat) (I' : Nat → Nat → Int32) (J' : Nat → Nat → Int64) (v : Int64), lgO D N0 N' I0 I' J0 J' → rsl A (fnd D N0 (N0 89) m j r A) v → Q (some (.long v)) (hp D N' I' J' x)) → aMm ko d 185 [.ref 26, .int (nI r), .int (nI (D 0 * D 1 - j)), .long a, .int m] (hp D N I J x) Q)
    {R : Option (List Nat)} (hQ : ∀ (N' : Nat → Nat → Nat) (I' : Nat → Nat → Int32) (J' : Nat → Nat → Int64) (v : Int64), lgO D N0 N' I0 I' J0 J' → rsl A R v → Q (some (.long v)) (hp D N' I' J' x)) :
    ∀ (j : Nat) (N : Nat → Nat → Nat) (I : Nat → Nat → Int32) (J : Nat → Nat → Int64) (w9 w10 : Value), j ≤ D 0 * D 1 → (∀ g, A g = true → g < D 0 * D 1 - j) → R = fnd D N0 (N0 89) m j (r + 1) A → fnd D N0 (N0 89) m j r A = none → lgO D N0 N I0 I J0 J → aWp ko (d + 1) 185 (aP.1 (Int.toNat 11846)) [.ref 26, .int (nI (r + 1)), .int w2, .long a, aJk, .int m, .long cd, aJk, .int (nI (D 0 * D 1 - j)), w9, w10] [] (hp D N I J x) (aL Q) := by
  have hF := dm_F h.1.1
  have h89 := h.2.2.2.2.1
  have h4 := inv_d4 h
  intro j
  induction j with
  | zero =>
    intro N I J w9 w10 _ _ hR _ hO
    rw [fnd_e] at hR
    have hq := hQ N I J (-1) hO (by rw [hR]; exact rfl)
    rw [al_11846]
    simp (disch := (first | omega | exact aCat_8 (by with_unfolding_all rfl) | exact rk_lt (by with_unfolding_all rfl) | exact aCat_16 (by with_unfolding_all rfl) | exact rk_eq (by with_unfolding_all rfl) | assumption | exact b2n_lt _ | exact id_b (by with_unfolding_all rfl) | (simp (disch := omega) only [u2_same, u2_ab, u2_aq]; done) | (simp (disch := omega) only [u2_same, u2_ab, u2_aq]; omega) | fail)) only [al_11840, wp_aloadr_0, wp_aloadk_0, hg_26_2, hg_20_1, hg_22_1, hg_24_1, wp_lload_3, wp_lor, wc_256, wp_iload_1, wz_gt_t, wz_gt_f, wm_gt_1, wm_gt_2, hg_26_11, wp_iload_5, wn_ne_t, wn_ne_f, wp_goto, al_11841, wl_m1, wp_jsr, al_11842, wp_lreturn, al_11843, wk_1, hg_26_10, al_11844, hg_26_0, hg_5_3, al_11845, wp_lxor, wp_land, wp_lstore_6, wp_iload_2, wp_istore_8, wp_iload_8, hg_5_2, wn_ge_t, wn_ge_f, hg_20_3, hg_22_3, hg_24_3, wn_eq_t, wn_eq_f, wp_lload_6, wc_161, t_161, wz_ne_t, wz_ne_f, wb_ne_t, wb_ne_f, wm_ne_1, wm_ne_2, al_11847, wp_isub, wp_iadd, wl_1, wp_lshl, wc_185, wp_lstore_9, wp_lload_9, wp_lcmp, wz_eq_t, wz_eq_f, wb_eq_t, wb_eq_f, wm_eq_1, wm_eq_2, al_11848, wp_iinc_8_1, al_11849, nl_i, nl_r, nl_k, nl_j, nl_l, nI_add, pk_mul, pk_sub, tl_s, tl_n, aL_inl, u2_same, u2_ab, u2_aq, nI_l, lN_i, Nat.add_zero, Nat.zero_add, Nat.zero_le, true_and, and_true, b2n_10, b2n_T, b2n_F, b2n_0, Decidable.not_not, not_true_eq_false, not_false_eq_true, Nat.reduceAdd, Nat.reduceMul, Nat.reduceSub, h4]
    exact hq
  | succ j ih =>
    intro N I J w9 w10 hj hA hR hno hO
    have hA' : ∀ g, A g = true → g < D 0 * D 1 - j := fun g hg => by have := hA g hg; omega
    have e1 : D 0 * D 1 - (j + 1) + 1 = D 0 * D 1 - j := by omega
    have ih1 := fun N I J w9 w10 => ih N I J w9 w10 (by omega) hA'
    have hno' := fnd_dn hno
    have hbase : bse D N0 (N0 89) m A = none ∨ 0 < r := by
      by_cases z : r = 0
      · subst z
        rw [fnd_0] at hno
        exact Or.inl hno
      · exact Or.inr (by omega)
    have hg : D 0 * D 1 - (j + 1) < D 0 * D 1 := by omega
    have hgd' := @rfl Nat (D 0 * D 1 - (j + 1))
    have hch := fun hk r' (e : r = r' + 1) => fnd_ch (D := D) (N := N0) (S := N0 89) (m := m) (A := A) (j := j) (r := r') hk (e ▸ hno)
    generalize hgd : D 0 * D 1 - (j + 1) = g at *
    have hg36 : g < 36 := by omega
    have hcg := hcd g hg
    have e203 : N 20 3 = N0 89 108 := hO.1.2.1.2.2.1
    have h26 : N 26 2 = 20 := hO.2.1.1
    have hsC := h89.1.2.1
    rw [al_11846]
    by_cases hs : g = N0 89 108
    · rw [fnd_k (by rw [hgd]; exact Or.inr hs)] at hR
      have e203' : N 20 3 = g := e203.trans hs.symm
      simp (disch := (first | omega | exact aCat_8 (by with_unfolding_all rfl) | exact rk_lt (by with_unfolding_all rfl) | exact aCat_16 (by with_unfolding_all rfl) | exact rk_eq (by with_unfolding_all rfl) | assumption | exact b2n_lt _ | exact id_b (by with_unfolding_all rfl) | (simp (disch := omega) only [u2_same, u2_ab, u2_aq]; done) | (simp (disch := omega) only [u2_same, u2_ab, u2_aq]; omega) | fail)) only [al_11840, wp_aloadr_0, wp_aloadk_0, hg_26_2, hg_20_1, hg_22_1, hg_24_1, wp_lload_3, wp_lor, wc_256, wp_iload_1, wz_gt_t, wz_gt_f, wm_gt_1, wm_gt_2, hg_26_11, wp_iload_5, wn_ne_t, wn_ne_f, wp_goto, al_11841, wl_m1, wp_jsr, al_11842, wp_lreturn, al_11843, wk_1, hg_26_10, al_11844, hg_26_0, hg_5_3, al_11845, wp_lxor, wp_land, wp_lstore_6, wp_iload_2, wp_istore_8, wp_iload_8, hg_5_2, wn_ge_t, wn_ge_f, hg_20_3, hg_22_3, hg_24_3, wn_eq_t, wn_eq_f, wp_lload_6, wc_161, t_161, wz_ne_t, wz_ne_f, wb_ne_t, wb_ne_f, wm_ne_1, wm_ne_2, al_11847, wp_isub, wp_iadd, wl_1, wp_lshl, wc_185, wp_lstore_9, wp_lload_9, wp_lcmp, wz_eq_t, wz_eq_f, wb_eq_t, wb_eq_f, wm_eq_1, wm_eq_2, al_11848, wp_iinc_8_1, al_11849, nl_i, nl_r, nl_k, nl_j, nl_l, nI_add, pk_mul, pk_sub, tl_s, tl_n, aL_inl, u2_same, u2_ab, u2_aq, nI_l, lN_i, Nat.add_zero, Nat.zero_add, Nat.zero_le, true_and, and_true, b2n_10, b2n_T, b2n_F, b2n_0, Decidable.not_not, not_true_eq_false, not_false_eq_true, Nat.reduceAdd, Nat.reduceMul, Nat.reduceSub, h4, h26, e203', e1]
      exact ih1 N I J w9 w10 hR hno' hO
    · by_cases hc : tb cd g = true
      · have hw : ¬ N0 89 (36 + g) = 1 := by
          intro z
          rw [hcg] at hc
          unfold wlS at hc
          simp [z] at hc
        have hk : ¬ (N0 89 (36 + (D 0 * D 1 - (j + 1))) = 1 ∨ D 0 * D 1 - (j + 1) = N0 89 108) := by
          rw [hgd]
          omega
        simp (disch := (first | omega | exact aCat_8 (by with_unfolding_all rfl) | exact rk_lt (by with_unfolding_all rfl) | exact aCat_16 (by with_unfolding_all rfl) | exact rk_eq (by with_unfolding_all rfl) | assumption | exact b2n_lt _ | exact id_b (by with_unfolding_all rfl) | (simp (disch := omega) only [u2_same, u2_ab, u2_aq]; done) | (simp (disch := omega) only [u2_same, u2_ab, u2_aq]; omega) | fail)) only [al_11840, wp_aloadr_0, wp_aloadk_0, hg_26_2, hg_20_1, hg_22_1, hg_24_1, wp_lload_3, wp_lor, wc_256, wp_iload_1, wz_gt_t, wz_gt_f, wm_gt_1, wm_gt_2, hg_26_11, wp_iload_5, wn_ne_t, wn_ne_f, wp_goto, al_11841, wl_m1, wp_jsr, al_11842, wp_lreturn, al_11843, wk_1, hg_26_10, al_11844, hg_26_0, hg_5_3, al_11845, wp_lxor, wp_land, wp_lstore_6, wp_iload_2, wp_istore_8, wp_iload_8, hg_5_2, wn_ge_t, wn_ge_f, hg_20_3, hg_22_3, hg_24_3, wn_eq_t, wn_eq_f, wp_lload_6, wc_161, t_161, wz_ne_t, wz_ne_f, wb_ne_t, wb_ne_f, wm_ne_1, wm_ne_2, al_11847, wp_isub, wp_iadd, wl_1, wp_lshl, wc_185, wp_lstore_9, wp_lload_9, wp_lcmp, wz_eq_t, wz_eq_f, wb_eq_t, wb_eq_f, wm_eq_1, wm_eq_2, al_11848, wp_iinc_8_1, al_11849, nl_i, nl_r, nl_k, nl_j, nl_l, nI_add, pk_mul, pk_sub, tl_s, tl_n, aL_inl, u2_same, u2_ab, u2_aq, nI_l, lN_i, Nat.add_zero, Nat.zero_add, Nat.zero_le, true_and, and_true, b2n_10, b2n_T, b2n_F, b2n_0, Decidable.not_not, not_true_eq_false, not_false_eq_true, Nat.reduceAdd, Nat.reduceMul, Nat.reduceSub, h4, h26, e203, b2n_t hc, e1, wr_185]
        have hA2 : ∀ y, adA A g y = true → y < D 0 * D 1 - j := by
          intro y hy
          unfold adA at hy
          rcases Bool.or_eq_true _ _ |>.mp hy with hy | hy
          · exact hA' y hy
          · have := of_decide_eq_true hy
            omega
        refine hrec j (adA A g) _ N I J _ (by omega) hA2 ?_ (fun r' e => hch (by omega) r' e) hO ?_
        · intro y hy
          rw [tb_or, hb y hy, tb_p2 (by omega) hy]
          rfl
        · intro N1 I1 J1 v hO1 hv
          cases hq : fnd D N0 (N0 89) m j r (adA A g) with
          | none =>
            rw [hq] at hv
            have hv' : v = -1 := hv
            rw [fnd_n hk (by rw [hgd]; exact hq)] at hR
            simp (disch := (first | omega | exact aCat_8 (by with_unfolding_all rfl) | exact rk_lt (by with_unfolding_all rfl) | exact aCat_16 (by with_unfolding_all rfl) | exact rk_eq (by with_unfolding_all rfl) | assumption | exact b2n_lt _ | exact id_b (by with_unfolding_all rfl) | (simp (disch := omega) only [u2_same, u2_ab, u2_aq]; done) | (simp (disch := omega) only [u2_same, u2_ab, u2_aq]; omega) | fail)) only [al_11840, wp_aloadr_0, wp_aloadk_0, hg_26_2, hg_20_1, hg_22_1, hg_24_1, wp_lload_3, wp_lor, wc_256, wp_iload_1, wz_gt_t, wz_gt_f, wm_gt_1, wm_gt_2, hg_26_11, wp_iload_5, wn_ne_t, wn_ne_f, wp_goto, al_11841, wl_m1, wp_jsr, al_11842, wp_lreturn, al_11843, wk_1, hg_26_10, al_11844, hg_26_0, hg_5_3, al_11845, wp_lxor, wp_land, wp_lstore_6, wp_iload_2, wp_istore_8, wp_iload_8, hg_5_2, wn_ge_t, wn_ge_f, hg_20_3, hg_22_3, hg_24_3, wn_eq_t, wn_eq_f, wp_lload_6, wc_161, t_161, wz_ne_t, wz_ne_f, wb_ne_t, wb_ne_f, wm_ne_1, wm_ne_2, al_11847, wp_isub, wp_iadd, wl_1, wp_lshl, wc_185, wp_lstore_9, wp_lload_9, wp_lcmp, wz_eq_t, wz_eq_f, wb_eq_t, wb_eq_f, wm_eq_1, wm_eq_2, al_11848, wp_iinc_8_1, al_11849, nl_i, nl_r, nl_k, nl_j, nl_l, nI_add, pk_mul, pk_sub, tl_s, tl_n, aL_inl, u2_same, u2_ab, u2_aq, nI_l, lN_i, Nat.add_zero, Nat.zero_add, Nat.zero_le, true_and, and_true, b2n_10, b2n_T, b2n_F, b2n_0, Decidable.not_not, not_true_eq_false, not_false_eq_true, Nat.reduceAdd, Nat.reduceMul, Nat.reduceSub, h4, e1, wy_eq_t (lc_t hv')]
            exact ih1 N1 I1 J1 _ _ hR hno' hO1
          | some l =>
            rw [hq] at hv
            have hv' : ∀ y, y < 64 → tb v y = (adA A g y || l.contains y) := hv
            have hne := rsl_ne hF.1 (by omega) hA2 hq hv'
            rw [fnd_s hk (by rw [hgd]; exact hq), hgd] at hR
            have hqq := hQ N1 I1 J1 v hO1 (by
              rw [hR]
              intro y hy
              rw [hv' y hy]
              unfold adA
              have eb : (y == g) = decide (y = g) := by
                by_cases z : y = g <;> simp [z]
              rw [List.contains_cons, eb]
              cases A y <;> cases l.contains y <;> simp)
            simp (disch := (first | omega | exact aCat_8 (by with_unfolding_all rfl) | exact rk_lt (by with_unfolding_all rfl) | exact aCat_16 (by with_unfolding_all rfl) | exact rk_eq (by with_unfolding_all rfl) | assumption | exact b2n_lt _ | exact id_b (by with_unfolding_all rfl) | (simp (disch := omega) only [u2_same, u2_ab, u2_aq]; done) | (simp (disch := omega) only [u2_same, u2_ab, u2_aq]; omega) | fail)) only [al_11840, wp_aloadr_0, wp_aloadk_0, hg_26_2, hg_20_1, hg_22_1, hg_24_1, wp_lload_3, wp_lor, wc_256, wp_iload_1, wz_gt_t, wz_gt_f, wm_gt_1, wm_gt_2, hg_26_11, wp_iload_5, wn_ne_t, wn_ne_f, wp_goto, al_11841, wl_m1, wp_jsr, al_11842, wp_lreturn, al_11843, wk_1, hg_26_10, al_11844, hg_26_0, hg_5_3, al_11845, wp_lxor, wp_land, wp_lstore_6, wp_iload_2, wp_istore_8, wp_iload_8, hg_5_2, wn_ge_t, wn_ge_f, hg_20_3, hg_22_3, hg_24_3, wn_eq_t, wn_eq_f, wp_lload_6, wc_161, t_161, wz_ne_t, wz_ne_f, wb_ne_t, wb_ne_f, wm_ne_1, wm_ne_2, al_11847, wp_isub, wp_iadd, wl_1, wp_lshl, wc_185, wp_lstore_9, wp_lload_9, wp_lcmp, wz_eq_t, wz_eq_f, wb_eq_t, wb_eq_f, wm_eq_1, wm_eq_2, al_11848, wp_iinc_8_1, al_11849, nl_i, nl_r, nl_k, nl_j, nl_l, nI_add, pk_mul, pk_sub, tl_s, tl_n, aL_inl, u2_same, u2_ab, u2_aq, nI_l, lN_i, Nat.add_zero, Nat.zero_add, Nat.zero_le, true_and, and_true, b2n_10, b2n_T, b2n_F, b2n_0, Decidable.not_not, not_true_eq_false, not_false_eq_true, Nat.reduceAdd, Nat.reduceMul, Nat.reduceSub, wy_eq_f (lc_f hne)]
            exact hqq
      · have hR2 : R = fnd D N0 (N0 89) m j (r + 1) A := by
          by_cases hw : N0 89 (36 + g) = 1
          · rw [fnd_k (by rw [hgd]; exact Or.inl hw)] at hR
            exact hR
          · have hwf : wlS (N0 89) g = false := by unfold wlS; simp [hw]
            have hcf : tb cd g = false := by simpa using hc
            rw [hcf, hwf, Bool.not_false, Bool.and_true] at hcg
            have hcg' := hcg.symm
            rw [Bool.or_eq_false_iff] at hcg'
            have hr0 : r = 0 := by
              have := of_decide_eq_false hcg'.1
              omega
            have hk : ¬ (N0 89 (36 + (D 0 * D 1 - (j + 1))) = 1 ∨ D 0 * D 1 - (j + 1) = N0 89 108) := by
              rw [hgd]
              omega
            subst hr0
            have hn2 : fnd D N0 (N0 89) m j 0 (adA A g) = none := by
              rw [fnd_0]
              unfold bse
              rw [wc_off hcg'.2]
              have hb0 : bse D N0 (N0 89) m A = none := by
                rcases hbase with hb0 | hb0
                · exact hb0
                · omega
              exact hb0
            rw [fnd_n hk (by rw [hgd]; exact hn2)] at hR
            exact hR
        simp (disch := (first | omega | exact aCat_8 (by with_unfolding_all rfl) | exact rk_lt (by with_unfolding_all rfl) | exact aCat_16 (by with_unfolding_all rfl) | exact rk_eq (by with_unfolding_all rfl) | assumption | exact b2n_lt _ | exact id_b (by with_unfolding_all rfl) | (simp (disch := omega) only [u2_same, u2_ab, u2_aq]; done) | (simp (disch := omega) only [u2_same, u2_ab, u2_aq]; omega) | fail)) only [al_11840, wp_aloadr_0, wp_aloadk_0, hg_26_2, hg_20_1, hg_22_1, hg_24_1, wp_lload_3, wp_lor, wc_256, wp_iload_1, wz_gt_t, wz_gt_f, wm_gt_1, wm_gt_2, hg_26_11, wp_iload_5, wn_ne_t, wn_ne_f, wp_goto, al_11841, wl_m1, wp_jsr, al_11842, wp_lreturn, al_11843, wk_1, hg_26_10, al_11844, hg_26_0, hg_5_3, al_11845, wp_lxor, wp_land, wp_lstore_6, wp_iload_2, wp_istore_8, wp_iload_8, hg_5_2, wn_ge_t, wn_ge_f, hg_20_3, hg_22_3, hg_24_3, wn_eq_t, wn_eq_f, wp_lload_6, wc_161, t_161, wz_ne_t, wz_ne_f, wb_ne_t, wb_ne_f, wm_ne_1, wm_ne_2, al_11847, wp_isub, wp_iadd, wl_1, wp_lshl, wc_185, wp_lstore_9, wp_lload_9, wp_lcmp, wz_eq_t, wz_eq_f, wb_eq_t, wb_eq_f, wm_eq_1, wm_eq_2, al_11848, wp_iinc_8_1, al_11849, nl_i, nl_r, nl_k, nl_j, nl_l, nI_add, pk_mul, pk_sub, tl_s, tl_n, aL_inl, u2_same, u2_ab, u2_aq, nI_l, lN_i, Nat.add_zero, Nat.zero_add, Nat.zero_le, true_and, and_true, b2n_10, b2n_T, b2n_F, b2n_0, Decidable.not_not, not_true_eq_false, not_false_eq_true, Nat.reduceAdd, Nat.reduceMul, Nat.reduceSub, h4, h26, e203, b2n_f hc, e1]
        exact ih1 N I J w9 w10 hR2 hno' hO
theorem t_185 {N0 : Nat → Nat → Nat} {I0 : Nat → Nat → Int32} {J0 : Nat → Nat → Int64} {m : Int32} (h : invB D N0 I0 J0 t) :
    ∀ (r d j : Nat) (A : Nat → Bool) (a : Int64) (N : Nat → Nat → Nat) (I : Nat → Nat → Int32) (J : Nat → Nat → Int64) (Q : Option Value → aH → Prop), r ≤ 3 → j ≤ D 0 * D 1 → (∀ g, A g = true → g < D 0 * D 1 - j) → (∀ g, g < 64 → tb a g = A g) → (∀ r', r = r' + 1 → fnd D N0 (N0 89) m j r' A = none) → lgO D N0 N I0 I J0 J → (∀ (N' : Nat → Nat → Nat) (I' : Nat → Nat → Int32) (J' : Nat → Nat → Int64) (v : Int64), lgO D N0 N' I0 I' J0 J' → rsl A (fnd D N0 (N0 89) m j r A) v → Q (some (.long v)) (hp D N' I' J' x)) → aMm ko (d + r) 185 [.ref 26, .int (nI r), .int (nI (D 0 * D 1 - j)), .long a, .int m] (hp D N I J x) Q := by
  have hF := dm_F h.1.1
  have h4 := inv_d4 h
  intro r
  induction r with
  | zero =>
    intro d j A a N I J Q _ hj hA hb _ hO hQ
    have h26 : N 26 2 = 20 := hO.2.1.1
    rw [me_185]
    simp (disch := (first | omega | exact aCat_8 (by with_unfolding_all rfl) | exact rk_lt (by with_unfolding_all rfl) | exact aCat_16 (by with_unfolding_all rfl) | exact rk_eq (by with_unfolding_all rfl) | assumption | exact b2n_lt _ | exact id_b (by with_unfolding_all rfl) | (simp (disch := omega) only [u2_same, u2_ab, u2_aq]; done) | (simp (disch := omega) only [u2_same, u2_ab, u2_aq]; omega) | fail)) only [al_11840, wp_aloadr_0, wp_aloadk_0, hg_26_2, hg_20_1, hg_22_1, hg_24_1, wp_lload_3, wp_lor, wc_256, wp_iload_1, wz_gt_t, wz_gt_f, wm_gt_1, wm_gt_2, hg_26_11, wp_iload_5, wn_ne_t, wn_ne_f, wp_goto, al_11841, wl_m1, wp_jsr, al_11842, wp_lreturn, al_11843, wk_1, hg_26_10, al_11844, hg_26_0, hg_5_3, al_11845, wp_lxor, wp_land, wp_lstore_6, wp_iload_2, wp_istore_8, wp_iload_8, hg_5_2, wn_ge_t, wn_ge_f, hg_20_3, hg_22_3, hg_24_3, wn_eq_t, wn_eq_f, wp_lload_6, wc_161, t_161, wz_ne_t, wz_ne_f, wb_ne_t, wb_ne_f, wm_ne_1, wm_ne_2, al_11847, wp_isub, wp_iadd, wl_1, wp_lshl, wc_185, wp_lstore_9, wp_lload_9, wp_lcmp, wz_eq_t, wz_eq_f, wb_eq_t, wb_eq_f, wm_eq_1, wm_eq_2, al_11848, wp_iinc_8_1, al_11849, nl_i, nl_r, nl_k, nl_j, nl_l, nI_add, pk_mul, pk_sub, tl_s, tl_n, aL_inl, u2_same, u2_ab, u2_aq, nI_l, lN_i, Nat.add_zero, Nat.zero_add, Nat.zero_le, true_and, and_true, b2n_10, b2n_T, b2n_F, b2n_0, Decidable.not_not, not_true_eq_false, not_false_eq_true, Nat.reduceAdd, Nat.reduceMul, Nat.reduceSub, h26]
    refine lg_A h hb hO ?_
    intro N1 I1 J1 hO1 hc1
    have e11 := hc1.2.2.2.1
    by_cases z : mth (D 1) (wcA D N0 (N0 89) A) = m
    · have hq := hQ N1 I1 J1 a hO1 (by
        rw [fnd_0]
        unfold bse
        rw [if_pos z]
        intro g hg
        rw [hb g hg]
        simp)
      simp (disch := (first | omega | exact aCat_8 (by with_unfolding_all rfl) | exact rk_lt (by with_unfolding_all rfl) | exact aCat_16 (by with_unfolding_all rfl) | exact rk_eq (by with_unfolding_all rfl) | assumption | exact b2n_lt _ | exact id_b (by with_unfolding_all rfl) | (simp (disch := omega) only [u2_same, u2_ab, u2_aq]; done) | (simp (disch := omega) only [u2_same, u2_ab, u2_aq]; omega) | fail)) only [al_11840, wp_aloadr_0, wp_aloadk_0, hg_26_2, hg_20_1, hg_22_1, hg_24_1, wp_lload_3, wp_lor, wc_256, wp_iload_1, wz_gt_t, wz_gt_f, wm_gt_1, wm_gt_2, hg_26_11, wp_iload_5, wn_ne_t, wn_ne_f, wp_goto, al_11841, wl_m1, wp_jsr, al_11842, wp_lreturn, al_11843, wk_1, hg_26_10, al_11844, hg_26_0, hg_5_3, al_11845, wp_lxor, wp_land, wp_lstore_6, wp_iload_2, wp_istore_8, wp_iload_8, hg_5_2, wn_ge_t, wn_ge_f, hg_20_3, hg_22_3, hg_24_3, wn_eq_t, wn_eq_f, wp_lload_6, wc_161, t_161, wz_ne_t, wz_ne_f, wb_ne_t, wb_ne_f, wm_ne_1, wm_ne_2, al_11847, wp_isub, wp_iadd, wl_1, wp_lshl, wc_185, wp_lstore_9, wp_lload_9, wp_lcmp, wz_eq_t, wz_eq_f, wb_eq_t, wb_eq_f, wm_eq_1, wm_eq_2, al_11848, wp_iinc_8_1, al_11849, nl_i, nl_r, nl_k, nl_j, nl_l, nI_add, pk_mul, pk_sub, tl_s, tl_n, aL_inl, u2_same, u2_ab, u2_aq, nI_l, lN_i, Nat.add_zero, Nat.zero_add, Nat.zero_le, true_and, and_true, b2n_10, b2n_T, b2n_F, b2n_0, Decidable.not_not, not_true_eq_false, not_false_eq_true, Nat.reduceAdd, Nat.reduceMul, Nat.reduceSub, e11, wx_ne_f (not_not_intro z)]
      exact hq
    · have hq := hQ N1 I1 J1 (-1) hO1 (by
        rw [fnd_0]
        unfold bse
        rw [if_neg z]
        exact rfl)
      simp (disch := (first | omega | exact aCat_8 (by with_unfolding_all rfl) | exact rk_lt (by with_unfolding_all rfl) | exact aCat_16 (by with_unfolding_all rfl) | exact rk_eq (by with_unfolding_all rfl) | assumption | exact b2n_lt _ | exact id_b (by with_unfolding_all rfl) | (simp (disch := omega) only [u2_same, u2_ab, u2_aq]; done) | (simp (disch := omega) only [u2_same, u2_ab, u2_aq]; omega) | fail)) only [al_11840, wp_aloadr_0, wp_aloadk_0, hg_26_2, hg_20_1, hg_22_1, hg_24_1, wp_lload_3, wp_lor, wc_256, wp_iload_1, wz_gt_t, wz_gt_f, wm_gt_1, wm_gt_2, hg_26_11, wp_iload_5, wn_ne_t, wn_ne_f, wp_goto, al_11841, wl_m1, wp_jsr, al_11842, wp_lreturn, al_11843, wk_1, hg_26_10, al_11844, hg_26_0, hg_5_3, al_11845, wp_lxor, wp_land, wp_lstore_6, wp_iload_2, wp_istore_8, wp_iload_8, hg_5_2, wn_ge_t, wn_ge_f, hg_20_3, hg_22_3, hg_24_3, wn_eq_t, wn_eq_f, wp_lload_6, wc_161, t_161, wz_ne_t, wz_ne_f, wb_ne_t, wb_ne_f, wm_ne_1, wm_ne_2, al_11847, wp_isub, wp_iadd, wl_1, wp_lshl, wc_185, wp_lstore_9, wp_lload_9, wp_lcmp, wz_eq_t, wz_eq_f, wb_eq_t, wb_eq_f, wm_eq_1, wm_eq_2, al_11848, wp_iinc_8_1, al_11849, nl_i, nl_r, nl_k, nl_j, nl_l, nI_add, pk_mul, pk_sub, tl_s, tl_n, aL_inl, u2_same, u2_ab, u2_aq, nI_l, lN_i, Nat.add_zero, Nat.zero_add, Nat.zero_le, true_and, and_true, b2n_10, b2n_T, b2n_F, b2n_0, Decidable.not_not, not_true_eq_false, not_false_eq_true, Nat.reduceAdd, Nat.reduceMul, Nat.reduceSub, e11, wx_ne_t z]
      exact hq
  | succ r ih =>
    intro d j A a N I J Q hr hj hA hb hno hO hQ
    have h26 : N 26 2 = 20 := hO.2.1.1
    rw [me_185]
    simp (disch := (first | omega | exact aCat_8 (by with_unfolding_all rfl) | exact rk_lt (by with_unfolding_all rfl) | exact aCat_16 (by with_unfolding_all rfl) | exact rk_eq (by with_unfolding_all rfl) | assumption | exact b2n_lt _ | exact id_b (by with_unfolding_all rfl) | (simp (disch := omega) only [u2_same, u2_ab, u2_aq]; done) | (simp (disch := omega) only [u2_same, u2_ab, u2_aq]; omega) | fail)) only [al_11840, wp_aloadr_0, wp_aloadk_0, hg_26_2, hg_20_1, hg_22_1, hg_24_1, wp_lload_3, wp_lor, wc_256, wp_iload_1, wz_gt_t, wz_gt_f, wm_gt_1, wm_gt_2, hg_26_11, wp_iload_5, wn_ne_t, wn_ne_f, wp_goto, al_11841, wl_m1, wp_jsr, al_11842, wp_lreturn, al_11843, wk_1, hg_26_10, al_11844, hg_26_0, hg_5_3, al_11845, wp_lxor, wp_land, wp_lstore_6, wp_iload_2, wp_istore_8, wp_iload_8, hg_5_2, wn_ge_t, wn_ge_f, hg_20_3, hg_22_3, hg_24_3, wn_eq_t, wn_eq_f, wp_lload_6, wc_161, t_161, wz_ne_t, wz_ne_f, wb_ne_t, wb_ne_f, wm_ne_1, wm_ne_2, al_11847, wp_isub, wp_iadd, wl_1, wp_lshl, wc_185, wp_lstore_9, wp_lload_9, wp_lcmp, wz_eq_t, wz_eq_f, wb_eq_t, wb_eq_f, wm_eq_1, wm_eq_2, al_11848, wp_iinc_8_1, al_11849, nl_i, nl_r, nl_k, nl_j, nl_l, nI_add, pk_mul, pk_sub, tl_s, tl_n, aL_inl, u2_same, u2_ab, u2_aq, nI_l, lN_i, Nat.add_zero, Nat.zero_add, Nat.zero_le, true_and, and_true, b2n_10, b2n_T, b2n_F, b2n_0, Decidable.not_not, not_true_eq_false, not_false_eq_true, Nat.reduceAdd, Nat.reduceMul, Nat.reduceSub, h26]
    refine lg_A h hb hO ?_
    intro N1 I1 J1 hO1 hc1
    have h26' : N1 26 2 = 20 := hO1.2.1.1
    have hld := hO1.1.1
    have hcl := hO1.1.2.1
    have hall : ∀ g, g < D 0 * D 1 → tb (J1 5 3) g = true := by
      intro g hg
      rw [(hld.2.2.2 g (by omega)).1, h.1.2.1, h.1.2.2.1]
      exact decide_eq_true hg
    have hwl : ∀ g, g < D 0 * D 1 → tb (J1 20 1 ^^^ -1) g = !wlS (N0 89) g := by
      intro g hg
      rw [tb_not (by omega), wl_tb (R := D 0) (C := D 1) hcl hF.1 g hg]
    have hx := fun cd hcd w9 w10 => l_185 (ko := ko) (d := d + r) (x := x) (Q := Q) (m := m) (w2 := nI (D 0 * D 1 - j)) (a := a) (cd := cd) (A := A) (r := r) h (by omega) hb hcd (fun j A a N I J Q hj hA hb hno hO hQ => ih d j A a N I J Q (by omega) hj hA hb hno hO hQ) hQ j N1 I1 J1 w9 w10 hj hA rfl (hno r rfl) hO1
    rw [Nat.add_assoc] at hx
    by_cases z : r = 0
    · subst z
      have hy := fun w9 w10 => hx (J1 26 10 &&& (J1 20 1 ^^^ -1)) (by
        intro g hg
        rw [tb_and, hwl g hg, hc1.2.2.1 g (by omega)]
        rfl) w9 w10
      simp (disch := (first | omega | exact aCat_8 (by with_unfolding_all rfl) | exact rk_lt (by with_unfolding_all rfl) | exact aCat_16 (by with_unfolding_all rfl) | exact rk_eq (by with_unfolding_all rfl) | assumption | exact b2n_lt _ | exact id_b (by with_unfolding_all rfl) | (simp (disch := omega) only [u2_same, u2_ab, u2_aq]; done) | (simp (disch := omega) only [u2_same, u2_ab, u2_aq]; omega) | fail)) only [al_11840, wp_aloadr_0, wp_aloadk_0, hg_26_2, hg_20_1, hg_22_1, hg_24_1, wp_lload_3, wp_lor, wc_256, wp_iload_1, wz_gt_t, wz_gt_f, wm_gt_1, wm_gt_2, hg_26_11, wp_iload_5, wn_ne_t, wn_ne_f, wp_goto, al_11841, wl_m1, wp_jsr, al_11842, wp_lreturn, al_11843, wk_1, hg_26_10, al_11844, hg_26_0, hg_5_3, al_11845, wp_lxor, wp_land, wp_lstore_6, wp_iload_2, wp_istore_8, wp_iload_8, hg_5_2, wn_ge_t, wn_ge_f, hg_20_3, hg_22_3, hg_24_3, wn_eq_t, wn_eq_f, wp_lload_6, wc_161, t_161, wz_ne_t, wz_ne_f, wb_ne_t, wb_ne_f, wm_ne_1, wm_ne_2, al_11847, wp_isub, wp_iadd, wl_1, wp_lshl, wc_185, wp_lstore_9, wp_lload_9, wp_lcmp, wz_eq_t, wz_eq_f, wb_eq_t, wb_eq_f, wm_eq_1, wm_eq_2, al_11848, wp_iinc_8_1, al_11849, nl_i, nl_r, nl_k, nl_j, nl_l, nI_add, pk_mul, pk_sub, tl_s, tl_n, aL_inl, u2_same, u2_ab, u2_aq, nI_l, lN_i, Nat.add_zero, Nat.zero_add, Nat.zero_le, true_and, and_true, b2n_10, b2n_T, b2n_F, b2n_0, Decidable.not_not, not_true_eq_false, not_false_eq_true, Nat.reduceAdd, Nat.reduceMul, Nat.reduceSub, h26']
      exact hy _ _
    · have hy := fun w9 w10 => hx (J1 5 3 &&& (J1 20 1 ^^^ -1)) (by
        intro g hg
        rw [tb_and, hwl g hg, hall g hg]
        have : 0 < r := by omega
        simp [this]) w9 w10
      simp (disch := (first | omega | exact aCat_8 (by with_unfolding_all rfl) | exact rk_lt (by with_unfolding_all rfl) | exact aCat_16 (by with_unfolding_all rfl) | exact rk_eq (by with_unfolding_all rfl) | assumption | exact b2n_lt _ | exact id_b (by with_unfolding_all rfl) | (simp (disch := omega) only [u2_same, u2_ab, u2_aq]; done) | (simp (disch := omega) only [u2_same, u2_ab, u2_aq]; omega) | fail)) only [al_11840, wp_aloadr_0, wp_aloadk_0, hg_26_2, hg_20_1, hg_22_1, hg_24_1, wp_lload_3, wp_lor, wc_256, wp_iload_1, wz_gt_t, wz_gt_f, wm_gt_1, wm_gt_2, hg_26_11, wp_iload_5, wn_ne_t, wn_ne_f, wp_goto, al_11841, wl_m1, wp_jsr, al_11842, wp_lreturn, al_11843, wk_1, hg_26_10, al_11844, hg_26_0, hg_5_3, al_11845, wp_lxor, wp_land, wp_lstore_6, wp_iload_2, wp_istore_8, wp_iload_8, hg_5_2, wn_ge_t, wn_ge_f, hg_20_3, hg_22_3, hg_24_3, wn_eq_t, wn_eq_f, wp_lload_6, wc_161, t_161, wz_ne_t, wz_ne_f, wb_ne_t, wb_ne_f, wm_ne_1, wm_ne_2, al_11847, wp_isub, wp_iadd, wl_1, wp_lshl, wc_185, wp_lstore_9, wp_lload_9, wp_lcmp, wz_eq_t, wz_eq_f, wb_eq_t, wb_eq_f, wm_eq_1, wm_eq_2, al_11848, wp_iinc_8_1, al_11849, nl_i, nl_r, nl_k, nl_j, nl_l, nI_add, pk_mul, pk_sub, tl_s, tl_n, aL_inl, u2_same, u2_ab, u2_aq, nI_l, lN_i, Nat.add_zero, Nat.zero_add, Nat.zero_le, true_and, and_true, b2n_10, b2n_T, b2n_F, b2n_0, Decidable.not_not, not_true_eq_false, not_false_eq_true, Nat.reduceAdd, Nat.reduceMul, Nat.reduceSub, h26']
      exact hy _ _
end W2
