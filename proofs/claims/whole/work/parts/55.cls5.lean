/-! The class: trace, look, flow. From wip/whole/src. -/
/-- a course as the class's river holds it -/
def clC (C : Nat) (N : Nat → Nat → Nat) (I : Nat → Nat → Int32) (J : Nat → Nat → Int64) (c : Nat × (Nat → Nat) × Bool) : Prop := N 26 9 = c.1 ∧ (∀ k, k < c.1 → N 30 k = c.2.1 k) ∧ (∀ f, f < 64 → tb (J 26 10) f = onP c.1 c.2.1 f) ∧ I 26 11 = mth C c ∧ I 26 12 = (if c.2.2 = true ∧ 0 < c.1 then nI (c.2.1 (c.1 - 1)) else -1)
def fN (N' N : Nat → Nat → Nat) : Prop := ∀ b q, b ≠ 30 → ¬ (b = 26 ∧ q = 9) → N' b q = N b q
def fI (I' I : Nat → Nat → Int32) : Prop := ∀ b q, b ≠ 27 → b ≠ 28 → b ≠ 13 → b ≠ 16 → ¬ (b = 26 ∧ (q = 11 ∨ q = 12)) → I' b q = I b q
def fJ (J' J : Nat → Nat → Int64) : Prop := ∀ b q, b ≠ 29 → ¬ (b = 26 ∧ q = 10) → J' b q = J b q
theorem fI_of {I' I : Nat → Nat → Int32} (h : ∀ b q, frI b q = false → I' b q = I b q) : fI I' I := fun b q h1 h2 h3 h4 _ => h b q (by simp [frI, h1, h2, h3, h4])
theorem rvA_f {D : Nat → Nat} {N N' : Nat → Nat → Nat} {I I' : Nat → Nat → Int32} {J J' : Nat → Nat → Int64} {s ru n : Nat} {c S : Nat → Nat} (hs : stB s = true) (hu : ruB ru = true) (h : rvA D N I J s ru c n S) (hN : fN N' N) (hI : fI I' I) (hJ : fJ J' J) : rvA D N' I' J' s ru c n S := by
  obtain ⟨h1, h2, h3, h4, h5⟩ := h
  have hru := ru_or hu
  have hso := st_or hs
  refine ⟨⟨h1.1, h1.2.1, ?_, ?_⟩, ⟨?_, ?_, ?_⟩, h3, ⟨?_, ?_⟩, h5⟩
  · intro i hi
    obtain ⟨a1, a2, a3⟩ := h1.2.2.1 i hi
    exact ⟨(hN 6 i (by decide) (by omega)).trans a1, (hN 7 i (by decide) (by omega)).trans a2, fun w hw => (hI 8 _ (by decide) (by decide) (by decide) (by decide) (by omega)).trans (a3 w hw)⟩
  · intro i hi
    rw [hJ 5 3 (by decide) (by omega), hJ 5 4 (by decide) (by omega), hJ 5 5 (by decide) (by omega), hJ 5 6 (by decide) (by omega)]
    exact h1.2.2.2 i hi
  · intro f hf
    rw [hN (s + 1) f (by omega) (by omega)]
    exact h2.1 f hf
  · intro f hf
    rw [hJ s 1 (by omega) (by omega), hJ s 2 (by omega) (by omega)]
    exact h2.2.1 f hf
  · rw [hN s 3 (by omega) (by omega), hN s 4 (by omega) (by omega), hN s 5 (by omega) (by omega)]
    exact h2.2.2
  · rw [hN ru 2 (by omega) (by omega)]
    exact h4.1
  · intro k hk
    rw [hI (ru + 1) k (by omega) (by omega) (by omega) (by omega) (by omega)]
    exact h4.2 k hk
section K5
variable {ko : aKo} {d k : Nat} {is : List Instr} {ls st : List Value} {σ : aH} {D : Nat → Nat} {N : Nat → Nat → Nat} {I : Nat → Nat → Int32} {J : Nat → Nat → Int64} {x : Nat} {Q : Option Value → aH → Prop} {P : (Option Value ⊕ Unit) → aH → Prop}
theorem l_256 {N0 : Nat → Nat → Nat} {I0 : Nat → Nat → Int32} {J0 : Nat → Nat → Int64} {s ru n : Nat} {c sk S : Nat → Nat} {wl : Int64} (hs : stB s = true) (hu : ruB ru = true) (hA0 : rvA D N0 I0 J0 s ru c n S) :
    ∀ (m i : Nat) (p : Nat → Nat) (N : Nat → Nat → Nat) (I : Nat → Nat → Int32) (J : Nat → Nat → Int64) (v5 : Value), i + 1 + m = 37 → (∀ k, k < i + 1 → p k < D 2 * D 3) → (∀ a b, a < b → b < i + 1 → p a ≠ p b) → rvO D N I J s ru c n sk S → fN N N0 → fI I I0 → fJ J J0 → N 26 9 = i → (∀ k, k < i → N 30 k = p k) → (∀ f, f < 64 → tb (J 26 10) f = onP i p f) → I 26 11 = -2 → I 26 12 = -1 →
    (∀ (N' : Nat → Nat → Nat) (I' : Nat → Nat → Int32) (J' : Nat → Nat → Int64), rvO D N' I' J' s ru c n sk S → fN N' N0 → fI I' I0 → fJ J' J0 → clC (D 3) N' I' J' (crs (D 2) (D 3) (dslG (D 3) c n sk S) (tb wl) m (i + 1) p) → Q none (hp D N' I' J' x)) →
    aWp ko d 256 (aP.1 (Int.toNat 16387)) [.ref 26, .long wl, aJk, .int (nI (p i)), .int (nI i), v5] [] (hp D N I J x) (aL Q) := by
  have hL0 := hA0.1
  have hF := ld_F hL0
  have hd2 := hL0.1.2.2.1
  have h4 := hL0.2.1
  intro m
  induction m with
  | zero =>
    intro i p N I J v5 hm h1 h2
    have := pig _ _ _ h1 h2
    omega
  | succ m ih =>
    intro i p N I J v5 hm h1 h2 hv fN0 fI0 fJ0 e9 e30 e10 e11 e12 hQ
    have hLF := pig _ _ _ h1 h2
    have hp1 := h1 i (by omega)
    have hA := rvA_f hs hu hA0 fN0 fI0 fJ0
    have hlr := (hA.1.2.2.2 (p i) (by omega)).2.1
    have e7 := (hA.1.2.2.1 (p i) hp1).2.1
    have hmod : p i % D 3 < D 3 := Nat.mod_lt _ (by omega)
    have hon : ∀ f, f < 64 → tb (J 26 10 ||| lN 1 <<< (lN (p i) &&& 63)) f = onP (i + 1) p f := by
      intro f hf
      rw [tb_or, e10 f hf, tb_p2 (by omega) hf]
      apply Bool.eq_iff_iff.mpr
      rw [Bool.or_eq_true, onP_iff, onP_iff, decide_eq_true_eq]
      constructor
      · rintro (⟨k, hk, he⟩ | he)
        · exact ⟨k, by omega, he⟩
        · exact ⟨i, by omega, he.symm⟩
      · rintro ⟨k, hk, he⟩
        by_cases q : k = i
        · subst q; exact Or.inr he.symm
        · exact Or.inl ⟨k, by omega, he⟩
    have e30' : ∀ k, k < i + 1 → upn (N 30) i (p i) k = p k := by
      intro k hk
      unfold upn
      split
      · rename_i q; rw [q]
      · exact e30 k (by omega)
    rw [al_16387]
    by_cases hlast : D 2 * D 3 - D 3 ≤ p i
    · have hlt : tb (J 5 4) (p i) = true := by rw [hlr]; simp [hlast, hp1]
      simp (disch := (first | omega | exact aCat_8 (by with_unfolding_all rfl) | exact rk_lt (by with_unfolding_all rfl) | exact aCat_16 (by with_unfolding_all rfl) | exact rk_eq (by with_unfolding_all rfl) | assumption | exact b2n_lt _ | exact id_b (by with_unfolding_all rfl) | (simp (disch := omega) only [u2_same, u2_ab, u2_aq]; done) | (simp (disch := omega) only [u2_same, u2_ab, u2_aq]; omega) | fail)) only [al_16384, wp_aloadr_0, wp_aloadk_0, wk_0, hp_26_9, wl_0, hp_26_10, wk_m2, hp_26_11, wk_m1, hp_26_12, wp_lload_1, hg_26_2, hg_20_3, hg_22_3, hg_24_3, wc_161, t_161, wk_1, wn_ne_t, wn_ne_f, wp_goto, al_16385, wp_jsr, al_16386, wp_istore_3, wp_istore_4, wp_iload_4, hg_26_0, hg_5_2, wn_ge_t, wn_ge_f, wp_iload_3, wn_eq_t, wn_eq_f, hg_26_8, ha_30l, ha_30s, wp_iadd, wp_dupi, wp_dupr, hg_26_10, wl_1, wp_lshl, wp_lor, hg_5_4, hg_5_8, ha_7l, ha_7s, wp_return, al_16388, wc_257, wp_istore_5, wp_iload_5, al_16389, al_16390, wp_iinc_4_1, al_16391, nl_i, nl_r, nl_k, nl_j, nl_l, nI_add, pk_mul, pk_sub, tl_s, tl_n, aL_inl, u2_same, u2_ab, u2_aq, nI_l, lN_i, Nat.add_zero, Nat.zero_add, Nat.zero_le, true_and, and_true, b2n_10, b2n_T, b2n_F, b2n_0, Decidable.not_not, not_true_eq_false, not_false_eq_true, Nat.reduceAdd, Nat.reduceMul, b2n_t hlt, e7, qe_n1, qe_m1, qn_n1, qn_m1, qe_n2, qe_m2, qn_n2, qn_m2]
      refine hQ _ _ _ ?_ ?_ ?_ ?_ ?_
      · refine ⟨?_, ?_, ?_, ?_⟩
        · rw [u2_aq (by decide), u2_ab (by decide)]; exact hv.1
        · rw [u2_aq (by decide), u2_ab (by decide)]; exact hv.2.1
        · rw [u2_aq (by decide), u2_ab (by decide)]; exact hv.2.2.1
        · intro f b hf hb hq
          rw [u2_ab (by decide)] at hq
          rw [u2_ab (by decide)]
          exact hv.2.2.2 f b hf hb hq
      · intro b q hb1 hb2
        rw [u2_rd, if_neg hb2, u2_ab hb1]
        exact fN0 b q hb1 hb2
      · intro b q hb1 hb2 hb3 hb4 hb5
        rw [u2_rd, if_neg (by omega)]
        exact fI0 b q hb1 hb2 hb3 hb4 hb5
      · intro b q hb1 hb2
        rw [u2_rd, if_neg hb2]
        exact fJ0 b q hb1 hb2
      · rw [crs, if_pos (by simpa using hlast)]
        refine ⟨?_, ?_, ?_, ?_, ?_⟩
        · rw [u2_same]
        · intro k hk
          rw [u2_ab (by decide), u2_rd]
          by_cases q : k = i
          · simp [q]
          · simp only [q, and_false, if_false]
            have hk' : k < i + 1 := hk
            exact e30 k (by omega)
        · intro f hf
          rw [u2_same]
          exact hon f hf
        · rw [u2_same]
          simp [mth]
        · rw [u2_aq (by decide)]
          simp [e12]
    · have hlt : ¬ tb (J 5 4) (p i) = true := by rw [hlr]; simp [hlast]
      have hv1 : rvO D (u2 (u2 N 30 i (p i)) 26 9 (i + 1)) I (u2 J 26 10 (J 26 10 ||| lN 1 <<< (lN (p i) &&& 63))) s ru c n sk S := by
        refine ⟨?_, ?_, ?_, ?_⟩
        · rw [u2_aq (by decide), u2_ab (by decide)]; exact hv.1
        · rw [u2_aq (by decide), u2_ab (by decide)]; exact hv.2.1
        · rw [u2_aq (by decide), u2_ab (by decide)]; exact hv.2.2.1
        · intro f b hf hb hq
          rw [u2_ab (by decide)] at hq
          exact hv.2.2.2 f b hf hb hq
      have gN : fN (u2 (u2 N 30 i (p i)) 26 9 (i + 1)) N0 := by
        intro b q hb1 hb2
        rw [u2_rd, if_neg hb2, u2_ab hb1]
        exact fN0 b q hb1 hb2
      have gJ : fJ (u2 J 26 10 (J 26 10 ||| lN 1 <<< (lN (p i) &&& 63))) J0 := by
        intro b q hb1 hb2
        rw [u2_rd, if_neg hb2]
        exact fJ0 b q hb1 hb2
      simp (disch := (first | omega | exact aCat_8 (by with_unfolding_all rfl) | exact rk_lt (by with_unfolding_all rfl) | exact aCat_16 (by with_unfolding_all rfl) | exact rk_eq (by with_unfolding_all rfl) | assumption | exact b2n_lt _ | exact id_b (by with_unfolding_all rfl) | (simp (disch := omega) only [u2_same, u2_ab, u2_aq]; done) | (simp (disch := omega) only [u2_same, u2_ab, u2_aq]; omega) | fail)) only [al_16384, wp_aloadr_0, wp_aloadk_0, wk_0, hp_26_9, wl_0, hp_26_10, wk_m2, hp_26_11, wk_m1, hp_26_12, wp_lload_1, hg_26_2, hg_20_3, hg_22_3, hg_24_3, wc_161, t_161, wk_1, wn_ne_t, wn_ne_f, wp_goto, al_16385, wp_jsr, al_16386, wp_istore_3, wp_istore_4, wp_iload_4, hg_26_0, hg_5_2, wn_ge_t, wn_ge_f, wp_iload_3, wn_eq_t, wn_eq_f, hg_26_8, ha_30l, ha_30s, wp_iadd, wp_dupi, wp_dupr, hg_26_10, wl_1, wp_lshl, wp_lor, hg_5_4, hg_5_8, ha_7l, ha_7s, wp_return, al_16388, wc_257, wp_istore_5, wp_iload_5, al_16389, al_16390, wp_iinc_4_1, al_16391, nl_i, nl_r, nl_k, nl_j, nl_l, nI_add, pk_mul, pk_sub, tl_s, tl_n, aL_inl, u2_same, u2_ab, u2_aq, nI_l, lN_i, Nat.add_zero, Nat.zero_add, Nat.zero_le, true_and, and_true, b2n_10, b2n_T, b2n_F, b2n_0, Decidable.not_not, not_true_eq_false, not_false_eq_true, Nat.reduceAdd, Nat.reduceMul, b2n_f hlt, qe_n1, qe_m1, qn_n1, qn_m1, qe_n2, qe_m2, qn_n2, qn_m2]
      refine t_257 (sk := sk) hs hu hp1 (rvA_f hs hu hA0 gN fI0 gJ) hv1 ?_
      intro I1 J1 hv2 hI1 hJ1
      have e10' : ∀ f, f < 64 → tb (J1 26 10) f = onP (i + 1) p f := by
        intro f hf
        rw [hJ1 26 10 (by decide), u2_same]
        exact hon f hf
      have e30n : ∀ k, k < i + 1 → u2 (u2 N 30 i (p i)) 26 9 (i + 1) 30 k = p k := by
        intro k hk
        rw [u2_ab (by decide), u2_rd]
        by_cases q : k = i
        · simp [q]
        · simp only [q, and_false, if_false]
          exact e30 k (by omega)
      have hb1 : bst (D 2) (D 3) (dslG (D 3) c n sk S) (tb (wl ||| (J 26 10 ||| lN 1 <<< (lN (p i) &&& 63)))) (p i) 3 = bst (D 2) (D 3) (dslG (D 3) c n sk S) (fun g => tb wl g || onP (i + 1) p g) (p (i + 1 - 1)) 3 := by
        rw [Nat.add_sub_cancel]
        refine bst_congr (by omega) hp1 ?_ (fun _ _ _ _ => rfl) 3
        intro g hg
        rw [tb_or, hon g (by omega)]
      rw [hb1]
      have h11 : I1 26 11 = -2 := (hI1 26 11 rfl).trans e11
      have gI : ∀ v : Int32, fI (u2 I1 26 12 v) I0 := by
        intro v b q hb1 hb2 hb3 hb4 hb5
        rw [u2_rd, if_neg (by omega), hI1 b q (by simp [frI, hb1, hb2, hb3, hb4])]
        exact fI0 b q hb1 hb2 hb3 hb4 hb5
      have gJ1 : fJ J1 J0 := fun b q z1 z2 => (hJ1 b q z1).trans (gJ b q z1 z2)
      have hv3 : ∀ v : Int32, rvO D (u2 (u2 N 30 i (p i)) 26 9 (i + 1)) (u2 I1 26 12 v) J1 s ru c n sk S := by
        intro v
        refine ⟨hv2.1, hv2.2.1, hv2.2.2.1, ?_⟩
        intro f b hf hb hq
        rw [u2_ab (by decide)]
        exact hv2.2.2.2 f b hf hb hq
      rw [crs, if_neg (by simpa using hlast)] at hQ
      cases hb : bst (D 2) (D 3) (dslG (D 3) c n sk S) (fun g => tb wl g || onP (i + 1) p g) (p (i + 1 - 1)) 3 with
      | none =>
        rw [hb] at hQ
        simp only [bB]
        have hend : Q none (hp D (u2 (u2 N 30 i (p i)) 26 9 (i + 1)) (u2 I1 26 12 (nI (p i))) J1 x) := by
          refine hQ _ _ _ (hv3 _) gN (gI _) gJ1 ⟨?_, e30n, e10', ?_, ?_⟩
          · rw [u2_same]
          · rw [u2_aq (by decide), h11]
            simp [mth]
          · rw [u2_same]
            simp
        by_cases hi : i + 1 < D 2 * D 3
        · simp (disch := (first | omega | exact aCat_8 (by with_unfolding_all rfl) | exact rk_lt (by with_unfolding_all rfl) | exact aCat_16 (by with_unfolding_all rfl) | exact rk_eq (by with_unfolding_all rfl) | assumption | exact b2n_lt _ | exact id_b (by with_unfolding_all rfl) | (simp (disch := omega) only [u2_same, u2_ab, u2_aq]; done) | (simp (disch := omega) only [u2_same, u2_ab, u2_aq]; omega) | fail)) only [al_16384, wp_aloadr_0, wp_aloadk_0, wk_0, hp_26_9, wl_0, hp_26_10, wk_m2, hp_26_11, wk_m1, hp_26_12, wp_lload_1, hg_26_2, hg_20_3, hg_22_3, hg_24_3, wc_161, t_161, wk_1, wn_ne_t, wn_ne_f, wp_goto, al_16385, wp_jsr, al_16386, wp_istore_3, wp_istore_4, al_16387, wp_iload_4, hg_26_0, hg_5_2, wn_ge_t, wn_ge_f, wp_iload_3, wn_eq_t, wn_eq_f, hg_26_8, ha_30l, ha_30s, wp_iadd, wp_dupi, wp_dupr, hg_26_10, wl_1, wp_lshl, wp_lor, hg_5_4, hg_5_8, ha_7l, ha_7s, wp_return, al_16388, wc_257, wp_istore_5, wp_iload_5, al_16389, al_16390, wp_iinc_4_1, al_16391, nl_i, nl_r, nl_k, nl_j, nl_l, nI_add, pk_mul, pk_sub, tl_s, tl_n, aL_inl, u2_same, u2_ab, u2_aq, nI_l, lN_i, Nat.add_zero, Nat.zero_add, Nat.zero_le, true_and, and_true, b2n_10, b2n_T, b2n_F, b2n_0, Decidable.not_not, not_true_eq_false, not_false_eq_true, Nat.reduceAdd, Nat.reduceMul, qe_n1, qe_m1, qn_n1, qn_m1, qe_n2, qe_m2, qn_n2, qn_m2]
          exact hend
        · simp (disch := (first | omega | exact aCat_8 (by with_unfolding_all rfl) | exact rk_lt (by with_unfolding_all rfl) | exact aCat_16 (by with_unfolding_all rfl) | exact rk_eq (by with_unfolding_all rfl) | assumption | exact b2n_lt _ | exact id_b (by with_unfolding_all rfl) | (simp (disch := omega) only [u2_same, u2_ab, u2_aq]; done) | (simp (disch := omega) only [u2_same, u2_ab, u2_aq]; omega) | fail)) only [al_16384, wp_aloadr_0, wp_aloadk_0, wk_0, hp_26_9, wl_0, hp_26_10, wk_m2, hp_26_11, wk_m1, hp_26_12, wp_lload_1, hg_26_2, hg_20_3, hg_22_3, hg_24_3, wc_161, t_161, wk_1, wn_ne_t, wn_ne_f, wp_goto, al_16385, wp_jsr, al_16386, wp_istore_3, wp_istore_4, al_16387, wp_iload_4, hg_26_0, hg_5_2, wn_ge_t, wn_ge_f, wp_iload_3, wn_eq_t, wn_eq_f, hg_26_8, ha_30l, ha_30s, wp_iadd, wp_dupi, wp_dupr, hg_26_10, wl_1, wp_lshl, wp_lor, hg_5_4, hg_5_8, ha_7l, ha_7s, wp_return, al_16388, wc_257, wp_istore_5, wp_iload_5, al_16389, al_16390, wp_iinc_4_1, al_16391, nl_i, nl_r, nl_k, nl_j, nl_l, nI_add, pk_mul, pk_sub, tl_s, tl_n, aL_inl, u2_same, u2_ab, u2_aq, nI_l, lN_i, Nat.add_zero, Nat.zero_add, Nat.zero_le, true_and, and_true, b2n_10, b2n_T, b2n_F, b2n_0, Decidable.not_not, not_true_eq_false, not_false_eq_true, Nat.reduceAdd, Nat.reduceMul, qe_n1, qe_m1, qn_n1, qn_m1, qe_n2, qe_m2, qn_n2, qn_m2]
          exact hend
      | some bl =>
        obtain ⟨g, l⟩ := bl
        rw [hb] at hQ
        obtain ⟨⟨v, hv1', hv2'⟩, hv3'⟩ := bst_some hb
        rw [Nat.add_sub_cancel] at hv2'
        have hg : g < D 2 * D 3 := bsd_lt (by omega) hp1 hv2'
        have hno : ¬ onP (i + 1) p g = true := by
          simp at hv3'
          simp [hv3'.2]
        simp only [bB]
        simp (disch := (first | omega | exact aCat_8 (by with_unfolding_all rfl) | exact rk_lt (by with_unfolding_all rfl) | exact aCat_16 (by with_unfolding_all rfl) | exact rk_eq (by with_unfolding_all rfl) | assumption | exact b2n_lt _ | exact id_b (by with_unfolding_all rfl) | (simp (disch := omega) only [u2_same, u2_ab, u2_aq]; done) | (simp (disch := omega) only [u2_same, u2_ab, u2_aq]; omega) | fail)) only [al_16384, wp_aloadr_0, wp_aloadk_0, wk_0, hp_26_9, wl_0, hp_26_10, wk_m2, hp_26_11, wk_m1, hp_26_12, wp_lload_1, hg_26_2, hg_20_3, hg_22_3, hg_24_3, wc_161, t_161, wk_1, wn_ne_t, wn_ne_f, wp_goto, al_16385, wp_jsr, al_16386, wp_istore_3, wp_istore_4, wp_iload_4, hg_26_0, hg_5_2, wn_ge_t, wn_ge_f, wp_iload_3, wn_eq_t, wn_eq_f, hg_26_8, ha_30l, ha_30s, wp_iadd, wp_dupi, wp_dupr, hg_26_10, wl_1, wp_lshl, wp_lor, hg_5_4, hg_5_8, ha_7l, ha_7s, wp_return, al_16388, wc_257, wp_istore_5, wp_iload_5, al_16389, al_16390, wp_iinc_4_1, al_16391, nl_i, nl_r, nl_k, nl_j, nl_l, nI_add, pk_mul, pk_sub, tl_s, tl_n, aL_inl, u2_same, u2_ab, u2_aq, nI_l, lN_i, Nat.add_zero, Nat.zero_add, Nat.zero_le, true_and, and_true, b2n_10, b2n_T, b2n_F, b2n_0, Decidable.not_not, not_true_eq_false, not_false_eq_true, Nat.reduceAdd, Nat.reduceMul, qe_n1, qe_m1, qn_n1, qn_m1, qe_n2, qe_m2, qn_n2, qn_m2]
        have k1 : ∀ k, k < i + 1 + 1 → upn p (i + 1) g k < D 2 * D 3 := by
          intro k hk
          unfold upn
          split
          · exact hg
          · exact h1 k (by omega)
        have k2 : ∀ a b, a < b → b < i + 1 + 1 → upn p (i + 1) g a ≠ upn p (i + 1) g b := by
          intro a b hab hb
          by_cases q : b = i + 1
          · subst q
            have z1 : upn p (i + 1) g (i + 1) = g := by simp [upn]
            have z2 : upn p (i + 1) g a = p a := by rw [upn, if_neg (by omega)]
            rw [z1, z2]
            intro e
            exact hno (onP_iff.mpr ⟨a, hab, e⟩)
          · have z1 : upn p (i + 1) g b = p b := by rw [upn, if_neg q]
            have z2 : upn p (i + 1) g a = p a := by rw [upn, if_neg (by omega)]
            rw [z1, z2]
            exact h2 a b hab (by omega)
        have hne : ∀ k, k < i + 1 → upn p (i + 1) g k = p k := fun k hk => by rw [upn, if_neg (by omega)]
        have := ih (i + 1) (upn p (i + 1) g) (u2 (u2 N 30 i (p i)) 26 9 (i + 1)) (u2 I1 26 12 (-1)) J1 (.int (nI g)) (by omega) k1 k2 (hv3 _) gN (gI _) gJ1 (by rw [u2_same]) (fun k hk => by rw [e30n k hk, hne k hk]) ?_ (by rw [u2_aq (by decide), h11]) (by rw [u2_same]) hQ
        · rw [show upn p (i + 1) g (i + 1) = g by simp [upn]] at this
          exact this
        · intro f hf
          rw [e10' f hf]
          apply Bool.eq_iff_iff.mpr
          rw [onP_iff, onP_iff]
          constructor
          · rintro ⟨k, hk, he⟩
            exact ⟨k, hk, by rw [hne k hk]; exact he⟩
          · rintro ⟨k, hk, he⟩
            exact ⟨k, hk, by rw [hne k hk] at he; exact he⟩
end K5
