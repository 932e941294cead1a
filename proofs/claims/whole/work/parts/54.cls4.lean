/-! The class: liked, trace, look, flow. From wip/whole/src. -/
theorem nI_nm1 {a : Nat} (h : a < 2147483648) : ¬ nI a = -1 := by
  intro e
  have := congrArg Int32.toInt e
  rw [nI_toInt h] at this
  have h2 : (-1 : Int32).toInt = -1 := rfl
  omega
theorem nI_nm2 {a : Nat} (h : a < 2147483648) : ¬ nI a = -2 := by
  intro e
  have := congrArg Int32.toInt e
  rw [nI_toInt h] at this
  have h2 : (-2 : Int32).toInt = -2 := rfl
  omega
section K4
variable {ko : aKo} {d k : Nat} {is : List Instr} {ls st : List Value} {σ : aH} {D : Nat → Nat} {N : Nat → Nat → Nat} {I : Nat → Nat → Int32} {J : Nat → Nat → Int64} {x : Nat} {Q : Option Value → aH → Prop} {P : (Option Value ⊕ Unit) → aH → Prop} {L : Int}
theorem qe_n1 {a : Nat} (h : a < 2147483648) : aWp ko d k (.if_icmp .eq L :: is) ls (.int (-1) :: .int (nI a) :: st) σ P = aWp ko d k is ls st σ P := wx_eq_f (nI_nm1 h)
theorem qe_m1 : aWp ko d k (.if_icmp .eq L :: is) ls (.int (-1) :: .int (-1) :: st) σ P = aWp ko d k (aP.1 L.toNat) ls st σ P := wx_eq_t rfl
theorem qn_n1 {a : Nat} (h : a < 2147483648) : aWp ko d k (.if_icmp .ne L :: is) ls (.int (-1) :: .int (nI a) :: st) σ P = aWp ko d k (aP.1 L.toNat) ls st σ P := wx_ne_t (nI_nm1 h)
theorem qn_m1 : aWp ko d k (.if_icmp .ne L :: is) ls (.int (-1) :: .int (-1) :: st) σ P = aWp ko d k is ls st σ P := wx_ne_f (fun q => q rfl)
theorem qe_n2 {a : Nat} (h : a < 2147483648) : aWp ko d k (.if_icmp .eq L :: is) ls (.int (-2) :: .int (nI a) :: st) σ P = aWp ko d k is ls st σ P := wx_eq_f (nI_nm2 h)
theorem qe_m2 : aWp ko d k (.if_icmp .eq L :: is) ls (.int (-2) :: .int (-2) :: st) σ P = aWp ko d k (aP.1 L.toNat) ls st σ P := wx_eq_t rfl
theorem qn_n2 {a : Nat} (h : a < 2147483648) : aWp ko d k (.if_icmp .ne L :: is) ls (.int (-2) :: .int (nI a) :: st) σ P = aWp ko d k (aP.1 L.toNat) ls st σ P := wx_ne_t (nI_nm2 h)
theorem qn_m2 : aWp ko d k (.if_icmp .ne L :: is) ls (.int (-2) :: .int (-2) :: st) σ P = aWp ko d k is ls st σ P := wx_ne_f (fun q => q rfl)
/-- all that the river's courses rest on -/
def rvA (D : Nat → Nat) (N : Nat → Nat → Nat) (I : Nat → Nat → Int32) (J : Nat → Nat → Int64) (s ru : Nat) (c : Nat → Nat) (n : Nat) (S : Nat → Nat) : Prop := ldO D N I J ∧ clS N J s S ∧ rwO (D 3) S ∧ ruO N I ru c n ∧ okc c n
theorem rvA_fr {s ru n : Nat} {c S : Nat → Nat} {I' : Nat → Nat → Int32} {J' : Nat → Nat → Int64} (hs : stB s = true) (hu : ruB ru = true) (h : rvA D N I J s ru c n S) (hI : ∀ b q, frI b q = false → I' b q = I b q) (hJ : ∀ b q, b ≠ 29 → J' b q = J b q) : rvA D N I' J' s ru c n S := by
  obtain ⟨h1, h2, h3, h4, h5⟩ := h
  have hru := ru_or hu
  have hso := st_or hs
  refine ⟨⟨h1.1, h1.2.1, ?_, ?_⟩, ⟨h2.1, ?_, h2.2.2⟩, h3, ⟨h4.1, ?_⟩, h5⟩
  · intro i hi
    obtain ⟨a1, a2, a3⟩ := h1.2.2.1 i hi
    exact ⟨a1, a2, fun w hw => (hI 8 _ rfl).trans (a3 w hw)⟩
  · intro i hi
    rw [hJ 5 3 (by decide), hJ 5 4 (by decide), hJ 5 5 (by decide), hJ 5 6 (by decide)]
    exact h1.2.2.2 i hi
  · intro f hf
    rw [hJ s 1 (by omega), hJ s 2 (by omega)]
    exact h2.2.1 f hf
  · intro k hk
    rw [hI (ru + 1) k (by rcases hru with rfl | rfl <;> rfl)]
    exact h4.2 k hk
theorem l_257 {I0 : Nat → Nat → Int32} {J0 : Nat → Nat → Int64} {s ru n f : Nat} {c sk S : Nat → Nat} {shut : Int64} (hs : stB s = true) (hu : ruB ru = true) (hf : f < D 2 * D 3)
    (hQ : ∀ (I' : Nat → Nat → Int32) (J' : Nat → Nat → Int64), rvO D N I' J' s ru c n sk S → (∀ b q, frI b q = false → I' b q = I0 b q) → (∀ b q, b ≠ 29 → J' b q = J0 b q) → Q (some (.int (bB (bst (D 2) (D 3) (dslG (D 3) c n sk S) (tb shut) f 3)))) (hp D N I' J' x)) :
    ∀ (j w : Nat) (I : Nat → Nat → Int32) (J : Nat → Nat → Int64) (v7 v8 : Value), w + j = 3 → rvA D N I J s ru c n S → rvO D N I J s ru c n sk S → (∀ b q, frI b q = false → I b q = I0 b q) → (∀ b q, b ≠ 29 → J b q = J0 b q) → aWp ko d 257 (aP.1 (Int.toNat 16449)) [.ref 26, .int (nI f), .long shut, aJk, .int (bB (bst (D 2) (D 3) (dslG (D 3) c n sk S) (tb shut) f w)), .int (bL (bst (D 2) (D 3) (dslG (D 3) c n sk S) (tb shut) f w)), .int (nI w), v7, v8] [] (hp D N I J x) (aL Q) := by
  intro j
  induction j with
  | zero =>
    intro w I J v7 v8 hj hA hv hI hJ
    have e : w = 3 := by omega
    subst e
    rw [al_16449]
    simp (disch := (first | omega | exact aCat_8 (by with_unfolding_all rfl) | exact rk_lt (by with_unfolding_all rfl) | exact aCat_16 (by with_unfolding_all rfl) | exact rk_eq (by with_unfolding_all rfl) | assumption | exact b2n_lt _ | exact id_b (by with_unfolding_all rfl) | (simp (disch := omega) only [u2_same, u2_ab, u2_aq]; done) | (simp (disch := omega) only [u2_same, u2_ab, u2_aq]; omega) | fail)) only [al_16448, wk_m1, wp_istore_4, wk_0, wp_istore_5, wp_istore_6, wp_jsr, wp_iload_6, wk_3, wn_ge_t, wn_ge_f, wp_aloadr_0, wp_aloadk_0, hg_26_0, wp_iload_1, wc_241, wp_istore_7, wp_iload_7, wn_eq_t, wn_eq_f, wp_lload_2, wc_161, t_161, wk_1, wn_ne_t, wn_ne_f, wp_goto, al_16450, wz_ne_t, wz_ne_f, wb_ne_t, wb_ne_f, wm_ne_1, wm_ne_2, al_16451, al_16452, wc_258, wp_istore_8, wp_iload_4, wp_iload_8, wp_iload_5, al_16453, al_16454, wp_iinc_6_1, al_16455, wp_ireturn, nl_i, nl_r, nl_k, nl_j, nl_l, nI_add, pk_mul, pk_sub, tl_s, tl_n, aL_inl, u2_same, u2_ab, u2_aq, nI_l, lN_i, Nat.add_zero, Nat.zero_add, Nat.zero_le, true_and, and_true, b2n_10, b2n_T, b2n_F, b2n_0, Decidable.not_not, not_true_eq_false, not_false_eq_true, Nat.reduceAdd, Nat.reduceMul]
    exact hQ I J hv hI hJ
  | succ j ih =>
    intro w I J v7 v8 hj hA hv hI hJ
    have hL := hA.1
    have hF := ld_F hL
    have hd2 := hL.1.2.2.1
    rw [al_16449]
    have hgo : ∀ (I' : Nat → Nat → Int32) (J' : Nat → Nat → Int64) (v7 v8 : Value) (o : Option (Nat × Int32)), bst (D 2) (D 3) (dslG (D 3) c n sk S) (tb shut) f (w + 1) = o → rvA D N I' J' s ru c n S → rvO D N I' J' s ru c n sk S → (∀ b q, frI b q = false → I' b q = I0 b q) → (∀ b q, b ≠ 29 → J' b q = J0 b q) → aWp ko d 257 (aP.1 (Int.toNat 16454)) [.ref 26, .int (nI f), .long shut, aJk, .int (bB o), .int (bL o), .int (nI w), v7, v8] [] (hp D N I' J' x) (aL Q) := by
      intro I' J' v7 v8 o ho hA' hv' hI' hJ'
      subst ho
      rw [al_16454]
      simp (disch := (first | omega | exact aCat_8 (by with_unfolding_all rfl) | exact rk_lt (by with_unfolding_all rfl) | exact aCat_16 (by with_unfolding_all rfl) | exact rk_eq (by with_unfolding_all rfl) | assumption | exact b2n_lt _ | exact id_b (by with_unfolding_all rfl) | (simp (disch := omega) only [u2_same, u2_ab, u2_aq]; done) | (simp (disch := omega) only [u2_same, u2_ab, u2_aq]; omega) | fail)) only [al_16448, wk_m1, wp_istore_4, wk_0, wp_istore_5, wp_istore_6, wp_jsr, wp_iload_6, wk_3, wn_ge_t, wn_ge_f, wp_aloadr_0, wp_aloadk_0, hg_26_0, wp_iload_1, wc_241, wp_istore_7, wp_iload_7, wn_eq_t, wn_eq_f, wp_lload_2, wc_161, t_161, wk_1, wn_ne_t, wn_ne_f, wp_goto, al_16450, wz_ne_t, wz_ne_f, wb_ne_t, wb_ne_f, wm_ne_1, wm_ne_2, al_16451, al_16452, wc_258, wp_istore_8, wp_iload_4, wp_iload_8, wp_iload_5, al_16453, al_16454, wp_iinc_6_1, al_16455, wp_ireturn, nl_i, nl_r, nl_k, nl_j, nl_l, nI_add, pk_mul, pk_sub, tl_s, tl_n, aL_inl, u2_same, u2_ab, u2_aq, nI_l, lN_i, Nat.add_zero, Nat.zero_add, Nat.zero_le, true_and, and_true, b2n_10, b2n_T, b2n_F, b2n_0, Decidable.not_not, not_true_eq_false, not_false_eq_true, Nat.reduceAdd, Nat.reduceMul]
      exact ih (w + 1) I' J' v7 v8 (by omega) hA' hv' hI' hJ'
    cases hb : bsd (D 2) (D 3) f w with
    | none =>
      simp (disch := (first | omega | exact aCat_8 (by with_unfolding_all rfl) | exact rk_lt (by with_unfolding_all rfl) | exact aCat_16 (by with_unfolding_all rfl) | exact rk_eq (by with_unfolding_all rfl) | assumption | exact b2n_lt _ | exact id_b (by with_unfolding_all rfl) | (simp (disch := omega) only [u2_same, u2_ab, u2_aq]; done) | (simp (disch := omega) only [u2_same, u2_ab, u2_aq]; omega) | fail)) only [al_16448, wk_m1, wp_istore_4, wk_0, wp_istore_5, wp_istore_6, wp_jsr, wp_iload_6, wk_3, wn_ge_t, wn_ge_f, wp_aloadr_0, wp_aloadk_0, hg_26_0, wp_iload_1, wc_241, wp_istore_7, wp_iload_7, wn_eq_t, wn_eq_f, wp_lload_2, wc_161, t_161, wk_1, wn_ne_t, wn_ne_f, wp_goto, al_16450, wz_ne_t, wz_ne_f, wb_ne_t, wb_ne_f, wm_ne_1, wm_ne_2, al_16451, al_16452, wc_258, wp_istore_8, wp_iload_4, wp_iload_8, wp_iload_5, al_16453, wp_iinc_6_1, al_16455, wp_ireturn, nl_i, nl_r, nl_k, nl_j, nl_l, nI_add, pk_mul, pk_sub, tl_s, tl_n, aL_inl, u2_same, u2_ab, u2_aq, nI_l, lN_i, Nat.add_zero, Nat.zero_add, Nat.zero_le, true_and, and_true, b2n_10, b2n_T, b2n_F, b2n_0, Decidable.not_not, not_true_eq_false, not_false_eq_true, Nat.reduceAdd, Nat.reduceMul, t_241 hL, hb, oI_n, qe_n1, qe_m1, qn_n1, qn_m1, qe_n2, qe_m2, qn_n2, qn_m2]
      exact hgo I J _ v8 _ (by simp only [bst, hb]) hA hv hI hJ
    | some g =>
      have hg : g < D 2 * D 3 := bsd_lt (by omega) hf hb
      by_cases h2 : tb shut g = true
      · simp (disch := (first | omega | exact aCat_8 (by with_unfolding_all rfl) | exact rk_lt (by with_unfolding_all rfl) | exact aCat_16 (by with_unfolding_all rfl) | exact rk_eq (by with_unfolding_all rfl) | assumption | exact b2n_lt _ | exact id_b (by with_unfolding_all rfl) | (simp (disch := omega) only [u2_same, u2_ab, u2_aq]; done) | (simp (disch := omega) only [u2_same, u2_ab, u2_aq]; omega) | fail)) only [al_16448, wk_m1, wp_istore_4, wk_0, wp_istore_5, wp_istore_6, wp_jsr, wp_iload_6, wk_3, wn_ge_t, wn_ge_f, wp_aloadr_0, wp_aloadk_0, hg_26_0, wp_iload_1, wc_241, wp_istore_7, wp_iload_7, wn_eq_t, wn_eq_f, wp_lload_2, wc_161, t_161, wk_1, wn_ne_t, wn_ne_f, wp_goto, al_16450, wz_ne_t, wz_ne_f, wb_ne_t, wb_ne_f, wm_ne_1, wm_ne_2, al_16451, al_16452, wc_258, wp_istore_8, wp_iload_4, wp_iload_8, wp_iload_5, al_16453, wp_iinc_6_1, al_16455, wp_ireturn, nl_i, nl_r, nl_k, nl_j, nl_l, nI_add, pk_mul, pk_sub, tl_s, tl_n, aL_inl, u2_same, u2_ab, u2_aq, nI_l, lN_i, Nat.add_zero, Nat.zero_add, Nat.zero_le, true_and, and_true, b2n_10, b2n_T, b2n_F, b2n_0, Decidable.not_not, not_true_eq_false, not_false_eq_true, Nat.reduceAdd, Nat.reduceMul, t_241 hL, hb, oI_s, qe_n1, qe_m1, qn_n1, qn_m1, qe_n2, qe_m2, qn_n2, qn_m2, b2n_t h2]
        exact hgo I J _ v8 _ (by simp only [bst, hb]; rw [if_pos h2]) hA hv hI hJ
      · have hmain : ∀ (bs : Nat) (v8 : Value), bs = b2n (0 < w) → aMm ko d 258 [.ref 26, .int (nI g), .int (nI bs)] (hp D N I J x) (fun v σ1 => aWp ko d 257 [.istore 8, .iload 4, .iconst (-1), .if_icmp .eq 16453, .iload 8, .iload 5, .if_icmp .ge 16454, .jsr 16453] [.ref 26, .int (nI f), .long shut, aJk, .int (bB (bst (D 2) (D 3) (dslG (D 3) c n sk S) (tb shut) f w)), .int (bL (bst (D 2) (D 3) (dslG (D 3) c n sk S) (tb shut) f w)), .int (nI w), .int (nI g), v8] (v.toList ++ []) σ1 (aL Q)) := by
          intro bs v8 hbs
          have hb2 := b2n_lt (0 < w)
          refine t_258 hs hu hL hA.2.1 hA.2.2.1 hA.2.2.2.1 hA.2.2.2.2 hv hg (by omega) ?_
          intro I' J' hv' hI' hJ'
          have hA' := rvA_fr hs hu hA hI' hJ'
          have hI2 : ∀ b q, frI b q = false → I' b q = I0 b q := fun b q h => (hI' b q h).trans (hI b q h)
          have hJ2 : ∀ b q, b ≠ 29 → J' b q = J0 b q := fun b q h => (hJ' b q h).trans (hJ b q h)
          rw [hbs]
          cases hq : bst (D 2) (D 3) (dslG (D 3) c n sk S) (tb shut) f w with
          | none =>
            simp only [bB, bL]
            simp (disch := (first | omega | exact aCat_8 (by with_unfolding_all rfl) | exact rk_lt (by with_unfolding_all rfl) | exact aCat_16 (by with_unfolding_all rfl) | exact rk_eq (by with_unfolding_all rfl) | assumption | exact b2n_lt _ | exact id_b (by with_unfolding_all rfl) | (simp (disch := omega) only [u2_same, u2_ab, u2_aq]; done) | (simp (disch := omega) only [u2_same, u2_ab, u2_aq]; omega) | fail)) only [al_16448, wk_m1, wp_istore_4, wk_0, wp_istore_5, wp_istore_6, wp_jsr, wp_iload_6, wk_3, wn_ge_t, wn_ge_f, wp_aloadr_0, wp_aloadk_0, hg_26_0, wp_iload_1, wc_241, wp_istore_7, wp_iload_7, wn_eq_t, wn_eq_f, wp_lload_2, wc_161, t_161, wk_1, wn_ne_t, wn_ne_f, wp_goto, al_16450, wz_ne_t, wz_ne_f, wb_ne_t, wb_ne_f, wm_ne_1, wm_ne_2, al_16451, al_16452, wc_258, wp_istore_8, wp_iload_4, wp_iload_8, wp_iload_5, al_16453, wp_iinc_6_1, al_16455, wp_ireturn, nl_i, nl_r, nl_k, nl_j, nl_l, nI_add, pk_mul, pk_sub, tl_s, tl_n, aL_inl, u2_same, u2_ab, u2_aq, nI_l, lN_i, Nat.add_zero, Nat.zero_add, Nat.zero_le, true_and, and_true, b2n_10, b2n_T, b2n_F, b2n_0, Decidable.not_not, not_true_eq_false, not_false_eq_true, Nat.reduceAdd, Nat.reduceMul, qe_n1, qe_m1, qn_n1, qn_m1, qe_n2, qe_m2, qn_n2, qn_m2]
            exact hgo I' J' _ _ (some (g, dslG (D 3) c n sk S g (b2n (0 < w)))) (by simp only [bst, hb]; rw [if_neg h2, hq]) hA' hv' hI2 hJ2
          | some bl =>
            obtain ⟨b, l⟩ := bl
            obtain ⟨⟨v, hv1, hv2⟩, hv3⟩ := bst_some hq
            have hbF : b < D 2 * D 3 := bsd_lt (by omega) hf hv2
            simp only [bB, bL]
            by_cases hc : dslG (D 3) c n sk S g (b2n (0 < w)) < l
            · have hc2 : ¬ l ≤ dslG (D 3) c n sk S g (b2n (0 < w)) := fun z => (Int32.not_lt.mpr z) hc
              simp (disch := (first | omega | exact aCat_8 (by with_unfolding_all rfl) | exact rk_lt (by with_unfolding_all rfl) | exact aCat_16 (by with_unfolding_all rfl) | exact rk_eq (by with_unfolding_all rfl) | assumption | exact b2n_lt _ | exact id_b (by with_unfolding_all rfl) | (simp (disch := omega) only [u2_same, u2_ab, u2_aq]; done) | (simp (disch := omega) only [u2_same, u2_ab, u2_aq]; omega) | fail)) only [al_16448, wk_m1, wp_istore_4, wk_0, wp_istore_5, wp_istore_6, wp_jsr, wp_iload_6, wk_3, wn_ge_t, wn_ge_f, wp_aloadr_0, wp_aloadk_0, hg_26_0, wp_iload_1, wc_241, wp_istore_7, wp_iload_7, wn_eq_t, wn_eq_f, wp_lload_2, wc_161, t_161, wk_1, wn_ne_t, wn_ne_f, wp_goto, al_16450, wz_ne_t, wz_ne_f, wb_ne_t, wb_ne_f, wm_ne_1, wm_ne_2, al_16451, al_16452, wc_258, wp_istore_8, wp_iload_4, wp_iload_8, wp_iload_5, al_16453, wp_iinc_6_1, al_16455, wp_ireturn, nl_i, nl_r, nl_k, nl_j, nl_l, nI_add, pk_mul, pk_sub, tl_s, tl_n, aL_inl, u2_same, u2_ab, u2_aq, nI_l, lN_i, Nat.add_zero, Nat.zero_add, Nat.zero_le, true_and, and_true, b2n_10, b2n_T, b2n_F, b2n_0, Decidable.not_not, not_true_eq_false, not_false_eq_true, Nat.reduceAdd, Nat.reduceMul, qe_n1, qe_m1, qn_n1, qn_m1, qe_n2, qe_m2, qn_n2, qn_m2, wx_ge_f hc2]
              exact hgo I' J' _ _ (some (g, dslG (D 3) c n sk S g (b2n (0 < w)))) (by simp only [bst, hb]; rw [if_neg h2, hq]; simp only [if_pos hc]) hA' hv' hI2 hJ2
            · have hc2 : l ≤ dslG (D 3) c n sk S g (b2n (0 < w)) := Int32.not_lt.mp hc
              simp (disch := (first | omega | exact aCat_8 (by with_unfolding_all rfl) | exact rk_lt (by with_unfolding_all rfl) | exact aCat_16 (by with_unfolding_all rfl) | exact rk_eq (by with_unfolding_all rfl) | assumption | exact b2n_lt _ | exact id_b (by with_unfolding_all rfl) | (simp (disch := omega) only [u2_same, u2_ab, u2_aq]; done) | (simp (disch := omega) only [u2_same, u2_ab, u2_aq]; omega) | fail)) only [al_16448, wk_m1, wp_istore_4, wk_0, wp_istore_5, wp_istore_6, wp_jsr, wp_iload_6, wk_3, wn_ge_t, wn_ge_f, wp_aloadr_0, wp_aloadk_0, hg_26_0, wp_iload_1, wc_241, wp_istore_7, wp_iload_7, wn_eq_t, wn_eq_f, wp_lload_2, wc_161, t_161, wk_1, wn_ne_t, wn_ne_f, wp_goto, al_16450, wz_ne_t, wz_ne_f, wb_ne_t, wb_ne_f, wm_ne_1, wm_ne_2, al_16451, al_16452, wc_258, wp_istore_8, wp_iload_4, wp_iload_8, wp_iload_5, al_16453, wp_iinc_6_1, al_16455, wp_ireturn, nl_i, nl_r, nl_k, nl_j, nl_l, nI_add, pk_mul, pk_sub, tl_s, tl_n, aL_inl, u2_same, u2_ab, u2_aq, nI_l, lN_i, Nat.add_zero, Nat.zero_add, Nat.zero_le, true_and, and_true, b2n_10, b2n_T, b2n_F, b2n_0, Decidable.not_not, not_true_eq_false, not_false_eq_true, Nat.reduceAdd, Nat.reduceMul, qe_n1, qe_m1, qn_n1, qn_m1, qe_n2, qe_m2, qn_n2, qn_m2, wx_ge_t hc2]
              exact hgo I' J' _ _ (some (b, l)) (by simp only [bst, hb]; rw [if_neg h2, hq]; simp only [if_neg hc]) hA' hv' hI2 hJ2
        by_cases hw0 : w = 0
        · simp (disch := (first | omega | exact aCat_8 (by with_unfolding_all rfl) | exact rk_lt (by with_unfolding_all rfl) | exact aCat_16 (by with_unfolding_all rfl) | exact rk_eq (by with_unfolding_all rfl) | assumption | exact b2n_lt _ | exact id_b (by with_unfolding_all rfl) | (simp (disch := omega) only [u2_same, u2_ab, u2_aq]; done) | (simp (disch := omega) only [u2_same, u2_ab, u2_aq]; omega) | fail)) only [al_16448, wk_m1, wp_istore_4, wk_0, wp_istore_5, wp_istore_6, wp_jsr, wp_iload_6, wk_3, wn_ge_t, wn_ge_f, wp_aloadr_0, wp_aloadk_0, hg_26_0, wp_iload_1, wc_241, wp_istore_7, wp_iload_7, wn_eq_t, wn_eq_f, wp_lload_2, wc_161, t_161, wk_1, wn_ne_t, wn_ne_f, wp_goto, al_16450, wz_ne_t, wz_ne_f, wb_ne_t, wb_ne_f, wm_ne_1, wm_ne_2, al_16451, al_16452, wc_258, wp_istore_8, wp_iload_4, wp_iload_8, wp_iload_5, al_16453, wp_iinc_6_1, al_16455, wp_ireturn, nl_i, nl_r, nl_k, nl_j, nl_l, nI_add, pk_mul, pk_sub, tl_s, tl_n, aL_inl, u2_same, u2_ab, u2_aq, nI_l, lN_i, Nat.add_zero, Nat.zero_add, Nat.zero_le, true_and, and_true, b2n_10, b2n_T, b2n_F, b2n_0, Decidable.not_not, not_true_eq_false, not_false_eq_true, Nat.reduceAdd, Nat.reduceMul, t_241 hL, hb, oI_s, qe_n1, qe_m1, qn_n1, qn_m1, qe_n2, qe_m2, qn_n2, qn_m2, b2n_f h2]
          exact hmain 0 v8 (by rw [b2n_f (by omega)])
        · simp (disch := (first | omega | exact aCat_8 (by with_unfolding_all rfl) | exact rk_lt (by with_unfolding_all rfl) | exact aCat_16 (by with_unfolding_all rfl) | exact rk_eq (by with_unfolding_all rfl) | assumption | exact b2n_lt _ | exact id_b (by with_unfolding_all rfl) | (simp (disch := omega) only [u2_same, u2_ab, u2_aq]; done) | (simp (disch := omega) only [u2_same, u2_ab, u2_aq]; omega) | fail)) only [al_16448, wk_m1, wp_istore_4, wk_0, wp_istore_5, wp_istore_6, wp_jsr, wp_iload_6, wk_3, wn_ge_t, wn_ge_f, wp_aloadr_0, wp_aloadk_0, hg_26_0, wp_iload_1, wc_241, wp_istore_7, wp_iload_7, wn_eq_t, wn_eq_f, wp_lload_2, wc_161, t_161, wk_1, wn_ne_t, wn_ne_f, wp_goto, al_16450, wz_ne_t, wz_ne_f, wb_ne_t, wb_ne_f, wm_ne_1, wm_ne_2, al_16451, al_16452, wc_258, wp_istore_8, wp_iload_4, wp_iload_8, wp_iload_5, al_16453, wp_iinc_6_1, al_16455, wp_ireturn, nl_i, nl_r, nl_k, nl_j, nl_l, nI_add, pk_mul, pk_sub, tl_s, tl_n, aL_inl, u2_same, u2_ab, u2_aq, nI_l, lN_i, Nat.add_zero, Nat.zero_add, Nat.zero_le, true_and, and_true, b2n_10, b2n_T, b2n_F, b2n_0, Decidable.not_not, not_true_eq_false, not_false_eq_true, Nat.reduceAdd, Nat.reduceMul, t_241 hL, hb, oI_s, qe_n1, qe_m1, qn_n1, qn_m1, qe_n2, qe_m2, qn_n2, qn_m2, b2n_f h2]
          exact hmain 1 v8 (by rw [b2n_t (by omega)])
theorem t_257 {s ru n f : Nat} {c sk S : Nat → Nat} {shut : Int64} (hs : stB s = true) (hu : ruB ru = true) (hf : f < D 2 * D 3) (hA : rvA D N I J s ru c n S) (hv : rvO D N I J s ru c n sk S)
    (hQ : ∀ (I' : Nat → Nat → Int32) (J' : Nat → Nat → Int64), rvO D N I' J' s ru c n sk S → (∀ b q, frI b q = false → I' b q = I b q) → (∀ b q, b ≠ 29 → J' b q = J b q) → Q (some (.int (bB (bst (D 2) (D 3) (dslG (D 3) c n sk S) (tb shut) f 3)))) (hp D N I' J' x)) :
    aMm ko d 257 [.ref 26, .int (nI f), .long shut] (hp D N I J x) Q := by
  rw [me_257]
  simp (disch := (first | omega | exact aCat_8 (by with_unfolding_all rfl) | exact rk_lt (by with_unfolding_all rfl) | exact aCat_16 (by with_unfolding_all rfl) | exact rk_eq (by with_unfolding_all rfl) | assumption | exact b2n_lt _ | exact id_b (by with_unfolding_all rfl) | (simp (disch := omega) only [u2_same, u2_ab, u2_aq]; done) | (simp (disch := omega) only [u2_same, u2_ab, u2_aq]; omega) | fail)) only [al_16448, wk_m1, wp_istore_4, wk_0, wp_istore_5, wp_istore_6, wp_jsr, wp_iload_6, wk_3, wn_ge_t, wn_ge_f, wp_aloadr_0, wp_aloadk_0, hg_26_0, wp_iload_1, wc_241, wp_istore_7, wp_iload_7, wn_eq_t, wn_eq_f, wp_lload_2, wc_161, t_161, wk_1, wn_ne_t, wn_ne_f, wp_goto, al_16450, wz_ne_t, wz_ne_f, wb_ne_t, wb_ne_f, wm_ne_1, wm_ne_2, al_16451, al_16452, wc_258, wp_istore_8, wp_iload_4, wp_iload_8, wp_iload_5, al_16453, al_16454, wp_iinc_6_1, al_16455, wp_ireturn, nl_i, nl_r, nl_k, nl_j, nl_l, nI_add, pk_mul, pk_sub, tl_s, tl_n, aL_inl, u2_same, u2_ab, u2_aq, nI_l, lN_i, Nat.add_zero, Nat.zero_add, Nat.zero_le, true_and, and_true, b2n_10, b2n_T, b2n_F, b2n_0, Decidable.not_not, not_true_eq_false, not_false_eq_true, Nat.reduceAdd, Nat.reduceMul]
  exact l_257 hs hu hf hQ 3 0 I J aJk aJk rfl hA hv (fun _ _ _ => rfl) (fun _ _ _ => rfl)
end K4
