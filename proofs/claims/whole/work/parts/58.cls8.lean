/-! The class: pass. From wip/whole/src. -/
def pN (s : Nat) (N' N : Nat → Nat → Nat) : Prop := ∀ b q, b ≠ 30 → ¬ (b = 26 ∧ (q = 2 ∨ q = 3 ∨ q = 7 ∨ q = 9)) → b ≠ s → b ≠ s + 1 → N' b q = N b q
def pJ (s : Nat) (J' J : Nat → Nat → Int64) : Prop := ∀ b q, b ≠ 29 → ¬ (b = 26 ∧ q = 10) → b ≠ s → J' b q = J b q
theorem ldO_f {D : Nat → Nat} {N N' : Nat → Nat → Nat} {I I' : Nat → Nat → Int32} {J J' : Nat → Nat → Int64} (h : ldO D N I J) (hN : ∀ q, N' 6 q = N 6 q ∧ N' 7 q = N 7 q) (hI : ∀ q, I' 8 q = I 8 q) (hJ : ∀ q, J' 5 q = J 5 q) : ldO D N' I' J' := by
  refine ⟨h.1, h.2.1, ?_, ?_⟩
  · intro i hi
    obtain ⟨a1, a2, a3⟩ := h.2.2.1 i hi
    exact ⟨(hN i).1.trans a1, (hN i).2.trans a2, fun w hw => (hI _).trans (a3 w hw)⟩
  · intro i hi
    rw [hJ 3, hJ 4, hJ 5, hJ 6]
    exact h.2.2.2 i hi
theorem tdG_Z {R C n : Nat} {c sk S : Nat → Nat} (h2 : 2 ≤ R ∧ R ≤ 6 ∧ 2 ≤ C ∧ C ≤ 6) (h : rwO C S) (hz : rwZ (R * C) S) : rwZ (R * C) (tdG R C c n sk S) := by
  have hF := dm_F (D := fun q => if q = 0 then R else C) (by simpa [dmO] using h2)
  simp at hF
  have := h.2.1
  exact tdS_Z hF.1 (crs0_K (by omega) (by omega)) hz
theorem itG_Z {R C n : Nat} {c sk S : Nat → Nat} (h2 : 2 ≤ R ∧ R ≤ 6 ∧ 2 ≤ C ∧ C ≤ 6) (h : rwO C S) (hz : rwZ (R * C) S) : ∀ k, S 109 + k < 1000000000 → rwZ (R * C) (itG R C c n sk S k)
  | 0, _ => hz
  | k + 1, ht => by
    rw [itG]
    exact tdG_Z h2 (itG_O h2 h k (by omega)) (itG_Z h2 h hz k (by omega))
section K8
variable {ko : aKo} {d k : Nat} {is : List Instr} {ls st : List Value} {σ : aH} {D : Nat → Nat} {N : Nat → Nat → Nat} {I : Nat → Nat → Int32} {J : Nat → Nat → Int64} {x : Nat} {Q : Option Value → aH → Prop} {P : (Option Value ⊕ Unit) → aH → Prop}
theorem l_254 {N0 : Nat → Nat → Nat} {I0 : Nat → Nat → Int32} {J0 : Nat → Nat → Int64} {s ru n m : Nat} {c S : Nat → Nat} (hs : stB s = true) (hu : ruB ru = true) (hA0 : rvA D N0 I0 J0 s ru c n S) (hz : rwZ (D 2 * D 3) S) (h1 : 0 < N0 9 1) (h2 : N0 9 1 ≤ 20) (hm : m ≤ 1000) (ht : S 109 + m < 1000000000)
    (hQ : ∀ (N' : Nat → Nat → Nat) (I' : Nat → Nat → Int32) (J' : Nat → Nat → Int64), rvA D N' I' J' s ru c n (itG (D 2) (D 3) c n (skC N0) S m) → pN s N' N0 → fI I' I0 → pJ s J' J0 → (0 < m → clC (D 3) N' I' J' (crsG (D 2) (D 3) c n (skC N0) (itG (D 2) (D 3) c n (skC N0) S (m - 1)))) → Q (some (.int (nI (cmG (D 2) (D 3) c n (skC N0) S m)))) (hp D N' I' J' x)) :
    ∀ (j i : Nat) (N : Nat → Nat → Nat) (I : Nat → Nat → Int32) (J : Nat → Nat → Int64), i + j = m → rvA D N I J s ru c n (itG (D 2) (D 3) c n (skC N0) S i) → pN s N N0 → fI I I0 → pJ s J J0 → (0 < i → clC (D 3) N I J (crsG (D 2) (D 3) c n (skC N0) (itG (D 2) (D 3) c n (skC N0) S (i - 1)))) → aWp ko d 254 (aP.1 (Int.toNat 16257)) [.ref 26, .ref s, .ref ru, .int (nI m), .int (nI (cmG (D 2) (D 3) c n (skC N0) S i)), .int (nI i)] [] (hp D N I J x) (aL Q) := by
  have hso := st_or hs
  have hru := ru_or hu
  have hF := ld_F hA0.1
  have hd := hA0.1.1
  intro j
  induction j with
  | zero =>
    intro i N I J hj hA fN0 fI0 fJ0 hc
    have e : i = m := by omega
    subst e
    rw [al_16257]
    simp (disch := (first | omega | exact aCat_8 (by with_unfolding_all rfl) | exact rk_lt (by with_unfolding_all rfl) | exact aCat_16 (by with_unfolding_all rfl) | exact rk_eq (by with_unfolding_all rfl) | assumption | exact b2n_lt _ | exact id_b (by with_unfolding_all rfl) | (simp (disch := omega) only [u2_same, u2_ab, u2_aq]; done) | (simp (disch := omega) only [u2_same, u2_ab, u2_aq]; omega) | fail)) only [al_16256, wk_0, wp_istore_4, wp_istore_5, wp_jsr, wp_iload_5, wp_iload_3, wn_ge_t, wn_ge_f, wp_aloadr_0, wp_aloadk_0, wp_aloadr_1, wp_aloadk_1, wp_aloadr_2, wp_aloadk_2, wc_255, hg_20_1, hg_22_1, hg_24_1, wc_256, wc_259, wp_iload_4, hg_26_11, wk_m2, wn_ne_t, wn_ne_f, wp_goto, al_16258, wk_1, al_16259, wp_iadd, wp_iinc_5_1, al_16260, wp_ireturn, nl_i, nl_r, nl_k, nl_j, nl_l, nI_add, pk_mul, pk_sub, tl_s, tl_n, aL_inl, u2_same, u2_ab, u2_aq, nI_l, lN_i, Nat.add_zero, Nat.zero_add, Nat.zero_le, true_and, and_true, b2n_10, b2n_T, b2n_F, b2n_0, Decidable.not_not, not_true_eq_false, not_false_eq_true, Nat.reduceAdd, Nat.reduceMul]
    exact hQ N I J hA fN0 fI0 fJ0 hc
  | succ j ih =>
    intro i N I J hj hA fN0 fI0 fJ0 hc
    have e91 : N 9 1 = N0 9 1 := fN0 9 1 (by decide) (by omega) (by omega) (by omega)
    have e10 : N 10 = N0 10 := by funext q; exact fN0 10 q (by decide) (by omega) (by omega) (by omega)
    have esk : skC N = skC N0 := by unfold skC; rw [e91, e10]
    rw [al_16257]
    simp (disch := (first | omega | exact aCat_8 (by with_unfolding_all rfl) | exact rk_lt (by with_unfolding_all rfl) | exact aCat_16 (by with_unfolding_all rfl) | exact rk_eq (by with_unfolding_all rfl) | assumption | exact b2n_lt _ | exact id_b (by with_unfolding_all rfl) | (simp (disch := omega) only [u2_same, u2_ab, u2_aq]; done) | (simp (disch := omega) only [u2_same, u2_ab, u2_aq]; omega) | fail)) only [al_16256, wk_0, wp_istore_4, wp_istore_5, wp_jsr, wp_iload_5, wp_iload_3, wn_ge_t, wn_ge_f, wp_aloadr_0, wp_aloadk_0, wp_aloadr_1, wp_aloadk_1, wp_aloadr_2, wp_aloadk_2, wc_255, hg_20_1, hg_22_1, hg_24_1, wc_256, wc_259, wp_iload_4, hg_26_11, wk_m2, wn_ne_t, wn_ne_f, wp_goto, al_16258, wk_1, al_16259, wp_iadd, wp_iinc_5_1, al_16260, wp_ireturn, nl_i, nl_r, nl_k, nl_j, nl_l, nI_add, pk_mul, pk_sub, tl_s, tl_n, aL_inl, u2_same, u2_ab, u2_aq, nI_l, lN_i, Nat.add_zero, Nat.zero_add, Nat.zero_le, true_and, and_true, b2n_10, b2n_T, b2n_F, b2n_0, Decidable.not_not, not_true_eq_false, not_false_eq_true, Nat.reduceAdd, Nat.reduceMul, t_255 hs hA.2.1.2.2.2.1 hA.2.2.1.2.2.2.1 (by omega) (by omega), st_g1 hs]
    have ew : u2 (u2 J 29 0 (lN 0)) 29 1 (lN 0) s 1 = J s 1 := by rw [u2_ab (by omega), u2_ab (by omega)]
    try rw [ew]
    rw [esk]
    refine t_256 (sk := skC N0) hs hu (lk_A hs hu hA _) lk_O ?_
    intro N1 I1 J1 hv1 hN1 hI1 hJ1 hc1
    have hA1 := rvA_f hs hu (lk_A hs hu hA _) hN1 hI1 hJ1
    have hcc : crs0 (D 2) (D 3) (dslG (D 3) c n (skC N0) (itG (D 2) (D 3) c n (skC N0) S i)) (tb (J s 1)) (itG (D 2) (D 3) c n (skC N0) S i 108) = crsG (D 2) (D 3) c n (skC N0) (itG (D 2) (D 3) c n (skC N0) S i) := by
      unfold crsG
      have := hA.2.2.1.2.1
      exact crs0_congr (by omega) (by omega) (wl_tb hA.2.1 hF.1) (fun _ _ _ _ => rfl)
    rw [hcc] at hc1
    have hK : crK (D 2) (D 3) (crsG (D 2) (D 3) c n (skC N0) (itG (D 2) (D 3) c n (skC N0) S i)) := by
      have := hA.2.2.1.2.1
      exact crs0_K (by omega) (by omega)
    simp (disch := (first | omega | exact aCat_8 (by with_unfolding_all rfl) | exact rk_lt (by with_unfolding_all rfl) | exact aCat_16 (by with_unfolding_all rfl) | exact rk_eq (by with_unfolding_all rfl) | assumption | exact b2n_lt _ | exact id_b (by with_unfolding_all rfl) | (simp (disch := omega) only [u2_same, u2_ab, u2_aq]; done) | (simp (disch := omega) only [u2_same, u2_ab, u2_aq]; omega) | fail)) only [al_16256, wk_0, wp_istore_4, wp_istore_5, wp_jsr, wp_iload_5, wp_iload_3, wn_ge_t, wn_ge_f, wp_aloadr_0, wp_aloadk_0, wp_aloadr_1, wp_aloadk_1, wp_aloadr_2, wp_aloadk_2, wc_255, hg_20_1, hg_22_1, hg_24_1, wc_256, wc_259, wp_iload_4, hg_26_11, wk_m2, wn_ne_t, wn_ne_f, wp_goto, al_16258, wk_1, al_16259, wp_iadd, wp_iinc_5_1, al_16260, wp_ireturn, nl_i, nl_r, nl_k, nl_j, nl_l, nI_add, pk_mul, pk_sub, tl_s, tl_n, aL_inl, u2_same, u2_ab, u2_aq, nI_l, lN_i, Nat.add_zero, Nat.zero_add, Nat.zero_le, true_and, and_true, b2n_10, b2n_T, b2n_F, b2n_0, Decidable.not_not, not_true_eq_false, not_false_eq_true, Nat.reduceAdd, Nat.reduceMul]
    refine t_259 hs hA1.1 hA1.2.1 hA1.2.2.1 (itG_Z hd hA0.2.2.1 hz i (by omega)) hv1.1 hc1 hK ?_
    intro N2 J2 hS2 hN2 hJ2
    have gN2 : pN s N2 N0 := by
      intro b q z1 z2 z3 z4
      rw [hN2 b q z3 z4, hN1 b q z1 (by omega), u2_rd, if_neg (by omega), u2_rd, if_neg (by omega), u2_rd, if_neg (by omega)]
      exact fN0 b q z1 z2 z3 z4
    have gI2 : fI I1 I0 := fun b q z1 z2 z3 z4 z5 => (hI1 b q z1 z2 z3 z4 z5).trans (fI0 b q z1 z2 z3 z4 z5)
    have gJ2 : pJ s J2 J0 := by
      intro b q z1 z2 z3
      rw [hJ2 b q z3, hJ1 b q z1 z2, u2_ab z1, u2_ab z1]
      exact fJ0 b q z1 z2 z3
    have hA2 : rvA D N2 I1 J2 s ru c n (itG (D 2) (D 3) c n (skC N0) S (i + 1)) := by
      refine ⟨ldO_f hA1.1 (fun q => ⟨hN2 6 q (by omega) (by omega), hN2 7 q (by omega) (by omega)⟩) (fun _ => rfl) (fun q => hJ2 5 q (by omega)), hS2, ?_, ⟨?_, hA1.2.2.2.1.2⟩, hA1.2.2.2.2⟩
      · exact itG_O hd hA0.2.2.1 (i + 1) (by omega)
      · rw [hN2 ru 2 (by omega) (by omega)]
        exact hA1.2.2.2.1.1
    have hc2 : clC (D 3) N2 I1 J2 (crsG (D 2) (D 3) c n (skC N0) (itG (D 2) (D 3) c n (skC N0) S i)) := by
      refine ⟨?_, ?_, ?_, hc1.2.2.2⟩
      · rw [hN2 26 9 (by omega) (by omega)]; exact hc1.1
      · intro k hk
        rw [hN2 30 k (by omega) (by omega)]; exact hc1.2.1 k hk
      · intro f hf
        rw [hJ2 26 10 (by omega)]; exact hc1.2.2.1 f hf
    have h11 := hc1.2.2.2.1
    have hgo : ∀ z, z = cmG (D 2) (D 3) c n (skC N0) S (i + 1) → aWp ko d 254 (aP.1 (Int.toNat 16257)) [.ref 26, .ref s, .ref ru, .int (nI m), .int (nI z), .int (nI (i + 1))] [] (hp D N2 I1 J2 x) (aL Q) := by
      intro z hz'
      rw [hz']
      exact ih (i + 1) N2 I1 J2 (by omega) hA2 gN2 gI2 gJ2 (fun _ => hc2)
    by_cases hlk : (crsG (D 2) (D 3) c n (skC N0) (itG (D 2) (D 3) c n (skC N0) S i)).2.2 = true
    · have h11' : I1 26 11 = -2 := by rw [h11, mth, if_pos hlk]
      simp (disch := (first | omega | exact aCat_8 (by with_unfolding_all rfl) | exact rk_lt (by with_unfolding_all rfl) | exact aCat_16 (by with_unfolding_all rfl) | exact rk_eq (by with_unfolding_all rfl) | assumption | exact b2n_lt _ | exact id_b (by with_unfolding_all rfl) | (simp (disch := omega) only [u2_same, u2_ab, u2_aq]; done) | (simp (disch := omega) only [u2_same, u2_ab, u2_aq]; omega) | fail)) only [al_16256, wk_0, wp_istore_4, wp_istore_5, wp_jsr, wp_iload_5, wp_iload_3, wn_ge_t, wn_ge_f, wp_aloadr_0, wp_aloadk_0, wp_aloadr_1, wp_aloadk_1, wp_aloadr_2, wp_aloadk_2, wc_255, hg_20_1, hg_22_1, hg_24_1, wc_256, wc_259, wp_iload_4, hg_26_11, wk_m2, wn_ne_t, wn_ne_f, wp_goto, al_16258, wk_1, al_16259, wp_iadd, wp_iinc_5_1, al_16260, wp_ireturn, nl_i, nl_r, nl_k, nl_j, nl_l, nI_add, pk_mul, pk_sub, tl_s, tl_n, aL_inl, u2_same, u2_ab, u2_aq, nI_l, lN_i, Nat.add_zero, Nat.zero_add, Nat.zero_le, true_and, and_true, b2n_10, b2n_T, b2n_F, b2n_0, Decidable.not_not, not_true_eq_false, not_false_eq_true, Nat.reduceAdd, Nat.reduceMul, h11', qe_n1, qe_m1, qn_n1, qn_m1, qe_n2, qe_m2, qn_n2, qn_m2]
      exact hgo _ (by rw [cmG, b2n_f (by simp [hlk]), Nat.add_zero])
    · have h11' : I1 26 11 = nI ((crsG (D 2) (D 3) c n (skC N0) (itG (D 2) (D 3) c n (skC N0) S i)).2.1 ((crsG (D 2) (D 3) c n (skC N0) (itG (D 2) (D 3) c n (skC N0) S i)).1 - 1) % D 3) := by rw [h11, mth, if_neg hlk]
      have hmod := Nat.mod_lt ((crsG (D 2) (D 3) c n (skC N0) (itG (D 2) (D 3) c n (skC N0) S i)).2.1 ((crsG (D 2) (D 3) c n (skC N0) (itG (D 2) (D 3) c n (skC N0) S i)).1 - 1)) (show D 3 > 0 by omega)
      simp (disch := (first | omega | exact aCat_8 (by with_unfolding_all rfl) | exact rk_lt (by with_unfolding_all rfl) | exact aCat_16 (by with_unfolding_all rfl) | exact rk_eq (by with_unfolding_all rfl) | assumption | exact b2n_lt _ | exact id_b (by with_unfolding_all rfl) | (simp (disch := omega) only [u2_same, u2_ab, u2_aq]; done) | (simp (disch := omega) only [u2_same, u2_ab, u2_aq]; omega) | fail)) only [al_16256, wk_0, wp_istore_4, wp_istore_5, wp_jsr, wp_iload_5, wp_iload_3, wn_ge_t, wn_ge_f, wp_aloadr_0, wp_aloadk_0, wp_aloadr_1, wp_aloadk_1, wp_aloadr_2, wp_aloadk_2, wc_255, hg_20_1, hg_22_1, hg_24_1, wc_256, wc_259, wp_iload_4, hg_26_11, wk_m2, wn_ne_t, wn_ne_f, wp_goto, al_16258, wk_1, al_16259, wp_iadd, wp_iinc_5_1, al_16260, wp_ireturn, nl_i, nl_r, nl_k, nl_j, nl_l, nI_add, pk_mul, pk_sub, tl_s, tl_n, aL_inl, u2_same, u2_ab, u2_aq, nI_l, lN_i, Nat.add_zero, Nat.zero_add, Nat.zero_le, true_and, and_true, b2n_10, b2n_T, b2n_F, b2n_0, Decidable.not_not, not_true_eq_false, not_false_eq_true, Nat.reduceAdd, Nat.reduceMul, h11', qe_n1, qe_m1, qn_n1, qn_m1, qe_n2, qe_m2, qn_n2, qn_m2]
      exact hgo _ (by rw [cmG, b2n_t (by simpa using hlk)])
theorem t_254 {s ru n m : Nat} {c S : Nat → Nat} (hs : stB s = true) (hu : ruB ru = true) (hA : rvA D N I J s ru c n S) (hz : rwZ (D 2 * D 3) S) (h1 : 0 < N 9 1) (h2 : N 9 1 ≤ 20) (hm : m ≤ 1000) (ht : S 109 + m < 1000000000)
    (hQ : ∀ (N' : Nat → Nat → Nat) (I' : Nat → Nat → Int32) (J' : Nat → Nat → Int64), rvA D N' I' J' s ru c n (itG (D 2) (D 3) c n (skC N) S m) → pN s N' N → fI I' I → pJ s J' J → (0 < m → clC (D 3) N' I' J' (crsG (D 2) (D 3) c n (skC N) (itG (D 2) (D 3) c n (skC N) S (m - 1)))) → Q (some (.int (nI (cmG (D 2) (D 3) c n (skC N) S m)))) (hp D N' I' J' x)) :
    aMm ko d 254 [.ref 26, .ref s, .ref ru, .int (nI m)] (hp D N I J x) Q := by
  rw [me_254]
  simp (disch := (first | omega | exact aCat_8 (by with_unfolding_all rfl) | exact rk_lt (by with_unfolding_all rfl) | exact aCat_16 (by with_unfolding_all rfl) | exact rk_eq (by with_unfolding_all rfl) | assumption | exact b2n_lt _ | exact id_b (by with_unfolding_all rfl) | (simp (disch := omega) only [u2_same, u2_ab, u2_aq]; done) | (simp (disch := omega) only [u2_same, u2_ab, u2_aq]; omega) | fail)) only [al_16256, wk_0, wp_istore_4, wp_istore_5, wp_jsr, wp_iload_5, wp_iload_3, wn_ge_t, wn_ge_f, wp_aloadr_0, wp_aloadk_0, wp_aloadr_1, wp_aloadk_1, wp_aloadr_2, wp_aloadk_2, wc_255, hg_20_1, hg_22_1, hg_24_1, wc_256, wc_259, wp_iload_4, hg_26_11, wk_m2, wn_ne_t, wn_ne_f, wp_goto, al_16258, wk_1, al_16259, wp_iadd, wp_iinc_5_1, al_16260, wp_ireturn, nl_i, nl_r, nl_k, nl_j, nl_l, nI_add, pk_mul, pk_sub, tl_s, tl_n, aL_inl, u2_same, u2_ab, u2_aq, nI_l, lN_i, Nat.add_zero, Nat.zero_add, Nat.zero_le, true_and, and_true, b2n_10, b2n_T, b2n_F, b2n_0, Decidable.not_not, not_true_eq_false, not_false_eq_true, Nat.reduceAdd, Nat.reduceMul]
  exact l_254 hs hu hA hz h1 h2 hm ht hQ m 0 N I J (by omega) hA (fun _ _ _ _ _ _ => rfl) (fun _ _ _ _ _ _ _ => rfl) (fun _ _ _ _ _ => rfl) (fun h => absurd h (by omega))
end K8
