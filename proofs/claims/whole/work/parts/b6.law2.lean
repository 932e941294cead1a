/-! law: the pair. From wip/whole/src. -/
theorem lw_ans {p : Nat} : (-1 - nI p : Int32) + nI 1 - nI 10000 = -10000 - nI p := by
  have h1 : (-10000 : Int32) = -1 + nI 1 - nI 10000 := by decide
  rw [h1]
  simp only [Int32.sub_eq_add_neg]
  ac_rfl
section LX
variable {ko : aKo} {d k : Nat} {is : List Instr} {ls st : List Value} {σ : aH} {D : Nat → Nat} {N : Nat → Nat → Nat} {I : Nat → Nat → Int32} {J : Nat → Nat → Int64} {x t : Nat} {Q : Option Value → aH → Prop} {P : (Option Value ⊕ Unit) → aH → Prop}
theorem k_214 (hk : koT ko) (hF : koF ko) (h : invB D N I J t)
    (hB : 0 < N 86 11 → ∀ (p : Nat) (s : rdS) (N' : Nat → Nat → Nat) (I' : Nat → Nat → Int32), p ≤ 40 → stO (N 91) s0R (min (N 86 11) 40) p s → fr17 N' N → fr18 I' I → (p < min (N 86 11) 40 ∨ 40 < N 86 11 ∨ s.2.2.2.2 = true ∨ 0 < s.2.2.1) → Q (some (.int (-10000 - nI p))) (hp D (u2 N' 1 1 0) I' J x))
    (hG : ∀ (L : List Nat), L.length ≤ 40 → (L = [] ∧ N 86 11 = 0 ∨ ∃ s, 0 < N 86 11 ∧ stO (N 91) s0R (min (N 86 11) 40) (min (N 86 11) 40) s ∧ N 86 11 ≤ 40 ∧ s.2.2.2.2 = false ∧ s.2.2.1 = 0 ∧ L = revA s.2.1 s.1 ∧ 0 < L.length) → (okc (lkL L) L.length → ∀ (N1 : Nat → Nat → Nat) (I1 : Nat → Nat → Int32) (J1 : Nat → Nat → Int64), lwK D N N1 I I1 J J1 → tdC N1 J1 2 (fun i => if i = 0 then lN (crsS D (otM N (lkL L) L.length) (N 89)).1 else lN (crsS D N (N 89)).1) → Q (some (.int (mth (D 1) (crsS D (otM N (lkL L) L.length) (N 89))))) (hp D N1 I1 J1 x)))
    (hok : ∀ s : rdS, 0 < N 86 11 → stO (N 91) s0R (min (N 86 11) 40) (min (N 86 11) 40) s → N 86 11 ≤ 40 → s.2.2.2.2 = false → s.2.2.1 = 0 → (revA s.2.1 s.1).length ≤ 40 → hgt (revA s.2.1 s.1) = some 1) : aMm ko d 214 [.ref 0] (hp D N I J x) Q := by
  obtain ⟨t1, t2, t3⟩ := id h.2.1
  have hT : ∀ i, i < min (N 86 11) 40 → N 2 i = N 91 i := fun i hi => (t3 i (by omega)).1
  rw [me_214]
  simp (disch := (first | omega | exact aCat_8 (by with_unfolding_all rfl) | exact rk_lt (by with_unfolding_all rfl) | exact aCat_16 (by with_unfolding_all rfl) | exact rk_eq (by with_unfolding_all rfl) | assumption | exact b2n_lt _ | exact id_b (by with_unfolding_all rfl) | (simp (disch := omega) only [u2_same, u2_ab, u2_aq]; done) | (simp (disch := omega) only [u2_same, u2_ab, u2_aq]; omega) | fail)) only [al_13696, wp_aloadr_0, wp_aloadk_0, hg_0_6, hg_0_0, hg_0_5, wc_269, wp_istore_1, wc_289, wp_iload_1, wk_m1, wn_eq_t, wn_eq_f, wk_m10000, wp_isub, wp_ireturn, hg_0_10, hg_0_7, hg_0_4, wc_260, hg_26_9, wp_istore_2, hg_0_1, wc_292, t_292, wp_i2l, wc_293, t_293, wp_iload_2, hg_26_11, nl_i, nl_r, nl_k, nl_j, nl_l, nI_add, pk_mul, pk_sub, tl_s, tl_n, aL_inl, u2_same, u2_ab, u2_aq, nI_l, lN_i, Nat.add_zero, Nat.zero_add, Nat.zero_le, true_and, and_true, b2n_10, b2n_T, b2n_F, b2n_0, Decidable.not_not, not_true_eq_false, not_false_eq_true, Nat.reduceAdd, Nat.reduceMul, Nat.reduceSub]
  refine t_269 (ru := 14) hk hF rfl t1 t2 (fun i hi => by have := t3 i hi; omega) ?_ ?_ ?_
  · intro z N' I' f1 f2 f3 f4
    have ok0 : okc (lkL []) 0 := ⟨by decide, fun y => absurd y (by decide), fun k hk => absurd hk (Nat.not_lt_zero k)⟩
    have hx := k_214g (ko := ko) (d := d) (D := D) (N := u2 N' 1 1 0) (I := I') (J := J) (x := x) (Q := Q) (N0 := N) (I0 := I) (c := lkL []) (n := 0) (v1 := aJk) h ok0 (fun b q y1 y2 y3 => by rw [u2_rd, if_neg y3]; exact f1 b q y1 y2) (fun b q y1 y2 y3 => f2 b q y1 y2 y3) (u2_same _ _ _ _) ⟨by rw [u2_ab (by decide)]; exact f3, fun k hk => f4 k hk⟩ (hG [] (by decide) (Or.inl ⟨rfl, z⟩) ok0)
    simp (disch := (first | omega | exact aCat_8 (by with_unfolding_all rfl) | exact rk_lt (by with_unfolding_all rfl) | exact aCat_16 (by with_unfolding_all rfl) | exact rk_eq (by with_unfolding_all rfl) | assumption | exact b2n_lt _ | exact id_b (by with_unfolding_all rfl) | (simp (disch := omega) only [u2_same, u2_ab, u2_aq]; done) | (simp (disch := omega) only [u2_same, u2_ab, u2_aq]; omega) | fail)) only [al_13696, wp_aloadr_0, wp_aloadk_0, hg_0_6, hg_0_0, hg_0_5, wc_269, wp_istore_1, wc_289, wp_iload_1, wk_m1, wn_eq_t, wn_eq_f, wk_m10000, wp_isub, wp_ireturn, hg_0_10, hg_0_7, hg_0_4, wc_260, hg_26_9, wp_istore_2, hg_0_1, wc_292, t_292, wp_i2l, wc_293, t_293, wp_iload_2, hg_26_11, nl_i, nl_r, nl_k, nl_j, nl_l, nI_add, pk_mul, pk_sub, tl_s, tl_n, aL_inl, u2_same, u2_ab, u2_aq, nI_l, lN_i, Nat.add_zero, Nat.zero_add, Nat.zero_le, true_and, and_true, b2n_10, b2n_T, b2n_F, b2n_0, Decidable.not_not, not_true_eq_false, not_false_eq_true, Nat.reduceAdd, Nat.reduceMul, Nat.reduceSub, t_289, qe_n1, qe_m1, qn_n1, qn_m1, qe_n2, qe_m2, qn_n2, qn_m2]
    exact hx
  · intro z p s N' I' hs f1 f2 hb
    have hp40 : p ≤ 40 := by have := hs.1; omega
    have hx := hB z p s N' I' hp40 (stO_c hT hs) f1 f2 hb
    simp (disch := (first | omega | exact aCat_8 (by with_unfolding_all rfl) | exact rk_lt (by with_unfolding_all rfl) | exact aCat_16 (by with_unfolding_all rfl) | exact rk_eq (by with_unfolding_all rfl) | assumption | exact b2n_lt _ | exact id_b (by with_unfolding_all rfl) | (simp (disch := omega) only [u2_same, u2_ab, u2_aq]; done) | (simp (disch := omega) only [u2_same, u2_ab, u2_aq]; omega) | fail)) only [al_13696, wp_aloadr_0, wp_aloadk_0, hg_0_6, hg_0_0, hg_0_5, wc_269, wp_istore_1, wc_289, wp_iload_1, wk_m1, wn_eq_t, wn_eq_f, wk_m10000, wp_isub, wp_ireturn, hg_0_10, hg_0_7, hg_0_4, wc_260, hg_26_9, wp_istore_2, hg_0_1, wc_292, t_292, wp_i2l, wc_293, t_293, wp_iload_2, hg_26_11, nl_i, nl_r, nl_k, nl_j, nl_l, nI_add, pk_mul, pk_sub, tl_s, tl_n, aL_inl, u2_same, u2_ab, u2_aq, nI_l, lN_i, Nat.add_zero, Nat.zero_add, Nat.zero_le, true_and, and_true, b2n_10, b2n_T, b2n_F, b2n_0, Decidable.not_not, not_true_eq_false, not_false_eq_true, Nat.reduceAdd, Nat.reduceMul, Nat.reduceSub, t_289, qe_n1, qe_m1, qn_n1, qn_m1, qe_n2, qe_m2, qn_n2, qn_m2]
    exact hx
  · intro z s N' I' hs y1 y2 y3 f1 f2 f3 f4 f5
    have hs' := stO_c hT hs
    obtain ⟨ok1, ok2⟩ := rd_ok f4 stk_lk (hok s z hs' y1 y2 y3 f4)
    have hx := k_214g (ko := ko) (d := d) (D := D) (N := u2 N' 1 1 0) (I := I') (J := J) (x := x) (Q := Q) (N0 := N) (I0 := I) (c := lkL (revA s.2.1 s.1)) (n := (revA s.2.1 s.1).length) (v1 := aJk) h ok1 (fun b q y1 y2 y3 => by rw [u2_rd, if_neg y3]; exact f1 b q y1 y2) (fun b q y1 y2 y3 => f2 b q y1 y2 y3) (u2_same _ _ _ _) ⟨by
      rw [u2_ab (by decide), f3]
      unfold nN
      rw [if_neg (by omega)], fun k hk => by
      unfold nN at hk
      rw [if_neg (by omega)] at hk
      unfold cN
      rw [if_neg (by omega)]
      exact stk_b f5 stk_lk k hk⟩ (hG _ f4 (Or.inr ⟨s, z, hs', y1, y2, y3, rfl, ok2⟩) ok1)
    simp (disch := (first | omega | exact aCat_8 (by with_unfolding_all rfl) | exact rk_lt (by with_unfolding_all rfl) | exact aCat_16 (by with_unfolding_all rfl) | exact rk_eq (by with_unfolding_all rfl) | assumption | exact b2n_lt _ | exact id_b (by with_unfolding_all rfl) | (simp (disch := omega) only [u2_same, u2_ab, u2_aq]; done) | (simp (disch := omega) only [u2_same, u2_ab, u2_aq]; omega) | fail)) only [al_13696, wp_aloadr_0, wp_aloadk_0, hg_0_6, hg_0_0, hg_0_5, wc_269, wp_istore_1, wc_289, wp_iload_1, wk_m1, wn_eq_t, wn_eq_f, wk_m10000, wp_isub, wp_ireturn, hg_0_10, hg_0_7, hg_0_4, wc_260, hg_26_9, wp_istore_2, hg_0_1, wc_292, t_292, wp_i2l, wc_293, t_293, wp_iload_2, hg_26_11, nl_i, nl_r, nl_k, nl_j, nl_l, nI_add, pk_mul, pk_sub, tl_s, tl_n, aL_inl, u2_same, u2_ab, u2_aq, nI_l, lN_i, Nat.add_zero, Nat.zero_add, Nat.zero_le, true_and, and_true, b2n_10, b2n_T, b2n_F, b2n_0, Decidable.not_not, not_true_eq_false, not_false_eq_true, Nat.reduceAdd, Nat.reduceMul, Nat.reduceSub, t_289, qe_n1, qe_m1, qn_n1, qn_m1, qe_n2, qe_m2, qn_n2, qn_m2]
    exact hx
end LX
