/-! rule. From wip/whole/src. -/
theorem arn_c {T T' : Nat → Nat} : ∀ {k p : Nat} {s : rdS}, (∀ i, p ≤ i → i < p + k → T i = T' i) → arn T s p k = arn T' s p k := by
  intro k
  induction k with
  | zero => intro p s _; rfl
  | succ k ih =>
    intro p s h
    rw [arn, arn, h p (by omega) (by omega)]
    cases stp s (T' p) with
    | none => rfl
    | some s' => exact ih (fun i h1 h2 => h i (by omega) (by omega))
theorem stO_c {T T' : Nat → Nat} {s0 s : rdS} {to p : Nat} (h : ∀ i, i < to → T i = T' i) (hs : stO T s0 to p s) : stO T' s0 to p s := by
  obtain ⟨h1, h2, h3⟩ := hs
  refine ⟨h1, ?_, fun z => ?_⟩
  · rw [← arn_c (fun i _ hi => h i (by omega))]
    exact h2
  · rw [← h p z]
    exact h3 z
/-- what reading a rule leaves alone in the reference -/
def fr94 (N' N : Nat → Nat → Nat) : Prop := ∀ b q, b ≠ 94 → ¬ (b = 86 ∧ (q = 0 ∨ q = 11 ∨ q = 12 ∨ q = 13 ∨ q = 14 ∨ q = 19)) → N' b q = N b q
section RH
variable {ko : aKo} {d k : Nat} {is : List Instr} {ls st : List Value} {σ : aH} {D : Nat → Nat} {N : Nat → Nat → Nat} {I : Nat → Nat → Int32} {J : Nat → Nat → Int64} {x t : Nat} {Q : Option Value → aH → Prop} {P : (Option Value ⊕ Unit) → aH → Prop}
theorem t_6r {m n : Nat} (hn : N 86 11 = n) (h : n ≤ 80) (hm : m ≤ 80) : aMm ko d 6 [.ref 86, .int (nI m)] (hp D N I J x) Q = Q (some (.int (nI n))) (hp D (u2 (u2 (u2 (u2 N 86 11 0) 86 12 0) 86 14 0) 86 13 (min n m)) I J x) := by
  rw [me_6]
  simp (disch := (first | omega | exact aCat_8 (by with_unfolding_all rfl) | exact rk_lt (by with_unfolding_all rfl) | exact aCat_16 (by with_unfolding_all rfl) | exact rk_eq (by with_unfolding_all rfl) | assumption | exact b2n_lt _ | exact id_b (by with_unfolding_all rfl) | (simp (disch := omega) only [u2_same, u2_ab, u2_aq]; done) | (simp (disch := omega) only [u2_same, u2_ab, u2_aq]; omega) | fail)) only [al_384, wp_aloadr_0, wp_aloadk_0, hg_86_11, wp_istore_2, wk_0, hp_86_11, hp_86_12, hp_86_14, wp_iload_2, wp_iload_1, wp_min, hp_86_13, wp_ireturn, nl_i, nl_r, nl_k, nl_j, nl_l, nI_add, pk_mul, pk_sub, tl_s, tl_n, aL_inl, u2_same, u2_ab, u2_aq, nI_l, lN_i, Nat.add_zero, Nat.zero_add, Nat.zero_le, true_and, and_true, b2n_10, b2n_T, b2n_F, b2n_0, Decidable.not_not, not_true_eq_false, not_false_eq_true, Nat.reduceAdd, Nat.reduceMul, Nat.reduceSub, hn]
theorem t_13 {n : Nat} (hk : koT ko) (hn : N 86 11 = n) (hn80 : n ≤ 80) (hb : ∀ i, i < n → N 91 i < 256)
    (hE : n = 0 → ∀ N' : Nat → Nat → Nat, fr94 N' N → N' 86 11 = 0 → N' 86 19 = 0 → Q (some (.int (nI 0))) (hp D N' I J x))
    (hB : 0 < n → ∀ (p : Nat) (s : rdS) (N' : Nat → Nat → Nat), stO (N 91) s0R (min n 40) p s → fr94 N' N → N' 86 11 = 0 → (p < min n 40 ∨ 40 < n ∨ s.2.2.2.2 = true ∨ 0 < s.2.2.1) → Q (some (.int (-1 - nI p))) (hp D N' I J x))
    (hG : 0 < n → ∀ (s : rdS) (N' : Nat → Nat → Nat), stO (N 91) s0R (min n 40) (min n 40) s → n ≤ 40 → s.2.2.2.2 = false → s.2.2.1 = 0 → fr94 N' N → N' 86 11 = 0 → N' 86 19 = (revA s.2.1 s.1).length → stk (N' 94) (fun c => c) (revA s.2.1 s.1) → hgt (revA s.2.1 s.1) = some 1 → Q (some (.int (nI 0))) (hp D N' I J x)) : aMm ko (d + 61) 13 [.ref 86] (hp D N I J x) Q := by
  have t6 := fun Q => t_6r (ko := ko) (d := d + 61) (D := D) (I := I) (J := J) (x := x) (Q := Q) (m := 40) hn hn80 (by decide)
  generalize hM : u2 (u2 (u2 (u2 (u2 N 86 11 0) 86 12 0) 86 14 0) 86 13 (min n 40)) 86 19 0 = M
  have m11 : M 86 11 = 0 := by rw [← hM, u2_aq (by decide), u2_aq (by decide), u2_aq (by decide), u2_aq (by decide), u2_same]
  have m12 : M 86 12 = 0 := by rw [← hM, u2_aq (by decide), u2_aq (by decide), u2_aq (by decide), u2_same]
  have m13 : M 86 13 = min n 40 := by rw [← hM, u2_aq (by decide), u2_same]
  have m14 : M 86 14 = 0 := by rw [← hM, u2_aq (by decide), u2_aq (by decide), u2_same]
  have m19 : M 86 19 = 0 := by rw [← hM, u2_same]
  have mfr : fr94 M N := fun b q _ z => by rw [← hM, u2_rd, if_neg (by omega), u2_rd, if_neg (by omega), u2_rd, if_neg (by omega), u2_rd, if_neg (by omega), u2_rd, if_neg (by omega)]
  have e91 : M 91 = N 91 := by funext q; exact mfr 91 q (by decide) (by omega)
  rw [me_13]
  by_cases z : n = 0
  · have hx := hE z M mfr m11 m19
    have t20 := fun Q => t_20 (ko := ko) (d := d + 61) (D := D) (I := I) (J := J) (x := x) (Q := Q) (N := M) (M := M) (n := n) (m := 40) (e := min n 40) (pos := 0) (fl := 1) hn80 (by decide) rfl (by omega) (by decide) m13 m12
    rw [if_neg (by omega), if_pos ⟨rfl, by omega⟩] at t20
    simp (disch := (first | omega | exact aCat_8 (by with_unfolding_all rfl) | exact rk_lt (by with_unfolding_all rfl) | exact aCat_16 (by with_unfolding_all rfl) | exact rk_eq (by with_unfolding_all rfl) | assumption | exact b2n_lt _ | exact id_b (by with_unfolding_all rfl) | (simp (disch := omega) only [u2_same, u2_ab, u2_aq]; done) | (simp (disch := omega) only [u2_same, u2_ab, u2_aq]; omega) | fail)) only [al_832, wp_aloadr_0, wp_aloadk_0, wk_40, wc_6, wp_istore_1, wk_0, hp_86_19, wp_iload_1, wz_eq_t, wz_eq_f, wb_eq_t, wb_eq_f, wm_eq_1, wm_eq_2, wc_14, wp_jsr, al_833, wk_1, wp_goto, al_834, al_835, wp_istore_2, wp_iload_2, wc_20, wp_ireturn, nl_i, nl_r, nl_k, nl_j, nl_l, nI_add, pk_mul, pk_sub, tl_s, tl_n, aL_inl, u2_same, u2_ab, u2_aq, nI_l, lN_i, Nat.add_zero, Nat.zero_add, Nat.zero_le, true_and, and_true, b2n_10, b2n_T, b2n_F, b2n_0, Decidable.not_not, not_true_eq_false, not_false_eq_true, Nat.reduceAdd, Nat.reduceMul, Nat.reduceSub, t6, hM, t20]
    exact hx
  · simp (disch := (first | omega | exact aCat_8 (by with_unfolding_all rfl) | exact rk_lt (by with_unfolding_all rfl) | exact aCat_16 (by with_unfolding_all rfl) | exact rk_eq (by with_unfolding_all rfl) | assumption | exact b2n_lt _ | exact id_b (by with_unfolding_all rfl) | (simp (disch := omega) only [u2_same, u2_ab, u2_aq]; done) | (simp (disch := omega) only [u2_same, u2_ab, u2_aq]; omega) | fail)) only [al_832, wp_aloadr_0, wp_aloadk_0, wk_40, wc_6, wp_istore_1, wk_0, hp_86_19, wp_iload_1, wz_eq_t, wz_eq_f, wb_eq_t, wb_eq_f, wm_eq_1, wm_eq_2, wc_14, wp_jsr, al_833, wk_1, wp_goto, al_834, al_835, wp_istore_2, wp_iload_2, wc_20, wp_ireturn, nl_i, nl_r, nl_k, nl_j, nl_l, nI_add, pk_mul, pk_sub, tl_s, tl_n, aL_inl, u2_same, u2_ab, u2_aq, nI_l, lN_i, Nat.add_zero, Nat.zero_add, Nat.zero_le, true_and, and_true, b2n_10, b2n_T, b2n_F, b2n_0, Decidable.not_not, not_true_eq_false, not_false_eq_true, Nat.reduceAdd, Nat.reduceMul, Nat.reduceSub, t6, hM]
    refine (t_rdA (ko := ko) (d := d) (D := D) (I := I) (J := J) (x := x) (N0 := M) (to := min n 40) hk (by omega) (fun i hi => by rw [e91]; exact hb i (by omega)) 61).2 0 (by decide) M 0 0 [] [] _ ⟨⟨m13, m12, m11, fun _ _ _ _ => rfl⟩, m14, m19, trivial⟩ (by omega) (by decide) (Nat.le_refl _) (fun _ => trivial) (by omega) ?_ ?_
    · intro N' pos' dg ro' P a1 a2 a3 a4 a5 a6
      have hfr : fr94 N' N := fun b q z1 z2 => (a1.1.2.2.2 b q z1 z2).trans (mfr b q z1 z2)
      have t20 := fun Q => t_20 (ko := ko) (d := d + 61) (D := D) (I := I) (J := J) (x := x) (Q := Q) (N := N') (M := N') (n := n) (m := 40) (e := min n 40) (pos := pos') (fl := 1) hn80 (by decide) rfl a2 (by decide) a1.1.1 a1.1.2.1
      rw [e91, List.append_nil] at a3 a5
      obtain ⟨kk, ek, ar⟩ := a3
      rw [Nat.zero_add] at ek
      subst ek
      by_cases y : pos' = min n 40
      · have hst : stO (N 91) s0R (min n 40) pos' (ro', P, 0, dg, false) := ⟨a2, ar, fun u => by omega⟩
        by_cases y2 : 40 < n
        · have hx := hB (by omega) pos' _ N' hst hfr a1.1.2.2.1 (Or.inr (Or.inl y2))
          rw [if_pos ⟨y2, Or.inl ⟨rfl, y⟩⟩] at t20
          rw [show pos' = 40 by omega] at hx
          simp (disch := (first | omega | exact aCat_8 (by with_unfolding_all rfl) | exact rk_lt (by with_unfolding_all rfl) | exact aCat_16 (by with_unfolding_all rfl) | exact rk_eq (by with_unfolding_all rfl) | assumption | exact b2n_lt _ | exact id_b (by with_unfolding_all rfl) | (simp (disch := omega) only [u2_same, u2_ab, u2_aq]; done) | (simp (disch := omega) only [u2_same, u2_ab, u2_aq]; omega) | fail)) only [al_832, wp_aloadr_0, wp_aloadk_0, wk_40, wc_6, wp_istore_1, wk_0, hp_86_19, wp_iload_1, wz_eq_t, wz_eq_f, wb_eq_t, wb_eq_f, wm_eq_1, wm_eq_2, wc_14, wp_jsr, al_833, wk_1, wp_goto, al_834, al_835, wp_istore_2, wp_iload_2, wc_20, wp_ireturn, nl_i, nl_r, nl_k, nl_j, nl_l, nI_add, pk_mul, pk_sub, tl_s, tl_n, aL_inl, u2_same, u2_ab, u2_aq, nI_l, lN_i, Nat.add_zero, Nat.zero_add, Nat.zero_le, true_and, and_true, b2n_10, b2n_T, b2n_F, b2n_0, Decidable.not_not, not_true_eq_false, not_false_eq_true, Nat.reduceAdd, Nat.reduceMul, Nat.reduceSub, t20]
          exact hx
        · rw [y] at hst
          have hx := hG (by omega) _ N' hst (by omega) rfl rfl hfr a1.1.2.2.1 a1.2.2.1 a1.2.2.2 (a6 0 rfl)
          rw [if_neg (by omega), if_pos ⟨rfl, y⟩] at t20
          simp (disch := (first | omega | exact aCat_8 (by with_unfolding_all rfl) | exact rk_lt (by with_unfolding_all rfl) | exact aCat_16 (by with_unfolding_all rfl) | exact rk_eq (by with_unfolding_all rfl) | assumption | exact b2n_lt _ | exact id_b (by with_unfolding_all rfl) | (simp (disch := omega) only [u2_same, u2_ab, u2_aq]; done) | (simp (disch := omega) only [u2_same, u2_ab, u2_aq]; omega) | fail)) only [al_832, wp_aloadr_0, wp_aloadk_0, wk_40, wc_6, wp_istore_1, wk_0, hp_86_19, wp_iload_1, wz_eq_t, wz_eq_f, wb_eq_t, wb_eq_f, wm_eq_1, wm_eq_2, wc_14, wp_jsr, al_833, wk_1, wp_goto, al_834, al_835, wp_istore_2, wp_iload_2, wc_20, wp_ireturn, nl_i, nl_r, nl_k, nl_j, nl_l, nI_add, pk_mul, pk_sub, tl_s, tl_n, aL_inl, u2_same, u2_ab, u2_aq, nI_l, lN_i, Nat.add_zero, Nat.zero_add, Nat.zero_le, true_and, and_true, b2n_10, b2n_T, b2n_F, b2n_0, Decidable.not_not, not_true_eq_false, not_false_eq_true, Nat.reduceAdd, Nat.reduceMul, Nat.reduceSub, t20]
          exact hx
      · have hno : stp (ro', P, 0, dg, false) (N 91 pos') = none := by
          rcases a5 with a5 | a5 | a5 | ⟨j, a5, a7⟩
          · exact absurd a5 y
          · exact a5
          · rw [a5]
            exact stp_r0
          · have := (jn_b a5).1
            omega
        have hx := hB (by omega) pos' _ N' ⟨a2, ar, fun _ => hno⟩ hfr a1.1.2.2.1 (Or.inl (by omega))
        rw [if_neg (by omega), if_neg (fun u => y u.2)] at t20
        simp (disch := (first | omega | exact aCat_8 (by with_unfolding_all rfl) | exact rk_lt (by with_unfolding_all rfl) | exact aCat_16 (by with_unfolding_all rfl) | exact rk_eq (by with_unfolding_all rfl) | assumption | exact b2n_lt _ | exact id_b (by with_unfolding_all rfl) | (simp (disch := omega) only [u2_same, u2_ab, u2_aq]; done) | (simp (disch := omega) only [u2_same, u2_ab, u2_aq]; omega) | fail)) only [al_832, wp_aloadr_0, wp_aloadk_0, wk_40, wc_6, wp_istore_1, wk_0, hp_86_19, wp_iload_1, wz_eq_t, wz_eq_f, wb_eq_t, wb_eq_f, wm_eq_1, wm_eq_2, wc_14, wp_jsr, al_833, wk_1, wp_goto, al_834, al_835, wp_istore_2, wp_iload_2, wc_20, wp_ireturn, nl_i, nl_r, nl_k, nl_j, nl_l, nI_add, pk_mul, pk_sub, tl_s, tl_n, aL_inl, u2_same, u2_ab, u2_aq, nI_l, lN_i, Nat.add_zero, Nat.zero_add, Nat.zero_le, true_and, and_true, b2n_10, b2n_T, b2n_F, b2n_0, Decidable.not_not, not_true_eq_false, not_false_eq_true, Nat.reduceAdd, Nat.reduceMul, Nat.reduceSub, t20]
        exact hx
    · intro N' pos' s' b1 b2 b3 b4 b5
      have hfr : fr94 N' N := fun b q z1 z2 => (b1.2.2.2 b q z1 z2).trans (mfr b q z1 z2)
      have t20 := fun Q => t_20 (ko := ko) (d := d + 61) (D := D) (I := I) (J := J) (x := x) (Q := Q) (N := N') (M := N') (n := n) (m := 40) (e := min n 40) (pos := pos') (fl := 0) hn80 (by decide) rfl b2 (by decide) b1.1 b1.2.1
      rw [e91] at b4 b5
      obtain ⟨kk, ek, ar⟩ := b4
      rw [Nat.zero_add] at ek
      subst ek
      have hx := hB (by omega) pos' s' N' ⟨b2, ar, fun u => by
        rcases b5 with b5 | b5
        · exact b5.2
        · omega⟩ hfr b1.2.2.1 (by
        rcases b5 with b5 | b5
        · exact Or.inl b5.1
        · rcases b5.2 with b5 | b5
          · exact Or.inr (Or.inr (Or.inl b5))
          · exact Or.inr (Or.inr (Or.inr b5)))
      by_cases y : 40 < n ∧ 40 ≤ pos'
      · rw [if_pos ⟨y.1, Or.inr y.2⟩] at t20
        rw [show pos' = 40 by omega] at hx
        simp (disch := (first | omega | exact aCat_8 (by with_unfolding_all rfl) | exact rk_lt (by with_unfolding_all rfl) | exact aCat_16 (by with_unfolding_all rfl) | exact rk_eq (by with_unfolding_all rfl) | assumption | exact b2n_lt _ | exact id_b (by with_unfolding_all rfl) | (simp (disch := omega) only [u2_same, u2_ab, u2_aq]; done) | (simp (disch := omega) only [u2_same, u2_ab, u2_aq]; omega) | fail)) only [al_832, wp_aloadr_0, wp_aloadk_0, wk_40, wc_6, wp_istore_1, wk_0, hp_86_19, wp_iload_1, wz_eq_t, wz_eq_f, wb_eq_t, wb_eq_f, wm_eq_1, wm_eq_2, wc_14, wp_jsr, al_833, wk_1, wp_goto, al_834, al_835, wp_istore_2, wp_iload_2, wc_20, wp_ireturn, nl_i, nl_r, nl_k, nl_j, nl_l, nI_add, pk_mul, pk_sub, tl_s, tl_n, aL_inl, u2_same, u2_ab, u2_aq, nI_l, lN_i, Nat.add_zero, Nat.zero_add, Nat.zero_le, true_and, and_true, b2n_10, b2n_T, b2n_F, b2n_0, Decidable.not_not, not_true_eq_false, not_false_eq_true, Nat.reduceAdd, Nat.reduceMul, Nat.reduceSub, t20]
        exact hx
      · rw [if_neg (by omega), if_neg (by omega)] at t20
        simp (disch := (first | omega | exact aCat_8 (by with_unfolding_all rfl) | exact rk_lt (by with_unfolding_all rfl) | exact aCat_16 (by with_unfolding_all rfl) | exact rk_eq (by with_unfolding_all rfl) | assumption | exact b2n_lt _ | exact id_b (by with_unfolding_all rfl) | (simp (disch := omega) only [u2_same, u2_ab, u2_aq]; done) | (simp (disch := omega) only [u2_same, u2_ab, u2_aq]; omega) | fail)) only [al_832, wp_aloadr_0, wp_aloadk_0, wk_40, wc_6, wp_istore_1, wk_0, hp_86_19, wp_iload_1, wz_eq_t, wz_eq_f, wb_eq_t, wb_eq_f, wm_eq_1, wm_eq_2, wc_14, wp_jsr, al_833, wk_1, wp_goto, al_834, al_835, wp_istore_2, wp_iload_2, wc_20, wp_ireturn, nl_i, nl_r, nl_k, nl_j, nl_l, nI_add, pk_mul, pk_sub, tl_s, tl_n, aL_inl, u2_same, u2_ab, u2_aq, nI_l, lN_i, Nat.add_zero, Nat.zero_add, Nat.zero_le, true_and, and_true, b2n_10, b2n_T, b2n_F, b2n_0, Decidable.not_not, not_true_eq_false, not_false_eq_true, Nat.reduceAdd, Nat.reduceMul, Nat.reduceSub, t20]
        exact hx
theorem l_21 {N0 : Nat → Nat → Nat} {src n : Nat} (hs : src = 94 ∨ src = 121) (hn : n ≤ 80) (hQ : ∀ N : Nat → Nat → Nat, (∀ b q, b ≠ 93 → N b q = N0 b q) → (∀ i, i < n → N 93 i = N0 src i) → Q none (hp D N I J x)) :
    ∀ (j i : Nat) (N : Nat → Nat → Nat), i + j = n → (∀ b q, b ≠ 93 → N b q = N0 b q) → (∀ q, q < i → N 93 q = N0 src q) → aWp ko d 21 (aP.1 (Int.toNat 1345)) [.ref 86, .ref src, .int (nI n), .int (nI i)] [] (hp D N I J x) (aL Q) := by
  intro j
  induction j with
  | zero =>
    intro i N hj hN hv
    have e : i = n := by omega
    subst e
    have hx := hQ N hN hv
    rw [al_1345]
    simp (disch := (first | omega | exact aCat_8 (by with_unfolding_all rfl) | exact rk_lt (by with_unfolding_all rfl) | exact aCat_16 (by with_unfolding_all rfl) | exact rk_eq (by with_unfolding_all rfl) | assumption | exact b2n_lt _ | exact id_b (by with_unfolding_all rfl) | (simp (disch := omega) only [u2_same, u2_ab, u2_aq]; done) | (simp (disch := omega) only [u2_same, u2_ab, u2_aq]; omega) | fail)) only [al_1344, wp_aloadr_0, wp_aloadk_0, wp_iload_2, hp_86_18, wk_0, wp_istore_3, wp_jsr, wp_iload_3, wn_ge_t, wn_ge_f, hg_86_16, ha_93l, ha_93s, wp_aloadr_1, wp_aloadk_1, wp_iinc_3_1, wp_goto, al_1346, wp_return, nl_i, nl_r, nl_k, nl_j, nl_l, nI_add, pk_mul, pk_sub, tl_s, tl_n, aL_inl, u2_same, u2_ab, u2_aq, nI_l, lN_i, Nat.add_zero, Nat.zero_add, Nat.zero_le, true_and, and_true, b2n_10, b2n_T, b2n_F, b2n_0, Decidable.not_not, not_true_eq_false, not_false_eq_true, Nat.reduceAdd, Nat.reduceMul, Nat.reduceSub]
    exact hx
  | succ j ih =>
    intro i N hj hN hv
    have hx := ih (i + 1) (u2 N 93 i (N src i)) (by omega) (fun b q z => by rw [u2_ab z]; exact hN b q z) (fun q hq => by
      rw [u2_rd]
      split
      · rename_i y
        rw [y.2]
        exact hN src i (by omega)
      · rename_i y
        exact hv q (by
          have : q ≠ i := fun w => y ⟨rfl, w⟩
          omega))
    rw [al_1345]
    rcases hs with rfl | rfl
    · simp (disch := (first | omega | exact aCat_8 (by with_unfolding_all rfl) | exact rk_lt (by with_unfolding_all rfl) | exact aCat_16 (by with_unfolding_all rfl) | exact rk_eq (by with_unfolding_all rfl) | assumption | exact b2n_lt _ | exact id_b (by with_unfolding_all rfl) | (simp (disch := omega) only [u2_same, u2_ab, u2_aq]; done) | (simp (disch := omega) only [u2_same, u2_ab, u2_aq]; omega) | fail)) only [al_1344, wp_aloadr_0, wp_aloadk_0, wp_iload_2, hp_86_18, wk_0, wp_istore_3, wp_jsr, wp_iload_3, wn_ge_t, wn_ge_f, hg_86_16, ha_93l, ha_93s, wp_aloadr_1, wp_aloadk_1, wp_iinc_3_1, wp_goto, al_1346, wp_return, nl_i, nl_r, nl_k, nl_j, nl_l, nI_add, pk_mul, pk_sub, tl_s, tl_n, aL_inl, u2_same, u2_ab, u2_aq, nI_l, lN_i, Nat.add_zero, Nat.zero_add, Nat.zero_le, true_and, and_true, b2n_10, b2n_T, b2n_F, b2n_0, Decidable.not_not, not_true_eq_false, not_false_eq_true, Nat.reduceAdd, Nat.reduceMul, Nat.reduceSub, ha_94l]
      exact hx
    · simp (disch := (first | omega | exact aCat_8 (by with_unfolding_all rfl) | exact rk_lt (by with_unfolding_all rfl) | exact aCat_16 (by with_unfolding_all rfl) | exact rk_eq (by with_unfolding_all rfl) | assumption | exact b2n_lt _ | exact id_b (by with_unfolding_all rfl) | (simp (disch := omega) only [u2_same, u2_ab, u2_aq]; done) | (simp (disch := omega) only [u2_same, u2_ab, u2_aq]; omega) | fail)) only [al_1344, wp_aloadr_0, wp_aloadk_0, wp_iload_2, hp_86_18, wk_0, wp_istore_3, wp_jsr, wp_iload_3, wn_ge_t, wn_ge_f, hg_86_16, ha_93l, ha_93s, wp_aloadr_1, wp_aloadk_1, wp_iinc_3_1, wp_goto, al_1346, wp_return, nl_i, nl_r, nl_k, nl_j, nl_l, nI_add, pk_mul, pk_sub, tl_s, tl_n, aL_inl, u2_same, u2_ab, u2_aq, nI_l, lN_i, Nat.add_zero, Nat.zero_add, Nat.zero_le, true_and, and_true, b2n_10, b2n_T, b2n_F, b2n_0, Decidable.not_not, not_true_eq_false, not_false_eq_true, Nat.reduceAdd, Nat.reduceMul, Nat.reduceSub, ha_121l]
      exact hx
theorem t_21 {src n : Nat} (hs : src = 94 ∨ src = 121) (hn : n ≤ 80) (hQ : ∀ N' : Nat → Nat → Nat, (∀ b q, b ≠ 93 → ¬ (b = 86 ∧ q = 18) → N' b q = N b q) → N' 86 18 = n → (∀ i, i < n → N' 93 i = N src i) → Q none (hp D N' I J x)) : aMm ko d 21 [.ref 86, .ref src, .int (nI n)] (hp D N I J x) Q := by
  have hx := l_21 (ko := ko) (d := d) (D := D) (I := I) (J := J) (x := x) (Q := Q) (N0 := u2 N 86 18 n) (src := src) (n := n) hs hn (fun N' h1 h2 => hQ N' (fun b q z y => by rw [h1 b q z, u2_rd, if_neg y]) (by rw [h1 86 18 (by decide), u2_same]) (fun i hi => by rw [h2 i hi, u2_ab (by omega)])) n 0 (u2 N 86 18 n) (by omega) (fun _ _ _ => rfl) (fun q hq => absurd hq (Nat.not_lt_zero q))
  rw [me_21]
  simp (disch := (first | omega | exact aCat_8 (by with_unfolding_all rfl) | exact rk_lt (by with_unfolding_all rfl) | exact aCat_16 (by with_unfolding_all rfl) | exact rk_eq (by with_unfolding_all rfl) | assumption | exact b2n_lt _ | exact id_b (by with_unfolding_all rfl) | (simp (disch := omega) only [u2_same, u2_ab, u2_aq]; done) | (simp (disch := omega) only [u2_same, u2_ab, u2_aq]; omega) | fail)) only [al_1344, wp_aloadr_0, wp_aloadk_0, wp_iload_2, hp_86_18, wk_0, wp_istore_3, wp_jsr, wp_iload_3, wn_ge_t, wn_ge_f, hg_86_16, ha_93l, ha_93s, wp_aloadr_1, wp_aloadk_1, wp_iinc_3_1, wp_goto, al_1346, wp_return, nl_i, nl_r, nl_k, nl_j, nl_l, nI_add, pk_mul, pk_sub, tl_s, tl_n, aL_inl, u2_same, u2_ab, u2_aq, nI_l, lN_i, Nat.add_zero, Nat.zero_add, Nat.zero_le, true_and, and_true, b2n_10, b2n_T, b2n_F, b2n_0, Decidable.not_not, not_true_eq_false, not_false_eq_true, Nat.reduceAdd, Nat.reduceMul, Nat.reduceSub]
  exact hx
end RH
