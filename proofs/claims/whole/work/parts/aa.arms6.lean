/-! arms: the reference's search, the pair. From wip/whole/src. -/
theorem ln_or2 {A g : Nat} (hA : A < 2 ^ g) (hg : g < 63) : lN A ||| lN 1 <<< (lN g &&& 63) = lN (A + 2 ^ g) := by
  have e : A + 2 ^ g = 2 ^ g ||| A := by
    have := Nat.two_pow_add_eq_or_of_lt hA 1
    rw [Nat.mul_one] at this
    rw [Nat.add_comm]
    exact this
  have hlt2 : 2 ^ g < 2 ^ 63 := Nat.pow_lt_pow_right (by decide) hg
  apply tb_ext
  intro i hi
  rw [tb_or, tb_nat (by omega), tb_p2 (by omega) hi, tb_nat (by omega), e, Nat.testBit_or, Nat.testBit_two_pow, Bool.or_comm]
  congr 1
  by_cases z : i = g
  · simp [z]
  · have : ¬ g = i := fun y => z y.symm
    simp [z, this]
section M6
variable {ko : aKo} {d k : Nat} {is : List Instr} {ls st : List Value} {σ : aH} {D : Nat → Nat} {N : Nat → Nat → Nat} {I : Nat → Nat → Int32} {J : Nat → Nat → Int64} {x t : Nat} {Q : Option Value → aH → Prop} {P : (Option Value ⊕ Unit) → aH → Prop}
theorem tk_lt {F : Nat} {fr : Nat → Bool} (hF : F ≤ 36) {j n A m : Nat} (hj : j ≤ F) (hA : A < 2 ^ (F - j)) (h : m ∈ tkL F fr j n A) : m < 2 ^ 36 := by
  obtain ⟨T, h1, h2, h3⟩ := (tk_mem j n A m hj).mp h
  have hbit : m.testBit 0 = m.testBit 0 := rfl
  have hval : valT T F < 2 ^ F := vt_lt F
  have hdis : A + valT T F < 2 ^ F := by
    have e : A + valT T F = A ||| valT T F := by
      have hdv : valT T F = 2 ^ (F - j) * (valT T F / 2 ^ (F - j)) := by
        have hz : valT T F % 2 ^ (F - j) = 0 := by
          apply Nat.eq_of_testBit_eq
          intro i
          rw [Nat.testBit_mod_two_pow, Nat.zero_testBit, vt_bit]
          by_cases z : i < F - j
          · cases hq : T i with
            | false => simp
            | true => have := (h1 i hq).1; omega
          · simp [z]
        have := Nat.div_add_mod (valT T F) (2 ^ (F - j))
        omega
      rw [Nat.add_comm, Nat.or_comm]
      conv => lhs; rw [hdv]
      conv => rhs; rw [hdv]
      exact Nat.two_pow_add_eq_or_of_lt hA _
    rw [e]
    exact Nat.or_lt_two_pow (Nat.lt_of_lt_of_le hA (Nat.pow_le_pow_right (by decide) (by omega))) hval
  have : 2 ^ F ≤ 2 ^ 36 := Nat.pow_le_pow_right (by decide) hF
  omega
theorem l_82 {N0 M : Nat → Nat → Nat} {J0 : Nat → Nat → Int64} {n A : Nat} {w2 : Int32} (hd : dmO D) (hn : n < 3) (hw : rwO (D 1) (N0 89)) (e89 : M 89 = N0 89)
    (hrec : ∀ (j B : Nat) (o : Option Nat) (N : Nat → Nat → Nat) (J : Nat → Nat → Int64) (Q : Option Value → aH → Prop), j ≤ D 0 * D 1 → B < 2 ^ (D 0 * D 1 - j) → (∀ b, o = some b → b < 2 ^ 36) → amT' M N J0 J o → (∀ (N' : Nat → Nat → Nat) (J' : Nat → Nat → Int64), amT' M N' J0 J' ((tkL (D 0 * D 1) (amFr D N0) j n B).foldl (amU (amBl D N0)) o) → Q none (hp D N' I J' x)) → aMm ko d 82 [.ref 86, .int (nI n), .int (nI (D 0 * D 1 - j)), .long (lN B)] (hp D N I J x) Q)
    {R : Option Nat} (hQ : ∀ (N' : Nat → Nat → Nat) (J' : Nat → Nat → Int64), amT' M N' J0 J' R → Q none (hp D N' I J' x)) :
    ∀ (j : Nat) (o : Option Nat) (N : Nat → Nat → Nat) (J : Nat → Nat → Int64), j ≤ D 0 * D 1 → A < 2 ^ (D 0 * D 1 - j) → (∀ b, o = some b → b < 2 ^ 36) → R = (tkL (D 0 * D 1) (amFr D N0) j (n + 1) A).foldl (amU (amBl D N0)) o → amT' M N J0 J o → aWp ko (d + 1) 82 (aP.1 (Int.toNat 5253)) [.ref 86, .int (nI (n + 1)), .int w2, .long (lN A), aJk, .int (nI (D 0 * D 1 - j))] [] (hp D N I J x) (aL Q) := by
  have hF := dm_F hd
  have hsC := hw.2.1
  intro j
  induction j with
  | zero =>
    intro o N J _ _ _ hR hT
    have e : tkL (D 0 * D 1) (amFr D N0) 0 (n + 1) A = [] := rfl
    rw [e] at hR
    have hq := hQ N J (by rw [hR]; exact hT)
    rw [al_5253]
    simp (disch := (first | omega | exact aCat_8 (by with_unfolding_all rfl) | exact rk_lt (by with_unfolding_all rfl) | exact aCat_16 (by with_unfolding_all rfl) | exact rk_eq (by with_unfolding_all rfl) | assumption | exact b2n_lt _ | exact id_b (by with_unfolding_all rfl) | (simp (disch := omega) only [u2_same, u2_ab, u2_aq]; done) | (simp (disch := omega) only [u2_same, u2_ab, u2_aq]; omega) | fail)) only [al_5248, wp_iload_1, wz_ne_t, wz_ne_f, wb_ne_t, wb_ne_f, wm_ne_1, wm_ne_2, wp_aloadr_0, wp_aloadk_0, wp_lload_3, wc_83, hg_86_45, wl_0, wp_lcmp, wz_lt_t, wz_lt_f, wm_lt_1, wm_lt_2, wz_ge_t, wz_ge_f, wm_ge_1, wm_ge_2, wp_jsr, al_5249, wp_goto, al_5250, al_5251, hp_86_45, wp_return, al_5252, wp_iload_2, wp_istore_5, wp_iload_5, wc_10, t_10, wn_ge_t, wn_ge_f, hg_86_8, ha_89l, ha_89s, wc_26, wk_108, wn_eq_t, wn_eq_f, wk_1, wp_isub, wp_iadd, wl_1, wp_lshl, wp_lor, wc_82, al_5254, wp_iinc_5_1, al_5255, nl_i, nl_r, nl_k, nl_j, nl_l, nI_add, pk_mul, pk_sub, tl_s, tl_n, aL_inl, u2_same, u2_ab, u2_aq, nI_l, lN_i, Nat.add_zero, Nat.zero_add, Nat.zero_le, true_and, and_true, b2n_10, b2n_T, b2n_F, b2n_0, Decidable.not_not, not_true_eq_false, not_false_eq_true, Nat.reduceAdd, Nat.reduceMul, Nat.reduceSub]
    exact hq
  | succ j ih =>
    intro o N J hj hA ho hR hT
    rw [tk_s, List.foldl_append] at hR
    have e1 : D 0 * D 1 - (j + 1) + 1 = D 0 * D 1 - j := by omega
    have hA2 : A < 2 ^ (D 0 * D 1 - j) := Nat.lt_of_lt_of_le hA (Nat.pow_le_pow_right (by decide) (by omega))
    have hchild : ∀ m, m ∈ tkL (D 0 * D 1) (amFr D N0) j n (A + 2 ^ (D 0 * D 1 - (j + 1))) → m < 2 ^ 36 := fun m hm => tk_lt hF.1 (by omega) (by
      rw [← e1, Nat.pow_succ]
      omega) hm
    have hB : A + 2 ^ (D 0 * D 1 - (j + 1)) < 2 ^ (D 0 * D 1 - j) := by
      rw [← e1, Nat.pow_succ]
      omega
    have ih1 := fun o N J => ih o N J (by omega) hA2
    generalize hgd : D 0 * D 1 - (j + 1) = g at *
    have hg : g < D 0 * D 1 := by omega
    have e89N : N 89 = N0 89 := by
      rw [← e89]
      funext q
      exact hT.1 89 q (by decide) (by decide)
    obtain ⟨r1, r2, r3⟩ := hw.1 g (by omega)
    have ht := fun Q => t_26 (ko := ko) (d := d + 1) (D := D) (N := N) (I := I) (J := J) (x := x) (Q := Q) (r := 89) (f := g) (Or.inl rfl) (by omega) (by rw [e89N]; exact r2)
    rw [e89N] at ht
    have e108 : N 89 108 = N0 89 108 := by rw [e89N]
    rw [al_5253]
    by_cases z1 : N0 89 (36 + g) = 1
    · have hfr : ¬ amFr D N0 g = true := by unfold amFr wlS; simp [z1]
      rw [if_neg hfr] at hR
      simp (disch := (first | omega | exact aCat_8 (by with_unfolding_all rfl) | exact rk_lt (by with_unfolding_all rfl) | exact aCat_16 (by with_unfolding_all rfl) | exact rk_eq (by with_unfolding_all rfl) | assumption | exact b2n_lt _ | exact id_b (by with_unfolding_all rfl) | (simp (disch := omega) only [u2_same, u2_ab, u2_aq]; done) | (simp (disch := omega) only [u2_same, u2_ab, u2_aq]; omega) | fail)) only [al_5248, wp_iload_1, wz_ne_t, wz_ne_f, wb_ne_t, wb_ne_f, wm_ne_1, wm_ne_2, wp_aloadr_0, wp_aloadk_0, wp_lload_3, wc_83, hg_86_45, wl_0, wp_lcmp, wz_lt_t, wz_lt_f, wm_lt_1, wm_lt_2, wz_ge_t, wz_ge_f, wm_ge_1, wm_ge_2, wp_jsr, al_5249, wp_goto, al_5250, al_5251, hp_86_45, wp_return, al_5252, wp_iload_2, wp_istore_5, wp_iload_5, wc_10, t_10, wn_ge_t, wn_ge_f, hg_86_8, ha_89l, ha_89s, wc_26, wk_108, wn_eq_t, wn_eq_f, wk_1, wp_isub, wp_iadd, wl_1, wp_lshl, wp_lor, wc_82, al_5254, wp_iinc_5_1, al_5255, nl_i, nl_r, nl_k, nl_j, nl_l, nI_add, pk_mul, pk_sub, tl_s, tl_n, aL_inl, u2_same, u2_ab, u2_aq, nI_l, lN_i, Nat.add_zero, Nat.zero_add, Nat.zero_le, true_and, and_true, b2n_10, b2n_T, b2n_F, b2n_0, Decidable.not_not, not_true_eq_false, not_false_eq_true, Nat.reduceAdd, Nat.reduceMul, Nat.reduceSub, ht, b2n_t z1, e1]
      exact ih1 o N J ho hR hT
    · by_cases z2 : g = N0 89 108
      · have hfr : ¬ amFr D N0 g = true := by unfold amFr; simp [z2]
        rw [if_neg hfr] at hR
        have e108' : N 89 108 = g := e108.trans z2.symm
        simp (disch := (first | omega | exact aCat_8 (by with_unfolding_all rfl) | exact rk_lt (by with_unfolding_all rfl) | exact aCat_16 (by with_unfolding_all rfl) | exact rk_eq (by with_unfolding_all rfl) | assumption | exact b2n_lt _ | exact id_b (by with_unfolding_all rfl) | (simp (disch := omega) only [u2_same, u2_ab, u2_aq]; done) | (simp (disch := omega) only [u2_same, u2_ab, u2_aq]; omega) | fail)) only [al_5248, wp_iload_1, wz_ne_t, wz_ne_f, wb_ne_t, wb_ne_f, wm_ne_1, wm_ne_2, wp_aloadr_0, wp_aloadk_0, wp_lload_3, wc_83, hg_86_45, wl_0, wp_lcmp, wz_lt_t, wz_lt_f, wm_lt_1, wm_lt_2, wz_ge_t, wz_ge_f, wm_ge_1, wm_ge_2, wp_jsr, al_5249, wp_goto, al_5250, al_5251, hp_86_45, wp_return, al_5252, wp_iload_2, wp_istore_5, wp_iload_5, wc_10, t_10, wn_ge_t, wn_ge_f, hg_86_8, ha_89l, ha_89s, wc_26, wk_108, wn_eq_t, wn_eq_f, wk_1, wp_isub, wp_iadd, wl_1, wp_lshl, wp_lor, wc_82, al_5254, wp_iinc_5_1, al_5255, nl_i, nl_r, nl_k, nl_j, nl_l, nI_add, pk_mul, pk_sub, tl_s, tl_n, aL_inl, u2_same, u2_ab, u2_aq, nI_l, lN_i, Nat.add_zero, Nat.zero_add, Nat.zero_le, true_and, and_true, b2n_10, b2n_T, b2n_F, b2n_0, Decidable.not_not, not_true_eq_false, not_false_eq_true, Nat.reduceAdd, Nat.reduceMul, Nat.reduceSub, ht, b2n_f z1, e108', e1]
        exact ih1 o N J ho hR hT
      · have hfr : amFr D N0 g = true := by unfold amFr wlS; simp [z1, z2]
        rw [if_pos hfr] at hR
        have hor := ln_or2 hA (show g < 63 by omega)
        simp (disch := (first | omega | exact aCat_8 (by with_unfolding_all rfl) | exact rk_lt (by with_unfolding_all rfl) | exact aCat_16 (by with_unfolding_all rfl) | exact rk_eq (by with_unfolding_all rfl) | assumption | exact b2n_lt _ | exact id_b (by with_unfolding_all rfl) | (simp (disch := omega) only [u2_same, u2_ab, u2_aq]; done) | (simp (disch := omega) only [u2_same, u2_ab, u2_aq]; omega) | fail)) only [al_5248, wp_iload_1, wz_ne_t, wz_ne_f, wb_ne_t, wb_ne_f, wm_ne_1, wm_ne_2, wp_aloadr_0, wp_aloadk_0, wp_lload_3, wc_83, hg_86_45, wl_0, wp_lcmp, wz_lt_t, wz_lt_f, wm_lt_1, wm_lt_2, wz_ge_t, wz_ge_f, wm_ge_1, wm_ge_2, wp_jsr, al_5249, wp_goto, al_5250, al_5251, hp_86_45, wp_return, al_5252, wp_iload_2, wp_istore_5, wp_iload_5, wc_10, t_10, wn_ge_t, wn_ge_f, hg_86_8, ha_89l, ha_89s, wc_26, wk_108, wn_eq_t, wn_eq_f, wk_1, wp_isub, wp_iadd, wl_1, wp_lshl, wp_lor, wc_82, al_5254, wp_iinc_5_1, al_5255, nl_i, nl_r, nl_k, nl_j, nl_l, nI_add, pk_mul, pk_sub, tl_s, tl_n, aL_inl, u2_same, u2_ab, u2_aq, nI_l, lN_i, Nat.add_zero, Nat.zero_add, Nat.zero_le, true_and, and_true, b2n_10, b2n_T, b2n_F, b2n_0, Decidable.not_not, not_true_eq_false, not_false_eq_true, Nat.reduceAdd, Nat.reduceMul, Nat.reduceSub, ht, b2n_f z1, e108, e1, hor, wr_82, Nat.add_sub_cancel]
        refine hrec j _ o N J _ (by omega) hB ho hT ?_
        intro N1 J1 hT1
        simp (disch := (first | omega | exact aCat_8 (by with_unfolding_all rfl) | exact rk_lt (by with_unfolding_all rfl) | exact aCat_16 (by with_unfolding_all rfl) | exact rk_eq (by with_unfolding_all rfl) | assumption | exact b2n_lt _ | exact id_b (by with_unfolding_all rfl) | (simp (disch := omega) only [u2_same, u2_ab, u2_aq]; done) | (simp (disch := omega) only [u2_same, u2_ab, u2_aq]; omega) | fail)) only [al_5248, wp_iload_1, wz_ne_t, wz_ne_f, wb_ne_t, wb_ne_f, wm_ne_1, wm_ne_2, wp_aloadr_0, wp_aloadk_0, wp_lload_3, wc_83, hg_86_45, wl_0, wp_lcmp, wz_lt_t, wz_lt_f, wm_lt_1, wm_lt_2, wz_ge_t, wz_ge_f, wm_ge_1, wm_ge_2, wp_jsr, al_5249, wp_goto, al_5250, al_5251, hp_86_45, wp_return, al_5252, wp_iload_2, wp_istore_5, wp_iload_5, wc_10, t_10, wn_ge_t, wn_ge_f, hg_86_8, ha_89l, ha_89s, wc_26, wk_108, wn_eq_t, wn_eq_f, wk_1, wp_isub, wp_iadd, wl_1, wp_lshl, wp_lor, wc_82, al_5254, wp_iinc_5_1, al_5255, nl_i, nl_r, nl_k, nl_j, nl_l, nI_add, pk_mul, pk_sub, tl_s, tl_n, aL_inl, u2_same, u2_ab, u2_aq, nI_l, lN_i, Nat.add_zero, Nat.zero_add, Nat.zero_le, true_and, and_true, b2n_10, b2n_T, b2n_F, b2n_0, Decidable.not_not, not_true_eq_false, not_false_eq_true, Nat.reduceAdd, Nat.reduceMul, Nat.reduceSub, e1]
        exact ih1 _ N1 J1 (am_lt36 hchild ho) hR hT1
theorem t_82 {N0 M : Nat → Nat → Nat} {J0 : Nat → Nat → Int64} (hd : dmO D) (hw : rwO (D 1) (N0 89)) (e89 : M 89 = N0 89) :
    ∀ (n d j A : Nat) (o : Option Nat) (N : Nat → Nat → Nat) (J : Nat → Nat → Int64) (Q : Option Value → aH → Prop), n ≤ 3 → j ≤ D 0 * D 1 → A < 2 ^ (D 0 * D 1 - j) → (∀ b, o = some b → b < 2 ^ 36) → amT' M N J0 J o → (∀ (N' : Nat → Nat → Nat) (J' : Nat → Nat → Int64), amT' M N' J0 J' ((tkL (D 0 * D 1) (amFr D N0) j n A).foldl (amU (amBl D N0)) o) → Q none (hp D N' I J' x)) → aMm ko (d + n) 82 [.ref 86, .int (nI n), .int (nI (D 0 * D 1 - j)), .long (lN A)] (hp D N I J x) Q := by
  have hF := dm_F hd
  intro n
  induction n with
  | zero =>
    intro d j A o N J Q _ hj hA ho hT hQ
    rw [tk_0] at hQ
    have : 2 ^ (D 0 * D 1 - j) ≤ 2 ^ 36 := Nat.pow_le_pow_right (by decide) (by omega)
    exact t_82b hd hw e89 (by omega) ho hT hQ
  | succ n ih =>
    intro d j A o N J Q hn hj hA ho hT hQ
    have hx := l_82 (ko := ko) (d := d + n) (I := I) (x := x) (Q := Q) (n := n) (A := A) (w2 := nI (D 0 * D 1 - j)) hd (by omega) hw e89 (fun j B o N J Q hj hB ho hT hQ => ih d j B o N J Q (by omega) hj hB ho hT hQ) hQ j o N J hj hA ho rfl hT
    rw [Nat.add_assoc] at hx
    rw [me_82]
    simp (disch := (first | omega | exact aCat_8 (by with_unfolding_all rfl) | exact rk_lt (by with_unfolding_all rfl) | exact aCat_16 (by with_unfolding_all rfl) | exact rk_eq (by with_unfolding_all rfl) | assumption | exact b2n_lt _ | exact id_b (by with_unfolding_all rfl) | (simp (disch := omega) only [u2_same, u2_ab, u2_aq]; done) | (simp (disch := omega) only [u2_same, u2_ab, u2_aq]; omega) | fail)) only [al_5248, wp_iload_1, wz_ne_t, wz_ne_f, wb_ne_t, wb_ne_f, wm_ne_1, wm_ne_2, wp_aloadr_0, wp_aloadk_0, wp_lload_3, wc_83, hg_86_45, wl_0, wp_lcmp, wz_lt_t, wz_lt_f, wm_lt_1, wm_lt_2, wz_ge_t, wz_ge_f, wm_ge_1, wm_ge_2, wp_jsr, al_5249, wp_goto, al_5250, al_5251, hp_86_45, wp_return, al_5252, wp_iload_2, wp_istore_5, wp_iload_5, wc_10, t_10, wn_ge_t, wn_ge_f, hg_86_8, ha_89l, ha_89s, wc_26, wk_108, wn_eq_t, wn_eq_f, wk_1, wp_isub, wp_iadd, wl_1, wp_lshl, wp_lor, wc_82, al_5254, wp_iinc_5_1, al_5255, nl_i, nl_r, nl_k, nl_j, nl_l, nI_add, pk_mul, pk_sub, tl_s, tl_n, aL_inl, u2_same, u2_ab, u2_aq, nI_l, lN_i, Nat.add_zero, Nat.zero_add, Nat.zero_le, true_and, and_true, b2n_10, b2n_T, b2n_F, b2n_0, Decidable.not_not, not_true_eq_false, not_false_eq_true, Nat.reduceAdd, Nat.reduceMul, Nat.reduceSub]
    exact hx
theorem l_194 (h : invB D N I J t) {n0 : Nat} (hn0 : n0 ≤ 3) (hk : ∀ i, i < n0 → amK D N i = none) {m0 : Nat} (hm0 : amK D N n0 = some m0) (hm36 : m0 < 2 ^ 36)
    (hQ : ansC D N I J x (.int (nI n0)) 1 (fun _ => lN m0) Q) :
    ∀ (j n : Nat) (r : Int64) (w3 : Value), n + j = n0 → aWp ko (d + 3) 194 (aP.1 (Int.toNat 12417)) [.ref 0, .long r, aJk, w3, .int (nI n)] [] (hp D N I J x) (aL Q) := by
  have hF := dm_F h.1.1
  have h4 := inv_d4 h
  have h3663 : (2 : Nat) ^ 36 < 2 ^ 63 := by decide
  intro j
  induction j with
  | zero =>
    intro n r w3 hj
    have e : n = n0 := by omega
    subst e
    have ht := fun Q => t_195 (ko := ko) (x := x) h n (d + (3 - n)) (D 0 * D 1) 0 0 Q hn0 (Nat.le_refl _) (Nat.mul_zero _).symm (by rw [Nat.zero_add]; exact Nat.le_refl _)
    have hm0' : (dmL (N 89 108) (D 0 * D 1) n 0).find? (amBl D N) = some m0 := hm0
    rw [hm0', show d + (3 - n) + n = d + 3 by omega] at ht
    have em : amJ (some m0) = lN m0 := rfl
    rw [em] at ht
    have hne := ln_m1 (m := m0) (by omega)
    rw [al_12417]
    simp (disch := (first | omega | exact aCat_8 (by with_unfolding_all rfl) | exact rk_lt (by with_unfolding_all rfl) | exact aCat_16 (by with_unfolding_all rfl) | exact rk_eq (by with_unfolding_all rfl) | assumption | exact b2n_lt _ | exact id_b (by with_unfolding_all rfl) | (simp (disch := omega) only [u2_same, u2_ab, u2_aq]; done) | (simp (disch := omega) only [u2_same, u2_ab, u2_aq]; omega) | fail)) only [al_12416, wl_0, wp_lstore_1, wk_0, wp_istore_3, wp_istore_4, wp_jsr, wp_iload_4, wk_3, wn_gt_t, wn_gt_f, wp_aloadr_0, wp_aloadk_0, hg_0_2, hg_0_7, hg_5_2, wc_195, wp_lload_1, wl_m1, wp_lcmp, wz_eq_t, wz_eq_f, wb_eq_t, wb_eq_f, wm_eq_1, wm_eq_2, wp_goto, al_12418, wp_iinc_4_1, al_12419, hg_0_1, wc_292, t_292, wc_293, t_293, wp_iload_3, wp_ireturn, nl_i, nl_r, nl_k, nl_j, nl_l, nI_add, pk_mul, pk_sub, tl_s, tl_n, aL_inl, u2_same, u2_ab, u2_aq, nI_l, lN_i, Nat.add_zero, Nat.zero_add, Nat.zero_le, true_and, and_true, b2n_10, b2n_T, b2n_F, b2n_0, Decidable.not_not, not_true_eq_false, not_false_eq_true, Nat.reduceAdd, Nat.reduceMul, Nat.reduceSub, h4, ht, wy_eq_f (lc_f hne)]
    exact hQ _ _ _ (sN_u (sN_u sN_r rfl) rfl) sI_r (sJ_u sJ_r rfl) td1C
  | succ j ih =>
    intro n r w3 hj
    have ht := fun Q => t_195 (ko := ko) (x := x) h n (d + (3 - n)) (D 0 * D 1) 0 0 Q (by omega) (Nat.le_refl _) (Nat.mul_zero _).symm (by rw [Nat.zero_add]; exact Nat.le_refl _)
    have hk' : (dmL (N 89 108) (D 0 * D 1) n 0).find? (amBl D N) = none := hk n (by omega)
    rw [hk', show d + (3 - n) + n = d + 3 by omega] at ht
    have em : amJ none = -1 := rfl
    rw [em] at ht
    have ih1 := fun r w3 => ih (n + 1) r w3 (by omega)
    rw [al_12417]
    simp (disch := (first | omega | exact aCat_8 (by with_unfolding_all rfl) | exact rk_lt (by with_unfolding_all rfl) | exact aCat_16 (by with_unfolding_all rfl) | exact rk_eq (by with_unfolding_all rfl) | assumption | exact b2n_lt _ | exact id_b (by with_unfolding_all rfl) | (simp (disch := omega) only [u2_same, u2_ab, u2_aq]; done) | (simp (disch := omega) only [u2_same, u2_ab, u2_aq]; omega) | fail)) only [al_12416, wl_0, wp_lstore_1, wk_0, wp_istore_3, wp_istore_4, wp_jsr, wp_iload_4, wk_3, wn_gt_t, wn_gt_f, wp_aloadr_0, wp_aloadk_0, hg_0_2, hg_0_7, hg_5_2, wc_195, wp_lload_1, wl_m1, wp_lcmp, wz_eq_t, wz_eq_f, wb_eq_t, wb_eq_f, wm_eq_1, wm_eq_2, wp_goto, al_12418, wp_iinc_4_1, al_12419, hg_0_1, wc_292, t_292, wc_293, t_293, wp_iload_3, wp_ireturn, nl_i, nl_r, nl_k, nl_j, nl_l, nI_add, pk_mul, pk_sub, tl_s, tl_n, aL_inl, u2_same, u2_ab, u2_aq, nI_l, lN_i, Nat.add_zero, Nat.zero_add, Nat.zero_le, true_and, and_true, b2n_10, b2n_T, b2n_F, b2n_0, Decidable.not_not, not_true_eq_false, not_false_eq_true, Nat.reduceAdd, Nat.reduceMul, Nat.reduceSub, h4, ht, wy_eq_t (lc_t (@rfl _ (-1 : Int64)))]
    exact ih1 _ _
theorem l_81 {N0 M : Nat → Nat → Nat} {J0 : Nat → Nat → Int64} (hd : dmO D) (hw : rwO (D 1) (N0 89)) (e89 : M 89 = N0 89) {n0 : Nat} (hn0 : n0 ≤ 3) (hk : ∀ i, i < n0 → amR D N0 i = none) {m0 : Nat} (hm0 : amR D N0 n0 = some m0) (hm36 : m0 < 2 ^ 36)
    (hQ : ∀ (N' : Nat → Nat → Nat) (J' : Nat → Nat → Int64), amT' M N' J0 J' (some m0) → Q (some (.int (nI n0))) (hp D (u2 (u2 N' 86 1 0) 86 1 1) I (u2 J' 87 0 (lN m0)) x)) :
    ∀ (j n : Nat) (N : Nat → Nat → Nat) (J : Nat → Nat → Int64), n + j = n0 → amT' M N J0 J (amR D N0 n) → aWp ko (d + 3) 81 (aP.1 (Int.toNat 5185)) [.ref 86, .int (nI n)] [] (hp D N I J x) (aL Q) := by
  have h3663 : (2 : Nat) ^ 36 < 2 ^ 63 := by decide
  intro j
  induction j with
  | zero =>
    intro n N J hj hT
    have e : n = n0 := by omega
    subst e
    rw [hm0] at hT
    have e45 : J 86 45 = lN m0 := hT.2.2
    have hge : 0 ≤ lg_cmp (lN m0) (lN 0) := Int32.not_lt.mp (fun c => by
      have := (pk_lLT (by omega) (by decide)).mp (lc_lt.mp c)
      omega)
    have hq := hQ N J hT
    rw [al_5185]
    simp (disch := (first | omega | exact aCat_8 (by with_unfolding_all rfl) | exact rk_lt (by with_unfolding_all rfl) | exact aCat_16 (by with_unfolding_all rfl) | exact rk_eq (by with_unfolding_all rfl) | assumption | exact b2n_lt _ | exact id_b (by with_unfolding_all rfl) | (simp (disch := omega) only [u2_same, u2_ab, u2_aq]; done) | (simp (disch := omega) only [u2_same, u2_ab, u2_aq]; omega) | fail)) only [al_5184, wp_aloadr_0, wp_aloadk_0, wk_0, hp_86_0, wl_m1, hp_86_45, wp_istore_1, wl_0, wc_82, wp_jsr, hg_86_45, wp_lcmp, wz_ge_t, wz_ge_f, wm_ge_1, wm_ge_2, wp_iinc_1_1, wp_iload_1, wp_goto, al_5186, hp_86_1, wc_43, t_43, wp_ireturn, nl_i, nl_r, nl_k, nl_j, nl_l, nI_add, pk_mul, pk_sub, tl_s, tl_n, aL_inl, u2_same, u2_ab, u2_aq, nI_l, lN_i, Nat.add_zero, Nat.zero_add, Nat.zero_le, true_and, and_true, b2n_10, b2n_T, b2n_F, b2n_0, Decidable.not_not, not_true_eq_false, not_false_eq_true, Nat.reduceAdd, Nat.reduceMul, Nat.reduceSub, e45, wy_ge_t hge]
    exact hq
  | succ j ih =>
    intro n N J hj hT
    rw [hk n (by omega)] at hT
    have e45 : J 86 45 = -1 := hT.2.2
    have hlt : ¬ 0 ≤ lg_cmp (-1) (lN 0) := fun c => (Int32.not_lt.mpr c) (lc_lt.mpr (by decide))
    have ht := t_82 (ko := ko) (x := x) (I := I) (N0 := N0) (M := M) (J0 := J0) hd hw e89 (n + 1) (d + (3 - (n + 1))) (D 0 * D 1) 0 none N J
    rw [Nat.sub_self, show d + (3 - (n + 1)) + (n + 1) = d + 3 by omega] at ht
    rw [al_5185]
    simp (disch := (first | omega | exact aCat_8 (by with_unfolding_all rfl) | exact rk_lt (by with_unfolding_all rfl) | exact aCat_16 (by with_unfolding_all rfl) | exact rk_eq (by with_unfolding_all rfl) | assumption | exact b2n_lt _ | exact id_b (by with_unfolding_all rfl) | (simp (disch := omega) only [u2_same, u2_ab, u2_aq]; done) | (simp (disch := omega) only [u2_same, u2_ab, u2_aq]; omega) | fail)) only [al_5184, wp_aloadr_0, wp_aloadk_0, wk_0, hp_86_0, wl_m1, hp_86_45, wp_istore_1, wl_0, wc_82, wp_jsr, hg_86_45, wp_lcmp, wz_ge_t, wz_ge_f, wm_ge_1, wm_ge_2, wp_iinc_1_1, wp_iload_1, wp_goto, al_5186, hp_86_1, wc_43, t_43, wp_ireturn, nl_i, nl_r, nl_k, nl_j, nl_l, nI_add, pk_mul, pk_sub, tl_s, tl_n, aL_inl, u2_same, u2_ab, u2_aq, nI_l, lN_i, Nat.add_zero, Nat.zero_add, Nat.zero_le, true_and, and_true, b2n_10, b2n_T, b2n_F, b2n_0, Decidable.not_not, not_true_eq_false, not_false_eq_true, Nat.reduceAdd, Nat.reduceMul, Nat.reduceSub, e45, wy_ge_f hlt]
    refine ht _ (by omega) (Nat.le_refl _) (by decide) (fun b hb => by cases hb) hT ?_
    intro N1 J1 hT1
    simp (disch := (first | omega | exact aCat_8 (by with_unfolding_all rfl) | exact rk_lt (by with_unfolding_all rfl) | exact aCat_16 (by with_unfolding_all rfl) | exact rk_eq (by with_unfolding_all rfl) | assumption | exact b2n_lt _ | exact id_b (by with_unfolding_all rfl) | (simp (disch := omega) only [u2_same, u2_ab, u2_aq]; done) | (simp (disch := omega) only [u2_same, u2_ab, u2_aq]; omega) | fail)) only [al_5184, wp_aloadr_0, wp_aloadk_0, wk_0, hp_86_0, wl_m1, hp_86_45, wp_istore_1, wl_0, wc_82, wp_jsr, hg_86_45, wp_lcmp, wz_ge_t, wz_ge_f, wm_ge_1, wm_ge_2, wp_iinc_1_1, wp_iload_1, wp_goto, al_5186, hp_86_1, wc_43, t_43, wp_ireturn, nl_i, nl_r, nl_k, nl_j, nl_l, nI_add, pk_mul, pk_sub, tl_s, tl_n, aL_inl, u2_same, u2_ab, u2_aq, nI_l, lN_i, Nat.add_zero, Nat.zero_add, Nat.zero_le, true_and, and_true, b2n_10, b2n_T, b2n_F, b2n_0, Decidable.not_not, not_true_eq_false, not_false_eq_true, Nat.reduceAdd, Nat.reduceMul, Nat.reduceSub]
    exact ih (n + 1) N1 J1 (by omega) hT1
theorem am_smC {N1 : Nat → Nat → Nat} (hN : sN N1 N) : amR D N1 = amR D N := by
  funext n
  have e1 : amBl D N1 = amBl D N := by
    funext m
    unfold amBl amC amF amO amA
    rw [sN_89 hN]
  have e2 : amFr D N1 = amFr D N := by
    funext g
    unfold amFr
    rw [sN_89 hN]
  unfold amR
  rw [e1, e2]
theorem o_arms (h : inv D N I J t) : opO ko (d + 3) 194 81 [] D N I J x (t + 300) := by
  have hF := dm_F h.1.1.1
  obtain ⟨n1, hn1, hne⟩ := am_three h.1
  rcases firstOf (fun n => amR D N n ≠ none) (n1 + 1) with ⟨n0, hn0, hp1, hno⟩ | hno
  · have hno' : ∀ i, i < n0 → amR D N i = none := fun i hi => Classical.byContradiction (fun z => hno i hi z)
    obtain ⟨m0, hm0⟩ : ∃ m0, amR D N n0 = some m0 := by
      cases hq : amR D N n0 with
      | none => exact absurd hq hp1
      | some m => exact ⟨m, rfl⟩
    have hK : amK D N n0 = some m0 := by rw [am_eq hno']; exact hm0
    have hK0 : ∀ i, i < n0 → amK D N i = none := fun i hi => by
      rw [am_eq (fun n' hn' => hno' n' (by omega))]
      exact hno' i hi
    have hm36 : m0 < 2 ^ 36 := am_lt36 (o := none) (fun m hm => tk_lt hF.1 (Nat.le_refl _) (by rw [Nat.sub_self]; decide) hm) (fun b hb => by cases hb) m0 hm0
    refine op_ans (v := .int (nI n0)) (m := 1) (f := fun _ => lN m0) h (by decide) (by omega) ?_ ?_
    · intro Q hQ
      have hx := fun w3 => l_194 (ko := ko) (d := d) (x := x) (Q := Q) h.1 (show n0 ≤ 3 by omega) hK0 hK hm36 hQ n0 0 (lN 0) w3 (by omega)
      rw [me_194]
      simp (disch := (first | omega | exact aCat_8 (by with_unfolding_all rfl) | exact rk_lt (by with_unfolding_all rfl) | exact aCat_16 (by with_unfolding_all rfl) | exact rk_eq (by with_unfolding_all rfl) | assumption | exact b2n_lt _ | exact id_b (by with_unfolding_all rfl) | (simp (disch := omega) only [u2_same, u2_ab, u2_aq]; done) | (simp (disch := omega) only [u2_same, u2_ab, u2_aq]; omega) | fail)) only [al_12416, wl_0, wp_lstore_1, wk_0, wp_istore_3, wp_istore_4, wp_jsr, wp_iload_4, wk_3, wn_gt_t, wn_gt_f, wp_aloadr_0, wp_aloadk_0, hg_0_2, hg_0_7, hg_5_2, wc_195, wp_lload_1, wl_m1, wp_lcmp, wz_eq_t, wz_eq_f, wb_eq_t, wb_eq_f, wm_eq_1, wm_eq_2, wp_goto, al_12418, wp_iinc_4_1, al_12419, hg_0_1, wc_292, t_292, wc_293, t_293, wp_iload_3, wp_ireturn, nl_i, nl_r, nl_k, nl_j, nl_l, nI_add, pk_mul, pk_sub, tl_s, tl_n, aL_inl, u2_same, u2_ab, u2_aq, nI_l, lN_i, Nat.add_zero, Nat.zero_add, Nat.zero_le, true_and, and_true, b2n_10, b2n_T, b2n_F, b2n_0, Decidable.not_not, not_true_eq_false, not_false_eq_true, Nat.reduceAdd, Nat.reduceMul, Nat.reduceSub]
      exact hx _
    · intro N1 I1 J1 h1 hN hI hJ Q hQ
      have hR := am_smC (D := D) hN
      have e89 : u2 N1 86 0 0 89 = N1 89 := u2_nb (by decide)
      have ht := t_82 (ko := ko) (x := x) (I := I1) (N0 := N1) (M := u2 N1 86 0 0) (J0 := J1) h1.1.1 h1.2.2.2.2.1.1 e89 0 (d + 3) (D 0 * D 1) 0 none (u2 N1 86 0 0) (u2 J1 86 45 (-1))
      rw [Nat.sub_self, Nat.add_zero] at ht
      have hx := fun N2 J2 => l_81 (ko := ko) (d := d) (I := I1) (x := x) (Q := Q) (N0 := N1) (M := u2 N1 86 0 0) (J0 := J1) h1.1.1 h1.2.2.2.2.1.1 e89 (show n0 ≤ 3 by omega) (fun i hi => by rw [hR]; exact hno' i hi) (by rw [hR]; exact hm0) hm36 (fun N' J' hT => hQ _ _ _ (by
        refine qN_u (qN_u ?_ rfl) rfl
        intro b q z
        rw [hT.1 b q (by rintro rfl; cases z) (by rintro rfl; cases z)]
        exact (qN_u qN_r rfl) b q z) sI_r (by
        refine qJ_u ?_ rfl
        intro b q z
        exact hT.2.1 b q (by rintro ⟨rfl, rfl⟩; cases z)) td1R) n0 0 N2 J2 (by omega)
      rw [me_81]
      simp (disch := (first | omega | exact aCat_8 (by with_unfolding_all rfl) | exact rk_lt (by with_unfolding_all rfl) | exact aCat_16 (by with_unfolding_all rfl) | exact rk_eq (by with_unfolding_all rfl) | assumption | exact b2n_lt _ | exact id_b (by with_unfolding_all rfl) | (simp (disch := omega) only [u2_same, u2_ab, u2_aq]; done) | (simp (disch := omega) only [u2_same, u2_ab, u2_aq]; omega) | fail)) only [al_5184, wp_aloadr_0, wp_aloadk_0, wk_0, hp_86_0, wl_m1, hp_86_45, wp_istore_1, wl_0, wc_82, wp_jsr, hg_86_45, wp_lcmp, wz_ge_t, wz_ge_f, wm_ge_1, wm_ge_2, wp_iinc_1_1, wp_iload_1, wp_goto, al_5186, hp_86_1, wc_43, t_43, wp_ireturn, nl_i, nl_r, nl_k, nl_j, nl_l, nI_add, pk_mul, pk_sub, tl_s, tl_n, aL_inl, u2_same, u2_ab, u2_aq, nI_l, lN_i, Nat.add_zero, Nat.zero_add, Nat.zero_le, true_and, and_true, b2n_10, b2n_T, b2n_F, b2n_0, Decidable.not_not, not_true_eq_false, not_false_eq_true, Nat.reduceAdd, Nat.reduceMul, Nat.reduceSub]
      refine ht _ (by decide) (Nat.le_refl _) (by decide) (fun b hb => by cases hb) ⟨fun _ _ _ _ => rfl, fun b q z => by rw [u2_rd, if_neg z], u2_same _ _ _ _⟩ ?_
      intro N2 J2 hT2
      simp (disch := (first | omega | exact aCat_8 (by with_unfolding_all rfl) | exact rk_lt (by with_unfolding_all rfl) | exact aCat_16 (by with_unfolding_all rfl) | exact rk_eq (by with_unfolding_all rfl) | assumption | exact b2n_lt _ | exact id_b (by with_unfolding_all rfl) | (simp (disch := omega) only [u2_same, u2_ab, u2_aq]; done) | (simp (disch := omega) only [u2_same, u2_ab, u2_aq]; omega) | fail)) only [al_5184, wp_aloadr_0, wp_aloadk_0, wk_0, hp_86_0, wl_m1, hp_86_45, wp_istore_1, wl_0, wc_82, wp_jsr, hg_86_45, wp_lcmp, wz_ge_t, wz_ge_f, wm_ge_1, wm_ge_2, wp_iinc_1_1, wp_iload_1, wp_goto, al_5186, hp_86_1, wc_43, t_43, wp_ireturn, nl_i, nl_r, nl_k, nl_j, nl_l, nI_add, pk_mul, pk_sub, tl_s, tl_n, aL_inl, u2_same, u2_ab, u2_aq, nI_l, lN_i, Nat.add_zero, Nat.zero_add, Nat.zero_le, true_and, and_true, b2n_10, b2n_T, b2n_F, b2n_0, Decidable.not_not, not_true_eq_false, not_false_eq_true, Nat.reduceAdd, Nat.reduceMul, Nat.reduceSub]
      exact hx N2 J2 hT2
  · exact absurd hne (hno n1 (by omega))
end M6
