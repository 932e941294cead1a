/-! What acts do: the past, rows put by. From wip/whole/src. -/
def act (b q : Nat) : Bool := b == 20 || (b == 21 || (b == 89 || ((Nat.ble 32 b && Nat.ble b 63) || ((b == 86 && q == 26) || b == 99))))
def actJ (b : Nat) : Bool := b == 20 || (Nat.ble 34 b && Nat.ble b 63)
/-- cells that count but for those of acts -/
def aN (N' N : Nat → Nat → Nat) : Prop := ∀ b q, kpN b q = true → act b q = false → N' b q = N b q
def aJ' (J' J : Nat → Nat → Int64) : Prop := ∀ b q, kpJ b = true → actJ b = false → J' b q = J b q
theorem sN_a {N' N : Nat → Nat → Nat} (h : sN N' N) : aN N' N := fun b q z _ => h b q z
theorem sJ_a {J' J : Nat → Nat → Int64} (h : sJ J' J) : aJ' J' J := fun b q z _ => h b q z
theorem aN_t {A B C : Nat → Nat → Nat} (h : aN A B) (h2 : aN B C) : aN A C := fun b q z y => (h b q z y).trans (h2 b q z y)
theorem aJ_t {A B C : Nat → Nat → Int64} (h : aJ' A B) (h2 : aJ' B C) : aJ' A C := fun b q z y => (h b q z y).trans (h2 b q z y)
theorem invB_g {D : Nat → Nat} {N N' : Nat → Nat → Nat} {I I' : Nat → Nat → Int32} {J J' : Nat → Nat → Int64} {t t' : Nat} (h : invB D N I J t) (ht : t ≤ t') (hN : aN N' N) (hI : sI I' I) (hJ : aJ' J' J) (hnow : iSt D N' J' t' 20 (N' 89)) (hun : iUn D N' J' t') : invB D N' I' J' t' := by
  obtain ⟨a1, a2, a3, a4, a5, a6, a7, a8, a9, a10⟩ := h
  have e93 : N' 93 = N 93 := by funext q; exact hN 93 q rfl rfl
  have e18 : N' 86 18 = N 86 18 := hN 86 18 rfl rfl
  have e6 : N' 86 6 = N 86 6 := hN 86 6 rfl rfl
  have e11 : N' 86 11 = N 86 11 := hN 86 11 rfl rfl
  have e5 : N' 86 5 = N 86 5 := hN 86 5 rfl rfl
  have e46 : N' 86 46 = N 86 46 := hN 86 46 rfl rfl
  have e51 : N' 86 51 = N 86 51 := hN 86 51 rfl rfl
  refine ⟨⟨a1.1, a1.2.1, a1.2.2.1, ?_⟩, ?_, ?_, ?_, hnow, hun, ?_, ?_, ?_, fun q hq => (hN 90 q (kp_90 hq) rfl).trans (a10 q hq)⟩
  · exact ldO_f a1.2.2.2 (fun q => ⟨hN 6 q rfl rfl, hN 7 q rfl rfl⟩) (fun q => hI 8 q rfl) (fun q => hJ 5 q rfl rfl)
  · unfold iTx
    rw [e11, hN 1 1 rfl rfl]
    refine ⟨a2.1, a2.2.1, fun i hi => ?_⟩
    rw [hN 2 i rfl rfl, hN 91 i rfl rfl]
    exact a2.2.2 i hi
  · unfold iSk
    rw [e6, hN 9 1 rfl rfl]
    refine ⟨a3.1, a3.2.1, a3.2.2.1, fun i hi => ?_⟩
    rw [hN 10 i rfl rfl, hN 88 i rfl rfl]
    exact a3.2.2.2 i hi
  · unfold iRl
    rw [e93, e18]
    refine ⟨a4.1, (hN 11 2 rfl rfl).trans a4.2.1, fun k hk => ?_⟩
    rw [hI (11 + 1) k rfl]
    exact a4.2.2 k hk
  · unfold iKp
    rw [e5]
    obtain ⟨b1, m, b2, b3, b4⟩ := a7
    refine ⟨Nat.le_trans b1 ht, m, b2, (hI 0 13 rfl).trans b3, fun i hi => ?_⟩
    have er : rwAt N' 124 i = rwAt N 124 i := by
      funext q
      unfold rwAt
      rw [hN 124 _ rfl rfl]
    rw [er, hN 122 i rfl rfl, hN 123 i rfl rfl]
    obtain ⟨c1, c2, c3, c4⟩ := b4 i hi
    have hi3 : i = 0 ∨ i = 1 ∨ i = 2 := by omega
    refine ⟨c1, c2, c3, fun z => ?_⟩
    rcases hi3 with rfl | rfl | rfl
    · exact iSt_c (c4 z) ht (fun q => hN 80 q rfl rfl) (fun q => hN 81 q rfl rfl) (fun q => hJ 80 q rfl rfl)
    · exact iSt_c (c4 z) ht (fun q => hN 82 q rfl rfl) (fun q => hN 83 q rfl rfl) (fun q => hJ 82 q rfl rfl)
    · exact iSt_c (c4 z) ht (fun q => hN 84 q rfl rfl) (fun q => hN 85 q rfl rfl) (fun q => hJ 84 q rfl rfl)
  · unfold iSn
    rw [e46, hN 65 3 rfl rfl]
    refine ⟨a8.1, a8.2.1, fun k hk => ?_⟩
    rw [hN 66 k rfl rfl, hN 67 k rfl rfl, hN 68 k rfl rfl, hN 114 k rfl rfl, hN 115 k rfl rfl, hN 116 k rfl rfl]
    exact a8.2.2 k hk
  · unfold iMk
    rw [e51, hN 69 3 rfl rfl]
    refine ⟨a9.1, a9.2.1, fun k hk => ?_⟩
    rw [hN 71 k rfl rfl, hN 72 k rfl rfl, hN 118 k rfl rfl, hN 119 k rfl rfl]
    exact a9.2.2 k hk
/-- the ring of the class, one state more -/
def puC (N' N : Nat → Nat → Nat) (J' J : Nat → Nat → Int64) (S : Nat → Nat) : Prop := N' 32 1 = (if N 32 1 + 1 < 15 then N 32 1 + 1 else 0) ∧ N' 32 2 = min 15 (N 32 2 + 1) ∧ clS N' J' (34 + 2 * N 32 1) S ∧ ∀ p, p < 15 → p ≠ N 32 1 → ∀ q, N' (34 + 2 * p) q = N (34 + 2 * p) q ∧ N' (34 + 2 * p + 1) q = N (34 + 2 * p + 1) q ∧ J' (34 + 2 * p) q = J (34 + 2 * p) q
/-- the rows of the reference, one more -/
def puRr (N' N : Nat → Nat → Nat) (S : Nat → Nat) : Prop := (N 86 26 < 15 → N' 86 26 = N 86 26 + 1 ∧ (∀ j, j < N 86 26 → rwAt N' 99 j = rwAt N 99 j) ∧ rwAt N' 99 (N 86 26) = S) ∧ (N 86 26 = 15 → N' 86 26 = 15 ∧ (∀ j, j < 14 → rwAt N' 99 j = rwAt N 99 (j + 1)) ∧ rwAt N' 99 14 = S)
theorem iUn_push {D : Nat → Nat} {N N' : Nat → Nat → Nat} {J J' : Nat → Nat → Int64} {t t' : Nat} {S : Nat → Nat} (h : iUn D N J t) (ht : t ≤ t') (hS : rwO (D 1) S ∧ rwZ (D 0 * D 1) S ∧ (S 109 ≤ t' ∧ sumR (fun q => S (36 + q)) 36 ≤ 8)) (hC : puC N' N J' J S) (hR : puRr N' N S) : iUn D N' J' t' := by
  obtain ⟨h1, h2, h3, h4⟩ := h
  obtain ⟨c1, c2, c3, c4⟩ := hC
  have hnew : iSt D N' J' t' (34 + 2 * N 32 1) S := ⟨hS.1, hS.2.1, hS.2.2, c3⟩
  have hold : ∀ p S0, p < 15 → p ≠ N 32 1 → iSt D N J t (34 + 2 * p) S0 → iSt D N' J' t' (34 + 2 * p) S0 := fun p S0 hp hne hs => iSt_c hs ht (fun q => (c4 p hp hne q).1) (fun q => (c4 p hp hne q).2.1) (fun q => (c4 p hp hne q).2.2)
  by_cases hu : N 86 26 < 15
  · obtain ⟨r1, r2, r3⟩ := hR.1 hu
    refine ⟨by rw [c2, r1]; omega, by omega, by rw [c1]; split <;> omega, ?_⟩
    intro j hj
    rw [r1] at hj
    have epos : (N' 32 1 + 15 - N' 86 26 + j) % 15 = (N 32 1 + 15 - N 86 26 + j) % 15 := by
      rw [c1, r1]
      split <;> omega
    rw [epos]
    by_cases e : j = N 86 26
    · have e2 : (N 32 1 + 15 - N 86 26 + j) % 15 = N 32 1 := by omega
      rw [e2, e, r3]
      exact hnew
    · rw [r2 j (by omega)]
      exact hold _ _ (Nat.mod_lt _ (by decide)) (by omega) (h4 j (by omega))
  · have hu' : N 86 26 = 15 := by omega
    obtain ⟨r1, r2, r3⟩ := hR.2 hu'
    refine ⟨by rw [c2, r1]; omega, by omega, by rw [c1]; split <;> omega, ?_⟩
    intro j hj
    rw [r1] at hj
    have epos : (N' 32 1 + 15 - N' 86 26 + j) % 15 = (N 32 1 + 15 - N 86 26 + (j + 1)) % 15 := by
      rw [c1, r1]
      split <;> omega
    rw [epos]
    by_cases e : j = 14
    · have e2 : (N 32 1 + 15 - N 86 26 + (j + 1)) % 15 = N 32 1 := by omega
      rw [e2, e, r3]
      exact hnew
    · rw [r2 j (by omega)]
      exact hold _ _ (Nat.mod_lt _ (by decide)) (by omega) (h4 (j + 1) (by omega))
theorem st_ring {p : Nat} (h : p < 15) : stB (34 + 2 * p) = true := by
  have : p = 0 ∨ p = 1 ∨ p = 2 ∨ p = 3 ∨ p = 4 ∨ p = 5 ∨ p = 6 ∨ p = 7 ∨ p = 8 ∨ p = 9 ∨ p = 10 ∨ p = 11 ∨ p = 12 ∨ p = 13 ∨ p = 14 := by omega
  rcases this with rfl | rfl | rfl | rfl | rfl | rfl | rfl | rfl | rfl | rfl | rfl | rfl | rfl | rfl | rfl <;> rfl
section H2
variable {ko : aKo} {d k : Nat} {is : List Instr} {ls st : List Value} {σ : aH} {D : Nat → Nat} {N : Nat → Nat → Nat} {I : Nat → Nat → Int32} {J : Nat → Nat → Int64} {x t : Nat} {Q : Option Value → aH → Prop} {P : (Option Value ⊕ Unit) → aH → Prop}
def puN (N : Nat → Nat → Nat) : Nat → Nat → Nat := u2 (u2 (cpS N (34 + 2 * N 32 1) 22) 32 1 (if N 32 1 + 1 < 15 then N 32 1 + 1 else 0)) 32 2 (min 15 (N 32 2 + 1))
theorem t_251 (h1 : N 32 1 < 15) (h2 : N 32 2 ≤ 15) : aMm ko d 251 [.ref 32, .ref 22] (hp D N I J x) Q = Q none (hp D (puN N) I (cpJ J (34 + 2 * N 32 1) 22) x) := by
  have hs := st_ring h1
  have hne : 34 + 2 * N 32 1 ≠ 22 := by omega
  have e32 : ∀ q, cpS N (34 + 2 * N 32 1) 22 32 q = N 32 q := fun q => cp_N (by omega) (by omega)
  rw [me_251]
  by_cases hp : N 32 1 + 1 < 15
  · simp (disch := (first | omega | exact aCat_8 (by with_unfolding_all rfl) | exact rk_lt (by with_unfolding_all rfl) | exact aCat_16 (by with_unfolding_all rfl) | exact rk_eq (by with_unfolding_all rfl) | assumption | exact b2n_lt _ | exact id_b (by with_unfolding_all rfl) | (simp (disch := omega) only [u2_same, u2_ab, u2_aq]; done) | (simp (disch := omega) only [u2_same, u2_ab, u2_aq]; omega) | fail)) only [al_16064, wp_aloadr_0, wp_aloadk_0, hg_32_0, ha_33l, hg_32_1, wp_aloadr_1, wp_aloadk_1, wk_1, wp_iadd, wk_15, wn_ge_t, wn_ge_f, wp_goto, al_16065, wk_0, wp_jsr, al_16066, hp_32_1, hg_32_2, wp_min, hp_32_2, wp_return, nl_i, nl_r, nl_k, nl_j, nl_l, nI_add, pk_mul, pk_sub, tl_s, tl_n, aL_inl, u2_same, u2_ab, u2_aq, nI_l, lN_i, Nat.add_zero, Nat.zero_add, Nat.zero_le, true_and, and_true, b2n_10, b2n_T, b2n_F, b2n_0, Decidable.not_not, not_true_eq_false, not_false_eq_true, Nat.reduceAdd, Nat.reduceMul, Nat.reduceSub, wc_283 (m := 34 + 2 * N 32 1) hs, t_283 (s := 34 + 2 * N 32 1) (s' := 22) hs rfl hne, e32]
    unfold puN
    rw [if_pos hp]
  · simp (disch := (first | omega | exact aCat_8 (by with_unfolding_all rfl) | exact rk_lt (by with_unfolding_all rfl) | exact aCat_16 (by with_unfolding_all rfl) | exact rk_eq (by with_unfolding_all rfl) | assumption | exact b2n_lt _ | exact id_b (by with_unfolding_all rfl) | (simp (disch := omega) only [u2_same, u2_ab, u2_aq]; done) | (simp (disch := omega) only [u2_same, u2_ab, u2_aq]; omega) | fail)) only [al_16064, wp_aloadr_0, wp_aloadk_0, hg_32_0, ha_33l, hg_32_1, wp_aloadr_1, wp_aloadk_1, wk_1, wp_iadd, wk_15, wn_ge_t, wn_ge_f, wp_goto, al_16065, wk_0, wp_jsr, al_16066, hp_32_1, hg_32_2, wp_min, hp_32_2, wp_return, nl_i, nl_r, nl_k, nl_j, nl_l, nI_add, pk_mul, pk_sub, tl_s, tl_n, aL_inl, u2_same, u2_ab, u2_aq, nI_l, lN_i, Nat.add_zero, Nat.zero_add, Nat.zero_le, true_and, and_true, b2n_10, b2n_T, b2n_F, b2n_0, Decidable.not_not, not_true_eq_false, not_false_eq_true, Nat.reduceAdd, Nat.reduceMul, Nat.reduceSub, wc_283 (m := 34 + 2 * N 32 1) hs, t_283 (s := 34 + 2 * N 32 1) (s' := 22) hs rfl hne, e32]
    unfold puN
    rw [if_neg hp]
theorem pu_C {S : Nat → Nat} (h1 : N 32 1 < 15) (hS : clS N J 22 S) : puC (puN N) N (cpJ J (34 + 2 * N 32 1) 22) J S := by
  have hs := st_ring h1
  unfold puN
  refine ⟨by rw [u2_aq (by decide), u2_same], by rw [u2_same], ?_, ?_⟩
  · exact clS_c (cp_S hs rfl (by omega) hS) (fun q => by rw [u2_ab (by omega), u2_ab (by omega)]) (fun q => by rw [u2_ab (by omega), u2_ab (by omega)]) (fun _ => rfl)
  · intro p hp hne q
    refine ⟨?_, ?_, cp_J (by omega)⟩
    · rw [u2_ab (by omega), u2_ab (by omega), cp_N (by omega) (by omega)]
    · rw [u2_ab (by omega), u2_ab (by omega), cp_N (by omega) (by omega)]
theorem pu_N {b q : Nat} (h1 : N 32 1 < 15) (hb : b < 32 ∨ 63 < b) : puN N b q = N b q := by
  unfold puN
  rw [u2_ab (by omega), u2_ab (by omega), cp_N (by omega) (by omega)]
theorem pu_J {b q : Nat} (h1 : N 32 1 < 15) (hb : b < 34 ∨ 63 < b) : cpJ J (34 + 2 * N 32 1) 22 b q = J b q := cp_J (by omega)
/-! the reference's rows -/
def puT (S T : Nat → Nat) (u i : Nat) : Nat → Nat := fun q => if 111 * u ≤ q ∧ q < 111 * u + i then S (q - 111 * u) else T q
theorem puT_0 {S T : Nat → Nat} {u : Nat} : puT S T u 0 = T := by
  funext q
  unfold puT
  rw [if_neg (by omega)]
theorem puT_u {S T : Nat → Nat} {u i : Nat} : upn (puT S T u i) (111 * u + i) (S i) = puT S T u (i + 1) := by
  funext q
  unfold upn puT
  by_cases h : q = 111 * u + i
  · subst h
    rw [if_pos rfl, if_pos (by omega)]
    congr 1
    omega
  · rw [if_neg h]
    by_cases h2 : 111 * u ≤ q ∧ q < 111 * u + i
    · rw [if_pos h2, if_pos (by omega)]
    · rw [if_neg h2, if_neg (by omega)]
theorem l_39 {u : Nat} {T : Nat → Nat} (hu : N 86 26 = u) (h15 : u ≤ 15) : ∀ j i : Nat, i + j = 111 → aWp ko d 39 (aP.1 (Int.toNat 2497)) [.ref 86, .int (nI i)] [] (hp D (setRow N 99 (puT (N 89) T u i)) I J x) (aL Q) = Q none (hp D (setRow N 99 (puT (N 89) T u 111)) I J x) := by
  have en : ∀ (T : Nat → Nat) (b : Nat), b ≠ 99 → setRow N 99 T b = N b := fun T b hb => setRow_n hb
  intro j
  induction j with
  | zero =>
    intro i hi
    have e : i = 111 := by omega
    subst e
    simp (disch := (first | omega | exact aCat_8 (by with_unfolding_all rfl) | exact rk_lt (by with_unfolding_all rfl) | exact aCat_16 (by with_unfolding_all rfl) | exact rk_eq (by with_unfolding_all rfl) | assumption | exact b2n_lt _ | exact id_b (by with_unfolding_all rfl) | (simp (disch := omega) only [u2_same, u2_ab, u2_aq]; done) | (simp (disch := omega) only [u2_same, u2_ab, u2_aq]; omega) | fail)) only [al_2496, wk_0, wp_istore_1, wp_jsr, al_2497, wp_iload_1, wk_111, wn_ge_t, wn_ge_f, wp_aloadr_0, wp_aloadk_0, hg_86_27, ha_99l, ha_99s, hg_86_26, wp_imul, wp_iadd, hg_86_8, ha_89l, ha_89s, wp_iinc_1_1, wp_goto, al_2498, wp_return, nl_i, nl_r, nl_k, nl_j, nl_l, nI_add, pk_mul, pk_sub, tl_s, tl_n, aL_inl, u2_same, u2_ab, u2_aq, nI_l, lN_i, Nat.add_zero, Nat.zero_add, Nat.zero_le, true_and, and_true, b2n_10, b2n_T, b2n_F, b2n_0, Decidable.not_not, not_true_eq_false, not_false_eq_true, Nat.reduceAdd, Nat.reduceMul, Nat.reduceSub]
  | succ j ih =>
    intro i hi
    rw [al_2497]
    simp (disch := (first | omega | exact aCat_8 (by with_unfolding_all rfl) | exact rk_lt (by with_unfolding_all rfl) | exact aCat_16 (by with_unfolding_all rfl) | exact rk_eq (by with_unfolding_all rfl) | assumption | exact b2n_lt _ | exact id_b (by with_unfolding_all rfl) | (simp (disch := omega) only [u2_same, u2_ab, u2_aq]; done) | (simp (disch := omega) only [u2_same, u2_ab, u2_aq]; omega) | fail)) only [al_2496, wk_0, wp_istore_1, wp_jsr, wp_iload_1, wk_111, wn_ge_t, wn_ge_f, wp_aloadr_0, wp_aloadk_0, hg_86_27, ha_99l, ha_99s, hg_86_26, wp_imul, wp_iadd, hg_86_8, ha_89l, ha_89s, wp_iinc_1_1, wp_goto, al_2498, wp_return, nl_i, nl_r, nl_k, nl_j, nl_l, nI_add, pk_mul, pk_sub, tl_s, tl_n, aL_inl, u2_same, u2_ab, u2_aq, nI_l, lN_i, Nat.add_zero, Nat.zero_add, Nat.zero_le, true_and, and_true, b2n_10, b2n_T, b2n_F, b2n_0, Decidable.not_not, not_true_eq_false, not_false_eq_true, Nat.reduceAdd, Nat.reduceMul, Nat.reduceSub, en, hu, setRow_u, puT_u]
    exact ih (i + 1) (by omega)
theorem t_39 (h15 : N 86 26 ≤ 15) : aMm ko d 39 [.ref 86] (hp D N I J x) Q = Q none (hp D (setRow N 99 (puT (N 89) (N 99) (N 86 26) 111)) I J x) := by
  have h := @l_39 ko d D N I J x Q (N 86 26) (N 99) rfl h15 111 0 rfl
  rw [puT_0, setRow_id] at h
  rw [me_39]
  simp (disch := (first | omega | exact aCat_8 (by with_unfolding_all rfl) | exact rk_lt (by with_unfolding_all rfl) | exact aCat_16 (by with_unfolding_all rfl) | exact rk_eq (by with_unfolding_all rfl) | assumption | exact b2n_lt _ | exact id_b (by with_unfolding_all rfl) | (simp (disch := omega) only [u2_same, u2_ab, u2_aq]; done) | (simp (disch := omega) only [u2_same, u2_ab, u2_aq]; omega) | fail)) only [al_2496, wk_0, wp_istore_1, wp_jsr, wp_iload_1, wk_111, wn_ge_t, wn_ge_f, wp_aloadr_0, wp_aloadk_0, hg_86_27, ha_99l, ha_99s, hg_86_26, wp_imul, wp_iadd, hg_86_8, ha_89l, ha_89s, wp_iinc_1_1, wp_goto, al_2498, wp_return, nl_i, nl_r, nl_k, nl_j, nl_l, nI_add, pk_mul, pk_sub, tl_s, tl_n, aL_inl, u2_same, u2_ab, u2_aq, nI_l, lN_i, Nat.add_zero, Nat.zero_add, Nat.zero_le, true_and, and_true, b2n_10, b2n_T, b2n_F, b2n_0, Decidable.not_not, not_true_eq_false, not_false_eq_true, Nat.reduceAdd, Nat.reduceMul, Nat.reduceSub]
  exact h
def shT (T : Nat → Nat) (i : Nat) : Nat → Nat := fun q => if q < i then T (q + 111) else T q
theorem shT_0 {T : Nat → Nat} : shT T 0 = T := by
  funext q
  unfold shT
  rw [if_neg (by omega)]
theorem shT_u {T : Nat → Nat} {i : Nat} : upn (shT T i) i (T (i + 111)) = shT T (i + 1) := by
  funext q
  unfold upn shT
  by_cases h : q = i
  · subst h
    rw [if_pos rfl, if_pos (by omega)]
  · rw [if_neg h]
    by_cases h2 : q < i
    · rw [if_pos h2, if_pos (by omega)]
    · rw [if_neg h2, if_neg (by omega)]
theorem shT_rd {T : Nat → Nat} {i : Nat} : shT T i (i + 111) = T (i + 111) := by
  unfold shT
  rw [if_neg (by omega)]
theorem l_44 {a : Int32} {T : Nat → Nat} : ∀ j i : Nat, i + j = 1665 → aWp ko d 44 (aP.1 (Int.toNat 2817)) [.ref 86, .int a, .int (nI i)] [] (hp D (setRow N 99 (shT T i)) I J x) (aL Q) = aWp ko d 44 (aP.1 (Int.toNat 2818)) [.ref 86, .int a, .int (nI 1665)] [] (hp D (setRow N 99 (shT T 1665)) I J x) (aL Q) := by
  intro j
  induction j with
  | zero =>
    intro i hi
    have e : i = 1665 := by omega
    subst e
    simp (disch := (first | omega | exact aCat_8 (by with_unfolding_all rfl) | exact rk_lt (by with_unfolding_all rfl) | exact aCat_16 (by with_unfolding_all rfl) | exact rk_eq (by with_unfolding_all rfl) | assumption | exact b2n_lt _ | exact id_b (by with_unfolding_all rfl) | (simp (disch := omega) only [u2_same, u2_ab, u2_aq]; done) | (simp (disch := omega) only [u2_same, u2_ab, u2_aq]; omega) | fail)) only [al_2816, wp_aloadr_0, wp_aloadk_0, wp_dupi, wp_dupr, hg_86_26, wk_1, wp_iadd, hp_86_26, wk_15, wn_le_t, wn_le_f, wk_0, wp_istore_2, wp_jsr, al_2817, wp_iload_2, wk_1665, wn_ge_t, wn_ge_f, hg_86_27, ha_99l, ha_99s, wk_111, wp_iinc_2_1, wp_goto, wp_isub, al_2819, wp_iload_1, wp_ireturn, nl_i, nl_r, nl_k, nl_j, nl_l, nI_add, pk_mul, pk_sub, tl_s, tl_n, aL_inl, u2_same, u2_ab, u2_aq, nI_l, lN_i, Nat.add_zero, Nat.zero_add, Nat.zero_le, true_and, and_true, b2n_10, b2n_T, b2n_F, b2n_0, Decidable.not_not, not_true_eq_false, not_false_eq_true, Nat.reduceAdd, Nat.reduceMul, Nat.reduceSub]
  | succ j ih =>
    intro i hi
    rw [al_2817]
    simp (disch := (first | omega | exact aCat_8 (by with_unfolding_all rfl) | exact rk_lt (by with_unfolding_all rfl) | exact aCat_16 (by with_unfolding_all rfl) | exact rk_eq (by with_unfolding_all rfl) | assumption | exact b2n_lt _ | exact id_b (by with_unfolding_all rfl) | (simp (disch := omega) only [u2_same, u2_ab, u2_aq]; done) | (simp (disch := omega) only [u2_same, u2_ab, u2_aq]; omega) | fail)) only [al_2816, wp_aloadr_0, wp_aloadk_0, wp_dupi, wp_dupr, hg_86_26, wk_1, wp_iadd, hp_86_26, wk_15, wn_le_t, wn_le_f, wk_0, wp_istore_2, wp_jsr, wp_iload_2, wk_1665, wn_ge_t, wn_ge_f, hg_86_27, ha_99l, ha_99s, wk_111, wp_iinc_2_1, wp_goto, wp_isub, al_2819, wp_iload_1, wp_ireturn, nl_i, nl_r, nl_k, nl_j, nl_l, nI_add, pk_mul, pk_sub, tl_s, tl_n, aL_inl, u2_same, u2_ab, u2_aq, nI_l, lN_i, Nat.add_zero, Nat.zero_add, Nat.zero_le, true_and, and_true, b2n_10, b2n_T, b2n_F, b2n_0, Decidable.not_not, not_true_eq_false, not_false_eq_true, Nat.reduceAdd, Nat.reduceMul, Nat.reduceSub, setRow_s, shT_rd, setRow_u, shT_u]
    exact ih (i + 1) (by omega)
/-- one row more counts -/
def adN (N : Nat → Nat → Nat) : Nat → Nat → Nat := if N 86 26 < 15 then u2 N 86 26 (N 86 26 + 1) else u2 (setRow N 99 (shT (N 99) 1665)) 86 26 15
theorem t_44 {a : Int32} (h15 : N 86 26 ≤ 15) : aMm ko d 44 [.ref 86, .int a] (hp D N I J x) Q = Q (some (.int a)) (hp D (adN N) I J x) := by
  rw [me_44]
  unfold adN
  by_cases hu : N 86 26 < 15
  · rw [if_pos hu]
    simp (disch := (first | omega | exact aCat_8 (by with_unfolding_all rfl) | exact rk_lt (by with_unfolding_all rfl) | exact aCat_16 (by with_unfolding_all rfl) | exact rk_eq (by with_unfolding_all rfl) | assumption | exact b2n_lt _ | exact id_b (by with_unfolding_all rfl) | (simp (disch := omega) only [u2_same, u2_ab, u2_aq]; done) | (simp (disch := omega) only [u2_same, u2_ab, u2_aq]; omega) | fail)) only [al_2816, wp_aloadr_0, wp_aloadk_0, wp_dupi, wp_dupr, hg_86_26, wk_1, wp_iadd, hp_86_26, wk_15, wn_le_t, wn_le_f, wk_0, wp_istore_2, wp_jsr, wp_iload_2, wk_1665, wn_ge_t, wn_ge_f, hg_86_27, ha_99l, ha_99s, wk_111, wp_iinc_2_1, wp_goto, al_2818, wp_isub, al_2819, wp_iload_1, wp_ireturn, nl_i, nl_r, nl_k, nl_j, nl_l, nI_add, pk_mul, pk_sub, tl_s, tl_n, aL_inl, u2_same, u2_ab, u2_aq, nI_l, lN_i, Nat.add_zero, Nat.zero_add, Nat.zero_le, true_and, and_true, b2n_10, b2n_T, b2n_F, b2n_0, Decidable.not_not, not_true_eq_false, not_false_eq_true, Nat.reduceAdd, Nat.reduceMul, Nat.reduceSub]
  · rw [if_neg hu]
    have e15 : N 86 26 = 15 := by omega
    have e99 : u2 N 86 26 16 99 = N 99 := u2_nb (by decide)
    have en : ∀ (T : Nat → Nat) (b : Nat), b ≠ 99 → setRow (u2 N 86 26 16) 99 T b = u2 N 86 26 16 b := fun T b hb => setRow_n hb
    have efin : u2 (setRow (u2 N 86 26 16) 99 (shT (N 99) 1665)) 86 26 15 = u2 (setRow N 99 (shT (N 99) 1665)) 86 26 15 := by
      funext b q
      unfold u2 setRow
      by_cases z : b = 86 ∧ q = 26
      · rw [if_pos z, if_pos z]
      · rw [if_neg z, if_neg z]
        by_cases y : b = 99
        · rw [if_pos y, if_pos y]
        · rw [if_neg y, if_neg y]
          simp [z]
    have h := @l_44 ko d D (u2 N 86 26 16) I J x Q a (N 99) 1665 0 rfl
    rw [shT_0] at h
    have e0 : setRow (u2 N 86 26 16) 99 (N 99) = u2 N 86 26 16 := by rw [← e99, setRow_id]
    rw [e0] at h
    simp (disch := (first | omega | exact aCat_8 (by with_unfolding_all rfl) | exact rk_lt (by with_unfolding_all rfl) | exact aCat_16 (by with_unfolding_all rfl) | exact rk_eq (by with_unfolding_all rfl) | assumption | exact b2n_lt _ | exact id_b (by with_unfolding_all rfl) | (simp (disch := omega) only [u2_same, u2_ab, u2_aq]; done) | (simp (disch := omega) only [u2_same, u2_ab, u2_aq]; omega) | fail)) only [al_2816, wp_aloadr_0, wp_aloadk_0, wp_dupi, wp_dupr, hg_86_26, wk_1, wp_iadd, hp_86_26, wk_15, wn_le_t, wn_le_f, wk_0, wp_istore_2, wp_jsr, wp_iload_2, wk_1665, wn_ge_t, wn_ge_f, hg_86_27, ha_99l, ha_99s, wk_111, wp_iinc_2_1, wp_goto, al_2818, wp_isub, al_2819, wp_iload_1, wp_ireturn, nl_i, nl_r, nl_k, nl_j, nl_l, nI_add, pk_mul, pk_sub, tl_s, tl_n, aL_inl, u2_same, u2_ab, u2_aq, nI_l, lN_i, Nat.add_zero, Nat.zero_add, Nat.zero_le, true_and, and_true, b2n_10, b2n_T, b2n_F, b2n_0, Decidable.not_not, not_true_eq_false, not_false_eq_true, Nat.reduceAdd, Nat.reduceMul, Nat.reduceSub, e15]
    rw [h, al_2818]
    simp (disch := (first | omega | exact aCat_8 (by with_unfolding_all rfl) | exact rk_lt (by with_unfolding_all rfl) | exact aCat_16 (by with_unfolding_all rfl) | exact rk_eq (by with_unfolding_all rfl) | assumption | exact b2n_lt _ | exact id_b (by with_unfolding_all rfl) | (simp (disch := omega) only [u2_same, u2_ab, u2_aq]; done) | (simp (disch := omega) only [u2_same, u2_ab, u2_aq]; omega) | fail)) only [al_2816, wp_aloadr_0, wp_aloadk_0, wp_dupi, wp_dupr, hg_86_26, wk_1, wp_iadd, hp_86_26, wk_15, wn_le_t, wn_le_f, wk_0, wp_istore_2, wp_jsr, wp_iload_2, wk_1665, wn_ge_t, wn_ge_f, hg_86_27, ha_99l, ha_99s, wk_111, wp_iinc_2_1, wp_goto, al_2818, wp_isub, al_2819, wp_iload_1, wp_ireturn, nl_i, nl_r, nl_k, nl_j, nl_l, nI_add, pk_mul, pk_sub, tl_s, tl_n, aL_inl, u2_same, u2_ab, u2_aq, nI_l, lN_i, Nat.add_zero, Nat.zero_add, Nat.zero_le, true_and, and_true, b2n_10, b2n_T, b2n_F, b2n_0, Decidable.not_not, not_true_eq_false, not_false_eq_true, Nat.reduceAdd, Nat.reduceMul, Nat.reduceSub, en, Nat.reduceSub]
    rw [efin]
end H2
