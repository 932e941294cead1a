/-! law. From wip/whole/src. -/
theorem hg_c {c c' : Nat → Nat} : ∀ {n : Nat}, (∀ k, k < n → c k = c' k) → hg c n = hg c' n := by
  intro n
  induction n with
  | zero => intro _; rfl
  | succ n ih =>
    intro h
    rw [hg, hg, h n (by omega), ih (fun k hk => h k (by omega))]
theorem rf_cg {c c' : Nat → Nat} {a : Nat → Int32} : ∀ {n : Nat}, (∀ k, k < n → c k = c' k) → rf c a n = rf c' a n := by
  intro n
  induction n with
  | zero => intro _; rfl
  | succ n ih =>
    intro h
    rw [rf, rf, h n (by omega), ih (fun k hk => h k (by omega)), hg_c (fun k hk => h k (by omega))]
theorem rlv_c {c c' : Nat → Nat} {n : Nat} {a : Nat → Int32} (h : ∀ k, k < n → c k = c' k) : rlv c n a = rlv c' n a := by
  unfold rlv
  rw [rf_cg h]
theorem okc_c {c c' : Nat → Nat} {n : Nat} (h : ∀ k, k < n → c k = c' k) (ho : okc c n) : okc c' n := by
  obtain ⟨h1, h2, h3⟩ := ho
  refine ⟨h1, fun z => by rw [← hg_c h]; exact h2 z, fun k hk => ?_⟩
  rw [← h k hk, ← hg_c (fun i hi => h i (by omega))]
  exact h3 k hk
/-- the row of a list, its last first -/
def lkL : List Nat → Nat → Nat
  | [], _ => 0
  | c :: L, k => if k = L.length then c else lkL L k
theorem stk_lk : ∀ {L : List Nat}, stk (lkL L) (fun c => c) L := by
  intro L
  induction L with
  | nil => trivial
  | cons c L ih =>
    refine ⟨by rw [lkL, if_pos rfl], stk_f (fun q hq => ?_) ih⟩
    rw [lkL, if_neg (by omega)]
/-- the memory as another rule would have it -/
def otM (N : Nat → Nat → Nat) (c : Nat → Nat) (n : Nat) : Nat → Nat → Nat := u2 (setRow N 93 c) 86 18 n
theorem ot_93 {N : Nat → Nat → Nat} {c : Nat → Nat} {n : Nat} : otM N c n 93 = c := by
  unfold otM
  rw [u2_nb (by decide), setRow_s]
theorem ot_18 {N : Nat → Nat → Nat} {c : Nat → Nat} {n : Nat} : otM N c n 86 18 = n := u2_same _ _ _ _
theorem ot_88 {N : Nat → Nat → Nat} {c : Nat → Nat} {n : Nat} : otM N c n 88 = N 88 := by
  unfold otM
  rw [u2_nb (by decide), setRow_n (by decide)]
theorem ot_6 {N : Nat → Nat → Nat} {c : Nat → Nat} {n : Nat} : otM N c n 86 6 = N 86 6 := by
  unfold otM
  rw [u2_aq (by decide), setRow_n (by decide)]
theorem ot_sk {N : Nat → Nat → Nat} {c : Nat → Nat} {n : Nat} : skR (otM N c n) = skR N := by
  unfold skR
  rw [ot_88, ot_6]
section LW
variable {ko : aKo} {d k : Nat} {is : List Instr} {ls st : List Value} {σ : aH} {D : Nat → Nat} {N : Nat → Nat → Nat} {I : Nat → Nat → Int32} {J : Nat → Nat → Int64} {x t : Nat} {Q : Option Value → aH → Prop} {P : (Option Value ⊕ Unit) → aH → Prop}
theorem ot_G {c : Nat → Nat} {n : Nat} {S : Nat → Nat} (h : invB D N I J t) : crsG (D 2) (D 3) c n (skC N) S = crsS D (otM N c n) S := by
  rw [inv_sk h, h.1.2.1, h.1.2.2.1]
  unfold crsG crsS dslG dsl
  rw [ot_93, ot_18, ot_sk]
theorem ot_ds {M : Nat → Nat → Nat} {c : Nat → Nat} {n : Nat} {S : Nat → Nat} {C : Nat} (h1 : ∀ k, k < n → M 93 k = c k) (h2 : M 86 18 = n) (h3 : M 88 = N 88) (h4 : M 86 6 = N 86 6) : dsl C M S = dsl C (otM N c n) S := by
  funext g b
  unfold dsl
  rw [ot_93, ot_18, ot_sk, h2, rlv_c h1]
  unfold skR
  rw [h3, h4]
/-- what the class leaves behind a law: all but scratch, the text, what was told -/
def lwK (D : Nat → Nat) (N N1 : Nat → Nat → Nat) (I I1 : Nat → Nat → Int32) (J J1 : Nat → Nat → Int64) : Prop := (∀ b q, kpN b q = true → ¬ (b = 1 ∧ q = 1) → N1 b q = N b q) ∧ sI I1 I ∧ sJ J1 J ∧ N1 1 1 = 0 ∧ (∀ b q, 86 ≤ b → N1 b q = N b q) ∧ ∀ q, J1 87 q = J 87 q
/-- both courses, by the class -/
theorem k_214g {N0 : Nat → Nat → Nat} {I0 : Nat → Nat → Int32} {c : Nat → Nat} {n : Nat} {v1 : Value} (h : invB D N0 I0 J t) (hc : okc c n) (h1 : ∀ b q, b ≠ 17 → ¬ (b = 14 ∧ q = 2) → ¬ (b = 1 ∧ q = 1) → N b q = N0 b q) (h2 : ∀ b q, b ≠ 18 → b ≠ 19 → b ≠ 15 → I b q = I0 b q) (h11 : N 1 1 = 0) (hR : ruO N I 14 c n)
    (hQ : ∀ (N1 : Nat → Nat → Nat) (I1 : Nat → Nat → Int32) (J1 : Nat → Nat → Int64), lwK D N0 N1 I0 I1 J J1 → tdC N1 J1 2 (fun i => if i = 0 then lN (crsS D (otM N0 c n) (N0 89)).1 else lN (crsS D N0 (N0 89)).1) → Q (some (.int (mth (D 1) (crsS D (otM N0 c n) (N0 89))))) (hp D N1 I1 J1 x)) : aWp ko d 214 (aP.1 (Int.toNat 13697)) [.ref 0, .int (-1), v1] [] (hp D N I J x) (aL Q) := by
  have hF := dm_F h.1.1
  have hK1 := crsS_K (N := N0) h.1.1 h.2.2.2.2.1.1
  have hK2 := crsS_K (N := otM N0 c n) h.1.1 h.2.2.2.2.1.1
  have hA0 := inv_rv h
  have e91 : N 9 1 = N0 9 1 := h1 9 1 (by decide) (by omega) (by omega)
  have hsk : skC N = skC N0 := by
    unfold skC
    funext q
    rw [e91, h1 10 _ (by decide) (by omega) (by omega)]
  have hA : rvA D N I J 20 11 (N0 93) (N0 86 18) (N0 89) := ⟨ldO_f hA0.1 (fun q => ⟨h1 6 q (by decide) (by omega) (by omega), h1 7 q (by decide) (by omega) (by omega)⟩) (fun q => h2 8 q (by decide) (by decide) (by decide)) (fun _ => rfl), clS_c hA0.2.1 (fun q => h1 20 q (by decide) (by omega) (by omega)) (fun q => h1 21 q (by decide) (by omega) (by omega)) (fun _ => rfl), hA0.2.2.1, ⟨(h1 11 2 (by decide) (by omega) (by omega)).trans hA0.2.2.2.1.1, fun k hk => (h2 12 k (by decide) (by decide) (by decide)).trans (hA0.2.2.2.1.2 k hk)⟩, hA0.2.2.2.2⟩
  rw [al_13697]
  simp (disch := (first | omega | exact aCat_8 (by with_unfolding_all rfl) | exact rk_lt (by with_unfolding_all rfl) | exact aCat_16 (by with_unfolding_all rfl) | exact rk_eq (by with_unfolding_all rfl) | assumption | exact b2n_lt _ | exact id_b (by with_unfolding_all rfl) | (simp (disch := omega) only [u2_same, u2_ab, u2_aq]; done) | (simp (disch := omega) only [u2_same, u2_ab, u2_aq]; omega) | fail)) only [al_13696, wp_aloadr_0, wp_aloadk_0, hg_0_6, hg_0_0, hg_0_5, wc_269, wp_istore_1, wc_289, wp_iload_1, wk_m1, wn_eq_t, wn_eq_f, wk_m10000, wp_isub, wp_ireturn, al_13697, hg_0_10, hg_0_7, hg_0_4, wc_260, hg_26_9, wp_istore_2, hg_0_1, wc_292, t_292, wp_i2l, wc_293, t_293, wp_iload_2, hg_26_11, nl_i, nl_r, nl_k, nl_j, nl_l, nI_add, pk_mul, pk_sub, tl_s, tl_n, aL_inl, u2_same, u2_ab, u2_aq, nI_l, lN_i, Nat.add_zero, Nat.zero_add, Nat.zero_le, true_and, and_true, b2n_10, b2n_T, b2n_F, b2n_0, Decidable.not_not, not_true_eq_false, not_false_eq_true, Nat.reduceAdd, Nat.reduceMul, Nat.reduceSub]
  refine t_260 (s := 20) (ru := 11) rfl rfl hA (by rw [e91]; exact inv_s1 h) (by rw [e91]; exact inv_s2 h) ?_
  intro N1 I1 J1 _ hN1 hI1 hJ1 hc1
  rw [hsk, inv_G h, h.1.2.2.1] at hc1
  have l1 : N1 26 9 = (crsS D N0 (N0 89)).1 := hc1.1
  have f91 : N1 9 1 = N 9 1 := hN1 9 1 (by decide) (by omega)
  have hsk1 : skC N1 = skC N0 := by
    rw [← hsk]
    unfold skC
    funext q
    rw [f91, hN1 10 _ (by decide) (by omega)]
  have hA2 : rvA D N1 I1 J1 20 14 c n (N0 89) := ⟨ldO_f hA.1 (fun q => ⟨hN1 6 q (by decide) (by omega), hN1 7 q (by decide) (by omega)⟩) (fun q => hI1 8 q (by decide) (by decide) (by decide) (by decide) (by omega)) (fun q => hJ1 5 q (by decide) (by omega)), clS_c hA.2.1 (fun q => hN1 20 q (by decide) (by omega)) (fun q => hN1 21 q (by decide) (by omega)) (fun q => hJ1 20 q (by decide) (by omega)), hA.2.2.1, ⟨(hN1 14 2 (by decide) (by omega)).trans hR.1, fun k hk => (hI1 15 k (by decide) (by decide) (by decide) (by decide) (by omega)).trans (hR.2 k hk)⟩, hc⟩
  simp (disch := (first | omega | exact aCat_8 (by with_unfolding_all rfl) | exact rk_lt (by with_unfolding_all rfl) | exact aCat_16 (by with_unfolding_all rfl) | exact rk_eq (by with_unfolding_all rfl) | assumption | exact b2n_lt _ | exact id_b (by with_unfolding_all rfl) | (simp (disch := omega) only [u2_same, u2_ab, u2_aq]; done) | (simp (disch := omega) only [u2_same, u2_ab, u2_aq]; omega) | fail)) only [al_13696, wp_aloadr_0, wp_aloadk_0, hg_0_6, hg_0_0, hg_0_5, wc_269, wp_istore_1, wc_289, wp_iload_1, wk_m1, wn_eq_t, wn_eq_f, wk_m10000, wp_isub, wp_ireturn, al_13697, hg_0_10, hg_0_7, hg_0_4, wc_260, hg_26_9, wp_istore_2, hg_0_1, wc_292, t_292, wp_i2l, wc_293, t_293, wp_iload_2, hg_26_11, nl_i, nl_r, nl_k, nl_j, nl_l, nI_add, pk_mul, pk_sub, tl_s, tl_n, aL_inl, u2_same, u2_ab, u2_aq, nI_l, lN_i, Nat.add_zero, Nat.zero_add, Nat.zero_le, true_and, and_true, b2n_10, b2n_T, b2n_F, b2n_0, Decidable.not_not, not_true_eq_false, not_false_eq_true, Nat.reduceAdd, Nat.reduceMul, Nat.reduceSub, l1]
  refine t_260 (s := 20) (ru := 14) rfl rfl hA2 (by rw [f91, e91]; exact inv_s1 h) (by rw [f91, e91]; exact inv_s2 h) ?_
  intro N2 I2 J2 _ hN2 hI2 hJ2 hc2
  rw [hsk1, ot_G h, h.1.2.2.1] at hc2
  have l2 : N2 26 9 = (crsS D (otM N0 c n) (N0 89)).1 := hc2.1
  have m2 : I2 26 11 = mth (D 1) (crsS D (otM N0 c n) (N0 89)) := hc2.2.2.2.1
  have b1 : (crsS D N0 (N0 89)).1 ≤ 36 := by have := hK1.1; omega
  generalize hA1 : (crsS D N0 (N0 89)).1 = L1 at l1 b1 hQ ⊢
  generalize hA3 : crsS D (otM N0 c n) (N0 89) = B at l2 m2 hK2 hQ ⊢
  have b2 : B.1 ≤ 36 := by have := hK2.1; omega
  have hx := hQ (u2 (u2 (u2 N2 3 1 0) 3 1 1) 3 1 2) I2 (u2 (u2 J2 4 0 (lN B.1)) 4 1 (lN L1)) ⟨fun b q z y => by
      have z3 : b ≠ 3 := by rintro rfl; cases z
      rw [u2_ab z3, u2_ab z3, u2_ab z3, gN_s hN2 b q z, gN_s hN1 b q z]
      exact h1 b q (by rintro rfl; cases z) (by rintro ⟨rfl, rfl⟩; cases z) y, fun b q z => by
      rw [fI_s hI2 b q z, fI_s hI1 b q z]
      exact h2 b q (by rintro rfl; cases z) (by rintro rfl; cases z) (by rintro rfl; cases z), fun b q z => by
      have z4 : b ≠ 4 := by rintro rfl; cases z
      rw [u2_ab z4, u2_ab z4, fJ_s hJ2 b q z, fJ_s hJ1 b q z], by
      rw [u2_ab (by decide), u2_ab (by decide), u2_ab (by decide), hN2 1 1 (by decide) (by omega), hN1 1 1 (by decide) (by omega)]
      exact h11, fun b q z => by
      rw [u2_ab (by omega), u2_ab (by omega), u2_ab (by omega), hN2 b q (by omega) (by omega), hN1 b q (by omega) (by omega)]
      exact h1 b q (by omega) (by omega) (by omega), fun q => by
      rw [u2_ab (by decide), u2_ab (by decide), hJ2 87 q (by decide) (by omega), hJ1 87 q (by decide) (by omega)]⟩ ⟨u2_same _ _ _ _, fun i hi => by
      have h3 : i = 0 ∨ i = 1 := by omega
      rcases h3 with rfl | rfl
      · rw [u2_aq (by decide), u2_same]
        exact (if_pos rfl).symm
      · rw [u2_same]
        exact (if_neg (by decide)).symm⟩
  simp (disch := (first | omega | exact aCat_8 (by with_unfolding_all rfl) | exact rk_lt (by with_unfolding_all rfl) | exact aCat_16 (by with_unfolding_all rfl) | exact rk_eq (by with_unfolding_all rfl) | assumption | exact b2n_lt _ | exact id_b (by with_unfolding_all rfl) | (simp (disch := omega) only [u2_same, u2_ab, u2_aq]; done) | (simp (disch := omega) only [u2_same, u2_ab, u2_aq]; omega) | fail)) only [al_13696, wp_aloadr_0, wp_aloadk_0, hg_0_6, hg_0_0, hg_0_5, wc_269, wp_istore_1, wc_289, wp_iload_1, wk_m1, wn_eq_t, wn_eq_f, wk_m10000, wp_isub, wp_ireturn, al_13697, hg_0_10, hg_0_7, hg_0_4, wc_260, hg_26_9, wp_istore_2, hg_0_1, wc_292, t_292, wp_i2l, wc_293, t_293, wp_iload_2, hg_26_11, nl_i, nl_r, nl_k, nl_j, nl_l, nI_add, pk_mul, pk_sub, tl_s, tl_n, aL_inl, u2_same, u2_ab, u2_aq, nI_l, lN_i, Nat.add_zero, Nat.zero_add, Nat.zero_le, true_and, and_true, b2n_10, b2n_T, b2n_F, b2n_0, Decidable.not_not, not_true_eq_false, not_false_eq_true, Nat.reduceAdd, Nat.reduceMul, Nat.reduceSub, l2, m2]
  exact hx
theorem l_98 {N0 : Nat → Nat → Nat} {n : Nat} {v1 v2 : Value} {w3 : Int32} (hn : n ≤ 40) (h18 : N0 86 18 = n) (hQ : ∀ N : Nat → Nat → Nat, (∀ b q, b ≠ 121 → N b q = N0 b q) → (∀ i, i < n → N 121 i = N0 93 i) → aWp ko d 98 (aP.1 (Int.toNat 6275)) [.ref 86, v1, v2, .int w3, .int (nI n)] [] (hp D N I J x) (aL Q)) :
    ∀ (j i : Nat) (N : Nat → Nat → Nat), i + j = n → (∀ b q, b ≠ 121 → N b q = N0 b q) → (∀ q, q < i → N 121 q = N0 93 q) → aWp ko d 98 (aP.1 (Int.toNat 6274)) [.ref 86, v1, v2, .int w3, .int (nI i)] [] (hp D N I J x) (aL Q) := by
  intro j
  induction j with
  | zero =>
    intro i N hj hN hv
    have e : i = n := by omega
    subst e
    have e18 : N 86 18 = i := (hN 86 18 (by decide)).trans h18
    have hx := hQ N hN hv
    rw [al_6274]
    simp (disch := (first | omega | exact aCat_8 (by with_unfolding_all rfl) | exact rk_lt (by with_unfolding_all rfl) | exact aCat_16 (by with_unfolding_all rfl) | exact rk_eq (by with_unfolding_all rfl) | assumption | exact b2n_lt _ | exact id_b (by with_unfolding_all rfl) | (simp (disch := omega) only [u2_same, u2_ab, u2_aq]; done) | (simp (disch := omega) only [u2_same, u2_ab, u2_aq]; omega) | fail)) only [al_6272, wp_aloadr_0, wp_aloadk_0, wk_0, hp_86_0, wc_13, wp_istore_1, wp_iload_1, wz_ge_t, wz_ge_f, wm_ge_1, wm_ge_2, wk_1, wp_iadd, wk_10000, wp_isub, wp_ireturn, al_6273, hg_86_8, ha_89l, ha_89s, wc_25, hg_86_24, wp_istore_2, hg_86_18, wp_istore_3, wp_istore_4, wp_jsr, wp_iload_4, wn_ge_t, wn_ge_f, hg_86_55, ha_121l, ha_121s, hg_86_16, ha_93l, ha_93s, wp_iinc_4_1, wp_goto, hg_86_17, ha_94l, ha_94s, hg_86_19, wc_21, wp_iload_3, hp_86_1, wp_i2l, wc_43, t_43, wp_iload_2, wc_58, nl_i, nl_r, nl_k, nl_j, nl_l, nI_add, pk_mul, pk_sub, tl_s, tl_n, aL_inl, u2_same, u2_ab, u2_aq, nI_l, lN_i, Nat.add_zero, Nat.zero_add, Nat.zero_le, true_and, and_true, b2n_10, b2n_T, b2n_F, b2n_0, Decidable.not_not, not_true_eq_false, not_false_eq_true, Nat.reduceAdd, Nat.reduceMul, Nat.reduceSub, e18]
    exact hx
  | succ j ih =>
    intro i N hj hN hv
    have e18 : N 86 18 = n := (hN 86 18 (by decide)).trans h18
    have hx := ih (i + 1) (u2 N 121 i (N 93 i)) (by omega) (fun b q z => by rw [u2_ab z]; exact hN b q z) (fun q hq => by
      rw [u2_rd]
      split
      · rename_i y
        rw [y.2]
        exact hN 93 i (by decide)
      · rename_i y
        exact hv q (by
          have : q ≠ i := fun w => y ⟨rfl, w⟩
          omega))
    rw [al_6274]
    simp (disch := (first | omega | exact aCat_8 (by with_unfolding_all rfl) | exact rk_lt (by with_unfolding_all rfl) | exact aCat_16 (by with_unfolding_all rfl) | exact rk_eq (by with_unfolding_all rfl) | assumption | exact b2n_lt _ | exact id_b (by with_unfolding_all rfl) | (simp (disch := omega) only [u2_same, u2_ab, u2_aq]; done) | (simp (disch := omega) only [u2_same, u2_ab, u2_aq]; omega) | fail)) only [al_6272, wp_aloadr_0, wp_aloadk_0, wk_0, hp_86_0, wc_13, wp_istore_1, wp_iload_1, wz_ge_t, wz_ge_f, wm_ge_1, wm_ge_2, wk_1, wp_iadd, wk_10000, wp_isub, wp_ireturn, al_6273, hg_86_8, ha_89l, ha_89s, wc_25, hg_86_24, wp_istore_2, hg_86_18, wp_istore_3, wp_istore_4, wp_jsr, wp_iload_4, wn_ge_t, wn_ge_f, hg_86_55, ha_121l, ha_121s, hg_86_16, ha_93l, ha_93s, wp_iinc_4_1, wp_goto, hg_86_17, ha_94l, ha_94s, hg_86_19, wc_21, wp_iload_3, hp_86_1, wp_i2l, wc_43, t_43, wp_iload_2, wc_58, nl_i, nl_r, nl_k, nl_j, nl_l, nI_add, pk_mul, pk_sub, tl_s, tl_n, aL_inl, u2_same, u2_ab, u2_aq, nI_l, lN_i, Nat.add_zero, Nat.zero_add, Nat.zero_le, true_and, and_true, b2n_10, b2n_T, b2n_F, b2n_0, Decidable.not_not, not_true_eq_false, not_false_eq_true, Nat.reduceAdd, Nat.reduceMul, Nat.reduceSub, e18]
    exact hx
/-- both courses, by the reference -/
theorem r_98g {N0 : Nat → Nat → Nat} {I0 : Nat → Nat → Int32} {J0 : Nat → Nat → Int64} {c : Nat → Nat} {n : Nat} {v1 v2 v3 v4 : Value} (h : invB D N0 I0 J0 t) (hc : okc c n) (hfr : ∀ b q, 86 ≤ b → b ≠ 94 → ¬ (b = 86 ∧ (q = 0 ∨ q = 11 ∨ q = 12 ∨ q = 13 ∨ q = 14 ∨ q = 19)) → N b q = N0 b q) (h94 : ∀ k, k < n → N 94 k = c k) (h19 : N 86 19 = n)
    (hQ : ∀ (N1 : Nat → Nat → Nat) (I1 : Nat → Nat → Int32) (J1 : Nat → Nat → Int64), (∀ b q, b ≠ 121 → b ≠ 93 → b ≠ 97 → b ≠ 98 → ¬ (b = 86 ∧ (q = 1 ∨ q = 18 ∨ q = 24 ∨ q = 25)) → N1 b q = N b q) → N1 86 18 = N0 86 18 → (∀ k, k < N0 86 18 → N1 93 k = N0 93 k) → (∀ b q, b ≠ 95 → b ≠ 96 → I1 b q = I b q) → (∀ b q, b ≠ 87 → J1 b q = J b q) → tdR N1 J1 2 (fun i => if i = 0 then lN (crsS D (otM N0 c n) (N0 89)).1 else lN (crsS D N0 (N0 89)).1) → Q (some (.int (mth (D 1) (crsS D (otM N0 c n) (N0 89))))) (hp D N1 I1 J1 x)) : aWp ko d 98 (aP.1 (Int.toNat 6273)) [.ref 86, v1, v2, v3, v4] [] (hp D N I J x) (aL Q) := by
  have hd := h.1.1
  have hF := dm_F hd
  have hK1 := crsS_K (N := N0) hd h.2.2.2.2.1.1
  have hK2 := crsS_K (N := otM N0 c n) hd h.2.2.2.2.1.1
  have n40 := h.2.2.2.1.1.1
  have e89 : N 89 = N0 89 := by funext q; exact hfr 89 q (by decide) (by decide) (by omega)
  have e88 : N 88 = N0 88 := by funext q; exact hfr 88 q (by decide) (by decide) (by omega)
  have e93 : N 93 = N0 93 := by funext q; exact hfr 93 q (by decide) (by decide) (by omega)
  have e18 : N 86 18 = N0 86 18 := hfr 86 18 (by decide) (by decide) (by omega)
  have e6 : N 86 6 = N0 86 6 := hfr 86 6 (by decide) (by decide) (by omega)
  have hs : smR N N0 := ⟨e93, e88, e18, e6⟩
  rw [al_6273]
  simp (disch := (first | omega | exact aCat_8 (by with_unfolding_all rfl) | exact rk_lt (by with_unfolding_all rfl) | exact aCat_16 (by with_unfolding_all rfl) | exact rk_eq (by with_unfolding_all rfl) | assumption | exact b2n_lt _ | exact id_b (by with_unfolding_all rfl) | (simp (disch := omega) only [u2_same, u2_ab, u2_aq]; done) | (simp (disch := omega) only [u2_same, u2_ab, u2_aq]; omega) | fail)) only [al_6272, wp_aloadr_0, wp_aloadk_0, wk_0, hp_86_0, wc_13, wp_istore_1, wp_iload_1, wz_ge_t, wz_ge_f, wm_ge_1, wm_ge_2, wk_1, wp_iadd, wk_10000, wp_isub, wp_ireturn, al_6273, hg_86_8, ha_89l, ha_89s, wc_25, hg_86_24, wp_istore_2, hg_86_18, wp_istore_3, wp_istore_4, wp_jsr, wp_iload_4, wn_ge_t, wn_ge_f, hg_86_55, ha_121l, ha_121s, hg_86_16, ha_93l, ha_93s, wp_iinc_4_1, wp_goto, hg_86_17, ha_94l, ha_94s, hg_86_19, wc_21, wp_iload_3, hp_86_1, wp_i2l, wc_43, t_43, wp_iload_2, wc_58, nl_i, nl_r, nl_k, nl_j, nl_l, nI_add, pk_mul, pk_sub, tl_s, tl_n, aL_inl, u2_same, u2_ab, u2_aq, nI_l, lN_i, Nat.add_zero, Nat.zero_add, Nat.zero_le, true_and, and_true, b2n_10, b2n_T, b2n_F, b2n_0, Decidable.not_not, not_true_eq_false, not_false_eq_true, Nat.reduceAdd, Nat.reduceMul, Nat.reduceSub]
  refine t_25 (Or.inl rfl) hd (by rw [e89]; exact h.2.2.2.2.1.1) (smR_rl hs (inv_rl h)) ?_
  intro N1 I1 hc1 hN1 hI1
  have hcc : crs0 (D 0) (D 1) (dsl (D 1) N (N 89)) (wlS (N 89)) (N 89 108) = crsS D N0 (N0 89) := by
    rw [e89, smR_dsl hs]
    rfl
  rw [hcc] at hc1
  have l1 : N1 86 24 = (crsS D N0 (N0 89)).1 := hc1.1
  have f18 : N1 86 18 = N0 86 18 := (hN1 86 18 rfl).trans e18
  simp (disch := (first | omega | exact aCat_8 (by with_unfolding_all rfl) | exact rk_lt (by with_unfolding_all rfl) | exact aCat_16 (by with_unfolding_all rfl) | exact rk_eq (by with_unfolding_all rfl) | assumption | exact b2n_lt _ | exact id_b (by with_unfolding_all rfl) | (simp (disch := omega) only [u2_same, u2_ab, u2_aq]; done) | (simp (disch := omega) only [u2_same, u2_ab, u2_aq]; omega) | fail)) only [al_6272, wp_aloadr_0, wp_aloadk_0, wk_0, hp_86_0, wc_13, wp_istore_1, wp_iload_1, wz_ge_t, wz_ge_f, wm_ge_1, wm_ge_2, wk_1, wp_iadd, wk_10000, wp_isub, wp_ireturn, al_6273, hg_86_8, ha_89l, ha_89s, wc_25, hg_86_24, wp_istore_2, hg_86_18, wp_istore_3, wp_istore_4, wp_jsr, wp_iload_4, wn_ge_t, wn_ge_f, hg_86_55, ha_121l, ha_121s, hg_86_16, ha_93l, ha_93s, wp_iinc_4_1, wp_goto, hg_86_17, ha_94l, ha_94s, hg_86_19, wc_21, wp_iload_3, hp_86_1, wp_i2l, wc_43, t_43, wp_iload_2, wc_58, nl_i, nl_r, nl_k, nl_j, nl_l, nI_add, pk_mul, pk_sub, tl_s, tl_n, aL_inl, u2_same, u2_ab, u2_aq, nI_l, lN_i, Nat.add_zero, Nat.zero_add, Nat.zero_le, true_and, and_true, b2n_10, b2n_T, b2n_F, b2n_0, Decidable.not_not, not_true_eq_false, not_false_eq_true, Nat.reduceAdd, Nat.reduceMul, Nat.reduceSub, l1, f18]
  refine l_98 (N0 := N1) (n := N0 86 18) n40 f18 ?_ (N0 86 18) 0 N1 (by omega) (fun _ _ _ => rfl) (fun q hq => absurd hq (Nat.not_lt_zero q))
  intro N2 hN2 hv2
  have g19 : N2 86 19 = n := by rw [hN2 86 19 (by decide), hN1 86 19 rfl]; exact h19
  have n40' := hc.1
  rw [al_6275]
  simp (disch := (first | omega | exact aCat_8 (by with_unfolding_all rfl) | exact rk_lt (by with_unfolding_all rfl) | exact aCat_16 (by with_unfolding_all rfl) | exact rk_eq (by with_unfolding_all rfl) | assumption | exact b2n_lt _ | exact id_b (by with_unfolding_all rfl) | (simp (disch := omega) only [u2_same, u2_ab, u2_aq]; done) | (simp (disch := omega) only [u2_same, u2_ab, u2_aq]; omega) | fail)) only [al_6272, wp_aloadr_0, wp_aloadk_0, wk_0, hp_86_0, wc_13, wp_istore_1, wp_iload_1, wz_ge_t, wz_ge_f, wm_ge_1, wm_ge_2, wk_1, wp_iadd, wk_10000, wp_isub, wp_ireturn, al_6273, hg_86_8, ha_89l, ha_89s, wc_25, hg_86_24, wp_istore_2, hg_86_18, wp_istore_3, wp_istore_4, wp_jsr, wp_iload_4, wn_ge_t, wn_ge_f, hg_86_55, ha_121l, ha_121s, hg_86_16, ha_93l, ha_93s, wp_iinc_4_1, wp_goto, hg_86_17, ha_94l, ha_94s, hg_86_19, wc_21, wp_iload_3, hp_86_1, wp_i2l, wc_43, t_43, wp_iload_2, wc_58, nl_i, nl_r, nl_k, nl_j, nl_l, nI_add, pk_mul, pk_sub, tl_s, tl_n, aL_inl, u2_same, u2_ab, u2_aq, nI_l, lN_i, Nat.add_zero, Nat.zero_add, Nat.zero_le, true_and, and_true, b2n_10, b2n_T, b2n_F, b2n_0, Decidable.not_not, not_true_eq_false, not_false_eq_true, Nat.reduceAdd, Nat.reduceMul, Nat.reduceSub, g19]
  refine t_21 (src := 94) (Or.inl rfl) (by omega) ?_
  intro N3 c1 c2 c3
  have q93 : ∀ k, k < n → N3 93 k = c k := fun k hk => by rw [c3 k hk, hN2 94 k (by decide), hN1 94 k rfl]; exact h94 k hk
  have q88 : N3 88 = N0 88 := by funext q; rw [c1 88 q (by decide) (by omega), hN2 88 q (by decide), hN1 88 q rfl, e88]
  have q6 : N3 86 6 = N0 86 6 := by rw [c1 86 6 (by decide) (by omega), hN2 86 6 (by decide), hN1 86 6 rfl, e6]
  have q89 : N3 89 = N0 89 := by funext q; rw [c1 89 q (by decide) (by omega), hN2 89 q (by decide), hN1 89 q rfl, e89]
  have hl3 : rlO N3 := ⟨by rw [c2]; exact okc_c (fun k hk => (q93 k hk).symm) hc, by rw [q6]; exact (inv_rl h).2.1, by rw [q6]; exact (inv_rl h).2.2⟩
  simp (disch := (first | omega | exact aCat_8 (by with_unfolding_all rfl) | exact rk_lt (by with_unfolding_all rfl) | exact aCat_16 (by with_unfolding_all rfl) | exact rk_eq (by with_unfolding_all rfl) | assumption | exact b2n_lt _ | exact id_b (by with_unfolding_all rfl) | (simp (disch := omega) only [u2_same, u2_ab, u2_aq]; done) | (simp (disch := omega) only [u2_same, u2_ab, u2_aq]; omega) | fail)) only [al_6272, wp_aloadr_0, wp_aloadk_0, wk_0, hp_86_0, wc_13, wp_istore_1, wp_iload_1, wz_ge_t, wz_ge_f, wm_ge_1, wm_ge_2, wk_1, wp_iadd, wk_10000, wp_isub, wp_ireturn, al_6273, hg_86_8, ha_89l, ha_89s, wc_25, hg_86_24, wp_istore_2, hg_86_18, wp_istore_3, wp_istore_4, wp_jsr, wp_iload_4, wn_ge_t, wn_ge_f, hg_86_55, ha_121l, ha_121s, hg_86_16, ha_93l, ha_93s, wp_iinc_4_1, wp_goto, hg_86_17, ha_94l, ha_94s, hg_86_19, wc_21, wp_iload_3, hp_86_1, wp_i2l, wc_43, t_43, wp_iload_2, wc_58, nl_i, nl_r, nl_k, nl_j, nl_l, nI_add, pk_mul, pk_sub, tl_s, tl_n, aL_inl, u2_same, u2_ab, u2_aq, nI_l, lN_i, Nat.add_zero, Nat.zero_add, Nat.zero_le, true_and, and_true, b2n_10, b2n_T, b2n_F, b2n_0, Decidable.not_not, not_true_eq_false, not_false_eq_true, Nat.reduceAdd, Nat.reduceMul, Nat.reduceSub]
  refine t_25 (Or.inl rfl) hd (by rw [q89]; exact h.2.2.2.2.1.1) hl3 ?_
  intro N4 I4 hc4 hN4 hI4
  have hcc4 : crs0 (D 0) (D 1) (dsl (D 1) N3 (N3 89)) (wlS (N3 89)) (N3 89 108) = crsS D (otM N0 c n) (N0 89) := by
    rw [q89, ot_ds (N := N0) q93 c2 q88 q6]
    rfl
  rw [hcc4] at hc4
  simp (disch := (first | omega | exact aCat_8 (by with_unfolding_all rfl) | exact rk_lt (by with_unfolding_all rfl) | exact aCat_16 (by with_unfolding_all rfl) | exact rk_eq (by with_unfolding_all rfl) | assumption | exact b2n_lt _ | exact id_b (by with_unfolding_all rfl) | (simp (disch := omega) only [u2_same, u2_ab, u2_aq]; done) | (simp (disch := omega) only [u2_same, u2_ab, u2_aq]; omega) | fail)) only [al_6272, wp_aloadr_0, wp_aloadk_0, wk_0, hp_86_0, wc_13, wp_istore_1, wp_iload_1, wz_ge_t, wz_ge_f, wm_ge_1, wm_ge_2, wk_1, wp_iadd, wk_10000, wp_isub, wp_ireturn, al_6273, hg_86_8, ha_89l, ha_89s, wc_25, hg_86_24, wp_istore_2, hg_86_18, wp_istore_3, wp_istore_4, wp_jsr, wp_iload_4, wn_ge_t, wn_ge_f, hg_86_55, ha_121l, ha_121s, hg_86_16, ha_93l, ha_93s, wp_iinc_4_1, wp_goto, hg_86_17, ha_94l, ha_94s, hg_86_19, wc_21, wp_iload_3, hp_86_1, wp_i2l, wc_43, t_43, wp_iload_2, wc_58, nl_i, nl_r, nl_k, nl_j, nl_l, nI_add, pk_mul, pk_sub, tl_s, tl_n, aL_inl, u2_same, u2_ab, u2_aq, nI_l, lN_i, Nat.add_zero, Nat.zero_add, Nat.zero_le, true_and, and_true, b2n_10, b2n_T, b2n_F, b2n_0, Decidable.not_not, not_true_eq_false, not_false_eq_true, Nat.reduceAdd, Nat.reduceMul, Nat.reduceSub]
  refine t_21 (src := 121) (Or.inr rfl) (by omega) ?_
  intro N5 d1 d2 d3
  have r93 : ∀ k, k < N0 86 18 → N5 93 k = N0 93 k := fun k hk => by rw [d3 k hk, hN4 121 k rfl, c1 121 k (by decide) (by omega), hv2 k hk, hN1 93 k rfl, e93]
  have l2 : N5 86 24 = (crsS D (otM N0 c n) (N0 89)).1 := by rw [d1 86 24 (by decide) (by omega)]; exact hc4.1
  have fr5 : ∀ b q, b ≠ 121 → b ≠ 93 → b ≠ 97 → b ≠ 98 → ¬ (b = 86 ∧ (q = 18 ∨ q = 24 ∨ q = 25)) → N5 b q = N b q := fun b q z1 z2 z3 z4 z5 => by
    have hc : frC b q = false := by
      unfold frC
      by_cases z6 : b = 86
      · subst z6
        have y1 : q ≠ 24 := by omega
        have y2 : q ≠ 25 := by omega
        simp [y1, y2]
      · simp [z3, z4, z6]
    rw [d1 b q z2 (by omega), hN4 b q hc, c1 b q z2 (by omega), hN2 b q z1, hN1 b q hc]
  have b1 : (crsS D N0 (N0 89)).1 ≤ 36 := by have := hK1.1; omega
  generalize hA1 : (crsS D N0 (N0 89)).1 = L1 at l1 b1 hQ ⊢
  generalize hA3 : crsS D (otM N0 c n) (N0 89) = B at l2 hc4 hK2 hQ ⊢
  have b2 : B.1 ≤ 36 := by have := hK2.1; omega
  have hcB : ∀ v, crO (u2 (u2 (u2 N5 86 1 0) 86 1 1) 86 1 v) B := fun v => ⟨by rw [u2_aq (by decide), u2_aq (by decide), u2_aq (by decide)]; exact l2, by rw [u2_aq (by decide), u2_aq (by decide), u2_aq (by decide), d1 86 25 (by decide) (by omega)]; exact hc4.2.1, fun k hk => by rw [u2_ab (by decide), u2_ab (by decide), u2_ab (by decide), d1 97 k (by decide) (by omega)]; exact hc4.2.2.1 k hk, fun g hg => by rw [u2_ab (by decide), u2_ab (by decide), u2_ab (by decide), d1 98 g (by decide) (by omega)]; exact hc4.2.2.2 g hg⟩
  have t58 := fun v (J : Nat → Nat → Int64) Q => t_58 (ko := ko) (d := d) (D := D) (I := I4) (J := J) (x := x) (Q := Q) hd (hcB v) hK2
  have hx := hQ (u2 (u2 (u2 N5 86 1 0) 86 1 1) 86 1 2) I4 (u2 (u2 J 87 0 (lN B.1)) 87 1 (lN L1)) (fun b q z1 z2 z3 z4 z5 => by
      rw [u2_rd, if_neg (by omega), u2_rd, if_neg (by omega), u2_rd, if_neg (by omega)]
      exact fr5 b q z1 z2 z3 z4 (by omega)) (by rw [u2_aq (by decide), u2_aq (by decide), u2_aq (by decide)]; exact d2) (fun k hk => by rw [u2_ab (by decide), u2_ab (by decide), u2_ab (by decide)]; exact r93 k hk) (fun b q z1 z2 => by rw [hI4 b q z1 z2, hI1 b q z1 z2]) (fun b q z => by rw [u2_ab z, u2_ab z]) ⟨u2_same _ _ _ _, fun i hi => by
      have h3 : i = 0 ∨ i = 1 := by omega
      rcases h3 with rfl | rfl
      · rw [u2_aq (by decide), u2_same]
        exact (if_pos rfl).symm
      · rw [u2_same]
        exact (if_neg (by decide)).symm⟩
  simp (disch := (first | omega | exact aCat_8 (by with_unfolding_all rfl) | exact rk_lt (by with_unfolding_all rfl) | exact aCat_16 (by with_unfolding_all rfl) | exact rk_eq (by with_unfolding_all rfl) | assumption | exact b2n_lt _ | exact id_b (by with_unfolding_all rfl) | (simp (disch := omega) only [u2_same, u2_ab, u2_aq]; done) | (simp (disch := omega) only [u2_same, u2_ab, u2_aq]; omega) | fail)) only [al_6272, wp_aloadr_0, wp_aloadk_0, wk_0, hp_86_0, wc_13, wp_istore_1, wp_iload_1, wz_ge_t, wz_ge_f, wm_ge_1, wm_ge_2, wk_1, wp_iadd, wk_10000, wp_isub, wp_ireturn, al_6273, hg_86_8, ha_89l, ha_89s, wc_25, hg_86_24, wp_istore_2, hg_86_18, wp_istore_3, wp_istore_4, wp_jsr, wp_iload_4, wn_ge_t, wn_ge_f, hg_86_55, ha_121l, ha_121s, hg_86_16, ha_93l, ha_93s, wp_iinc_4_1, wp_goto, hg_86_17, ha_94l, ha_94s, hg_86_19, wc_21, wp_iload_3, hp_86_1, wp_i2l, wc_43, t_43, wp_iload_2, wc_58, nl_i, nl_r, nl_k, nl_j, nl_l, nI_add, pk_mul, pk_sub, tl_s, tl_n, aL_inl, u2_same, u2_ab, u2_aq, nI_l, lN_i, Nat.add_zero, Nat.zero_add, Nat.zero_le, true_and, and_true, b2n_10, b2n_T, b2n_F, b2n_0, Decidable.not_not, not_true_eq_false, not_false_eq_true, Nat.reduceAdd, Nat.reduceMul, Nat.reduceSub, l2, t58]
  exact hx
end LW
