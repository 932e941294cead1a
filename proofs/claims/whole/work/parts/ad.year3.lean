/-! year: the reference reads acts. From wip/whole/src. -/
theorem sub48b : ∀ c, c < 48 → ¬ (lN 1 ≤ (nI c - nI 48).toInt64 ∧ (nI c - nI 48).toInt64 ≤ lN 9) := by decide +kernel
theorem ok_12 {T : Nat → Nat} {e p j : Nat} (hj : j ≤ 2) : okD T e p j = true ↔ p + j < e ∧ isD (T (p + j)) = true := by
  unfold okD
  have : decide (¬ (lenA (T p) = 3 ∧ j = 3)) = true := decide_eq_true (by omega)
  rw [this]
  simp only [Bool.true_or, Bool.and_true, Bool.and_eq_true, decide_eq_true_eq]
theorem ok_3 {T : Nat → Nat} {e p : Nat} (hl : lenA (T p) = 3) : okD T e p 3 = true ↔ p + 3 < e ∧ 49 ≤ T (p + 3) ∧ T (p + 3) ≤ 57 := by
  unfold okD
  rw [show decide (¬ (lenA (T p) = 3 ∧ 3 = 3)) = false from decide_eq_false (fun z => z ⟨hl, rfl⟩)]
  simp only [Bool.false_or, Bool.and_eq_true, decide_eq_true_eq]
  constructor
  · rintro ⟨a1, a2, a3⟩
    have := isD_iff.mp a2
    exact ⟨a1, a3, this.2⟩
  · rintro ⟨a1, a2, a3⟩
    exact ⟨a1, isD_iff.mpr ⟨by omega, a3⟩, a2⟩
/-- the first wrong place of the act at p -/
def yrB (T : Nat → Nat) (e p : Nat) : Option Nat := if lenA (T p) = 0 then some p else badA T e p (lenA (T p))
/-- which act: its place in nschw -/
def kdA (c : Nat) : Nat := if c = 110 then 0 else if c = 115 then 1 else if c = 99 then 2 else if c = 104 then 3 else 4
theorem ch_7 : ∀ j, j < 5 → ((chT 7).getD j 0 = 110 ∧ j = 0) ∨ ((chT 7).getD j 0 = 115 ∧ j = 1) ∨ ((chT 7).getD j 0 = 99 ∧ j = 2) ∨ ((chT 7).getD j 0 = 104 ∧ j = 3) ∨ ((chT 7).getD j 0 = 119 ∧ j = 4) := by decide
section YT
variable {ko : aKo} {d k : Nat} {is : List Instr} {ls st : List Value} {σ : aH} {D : Nat → Nat} {N : Nat → Nat → Nat} {I : Nat → Nat → Int32} {J : Nat → Nat → Int64} {x t : Nat} {Q : Option Value → aH → Prop} {P : (Option Value ⊕ Unit) → aH → Prop}
theorem t_6g {m n : Nat} (hn : N 86 11 = n) (h : n ≤ 80) (hm : m ≤ 80) (hQ : ∀ N' : Nat → Nat → Nat, txR N N' (min n m) 0 → Q (some (.int (nI n))) (hp D N' I J x)) : aMm ko d 6 [.ref 86, .int (nI m)] (hp D N I J x) Q := by
  rw [me_6]
  simp (disch := (first | omega | exact aCat_8 (by with_unfolding_all rfl) | exact rk_lt (by with_unfolding_all rfl) | exact aCat_16 (by with_unfolding_all rfl) | exact rk_eq (by with_unfolding_all rfl) | assumption | exact b2n_lt _ | exact id_b (by with_unfolding_all rfl) | (simp (disch := omega) only [u2_same, u2_ab, u2_aq]; done) | (simp (disch := omega) only [u2_same, u2_ab, u2_aq]; omega) | fail)) only [al_384, wp_aloadr_0, wp_aloadk_0, hg_86_11, wp_istore_2, wk_0, hp_86_11, hp_86_12, hp_86_14, wp_iload_2, wp_iload_1, wp_min, hp_86_13, wp_ireturn, nl_i, nl_r, nl_k, nl_j, nl_l, nI_add, pk_mul, pk_sub, tl_s, tl_n, aL_inl, u2_same, u2_ab, u2_aq, nI_l, lN_i, Nat.add_zero, Nat.zero_add, Nat.zero_le, true_and, and_true, b2n_10, b2n_T, b2n_F, b2n_0, Decidable.not_not, not_true_eq_false, not_false_eq_true, Nat.reduceAdd, Nat.reduceMul, Nat.reduceSub, hn]
  refine hQ _ ⟨u2_same _ _ _ _, ?_, ?_, ?_⟩
  · rw [u2_aq (by decide), u2_aq (by decide), u2_same]
  · rw [u2_aq (by decide), u2_aq (by decide), u2_aq (by decide), u2_same]
  · intro b q _ z
    rw [u2_rd, if_neg (by omega), u2_rd, if_neg (by omega), u2_rd, if_neg (by omega), u2_rd, if_neg (by omega)]
theorem t_7b {N0 : Nat → Nat → Nat} {n pos : Nat} (hx : txR N0 N n pos) (hn : n ≤ 80) (hd : pos < n ∧ 49 ≤ N0 91 pos ∧ N0 91 pos ≤ 57)
    (hQ : ∀ N' : Nat → Nat → Nat, txR N0 N' n (pos + 1) → Q (some (.int (nI (N0 91 pos - 48)))) (hp D N' I J x)) : aMm ko d 7 [.ref 86, .int (nI 1), .int (nI 9)] (hp D N I J x) Q := by
  obtain ⟨x1, x2, x3, x4⟩ := hx
  obtain ⟨a1, a2, a3⟩ := hd
  have e91 : N 91 pos = N0 91 pos := x4 91 pos (by decide) (by omega)
  have hb : 1 ≤ N0 91 pos - 48 ∧ N0 91 pos - 48 ≤ 9 := by omega
  have hq := hQ (u2 N 86 12 (pos + 1)) ⟨by rw [u2_aq (by decide)]; exact x1, u2_same _ _ _ _, by rw [u2_aq (by decide)]; exact x3, fun b q z1 z2 => by rw [u2_rd, if_neg (by omega)]; exact x4 b q z1 z2⟩
  rw [me_7]
  simp (disch := (first | omega | exact aCat_8 (by with_unfolding_all rfl) | exact rk_lt (by with_unfolding_all rfl) | exact aCat_16 (by with_unfolding_all rfl) | exact rk_eq (by with_unfolding_all rfl) | assumption | exact b2n_lt _ | exact id_b (by with_unfolding_all rfl) | (simp (disch := omega) only [u2_same, u2_ab, u2_aq]; done) | (simp (disch := omega) only [u2_same, u2_ab, u2_aq]; omega) | fail)) only [al_448, wp_aloadr_0, wp_aloadk_0, hg_86_12, hg_86_13, wn_ge_t, wn_ge_f, hg_86_10, ha_91l, ha_91s, wk_48, wp_isub, wp_i2l, wp_iload_1, wp_iload_2, wc_4, t_4, lN_le, wz_ne_t, wz_ne_f, wb_ne_t, wb_ne_f, wm_ne_1, wm_ne_2, wp_jsr, al_449, wk_m1, wp_ireturn, al_450, wp_dupi, wp_dupr, wk_1, wp_iadd, hp_86_12, nl_i, nl_r, nl_k, nl_j, nl_l, nI_add, pk_mul, pk_sub, tl_s, tl_n, aL_inl, u2_same, u2_ab, u2_aq, nI_l, lN_i, Nat.add_zero, Nat.zero_add, Nat.zero_le, true_and, and_true, b2n_10, b2n_T, b2n_F, b2n_0, Decidable.not_not, not_true_eq_false, not_false_eq_true, Nat.reduceAdd, Nat.reduceMul, Nat.reduceSub, x1, x2, e91, b2n_t hb, Nat.add_sub_cancel]
  exact hq
theorem t_7bn {N0 : Nat → Nat → Nat} {n pos : Nat} (hx : txR N0 N n pos) (hn : n ≤ 80) (hpn : pos ≤ n) (hb : ∀ i, i < n → N0 91 i < 256) (hd : ¬ (pos < n ∧ 49 ≤ N0 91 pos ∧ N0 91 pos ≤ 57)) : aMm ko d 7 [.ref 86, .int (nI 1), .int (nI 9)] (hp D N I J x) Q = Q (some (.int (-1))) (hp D N I J x) := by
  obtain ⟨x1, x2, x3, x4⟩ := hx
  have e91 : N 91 pos = N0 91 pos := x4 91 pos (by decide) (by omega)
  rw [me_7]
  by_cases h1 : pos < n
  · have hb1 := hb pos h1
    by_cases h2 : N0 91 pos < 48
    · have hs := sub48b _ h2
      simp (disch := (first | omega | exact aCat_8 (by with_unfolding_all rfl) | exact rk_lt (by with_unfolding_all rfl) | exact aCat_16 (by with_unfolding_all rfl) | exact rk_eq (by with_unfolding_all rfl) | assumption | exact b2n_lt _ | exact id_b (by with_unfolding_all rfl) | (simp (disch := omega) only [u2_same, u2_ab, u2_aq]; done) | (simp (disch := omega) only [u2_same, u2_ab, u2_aq]; omega) | fail)) only [al_448, wp_aloadr_0, wp_aloadk_0, hg_86_12, hg_86_13, wn_ge_t, wn_ge_f, hg_86_10, ha_91l, ha_91s, wk_48, wp_isub, wp_i2l, wp_iload_1, wp_iload_2, wc_4, t_4, lN_le, wz_ne_t, wz_ne_f, wb_ne_t, wb_ne_f, wm_ne_1, wm_ne_2, wp_jsr, al_449, wk_m1, wp_ireturn, al_450, wp_dupi, wp_dupr, wk_1, wp_iadd, hp_86_12, nl_i, nl_r, nl_k, nl_j, nl_l, nI_add, pk_mul, pk_sub, tl_s, tl_n, aL_inl, u2_same, u2_ab, u2_aq, nI_l, lN_i, Nat.add_zero, Nat.zero_add, Nat.zero_le, true_and, and_true, b2n_10, b2n_T, b2n_F, b2n_0, Decidable.not_not, not_true_eq_false, not_false_eq_true, Nat.reduceAdd, Nat.reduceMul, Nat.reduceSub, x1, x2, e91, b2n_f hs]
    · have hf : ¬ (1 ≤ N0 91 pos - 48 ∧ N0 91 pos - 48 ≤ 9) := fun z => hd ⟨h1, by omega, by omega⟩
      simp (disch := (first | omega | exact aCat_8 (by with_unfolding_all rfl) | exact rk_lt (by with_unfolding_all rfl) | exact aCat_16 (by with_unfolding_all rfl) | exact rk_eq (by with_unfolding_all rfl) | assumption | exact b2n_lt _ | exact id_b (by with_unfolding_all rfl) | (simp (disch := omega) only [u2_same, u2_ab, u2_aq]; done) | (simp (disch := omega) only [u2_same, u2_ab, u2_aq]; omega) | fail)) only [al_448, wp_aloadr_0, wp_aloadk_0, hg_86_12, hg_86_13, wn_ge_t, wn_ge_f, hg_86_10, ha_91l, ha_91s, wk_48, wp_isub, wp_i2l, wp_iload_1, wp_iload_2, wc_4, t_4, lN_le, wz_ne_t, wz_ne_f, wb_ne_t, wb_ne_f, wm_ne_1, wm_ne_2, wp_jsr, al_449, wk_m1, wp_ireturn, al_450, wp_dupi, wp_dupr, wk_1, wp_iadd, hp_86_12, nl_i, nl_r, nl_k, nl_j, nl_l, nI_add, pk_mul, pk_sub, tl_s, tl_n, aL_inl, u2_same, u2_ab, u2_aq, nI_l, lN_i, Nat.add_zero, Nat.zero_add, Nat.zero_le, true_and, and_true, b2n_10, b2n_T, b2n_F, b2n_0, Decidable.not_not, not_true_eq_false, not_false_eq_true, Nat.reduceAdd, Nat.reduceMul, Nat.reduceSub, x1, x2, e91, b2n_f hf]
  · simp (disch := (first | omega | exact aCat_8 (by with_unfolding_all rfl) | exact rk_lt (by with_unfolding_all rfl) | exact aCat_16 (by with_unfolding_all rfl) | exact rk_eq (by with_unfolding_all rfl) | assumption | exact b2n_lt _ | exact id_b (by with_unfolding_all rfl) | (simp (disch := omega) only [u2_same, u2_ab, u2_aq]; done) | (simp (disch := omega) only [u2_same, u2_ab, u2_aq]; omega) | fail)) only [al_448, wp_aloadr_0, wp_aloadk_0, hg_86_12, hg_86_13, wn_ge_t, wn_ge_f, hg_86_10, ha_91l, ha_91s, wk_48, wp_isub, wp_i2l, wp_iload_1, wp_iload_2, wc_4, t_4, lN_le, wz_ne_t, wz_ne_f, wb_ne_t, wb_ne_f, wm_ne_1, wm_ne_2, wp_jsr, al_449, wk_m1, wp_ireturn, al_450, wp_dupi, wp_dupr, wk_1, wp_iadd, hp_86_12, nl_i, nl_r, nl_k, nl_j, nl_l, nI_add, pk_mul, pk_sub, tl_s, tl_n, aL_inl, u2_same, u2_ab, u2_aq, nI_l, lN_i, Nat.add_zero, Nat.zero_add, Nat.zero_le, true_and, and_true, b2n_10, b2n_T, b2n_F, b2n_0, Decidable.not_not, not_true_eq_false, not_false_eq_true, Nat.reduceAdd, Nat.reduceMul, Nat.reduceSub, x1, x2]
theorem txR_32 {M : Nat → Nat → Nat} {n pos a b : Nat} (h : txR (u2 M 86 32 a) N n pos) : txR (u2 M 86 32 b) (u2 N 86 32 b) n pos := by
  obtain ⟨x1, x2, x3, x4⟩ := h
  refine ⟨by rw [u2_aq (by decide)]; exact x1, by rw [u2_aq (by decide)]; exact x2, by rw [u2_aq (by decide)]; exact x3, fun b' q z1 z2 => ?_⟩
  by_cases e : b' = 86 ∧ q = 32
  · obtain ⟨rfl, rfl⟩ := e
    rw [u2_same, u2_same]
  · rw [u2_rd, if_neg e, u2_rd, if_neg e]
    have := x4 b' q z1 z2
    rw [u2_rd, if_neg e] at this
    exact this
/-- only what was read of act a has changed -/
def aiF (a : Nat) (I' I : Nat → Nat → Int32) : Prop := ∀ b q, ¬ (100 ≤ b ∧ b ≤ 103 ∧ q = a) → I' b q = I b q
theorem ai_u {a b : Nat} {v : Int32} {I' : Nat → Nat → Int32} (h : aiF a I' I) (hb : 100 ≤ b ∧ b ≤ 103) : aiF a (u2 I' b a v) I := by
  intro b' q z
  rw [u2_rd, if_neg (by rintro ⟨rfl, rfl⟩; exact z ⟨hb.1, hb.2, rfl⟩)]
  exact h b' q z
def acR (T : Nat → Nat) (p a : Nat) (I : Nat → Nat → Int32) : Prop := I 100 a = nI (kdA (T p)) ∧ I 101 a = nI (T (p + 1) - 48) ∧ (2 ≤ lenA (T p) → I 102 a = nI (T (p + 2) - 48)) ∧ (lenA (T p) = 3 → I 103 a = nI (T (p + 3) - 48))
theorem t_55 {M : Nat → Nat → Nat} {e p a : Nat} (hk : koT ko) (hx : txR (u2 M 86 32 a) N e p) (he : e ≤ 60) (hpe : p < e) (ha : a < 60) (hb : ∀ i, i < e → M 91 i < 256)
    (hV : yrB (M 91) e p = none → ∀ (N' : Nat → Nat → Nat) (I' : Nat → Nat → Int32), txR (u2 M 86 32 (a + 1)) N' e (p + 1 + lenA (M 91 p)) → aiF a I' I → acR (M 91) p a I' → Q (some (.int (nI 1))) (hp D N' I' J x))
    (hB : ∀ w, yrB (M 91) e p = some w → ∀ (N' : Nat → Nat → Nat) (I' : Nat → Nat → Int32), txR (u2 M 86 32 (a + 1)) N' e w → aiF a I' I → Q (some (.int (nI 0))) (hp D N' I' J x)) :
    aMm ko d 55 [.ref 86] (hp D N I J x) Q := by
  have e32 : N 86 32 = a := by
    rw [hx.2.2.2 86 32 (by decide) (by omega), u2_same]
  have hM : ∀ b, (u2 M 86 32 b) 91 = M 91 := fun b => u2_nb (by decide)
  have hb' : ∀ b i, i < e → (u2 M 86 32 b) 91 i < 256 := fun b i hi => by rw [hM]; exact hb i hi
  have hF0 : aiF a I I := fun _ _ _ => rfl
  rw [me_55]
  simp (disch := (first | omega | exact aCat_8 (by with_unfolding_all rfl) | exact rk_lt (by with_unfolding_all rfl) | exact aCat_16 (by with_unfolding_all rfl) | exact rk_eq (by with_unfolding_all rfl) | assumption | exact b2n_lt _ | exact id_b (by with_unfolding_all rfl) | (simp (disch := omega) only [u2_same, u2_ab, u2_aq]; done) | (simp (disch := omega) only [u2_same, u2_ab, u2_aq]; omega) | fail)) only [al_3520, wp_aloadr_0, wp_aloadk_0, hg_86_32, wp_istore_1, hg_86_28, ha_100l, ha_100s, wp_iload_1, wp_ldc, wc_19, wp_dupi, wp_dupr, wk_1, wp_iadd, hp_86_32, wz_ge_t, wz_ge_f, wm_ge_1, wm_ge_2, wk_0, wp_freturn0, wp_freturn1, wp_freturnb, al_3521, hg_86_29, ha_101l, ha_101s, wc_8, wz_lt_t, wz_lt_f, wm_lt_1, wm_lt_2, wk_2, wn_ge_t, wn_ge_f, wp_jsr, al_3522, wp_goto, al_3523, al_3524, al_3525, hg_86_30, ha_102l, ha_102s, wk_4, wn_ne_t, wn_ne_f, al_3526, al_3527, al_3528, al_3529, hg_86_31, ha_103l, ha_103s, wk_9, wc_7, al_3530, al_3531, nl_i, nl_r, nl_k, nl_j, nl_l, nI_add, pk_mul, pk_sub, tl_s, tl_n, aL_inl, u2_same, u2_ab, u2_aq, nI_l, lN_i, Nat.add_zero, Nat.zero_add, Nat.zero_le, true_and, and_true, b2n_10, b2n_T, b2n_F, b2n_0, Decidable.not_not, not_true_eq_false, not_false_eq_true, Nat.reduceAdd, Nat.reduceMul, Nat.reduceSub, e32]
  refine t_19 hk (by decide) (by decide) hx (by omega) hpe (hb' a) ?_ ?_
  · intro j hj hcj _ N1 hx1 hN1
    rw [hM] at hcj
    have e32' : N1 86 32 = a := by rw [hN1 86 32 (by omega)]; exact e32
    have hx2 := txR_32 (b := a + 1) hx1
    have hj5 : j < 5 := hj
    have hlk : lenA (M 91 p) = (if j ≤ 1 then 1 else if j = 4 then 2 else 3) ∧ kdA (M 91 p) = j := by
      rcases ch_7 j hj5 with ⟨z, y⟩ | ⟨z, y⟩ | ⟨z, y⟩ | ⟨z, y⟩ | ⟨z, y⟩ <;> (rw [z] at hcj; rw [← hcj, y]; exact ⟨rfl, rfl⟩)
    obtain ⟨hl, hkd⟩ := hlk
    have hl0 : ¬ lenA (M 91 p) = 0 := by rw [hl]; split <;> (try split) <;> omega
    have hyb : yrB (M 91) e p = badA (M 91) e p (lenA (M 91 p)) := if_neg hl0
    rw [hyb] at hV hB
    -- the first digit
    by_cases d1 : p + 1 < e ∧ isD (M 91 (p + 1)) = true
    · have hd1 := isD_iff.mp d1.2
      have h8 : ∀ (N2 : Nat → Nat → Nat) (I2 : Nat → Nat → Int32) (Q' : Option Value → aH → Prop), txR (u2 M 86 32 (a + 1)) N2 e (p + 1) → (∀ N' : Nat → Nat → Nat, txR (u2 M 86 32 (a + 1)) N' e (p + 2) → Q' (some (.int (nI (M 91 (p + 1) - 48)))) (hp D N' I2 J x)) → aMm ko d 8 [.ref 86, .int (nI 1)] (hp D N2 I2 J x) Q' := by
        intro N2 I2 Q' hxx hQ'
        refine t_8 hxx (by omega) d1.1 (by rw [hM]; exact d1.2) ?_
        intro N' hN' _
        rw [hM]
        exact hQ' N' hN'
      have ok1 := (ok_12 (T := M 91) (e := e) (p := p) (j := 1) (by decide)).mpr d1
      by_cases hj1 : j ≤ 1
      · rw [if_pos hj1] at hl
        have hbn : badA (M 91) e p (lenA (M 91 p)) = none := by
          rw [hl]
          exact bad_ok 1 (fun i a1 a2 => by
            have : i = 1 := by omega
            rw [this]; exact ok1)
        have hv := hV hbn
        rw [hl] at hv
        simp (disch := (first | omega | exact aCat_8 (by with_unfolding_all rfl) | exact rk_lt (by with_unfolding_all rfl) | exact aCat_16 (by with_unfolding_all rfl) | exact rk_eq (by with_unfolding_all rfl) | assumption | exact b2n_lt _ | exact id_b (by with_unfolding_all rfl) | (simp (disch := omega) only [u2_same, u2_ab, u2_aq]; done) | (simp (disch := omega) only [u2_same, u2_ab, u2_aq]; omega) | fail)) only [al_3520, wp_aloadr_0, wp_aloadk_0, hg_86_32, wp_istore_1, hg_86_28, ha_100l, ha_100s, wp_iload_1, wp_ldc, wc_19, wp_dupi, wp_dupr, wk_1, wp_iadd, hp_86_32, wz_ge_t, wz_ge_f, wm_ge_1, wm_ge_2, wk_0, wp_freturn0, wp_freturn1, wp_freturnb, al_3521, hg_86_29, ha_101l, ha_101s, wc_8, wz_lt_t, wz_lt_f, wm_lt_1, wm_lt_2, wk_2, wn_ge_t, wn_ge_f, wp_jsr, al_3522, wp_goto, al_3523, al_3524, al_3525, hg_86_30, ha_102l, ha_102s, wk_4, wn_ne_t, wn_ne_f, al_3526, al_3527, al_3528, al_3529, hg_86_31, ha_103l, ha_103s, wk_9, wc_7, al_3530, al_3531, nl_i, nl_r, nl_k, nl_j, nl_l, nI_add, pk_mul, pk_sub, tl_s, tl_n, aL_inl, u2_same, u2_ab, u2_aq, nI_l, lN_i, Nat.add_zero, Nat.zero_add, Nat.zero_le, true_and, and_true, b2n_10, b2n_T, b2n_F, b2n_0, Decidable.not_not, not_true_eq_false, not_false_eq_true, Nat.reduceAdd, Nat.reduceMul, Nat.reduceSub, e32']
        refine h8 _ _ _ hx2 ?_
        intro N3 hx3
        simp (disch := (first | omega | exact aCat_8 (by with_unfolding_all rfl) | exact rk_lt (by with_unfolding_all rfl) | exact aCat_16 (by with_unfolding_all rfl) | exact rk_eq (by with_unfolding_all rfl) | assumption | exact b2n_lt _ | exact id_b (by with_unfolding_all rfl) | (simp (disch := omega) only [u2_same, u2_ab, u2_aq]; done) | (simp (disch := omega) only [u2_same, u2_ab, u2_aq]; omega) | fail)) only [al_3520, wp_aloadr_0, wp_aloadk_0, hg_86_32, wp_istore_1, hg_86_28, ha_100l, ha_100s, wp_iload_1, wp_ldc, wc_19, wp_dupi, wp_dupr, wk_1, wp_iadd, hp_86_32, wz_ge_t, wz_ge_f, wm_ge_1, wm_ge_2, wk_0, wp_freturn0, wp_freturn1, wp_freturnb, al_3521, hg_86_29, ha_101l, ha_101s, wc_8, wz_lt_t, wz_lt_f, wm_lt_1, wm_lt_2, wk_2, wn_ge_t, wn_ge_f, wp_jsr, al_3522, wp_goto, al_3523, al_3524, al_3525, hg_86_30, ha_102l, ha_102s, wk_4, wn_ne_t, wn_ne_f, al_3526, al_3527, al_3528, al_3529, hg_86_31, ha_103l, ha_103s, wk_9, wc_7, al_3530, al_3531, nl_i, nl_r, nl_k, nl_j, nl_l, nI_add, pk_mul, pk_sub, tl_s, tl_n, aL_inl, u2_same, u2_ab, u2_aq, nI_l, lN_i, Nat.add_zero, Nat.zero_add, Nat.zero_le, true_and, and_true, b2n_10, b2n_T, b2n_F, b2n_0, Decidable.not_not, not_true_eq_false, not_false_eq_true, Nat.reduceAdd, Nat.reduceMul, Nat.reduceSub]
        refine hv N3 _ hx3 (ai_u (ai_u hF0 (by decide)) (by decide)) ⟨?_, u2_same _ _ _ _, fun z => by omega, fun z => by omega⟩
        rw [u2_ab (by decide), u2_same, hkd]
      · simp (disch := (first | omega | exact aCat_8 (by with_unfolding_all rfl) | exact rk_lt (by with_unfolding_all rfl) | exact aCat_16 (by with_unfolding_all rfl) | exact rk_eq (by with_unfolding_all rfl) | assumption | exact b2n_lt _ | exact id_b (by with_unfolding_all rfl) | (simp (disch := omega) only [u2_same, u2_ab, u2_aq]; done) | (simp (disch := omega) only [u2_same, u2_ab, u2_aq]; omega) | fail)) only [al_3520, wp_aloadr_0, wp_aloadk_0, hg_86_32, wp_istore_1, hg_86_28, ha_100l, ha_100s, wp_iload_1, wp_ldc, wc_19, wp_dupi, wp_dupr, wk_1, wp_iadd, hp_86_32, wz_ge_t, wz_ge_f, wm_ge_1, wm_ge_2, wk_0, wp_freturn0, wp_freturn1, wp_freturnb, al_3521, hg_86_29, ha_101l, ha_101s, wc_8, wz_lt_t, wz_lt_f, wm_lt_1, wm_lt_2, wk_2, wn_ge_t, wn_ge_f, wp_jsr, al_3522, wp_goto, al_3523, al_3524, al_3525, hg_86_30, ha_102l, ha_102s, wk_4, wn_ne_t, wn_ne_f, al_3526, al_3527, al_3528, al_3529, hg_86_31, ha_103l, ha_103s, wk_9, wc_7, al_3530, al_3531, nl_i, nl_r, nl_k, nl_j, nl_l, nI_add, pk_mul, pk_sub, tl_s, tl_n, aL_inl, u2_same, u2_ab, u2_aq, nI_l, lN_i, Nat.add_zero, Nat.zero_add, Nat.zero_le, true_and, and_true, b2n_10, b2n_T, b2n_F, b2n_0, Decidable.not_not, not_true_eq_false, not_false_eq_true, Nat.reduceAdd, Nat.reduceMul, Nat.reduceSub, e32']
        refine h8 _ _ _ hx2 ?_
        intro N3 hx3
        rw [if_neg hj1] at hl
        by_cases d2 : p + 2 < e ∧ isD (M 91 (p + 2)) = true
        · have hd2 := isD_iff.mp d2.2
          have ok2 := (ok_12 (T := M 91) (e := e) (p := p) (j := 2) (by decide)).mpr d2
          have h8b : ∀ (N2 : Nat → Nat → Nat) (I2 : Nat → Nat → Int32) (Q' : Option Value → aH → Prop), txR (u2 M 86 32 (a + 1)) N2 e (p + 2) → (∀ N' : Nat → Nat → Nat, txR (u2 M 86 32 (a + 1)) N' e (p + 3) → Q' (some (.int (nI (M 91 (p + 2) - 48)))) (hp D N' I2 J x)) → aMm ko d 8 [.ref 86, .int (nI 1)] (hp D N2 I2 J x) Q' := by
            intro N2 I2 Q' hxx hQ'
            refine t_8 hxx (by omega) d2.1 (by rw [hM]; exact d2.2) ?_
            intro N' hN' _
            rw [hM]
            exact hQ' N' hN'
          by_cases hj4 : j = 4
          · rw [if_pos hj4] at hl
            have hbn : badA (M 91) e p (lenA (M 91 p)) = none := by
              rw [hl]
              exact bad_ok 2 (fun i a1 a2 => by
                have : i = 1 ∨ i = 2 := by omega
                rcases this with rfl | rfl
                · exact ok1
                · exact ok2)
            have hv := hV hbn
            rw [hl] at hv
            subst hj4
            simp (disch := (first | omega | exact aCat_8 (by with_unfolding_all rfl) | exact rk_lt (by with_unfolding_all rfl) | exact aCat_16 (by with_unfolding_all rfl) | exact rk_eq (by with_unfolding_all rfl) | assumption | exact b2n_lt _ | exact id_b (by with_unfolding_all rfl) | (simp (disch := omega) only [u2_same, u2_ab, u2_aq]; done) | (simp (disch := omega) only [u2_same, u2_ab, u2_aq]; omega) | fail)) only [al_3520, wp_aloadr_0, wp_aloadk_0, hg_86_32, wp_istore_1, hg_86_28, ha_100l, ha_100s, wp_iload_1, wp_ldc, wc_19, wp_dupi, wp_dupr, wk_1, wp_iadd, hp_86_32, wz_ge_t, wz_ge_f, wm_ge_1, wm_ge_2, wk_0, wp_freturn0, wp_freturn1, wp_freturnb, al_3521, hg_86_29, ha_101l, ha_101s, wc_8, wz_lt_t, wz_lt_f, wm_lt_1, wm_lt_2, wk_2, wn_ge_t, wn_ge_f, wp_jsr, al_3522, wp_goto, al_3523, al_3524, al_3525, hg_86_30, ha_102l, ha_102s, wk_4, wn_ne_t, wn_ne_f, al_3526, al_3527, al_3528, al_3529, hg_86_31, ha_103l, ha_103s, wk_9, wc_7, al_3530, al_3531, nl_i, nl_r, nl_k, nl_j, nl_l, nI_add, pk_mul, pk_sub, tl_s, tl_n, aL_inl, u2_same, u2_ab, u2_aq, nI_l, lN_i, Nat.add_zero, Nat.zero_add, Nat.zero_le, true_and, and_true, b2n_10, b2n_T, b2n_F, b2n_0, Decidable.not_not, not_true_eq_false, not_false_eq_true, Nat.reduceAdd, Nat.reduceMul, Nat.reduceSub]
            refine h8b _ _ _ hx3 ?_
            intro N4 hx4
            simp (disch := (first | omega | exact aCat_8 (by with_unfolding_all rfl) | exact rk_lt (by with_unfolding_all rfl) | exact aCat_16 (by with_unfolding_all rfl) | exact rk_eq (by with_unfolding_all rfl) | assumption | exact b2n_lt _ | exact id_b (by with_unfolding_all rfl) | (simp (disch := omega) only [u2_same, u2_ab, u2_aq]; done) | (simp (disch := omega) only [u2_same, u2_ab, u2_aq]; omega) | fail)) only [al_3520, wp_aloadr_0, wp_aloadk_0, hg_86_32, wp_istore_1, hg_86_28, ha_100l, ha_100s, wp_iload_1, wp_ldc, wc_19, wp_dupi, wp_dupr, wk_1, wp_iadd, hp_86_32, wz_ge_t, wz_ge_f, wm_ge_1, wm_ge_2, wk_0, wp_freturn0, wp_freturn1, wp_freturnb, al_3521, hg_86_29, ha_101l, ha_101s, wc_8, wz_lt_t, wz_lt_f, wm_lt_1, wm_lt_2, wk_2, wn_ge_t, wn_ge_f, wp_jsr, al_3522, wp_goto, al_3523, al_3524, al_3525, hg_86_30, ha_102l, ha_102s, wk_4, wn_ne_t, wn_ne_f, al_3526, al_3527, al_3528, al_3529, hg_86_31, ha_103l, ha_103s, wk_9, wc_7, al_3530, al_3531, nl_i, nl_r, nl_k, nl_j, nl_l, nI_add, pk_mul, pk_sub, tl_s, tl_n, aL_inl, u2_same, u2_ab, u2_aq, nI_l, lN_i, Nat.add_zero, Nat.zero_add, Nat.zero_le, true_and, and_true, b2n_10, b2n_T, b2n_F, b2n_0, Decidable.not_not, not_true_eq_false, not_false_eq_true, Nat.reduceAdd, Nat.reduceMul, Nat.reduceSub]
            refine hv N4 _ hx4 (ai_u (ai_u (ai_u hF0 (by decide)) (by decide)) (by decide)) ⟨?_, ?_, fun _ => u2_same _ _ _ _, fun z => by omega⟩
            · rw [u2_ab (by decide), u2_ab (by decide), u2_same, hkd]
            · rw [u2_ab (by decide), u2_same]
          · rw [if_neg hj4] at hl
            simp (disch := (first | omega | exact aCat_8 (by with_unfolding_all rfl) | exact rk_lt (by with_unfolding_all rfl) | exact aCat_16 (by with_unfolding_all rfl) | exact rk_eq (by with_unfolding_all rfl) | assumption | exact b2n_lt _ | exact id_b (by with_unfolding_all rfl) | (simp (disch := omega) only [u2_same, u2_ab, u2_aq]; done) | (simp (disch := omega) only [u2_same, u2_ab, u2_aq]; omega) | fail)) only [al_3520, wp_aloadr_0, wp_aloadk_0, hg_86_32, wp_istore_1, hg_86_28, ha_100l, ha_100s, wp_iload_1, wp_ldc, wc_19, wp_dupi, wp_dupr, wk_1, wp_iadd, hp_86_32, wz_ge_t, wz_ge_f, wm_ge_1, wm_ge_2, wk_0, wp_freturn0, wp_freturn1, wp_freturnb, al_3521, hg_86_29, ha_101l, ha_101s, wc_8, wz_lt_t, wz_lt_f, wm_lt_1, wm_lt_2, wk_2, wn_ge_t, wn_ge_f, wp_jsr, al_3522, wp_goto, al_3523, al_3524, al_3525, hg_86_30, ha_102l, ha_102s, wk_4, wn_ne_t, wn_ne_f, al_3526, al_3527, al_3528, al_3529, hg_86_31, ha_103l, ha_103s, wk_9, wc_7, al_3530, al_3531, nl_i, nl_r, nl_k, nl_j, nl_l, nI_add, pk_mul, pk_sub, tl_s, tl_n, aL_inl, u2_same, u2_ab, u2_aq, nI_l, lN_i, Nat.add_zero, Nat.zero_add, Nat.zero_le, true_and, and_true, b2n_10, b2n_T, b2n_F, b2n_0, Decidable.not_not, not_true_eq_false, not_false_eq_true, Nat.reduceAdd, Nat.reduceMul, Nat.reduceSub]
            refine h8b _ _ _ hx3 ?_
            intro N4 hx4
            by_cases d3 : p + 3 < e ∧ 49 ≤ M 91 (p + 3) ∧ M 91 (p + 3) ≤ 57
            · have ok3 := (ok_3 (T := M 91) (e := e) (p := p) hl).mpr d3
              have hbn : badA (M 91) e p (lenA (M 91 p)) = none := by
                rw [hl]
                exact bad_ok 3 (fun i a1 a2 => by
                  have : i = 1 ∨ i = 2 ∨ i = 3 := by omega
                  rcases this with rfl | rfl | rfl
                  · exact ok1
                  · exact ok2
                  · exact ok3)
              have hv := hV hbn
              rw [hl] at hv
              simp (disch := (first | omega | exact aCat_8 (by with_unfolding_all rfl) | exact rk_lt (by with_unfolding_all rfl) | exact aCat_16 (by with_unfolding_all rfl) | exact rk_eq (by with_unfolding_all rfl) | assumption | exact b2n_lt _ | exact id_b (by with_unfolding_all rfl) | (simp (disch := omega) only [u2_same, u2_ab, u2_aq]; done) | (simp (disch := omega) only [u2_same, u2_ab, u2_aq]; omega) | fail)) only [al_3520, wp_aloadr_0, wp_aloadk_0, hg_86_32, wp_istore_1, hg_86_28, ha_100l, ha_100s, wp_iload_1, wp_ldc, wc_19, wp_dupi, wp_dupr, wk_1, wp_iadd, hp_86_32, wz_ge_t, wz_ge_f, wm_ge_1, wm_ge_2, wk_0, wp_freturn0, wp_freturn1, wp_freturnb, al_3521, hg_86_29, ha_101l, ha_101s, wc_8, wz_lt_t, wz_lt_f, wm_lt_1, wm_lt_2, wk_2, wn_ge_t, wn_ge_f, wp_jsr, al_3522, wp_goto, al_3523, al_3524, al_3525, hg_86_30, ha_102l, ha_102s, wk_4, wn_ne_t, wn_ne_f, al_3526, al_3527, al_3528, al_3529, hg_86_31, ha_103l, ha_103s, wk_9, wc_7, al_3530, al_3531, nl_i, nl_r, nl_k, nl_j, nl_l, nI_add, pk_mul, pk_sub, tl_s, tl_n, aL_inl, u2_same, u2_ab, u2_aq, nI_l, lN_i, Nat.add_zero, Nat.zero_add, Nat.zero_le, true_and, and_true, b2n_10, b2n_T, b2n_F, b2n_0, Decidable.not_not, not_true_eq_false, not_false_eq_true, Nat.reduceAdd, Nat.reduceMul, Nat.reduceSub]
              refine t_7b hx4 (by omega) (by rw [hM]; exact d3) ?_
              intro N5 hx5
              rw [hM]
              simp (disch := (first | omega | exact aCat_8 (by with_unfolding_all rfl) | exact rk_lt (by with_unfolding_all rfl) | exact aCat_16 (by with_unfolding_all rfl) | exact rk_eq (by with_unfolding_all rfl) | assumption | exact b2n_lt _ | exact id_b (by with_unfolding_all rfl) | (simp (disch := omega) only [u2_same, u2_ab, u2_aq]; done) | (simp (disch := omega) only [u2_same, u2_ab, u2_aq]; omega) | fail)) only [al_3520, wp_aloadr_0, wp_aloadk_0, hg_86_32, wp_istore_1, hg_86_28, ha_100l, ha_100s, wp_iload_1, wp_ldc, wc_19, wp_dupi, wp_dupr, wk_1, wp_iadd, hp_86_32, wz_ge_t, wz_ge_f, wm_ge_1, wm_ge_2, wk_0, wp_freturn0, wp_freturn1, wp_freturnb, al_3521, hg_86_29, ha_101l, ha_101s, wc_8, wz_lt_t, wz_lt_f, wm_lt_1, wm_lt_2, wk_2, wn_ge_t, wn_ge_f, wp_jsr, al_3522, wp_goto, al_3523, al_3524, al_3525, hg_86_30, ha_102l, ha_102s, wk_4, wn_ne_t, wn_ne_f, al_3526, al_3527, al_3528, al_3529, hg_86_31, ha_103l, ha_103s, wk_9, wc_7, al_3530, al_3531, nl_i, nl_r, nl_k, nl_j, nl_l, nI_add, pk_mul, pk_sub, tl_s, tl_n, aL_inl, u2_same, u2_ab, u2_aq, nI_l, lN_i, Nat.add_zero, Nat.zero_add, Nat.zero_le, true_and, and_true, b2n_10, b2n_T, b2n_F, b2n_0, Decidable.not_not, not_true_eq_false, not_false_eq_true, Nat.reduceAdd, Nat.reduceMul, Nat.reduceSub]
              refine hv N5 _ hx5 (ai_u (ai_u (ai_u (ai_u hF0 (by decide)) (by decide)) (by decide)) (by decide)) ⟨?_, ?_, fun _ => ?_, fun _ => u2_same _ _ _ _⟩
              · rw [u2_ab (by decide), u2_ab (by decide), u2_ab (by decide), u2_same, hkd]
              · rw [u2_ab (by decide), u2_ab (by decide), u2_same]
              · rw [u2_ab (by decide), u2_same]
            · have hok3 : okD (M 91) e p 3 = false := by
                cases hq : okD (M 91) e p 3 with
                | false => rfl
                | true => exact absurd ((ok_3 hl).mp hq) d3
              have hbs : badA (M 91) e p (lenA (M 91 p)) = some (p + 3) := by
                rw [hl]
                refine bad_s 3 3 (by decide) (Nat.le_refl _) hok3 (fun i a1 a2 => ?_)
                have : i = 1 ∨ i = 2 := by omega
                rcases this with rfl | rfl
                · exact ok1
                · exact ok2
              have hv := hB _ hbs
              have h7n := fun (I2 : Nat → Nat → Int32) Q => t_7bn (ko := ko) (d := d) (D := D) (I := I2) (J := J) (x := x) (Q := Q) hx4 (by omega) (by omega) (hb' (a + 1)) (by rw [hM]; exact d3)
              simp (disch := (first | omega | exact aCat_8 (by with_unfolding_all rfl) | exact rk_lt (by with_unfolding_all rfl) | exact aCat_16 (by with_unfolding_all rfl) | exact rk_eq (by with_unfolding_all rfl) | assumption | exact b2n_lt _ | exact id_b (by with_unfolding_all rfl) | (simp (disch := omega) only [u2_same, u2_ab, u2_aq]; done) | (simp (disch := omega) only [u2_same, u2_ab, u2_aq]; omega) | fail)) only [al_3520, wp_aloadr_0, wp_aloadk_0, hg_86_32, wp_istore_1, hg_86_28, ha_100l, ha_100s, wp_iload_1, wp_ldc, wc_19, wp_dupi, wp_dupr, wk_1, wp_iadd, hp_86_32, wz_ge_t, wz_ge_f, wm_ge_1, wm_ge_2, wk_0, wp_freturn0, wp_freturn1, wp_freturnb, al_3521, hg_86_29, ha_101l, ha_101s, wc_8, wz_lt_t, wz_lt_f, wm_lt_1, wm_lt_2, wk_2, wn_ge_t, wn_ge_f, wp_jsr, al_3522, wp_goto, al_3523, al_3524, al_3525, hg_86_30, ha_102l, ha_102s, wk_4, wn_ne_t, wn_ne_f, al_3526, al_3527, al_3528, al_3529, hg_86_31, ha_103l, ha_103s, wk_9, wc_7, al_3530, al_3531, nl_i, nl_r, nl_k, nl_j, nl_l, nI_add, pk_mul, pk_sub, tl_s, tl_n, aL_inl, u2_same, u2_ab, u2_aq, nI_l, lN_i, Nat.add_zero, Nat.zero_add, Nat.zero_le, true_and, and_true, b2n_10, b2n_T, b2n_F, b2n_0, Decidable.not_not, not_true_eq_false, not_false_eq_true, Nat.reduceAdd, Nat.reduceMul, Nat.reduceSub, h7n, qe_n1, qe_m1, qn_n1, qn_m1, qe_n2, qe_m2, qn_n2, qn_m2]
              exact hv N4 _ hx4 (ai_u (ai_u (ai_u (ai_u hF0 (by decide)) (by decide)) (by decide)) (by decide))
        · have hok2 : okD (M 91) e p 2 = false := by
            cases hq : okD (M 91) e p 2 with
            | false => rfl
            | true => exact absurd ((ok_12 (by decide)).mp hq) d2
          have hbs : badA (M 91) e p (lenA (M 91 p)) = some (p + 2) := by
            refine bad_s _ 2 (by decide) (by rw [hl]; split <;> omega) hok2 (fun i a1 a2 => ?_)
            have : i = 1 := by omega
            rw [this]; exact ok1
          have hv := hB _ hbs
          have h8n := fun (I2 : Nat → Nat → Int32) Q => t_8n (ko := ko) (d := d) (D := D) (I := I2) (J := J) (x := x) (Q := Q) (m := nI 1) hx3 (by omega) (by omega) (hb' (a + 1)) (by rw [hM]; exact d2)
          simp (disch := (first | omega | exact aCat_8 (by with_unfolding_all rfl) | exact rk_lt (by with_unfolding_all rfl) | exact aCat_16 (by with_unfolding_all rfl) | exact rk_eq (by with_unfolding_all rfl) | assumption | exact b2n_lt _ | exact id_b (by with_unfolding_all rfl) | (simp (disch := omega) only [u2_same, u2_ab, u2_aq]; done) | (simp (disch := omega) only [u2_same, u2_ab, u2_aq]; omega) | fail)) only [al_3520, wp_aloadr_0, wp_aloadk_0, hg_86_32, wp_istore_1, hg_86_28, ha_100l, ha_100s, wp_iload_1, wp_ldc, wc_19, wp_dupi, wp_dupr, wk_1, wp_iadd, hp_86_32, wz_ge_t, wz_ge_f, wm_ge_1, wm_ge_2, wk_0, wp_freturn0, wp_freturn1, wp_freturnb, al_3521, hg_86_29, ha_101l, ha_101s, wc_8, wz_lt_t, wz_lt_f, wm_lt_1, wm_lt_2, wk_2, wn_ge_t, wn_ge_f, wp_jsr, al_3522, wp_goto, al_3523, al_3524, al_3525, hg_86_30, ha_102l, ha_102s, wk_4, wn_ne_t, wn_ne_f, al_3526, al_3527, al_3528, al_3529, hg_86_31, ha_103l, ha_103s, wk_9, wc_7, al_3530, al_3531, nl_i, nl_r, nl_k, nl_j, nl_l, nI_add, pk_mul, pk_sub, tl_s, tl_n, aL_inl, u2_same, u2_ab, u2_aq, nI_l, lN_i, Nat.add_zero, Nat.zero_add, Nat.zero_le, true_and, and_true, b2n_10, b2n_T, b2n_F, b2n_0, Decidable.not_not, not_true_eq_false, not_false_eq_true, Nat.reduceAdd, Nat.reduceMul, Nat.reduceSub, h8n, qe_n1, qe_m1, qn_n1, qn_m1, qe_n2, qe_m2, qn_n2, qn_m2]
          exact hv N3 _ hx3 (ai_u (ai_u (ai_u hF0 (by decide)) (by decide)) (by decide))
    · have hok1 : okD (M 91) e p 1 = false := by
        cases hq : okD (M 91) e p 1 with
        | false => rfl
        | true => exact absurd ((ok_12 (by decide)).mp hq) d1
      have hbs : badA (M 91) e p (lenA (M 91 p)) = some (p + 1) := bad_s _ 1 (by decide) (by omega) hok1 (fun i a1 a2 => by omega)
      have hv := hB _ hbs
      have h8n := fun (I2 : Nat → Nat → Int32) Q => t_8n (ko := ko) (d := d) (D := D) (I := I2) (J := J) (x := x) (Q := Q) (m := nI 1) hx2 (by omega) (by omega) (hb' (a + 1)) (by rw [hM]; exact d1)
      simp (disch := (first | omega | exact aCat_8 (by with_unfolding_all rfl) | exact rk_lt (by with_unfolding_all rfl) | exact aCat_16 (by with_unfolding_all rfl) | exact rk_eq (by with_unfolding_all rfl) | assumption | exact b2n_lt _ | exact id_b (by with_unfolding_all rfl) | (simp (disch := omega) only [u2_same, u2_ab, u2_aq]; done) | (simp (disch := omega) only [u2_same, u2_ab, u2_aq]; omega) | fail)) only [al_3520, wp_aloadr_0, wp_aloadk_0, hg_86_32, wp_istore_1, hg_86_28, ha_100l, ha_100s, wp_iload_1, wp_ldc, wc_19, wp_dupi, wp_dupr, wk_1, wp_iadd, hp_86_32, wz_ge_t, wz_ge_f, wm_ge_1, wm_ge_2, wk_0, wp_freturn0, wp_freturn1, wp_freturnb, al_3521, hg_86_29, ha_101l, ha_101s, wc_8, wz_lt_t, wz_lt_f, wm_lt_1, wm_lt_2, wk_2, wn_ge_t, wn_ge_f, wp_jsr, al_3522, wp_goto, al_3523, al_3524, al_3525, hg_86_30, ha_102l, ha_102s, wk_4, wn_ne_t, wn_ne_f, al_3526, al_3527, al_3528, al_3529, hg_86_31, ha_103l, ha_103s, wk_9, wc_7, al_3530, al_3531, nl_i, nl_r, nl_k, nl_j, nl_l, nI_add, pk_mul, pk_sub, tl_s, tl_n, aL_inl, u2_same, u2_ab, u2_aq, nI_l, lN_i, Nat.add_zero, Nat.zero_add, Nat.zero_le, true_and, and_true, b2n_10, b2n_T, b2n_F, b2n_0, Decidable.not_not, not_true_eq_false, not_false_eq_true, Nat.reduceAdd, Nat.reduceMul, Nat.reduceSub, e32', h8n, qe_n1, qe_m1, qn_n1, qn_m1, qe_n2, qe_m2, qn_n2, qn_m2]
      exact hv _ _ hx2 (ai_u (ai_u hF0 (by decide)) (by decide))
  · intro hno
    rw [hM] at hno
    have hl0 : lenA (M 91 p) = 0 := by
      unfold lenA
      have n0 := hno 0 (by decide)
      have n1 := hno 1 (by decide)
      have n2 := hno 2 (by decide)
      have n3 := hno 3 (by decide)
      have n4 := hno 4 (by decide)
      have c0 : ¬ 110 = M 91 p := n0
      have c1 : ¬ 115 = M 91 p := n1
      have c2 : ¬ 99 = M 91 p := n2
      have c3 : ¬ 104 = M 91 p := n3
      have c4 : ¬ 119 = M 91 p := n4
      rw [if_neg (by omega), if_neg (by omega), if_neg (by omega)]
    have hv := hB p (if_pos hl0)
    simp (disch := (first | omega | exact aCat_8 (by with_unfolding_all rfl) | exact rk_lt (by with_unfolding_all rfl) | exact aCat_16 (by with_unfolding_all rfl) | exact rk_eq (by with_unfolding_all rfl) | assumption | exact b2n_lt _ | exact id_b (by with_unfolding_all rfl) | (simp (disch := omega) only [u2_same, u2_ab, u2_aq]; done) | (simp (disch := omega) only [u2_same, u2_ab, u2_aq]; omega) | fail)) only [al_3520, wp_aloadr_0, wp_aloadk_0, hg_86_32, wp_istore_1, hg_86_28, ha_100l, ha_100s, wp_iload_1, wp_ldc, wc_19, wp_dupi, wp_dupr, wk_1, wp_iadd, hp_86_32, wz_ge_t, wz_ge_f, wm_ge_1, wm_ge_2, wk_0, wp_freturn0, wp_freturn1, wp_freturnb, al_3521, hg_86_29, ha_101l, ha_101s, wc_8, wz_lt_t, wz_lt_f, wm_lt_1, wm_lt_2, wk_2, wn_ge_t, wn_ge_f, wp_jsr, al_3522, wp_goto, al_3523, al_3524, al_3525, hg_86_30, ha_102l, ha_102s, wk_4, wn_ne_t, wn_ne_f, al_3526, al_3527, al_3528, al_3529, hg_86_31, ha_103l, ha_103s, wk_9, wc_7, al_3530, al_3531, nl_i, nl_r, nl_k, nl_j, nl_l, nI_add, pk_mul, pk_sub, tl_s, tl_n, aL_inl, u2_same, u2_ab, u2_aq, nI_l, lN_i, Nat.add_zero, Nat.zero_add, Nat.zero_le, true_and, and_true, b2n_10, b2n_T, b2n_F, b2n_0, Decidable.not_not, not_true_eq_false, not_false_eq_true, Nat.reduceAdd, Nat.reduceMul, Nat.reduceSub, e32, qe_n1, qe_m1, qn_n1, qn_m1, qe_n2, qe_m2, qn_n2, qn_m2]
    exact hv _ _ (txR_32 hx) (ai_u hF0 (by decide))
end YT
