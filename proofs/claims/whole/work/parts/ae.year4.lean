/-! year: the reference reads all. From wip/whole/src. -/
/-- where the i-th act begins -/
def psA (T : Nat → Nat) : Nat → Nat
  | 0 => 0
  | i + 1 => psA T i + 1 + lenA (T (psA T i))
/-- the first a acts stand well -/
def gdA (T : Nat → Nat) (e a : Nat) : Prop := ∀ i, i < a → psA T i < e ∧ yrB T e (psA T i) = none
theorem gd_len {T : Nat → Nat} {e i : Nat} (h : yrB T e i = none) : 1 ≤ lenA (T i) ∧ i + lenA (T i) < e := by
  unfold yrB at h
  by_cases z : lenA (T i) = 0
  · rw [if_pos z] at h; cases h
  · rw [if_neg z] at h
    have := bad_n _ h (lenA (T i)) (by omega) (Nat.le_refl _)
    unfold okD at this
    exact ⟨by omega, of_decide_eq_true (Bool.and_eq_true _ _ |>.mp this).1⟩
theorem gd_ps {T : Nat → Nat} {e : Nat} : ∀ a, gdA T e a → 2 * a ≤ psA T a ∧ (0 < a → psA T a ≤ e) := by
  intro a
  induction a with
  | zero => intro _; exact ⟨Nat.le_refl _, fun h => absurd h (Nat.lt_irrefl 0)⟩
  | succ a ih =>
    intro h
    obtain ⟨i1, _⟩ := ih (fun i hi => h i (by omega))
    obtain ⟨l1, l2⟩ := gd_len (h a (by omega)).2
    rw [psA]
    exact ⟨by omega, fun _ => by omega⟩
theorem yw_s {T : Nat → Nat} {e f p : Nat} (hp1 : p < e) : yrW T e (f + 1) p = match yrB T e p with
    | some w => some w
    | none => yrW T e f (p + 1 + lenA (T p)) := by
  rw [yrW, if_neg (by omega)]
  unfold yrB
  by_cases z : lenA (T p) = 0
  · rw [if_pos z, if_pos z]
  · rw [if_neg z, if_neg z]
    cases badA T e p (lenA (T p)) <;> rfl
section YU
variable {ko : aKo} {d k : Nat} {is : List Instr} {ls st : List Value} {σ : aH} {D : Nat → Nat} {N : Nat → Nat → Nat} {I : Nat → Nat → Int32} {J : Nat → Nat → Int64} {x t : Nat} {Q : Option Value → aH → Prop} {P : (Option Value ⊕ Unit) → aH → Prop}
theorem ac_keep {T : Nat → Nat} {p i a : Nat} {I' : Nat → Nat → Int32} (h : acR T p i I) (hF : aiF a I' I) (hne : i ≠ a) : acR T p i I' := by
  have e : ∀ b, I' b i = I b i := fun b => hF b i (fun z => hne z.2.2)
  obtain ⟨h1, h2, h3, h4⟩ := h
  exact ⟨by rw [e]; exact h1, by rw [e]; exact h2, fun z => by rw [e]; exact h3 z, fun z => by rw [e]; exact h4 z⟩
theorem l_54 {M : Nat → Nat → Nat} {I0 : Nat → Nat → Int32} {n e : Nat} {w3 w4 : Value} (hk : koT ko) (he : e ≤ 60) (hb : ∀ i, i < e → M 91 i < 256)
    (hW : ∀ (a : Nat) (N' : Nat → Nat → Nat) (I' : Nat → Nat → Int32), a ≤ 30 → psA (M 91) a = e → gdA (M 91) e a → txR (u2 M 86 32 a) N' e e → (∀ b q, ¬ (100 ≤ b ∧ b ≤ 103) → I' b q = I0 b q) → (∀ i, i < a → acR (M 91) (psA (M 91) i) i I') → aWp ko d 54 (aP.1 (Int.toNat 3458)) [.ref 86, .int (nI n), .int (nI 1), w3, w4] [] (hp D N' I' J x) (aL Q))
    (hF : ∀ (a w : Nat) (N' : Nat → Nat → Nat) (I' : Nat → Nat → Int32), yrW (M 91) e 61 0 = some w → w ≤ e → txR (u2 M 86 32 a) N' e w → (∀ b q, ¬ (100 ≤ b ∧ b ≤ 103) → I' b q = I0 b q) → aWp ko d 54 (aP.1 (Int.toNat 3458)) [.ref 86, .int (nI n), .int (nI 0), w3, w4] [] (hp D N' I' J x) (aL Q)) :
    ∀ (f a : Nat) (N : Nat → Nat → Nat) (I : Nat → Nat → Int32), e - psA (M 91) a < f → psA (M 91) a ≤ e → gdA (M 91) e a → yrW (M 91) e 61 0 = yrW (M 91) e f (psA (M 91) a) → txR (u2 M 86 32 a) N e (psA (M 91) a) → (∀ b q, ¬ (100 ≤ b ∧ b ≤ 103) → I b q = I0 b q) → (∀ i, i < a → acR (M 91) (psA (M 91) i) i I) → aWp ko d 54 (aP.1 (Int.toNat 3457)) [.ref 86, .int (nI n), .int (nI 1), w3, w4] [] (hp D N I J x) (aL Q) := by
  intro f
  induction f with
  | zero => intro a N I hf; omega
  | succ f ih =>
    intro a N I hf hpe hg hy hT hI hac
    obtain ⟨p1, _⟩ := gd_ps a hg
    obtain ⟨x1, x2, x3, x4⟩ := id hT
    rw [al_3457]
    by_cases hge : e ≤ psA (M 91) a
    · have ep : psA (M 91) a = e := by omega
      rw [ep] at hT x2
      simp (disch := (first | omega | exact aCat_8 (by with_unfolding_all rfl) | exact rk_lt (by with_unfolding_all rfl) | exact aCat_16 (by with_unfolding_all rfl) | exact rk_eq (by with_unfolding_all rfl) | assumption | exact b2n_lt _ | exact id_b (by with_unfolding_all rfl) | (simp (disch := omega) only [u2_same, u2_ab, u2_aq]; done) | (simp (disch := omega) only [u2_same, u2_ab, u2_aq]; omega) | fail)) only [al_3456, wp_aloadr_0, wp_aloadk_0, wk_0, hp_86_0, wk_60, wc_6, wp_istore_1, hp_86_32, wk_1, wp_istore_2, wp_jsr, wp_iload_2, wz_eq_t, wz_eq_f, wb_eq_t, wb_eq_f, wm_eq_1, wm_eq_2, hg_86_12, hg_86_13, wn_ge_t, wn_ge_f, wc_55, wp_goto, wp_iload_1, wc_20, wp_istore_3, wp_iload_3, wz_ge_t, wz_ge_f, wm_ge_1, wm_ge_2, wp_ireturn, al_3459, wc_39, wp_istore_4, wp_iload_4, hg_86_32, wc_56, wp_iinc_4_1, al_3461, hp_86_1, al_3462, al_3463, wc_17, t_17, wp_i2l, wc_43, t_43, hg_86_8, ha_89l, ha_89s, wk_109, wz_le_t, wz_le_f, wm_le_1, wm_le_2, wc_44, al_3464, al_3465, nl_i, nl_r, nl_k, nl_j, nl_l, nI_add, pk_mul, pk_sub, tl_s, tl_n, aL_inl, u2_same, u2_ab, u2_aq, nI_l, lN_i, Nat.add_zero, Nat.zero_add, Nat.zero_le, true_and, and_true, b2n_10, b2n_T, b2n_F, b2n_0, Decidable.not_not, not_true_eq_false, not_false_eq_true, Nat.reduceAdd, Nat.reduceMul, Nat.reduceSub, x1, x2]
      exact hW a N I (by omega) ep hg hT hI hac
    · have hlt : psA (M 91) a < e := by omega
      rw [yw_s hlt] at hy
      simp (disch := (first | omega | exact aCat_8 (by with_unfolding_all rfl) | exact rk_lt (by with_unfolding_all rfl) | exact aCat_16 (by with_unfolding_all rfl) | exact rk_eq (by with_unfolding_all rfl) | assumption | exact b2n_lt _ | exact id_b (by with_unfolding_all rfl) | (simp (disch := omega) only [u2_same, u2_ab, u2_aq]; done) | (simp (disch := omega) only [u2_same, u2_ab, u2_aq]; omega) | fail)) only [al_3456, wp_aloadr_0, wp_aloadk_0, wk_0, hp_86_0, wk_60, wc_6, wp_istore_1, hp_86_32, wk_1, wp_istore_2, wp_jsr, wp_iload_2, wz_eq_t, wz_eq_f, wb_eq_t, wb_eq_f, wm_eq_1, wm_eq_2, hg_86_12, hg_86_13, wn_ge_t, wn_ge_f, wc_55, wp_goto, wp_iload_1, wc_20, wp_istore_3, wp_iload_3, wz_ge_t, wz_ge_f, wm_ge_1, wm_ge_2, wp_ireturn, al_3459, wc_39, wp_istore_4, wp_iload_4, hg_86_32, wc_56, wp_iinc_4_1, al_3461, hp_86_1, al_3462, al_3463, wc_17, t_17, wp_i2l, wc_43, t_43, hg_86_8, ha_89l, ha_89s, wk_109, wz_le_t, wz_le_f, wm_le_1, wm_le_2, wc_44, al_3464, al_3465, nl_i, nl_r, nl_k, nl_j, nl_l, nI_add, pk_mul, pk_sub, tl_s, tl_n, aL_inl, u2_same, u2_ab, u2_aq, nI_l, lN_i, Nat.add_zero, Nat.zero_add, Nat.zero_le, true_and, and_true, b2n_10, b2n_T, b2n_F, b2n_0, Decidable.not_not, not_true_eq_false, not_false_eq_true, Nat.reduceAdd, Nat.reduceMul, Nat.reduceSub, x1, x2]
      refine t_55 hk hT he hlt (by omega) hb ?_ ?_
      · intro hyb N1 I1 hT1 hF1 hac1
        rw [hyb] at hy
        obtain ⟨l1, l2⟩ := gd_len hyb
        simp (disch := (first | omega | exact aCat_8 (by with_unfolding_all rfl) | exact rk_lt (by with_unfolding_all rfl) | exact aCat_16 (by with_unfolding_all rfl) | exact rk_eq (by with_unfolding_all rfl) | assumption | exact b2n_lt _ | exact id_b (by with_unfolding_all rfl) | (simp (disch := omega) only [u2_same, u2_ab, u2_aq]; done) | (simp (disch := omega) only [u2_same, u2_ab, u2_aq]; omega) | fail)) only [al_3456, wp_aloadr_0, wp_aloadk_0, wk_0, hp_86_0, wk_60, wc_6, wp_istore_1, hp_86_32, wk_1, wp_istore_2, wp_jsr, wp_iload_2, wz_eq_t, wz_eq_f, wb_eq_t, wb_eq_f, wm_eq_1, wm_eq_2, hg_86_12, hg_86_13, wn_ge_t, wn_ge_f, wc_55, wp_goto, wp_iload_1, wc_20, wp_istore_3, wp_iload_3, wz_ge_t, wz_ge_f, wm_ge_1, wm_ge_2, wp_ireturn, al_3459, wc_39, wp_istore_4, wp_iload_4, hg_86_32, wc_56, wp_iinc_4_1, al_3461, hp_86_1, al_3462, al_3463, wc_17, t_17, wp_i2l, wc_43, t_43, hg_86_8, ha_89l, ha_89s, wk_109, wz_le_t, wz_le_f, wm_le_1, wm_le_2, wc_44, al_3464, al_3465, nl_i, nl_r, nl_k, nl_j, nl_l, nI_add, pk_mul, pk_sub, tl_s, tl_n, aL_inl, u2_same, u2_ab, u2_aq, nI_l, lN_i, Nat.add_zero, Nat.zero_add, Nat.zero_le, true_and, and_true, b2n_10, b2n_T, b2n_F, b2n_0, Decidable.not_not, not_true_eq_false, not_false_eq_true, Nat.reduceAdd, Nat.reduceMul, Nat.reduceSub]
        refine ih (a + 1) N1 I1 (by rw [psA]; omega) (by rw [psA]; omega) (fun i hi => by
          by_cases z : i = a
          · rw [z]; exact ⟨hlt, hyb⟩
          · exact hg i (by omega)) (by rw [psA]; exact hy) (by rw [psA]; exact hT1) (fun b q z => (hF1 b q (fun y => z ⟨y.1, y.2.1⟩)).trans (hI b q z)) (fun i hi => ?_)
        by_cases z : i = a
        · rw [z]; exact hac1
        · exact ac_keep (hac i (by omega)) hF1 z
      · intro w hyb N1 I1 hT1 hF1
        rw [hyb] at hy
        have hwe : w ≤ e := by
          unfold yrB at hyb
          by_cases z : lenA (M 91 (psA (M 91) a)) = 0
          · rw [if_pos z] at hyb
            cases hyb
            omega
          · rw [if_neg z] at hyb
            apply Classical.byContradiction
            intro hgt
            have key : ∀ m w, badA (M 91) e (psA (M 91) a) m = some w → w ≤ e := by
              intro m
              induction m with
              | zero => intro w h; cases h
              | succ m ihm =>
                intro w h
                rw [badA] at h
                cases hq : badA (M 91) e (psA (M 91) a) m with
                | some w' =>
                  rw [hq] at h
                  cases h
                  exact ihm w hq
                | none =>
                  rw [hq] at h
                  have h' : (if okD (M 91) e (psA (M 91) a) (m + 1) = true then none else some (psA (M 91) a + (m + 1))) = some w := h
                  split at h'
                  · cases h'
                  · cases h'
                    by_cases m0 : m = 0
                    · omega
                    · have := bad_n m hq m (by omega) (Nat.le_refl _)
                      unfold okD at this
                      have := of_decide_eq_true (Bool.and_eq_true _ _ |>.mp this).1
                      omega
            exact hgt (key _ w hyb)
        have hx := hF (a + 1) w N1 I1 hy hwe hT1 (fun b q z => (hF1 b q (fun y => z ⟨y.1, y.2.1⟩)).trans (hI b q z))
        simp (disch := (first | omega | exact aCat_8 (by with_unfolding_all rfl) | exact rk_lt (by with_unfolding_all rfl) | exact aCat_16 (by with_unfolding_all rfl) | exact rk_eq (by with_unfolding_all rfl) | assumption | exact b2n_lt _ | exact id_b (by with_unfolding_all rfl) | (simp (disch := omega) only [u2_same, u2_ab, u2_aq]; done) | (simp (disch := omega) only [u2_same, u2_ab, u2_aq]; omega) | fail)) only [al_3456, wp_aloadr_0, wp_aloadk_0, wk_0, hp_86_0, wk_60, wc_6, wp_istore_1, hp_86_32, wk_1, wp_istore_2, wp_jsr, al_3457, wp_iload_2, wz_eq_t, wz_eq_f, wb_eq_t, wb_eq_f, wm_eq_1, wm_eq_2, hg_86_12, hg_86_13, wn_ge_t, wn_ge_f, wc_55, wp_goto, wp_iload_1, wc_20, wp_istore_3, wp_iload_3, wz_ge_t, wz_ge_f, wm_ge_1, wm_ge_2, wp_ireturn, al_3459, wc_39, wp_istore_4, wp_iload_4, hg_86_32, wc_56, wp_iinc_4_1, al_3461, hp_86_1, al_3462, al_3463, wc_17, t_17, wp_i2l, wc_43, t_43, hg_86_8, ha_89l, ha_89s, wk_109, wz_le_t, wz_le_f, wm_le_1, wm_le_2, wc_44, al_3464, al_3465, nl_i, nl_r, nl_k, nl_j, nl_l, nI_add, pk_mul, pk_sub, tl_s, tl_n, aL_inl, u2_same, u2_ab, u2_aq, nI_l, lN_i, Nat.add_zero, Nat.zero_add, Nat.zero_le, true_and, and_true, b2n_10, b2n_T, b2n_F, b2n_0, Decidable.not_not, not_true_eq_false, not_false_eq_true, Nat.reduceAdd, Nat.reduceMul, Nat.reduceSub]
        exact hx
/-- what is wrong with a text -/
theorem t_20 {M : Nat → Nat → Nat} {n m e pos fl : Nat} (hn : n ≤ 80) (hm : m ≤ 60) (he : e = min n m) (hpe : pos ≤ e) (hfl : fl ≤ 1) (x1 : N 86 13 = e) (x2 : N 86 12 = pos) : aMm ko d 20 [.ref 86, .int (nI n), .int (nI m), .int (nI fl)] (hp D N I J x) Q = Q (some (.int (if m < n ∧ (fl = 1 ∧ pos = e ∨ m ≤ pos) then -1 - nI m else if fl = 1 ∧ pos = e then nI 0 else -1 - nI pos))) (hp D N I J x) := by
  rw [me_20]
  by_cases w : fl = 1 ∧ pos = e
  · obtain ⟨w1, w2⟩ := w
    subst w1 w2
    by_cases z : m < n
    · rw [if_pos ⟨z, Or.inl ⟨rfl, rfl⟩⟩]
      simp (disch := (first | omega | exact aCat_8 (by with_unfolding_all rfl) | exact rk_lt (by with_unfolding_all rfl) | exact aCat_16 (by with_unfolding_all rfl) | exact rk_eq (by with_unfolding_all rfl) | assumption | exact b2n_lt _ | exact id_b (by with_unfolding_all rfl) | (simp (disch := omega) only [u2_same, u2_ab, u2_aq]; done) | (simp (disch := omega) only [u2_same, u2_ab, u2_aq]; omega) | fail)) only [al_1280, wp_iload_3, wz_eq_t, wz_eq_f, wb_eq_t, wb_eq_f, wm_eq_1, wm_eq_2, wp_aloadr_0, wp_aloadk_0, hg_86_12, hg_86_13, wn_ne_t, wn_ne_f, wk_1, wp_goto, al_1281, wk_0, wp_jsr, al_1282, wp_istore_4, wp_iload_1, wp_iload_2, wn_le_t, wn_le_f, wp_iload_4, wz_ne_t, wz_ne_f, wb_ne_t, wb_ne_f, wm_ne_1, wm_ne_2, wn_lt_t, wn_lt_f, al_1283, wk_m1, wp_isub, wp_ireturn, al_1284, al_1285, al_1286, nl_i, nl_r, nl_k, nl_j, nl_l, nI_add, pk_mul, pk_sub, tl_s, tl_n, aL_inl, u2_same, u2_ab, u2_aq, nI_l, lN_i, Nat.add_zero, Nat.zero_add, Nat.zero_le, true_and, and_true, b2n_10, b2n_T, b2n_F, b2n_0, Decidable.not_not, not_true_eq_false, not_false_eq_true, Nat.reduceAdd, Nat.reduceMul, Nat.reduceSub, x1, x2]
    · rw [if_neg (fun y => z y.1), if_pos ⟨rfl, rfl⟩]
      simp (disch := (first | omega | exact aCat_8 (by with_unfolding_all rfl) | exact rk_lt (by with_unfolding_all rfl) | exact aCat_16 (by with_unfolding_all rfl) | exact rk_eq (by with_unfolding_all rfl) | assumption | exact b2n_lt _ | exact id_b (by with_unfolding_all rfl) | (simp (disch := omega) only [u2_same, u2_ab, u2_aq]; done) | (simp (disch := omega) only [u2_same, u2_ab, u2_aq]; omega) | fail)) only [al_1280, wp_iload_3, wz_eq_t, wz_eq_f, wb_eq_t, wb_eq_f, wm_eq_1, wm_eq_2, wp_aloadr_0, wp_aloadk_0, hg_86_12, hg_86_13, wn_ne_t, wn_ne_f, wk_1, wp_goto, al_1281, wk_0, wp_jsr, al_1282, wp_istore_4, wp_iload_1, wp_iload_2, wn_le_t, wn_le_f, wp_iload_4, wz_ne_t, wz_ne_f, wb_ne_t, wb_ne_f, wm_ne_1, wm_ne_2, wn_lt_t, wn_lt_f, al_1283, wk_m1, wp_isub, wp_ireturn, al_1284, al_1285, al_1286, nl_i, nl_r, nl_k, nl_j, nl_l, nI_add, pk_mul, pk_sub, tl_s, tl_n, aL_inl, u2_same, u2_ab, u2_aq, nI_l, lN_i, Nat.add_zero, Nat.zero_add, Nat.zero_le, true_and, and_true, b2n_10, b2n_T, b2n_F, b2n_0, Decidable.not_not, not_true_eq_false, not_false_eq_true, Nat.reduceAdd, Nat.reduceMul, Nat.reduceSub, x1, x2]
  · rw [if_neg w]
    have hc : ∀ {A : Prop}, (fl = 0 → A) → (¬ fl = 0 → ¬ pos = e → A) → A := by
      intro A h1 h2
      by_cases y : fl = 0
      · exact h1 y
      · exact h2 y (fun y2 => w ⟨by omega, y2⟩)
    by_cases z : m < n
    · by_cases y : m ≤ pos
      · rw [if_pos ⟨z, Or.inr y⟩]
        by_cases f0 : fl = 0
        · simp (disch := (first | omega | exact aCat_8 (by with_unfolding_all rfl) | exact rk_lt (by with_unfolding_all rfl) | exact aCat_16 (by with_unfolding_all rfl) | exact rk_eq (by with_unfolding_all rfl) | assumption | exact b2n_lt _ | exact id_b (by with_unfolding_all rfl) | (simp (disch := omega) only [u2_same, u2_ab, u2_aq]; done) | (simp (disch := omega) only [u2_same, u2_ab, u2_aq]; omega) | fail)) only [al_1280, wp_iload_3, wz_eq_t, wz_eq_f, wb_eq_t, wb_eq_f, wm_eq_1, wm_eq_2, wp_aloadr_0, wp_aloadk_0, hg_86_12, hg_86_13, wn_ne_t, wn_ne_f, wk_1, wp_goto, al_1281, wk_0, wp_jsr, al_1282, wp_istore_4, wp_iload_1, wp_iload_2, wn_le_t, wn_le_f, wp_iload_4, wz_ne_t, wz_ne_f, wb_ne_t, wb_ne_f, wm_ne_1, wm_ne_2, wn_lt_t, wn_lt_f, al_1283, wk_m1, wp_isub, wp_ireturn, al_1284, al_1285, al_1286, nl_i, nl_r, nl_k, nl_j, nl_l, nI_add, pk_mul, pk_sub, tl_s, tl_n, aL_inl, u2_same, u2_ab, u2_aq, nI_l, lN_i, Nat.add_zero, Nat.zero_add, Nat.zero_le, true_and, and_true, b2n_10, b2n_T, b2n_F, b2n_0, Decidable.not_not, not_true_eq_false, not_false_eq_true, Nat.reduceAdd, Nat.reduceMul, Nat.reduceSub, x1, x2, f0]
        · exact absurd ⟨by omega, by omega⟩ w
      · rw [if_neg (fun q => by rcases q.2 with q2 | q2 <;> omega)]
        by_cases f0 : fl = 0
        · simp (disch := (first | omega | exact aCat_8 (by with_unfolding_all rfl) | exact rk_lt (by with_unfolding_all rfl) | exact aCat_16 (by with_unfolding_all rfl) | exact rk_eq (by with_unfolding_all rfl) | assumption | exact b2n_lt _ | exact id_b (by with_unfolding_all rfl) | (simp (disch := omega) only [u2_same, u2_ab, u2_aq]; done) | (simp (disch := omega) only [u2_same, u2_ab, u2_aq]; omega) | fail)) only [al_1280, wp_iload_3, wz_eq_t, wz_eq_f, wb_eq_t, wb_eq_f, wm_eq_1, wm_eq_2, wp_aloadr_0, wp_aloadk_0, hg_86_12, hg_86_13, wn_ne_t, wn_ne_f, wk_1, wp_goto, al_1281, wk_0, wp_jsr, al_1282, wp_istore_4, wp_iload_1, wp_iload_2, wn_le_t, wn_le_f, wp_iload_4, wz_ne_t, wz_ne_f, wb_ne_t, wb_ne_f, wm_ne_1, wm_ne_2, wn_lt_t, wn_lt_f, al_1283, wk_m1, wp_isub, wp_ireturn, al_1284, al_1285, al_1286, nl_i, nl_r, nl_k, nl_j, nl_l, nI_add, pk_mul, pk_sub, tl_s, tl_n, aL_inl, u2_same, u2_ab, u2_aq, nI_l, lN_i, Nat.add_zero, Nat.zero_add, Nat.zero_le, true_and, and_true, b2n_10, b2n_T, b2n_F, b2n_0, Decidable.not_not, not_true_eq_false, not_false_eq_true, Nat.reduceAdd, Nat.reduceMul, Nat.reduceSub, x1, x2, f0]
        · have hne : ¬ pos = e := fun y2 => w ⟨by omega, y2⟩
          simp (disch := (first | omega | exact aCat_8 (by with_unfolding_all rfl) | exact rk_lt (by with_unfolding_all rfl) | exact aCat_16 (by with_unfolding_all rfl) | exact rk_eq (by with_unfolding_all rfl) | assumption | exact b2n_lt _ | exact id_b (by with_unfolding_all rfl) | (simp (disch := omega) only [u2_same, u2_ab, u2_aq]; done) | (simp (disch := omega) only [u2_same, u2_ab, u2_aq]; omega) | fail)) only [al_1280, wp_iload_3, wz_eq_t, wz_eq_f, wb_eq_t, wb_eq_f, wm_eq_1, wm_eq_2, wp_aloadr_0, wp_aloadk_0, hg_86_12, hg_86_13, wn_ne_t, wn_ne_f, wk_1, wp_goto, al_1281, wk_0, wp_jsr, al_1282, wp_istore_4, wp_iload_1, wp_iload_2, wn_le_t, wn_le_f, wp_iload_4, wz_ne_t, wz_ne_f, wb_ne_t, wb_ne_f, wm_ne_1, wm_ne_2, wn_lt_t, wn_lt_f, al_1283, wk_m1, wp_isub, wp_ireturn, al_1284, al_1285, al_1286, nl_i, nl_r, nl_k, nl_j, nl_l, nI_add, pk_mul, pk_sub, tl_s, tl_n, aL_inl, u2_same, u2_ab, u2_aq, nI_l, lN_i, Nat.add_zero, Nat.zero_add, Nat.zero_le, true_and, and_true, b2n_10, b2n_T, b2n_F, b2n_0, Decidable.not_not, not_true_eq_false, not_false_eq_true, Nat.reduceAdd, Nat.reduceMul, Nat.reduceSub, x1, x2]
    · rw [if_neg (fun q => z q.1)]
      by_cases f0 : fl = 0
      · simp (disch := (first | omega | exact aCat_8 (by with_unfolding_all rfl) | exact rk_lt (by with_unfolding_all rfl) | exact aCat_16 (by with_unfolding_all rfl) | exact rk_eq (by with_unfolding_all rfl) | assumption | exact b2n_lt _ | exact id_b (by with_unfolding_all rfl) | (simp (disch := omega) only [u2_same, u2_ab, u2_aq]; done) | (simp (disch := omega) only [u2_same, u2_ab, u2_aq]; omega) | fail)) only [al_1280, wp_iload_3, wz_eq_t, wz_eq_f, wb_eq_t, wb_eq_f, wm_eq_1, wm_eq_2, wp_aloadr_0, wp_aloadk_0, hg_86_12, hg_86_13, wn_ne_t, wn_ne_f, wk_1, wp_goto, al_1281, wk_0, wp_jsr, al_1282, wp_istore_4, wp_iload_1, wp_iload_2, wn_le_t, wn_le_f, wp_iload_4, wz_ne_t, wz_ne_f, wb_ne_t, wb_ne_f, wm_ne_1, wm_ne_2, wn_lt_t, wn_lt_f, al_1283, wk_m1, wp_isub, wp_ireturn, al_1284, al_1285, al_1286, nl_i, nl_r, nl_k, nl_j, nl_l, nI_add, pk_mul, pk_sub, tl_s, tl_n, aL_inl, u2_same, u2_ab, u2_aq, nI_l, lN_i, Nat.add_zero, Nat.zero_add, Nat.zero_le, true_and, and_true, b2n_10, b2n_T, b2n_F, b2n_0, Decidable.not_not, not_true_eq_false, not_false_eq_true, Nat.reduceAdd, Nat.reduceMul, Nat.reduceSub, x1, x2, f0]
      · have hne : ¬ pos = e := fun y2 => w ⟨by omega, y2⟩
        simp (disch := (first | omega | exact aCat_8 (by with_unfolding_all rfl) | exact rk_lt (by with_unfolding_all rfl) | exact aCat_16 (by with_unfolding_all rfl) | exact rk_eq (by with_unfolding_all rfl) | assumption | exact b2n_lt _ | exact id_b (by with_unfolding_all rfl) | (simp (disch := omega) only [u2_same, u2_ab, u2_aq]; done) | (simp (disch := omega) only [u2_same, u2_ab, u2_aq]; omega) | fail)) only [al_1280, wp_iload_3, wz_eq_t, wz_eq_f, wb_eq_t, wb_eq_f, wm_eq_1, wm_eq_2, wp_aloadr_0, wp_aloadk_0, hg_86_12, hg_86_13, wn_ne_t, wn_ne_f, wk_1, wp_goto, al_1281, wk_0, wp_jsr, al_1282, wp_istore_4, wp_iload_1, wp_iload_2, wn_le_t, wn_le_f, wp_iload_4, wz_ne_t, wz_ne_f, wb_ne_t, wb_ne_f, wm_ne_1, wm_ne_2, wn_lt_t, wn_lt_f, al_1283, wk_m1, wp_isub, wp_ireturn, al_1284, al_1285, al_1286, nl_i, nl_r, nl_k, nl_j, nl_l, nI_add, pk_mul, pk_sub, tl_s, tl_n, aL_inl, u2_same, u2_ab, u2_aq, nI_l, lN_i, Nat.add_zero, Nat.zero_add, Nat.zero_le, true_and, and_true, b2n_10, b2n_T, b2n_F, b2n_0, Decidable.not_not, not_true_eq_false, not_false_eq_true, Nat.reduceAdd, Nat.reduceMul, Nat.reduceSub, x1, x2]
end YU
