/-! reed. From wip/whole/src. -/
theorem tb_lN' : ∀ m, m < 64 → ∀ c, c < 6 → b2n (tb (lN m) c = true) = (m / 2 ^ c) % 2 := by decide +kernel
theorem tb_lN {m c : Nat} (hm : m < 64) (hc : c < 6) : b2n (tb (lN m) c = true) = (m / 2 ^ c) % 2 := tb_lN' m hm c hc
/-- of the columns that fit, below k: those whose course would pass over f -/
def lft (D : Nat → Nat) (N : Nat → Nat → Nat) (n m f : Nat) : Nat → Nat
  | 0 => 0
  | c + 1 => lft D N n m f c + (if tb (lN m) c = true then b2n (fcO D N c n f = true) else 0)
theorem lft_le {D : Nat → Nat} {N : Nat → Nat → Nat} {n m f : Nat} (hm : m < 64) : ∀ c, c ≤ 6 → lft D N n m f c ≤ popN c m
  | 0, _ => Nat.le_refl _
  | c + 1, h => by
    have h1 := lft_le (D := D) (N := N) (n := n) (f := f) hm c (by omega)
    have h2 := tb_lN (m := m) (c := c) hm (by omega)
    have h3 := b2n_le (fcO D N c n f = true)
    rw [lft, popN, ← h2]
    split
    · rename_i z
      rw [b2n_t z]
      omega
    · omega
theorem pop_mono {c m : Nat} : ∀ k, popN c m ≤ popN (c + k) m
  | 0 => Nat.le_refl _
  | k + 1 => by
    have := pop_mono (c := c) (m := m) k
    rw [← Nat.add_assoc, popN]
    omega
theorem lft_6 {D : Nat → Nat} {N : Nat → Nat → Nat} {n m f c : Nat} (hm : m < 64) (hc : c ≤ 6) : lft D N n m f c ≤ popN 6 m := by
  have h1 := lft_le (D := D) (N := N) (n := n) (f := f) hm c hc
  have h2 := pop_mono (c := c) (m := m) (6 - c)
  rw [show c + (6 - c) = 6 by omega] at h2
  omega
def rdV (D : Nat → Nat) (N : Nat → Nat → Nat) (n m f : Nat) : Nat := max (lft D N n m f (D 1)) (popN 6 m - lft D N n m f (D 1))
/-- the first of the least, of the first k -/
def rdF (V : Nat → Nat) : Nat → Nat
  | 0 => 0
  | k + 1 => if k = 0 then 0 else if V k < V (rdF V k) then k else rdF V k
theorem rdF_lt {V : Nat → Nat} : ∀ k, 0 < k → rdF V k < k
  | 0, h => by omega
  | k + 1, _ => by
    rw [rdF]
    split
    · omega
    · rename_i h
      have := rdF_lt (V := V) k (by omega)
      split <;> omega
/-- the best so far: before the first field the place is -1, the value z -/
def rdB (V : Nat → Nat) (z : Int32) (k : Nat) (p q : Int32) : Prop := (k = 0 ∧ p = -1 ∧ q = z) ∨ (0 < k ∧ p = nI (rdF V k) ∧ q = nI (V (rdF V k)))
section R1
variable {ko : aKo} {d k : Nat} {is : List Instr} {ls st : List Value} {σ : aH} {D : Nat → Nat} {N : Nat → Nat → Nat} {I : Nat → Nat → Int32} {J : Nat → Nat → Int64} {x t : Nat} {Q : Option Value → aH → Prop} {P : (Option Value ⊕ Unit) → aH → Prop}
theorem l_204 {N0 : Nat → Nat → Nat} {u n m f : Nat} (hd3 : D 3 = D 1) (hd6 : D 1 ≤ 6) (hm : m < 64) (hn : n < u) (hu : u ≤ 21) (hf : f < 36) (hw : drwn D N0 J u (D 1) 0) :
    ∀ (j c : Nat), c + j = D 1 → aWp ko d 204 (aP.1 (Int.toNat 13057)) [.ref 0, .int (nI m), .int (nI n), .int (nI f), .int (nI (lft D N0 n m f c)), .int (nI c)] [] (hp D N I J x) (aL Q) = Q (some (.int (nI (rdV D N0 n m f)))) (hp D N I J x) := by
  intro j
  induction j with
  | zero =>
    intro c hj
    have e : c = D 1 := by omega
    subst e
    have h1 := lft_6 (D := D) (N := N0) (n := n) (f := f) (c := D 1) hm hd6
    have h2 := pop_le 6 m
    unfold rdV
    rw [al_13057]
    simp (disch := (first | omega | exact aCat_8 (by with_unfolding_all rfl) | exact rk_lt (by with_unfolding_all rfl) | exact aCat_16 (by with_unfolding_all rfl) | exact rk_eq (by with_unfolding_all rfl) | assumption | exact b2n_lt _ | exact id_b (by with_unfolding_all rfl) | (simp (disch := omega) only [u2_same, u2_ab, u2_aq]; done) | (simp (disch := omega) only [u2_same, u2_ab, u2_aq]; omega) | fail)) only [al_13056, wk_0, wp_istore_4, wp_istore_5, wp_jsr, wp_iload_5, wp_aloadr_0, wp_aloadk_0, hg_0_2, hg_5_1, wn_ge_t, wn_ge_f, wp_iload_1, wp_i2l, wc_161, t_161, wk_1, wn_ne_t, wn_ne_f, wp_iload_4, hg_0_17, ha_77l, ha_77s, wp_iload_2, wc_201, wp_iload_3, wp_iadd, al_13058, wp_iinc_5_1, wp_goto, al_13059, wc_121, wp_isub, wp_max, wp_ireturn, nl_i, nl_r, nl_k, nl_j, nl_l, nI_add, pk_mul, pk_sub, tl_s, tl_n, aL_inl, u2_same, u2_ab, u2_aq, nI_l, lN_i, Nat.add_zero, Nat.zero_add, Nat.zero_le, true_and, and_true, b2n_10, b2n_T, b2n_F, b2n_0, Decidable.not_not, not_true_eq_false, not_false_eq_true, Nat.reduceAdd, Nat.reduceMul, Nat.reduceSub, hd3, t_121 hm]
  | succ j ih =>
    intro c hj
    have h1 := lft_6 (D := D) (N := N0) (n := n) (f := f) (c := c) hm (by omega)
    have h2 := pop_le 6 m
    have hb := hw c n hn (Or.inl (by omega)) f (by omega)
    have hle := b2n_le (fcO D N0 c n f = true)
    have ih1 := ih (c + 1) (by omega)
    rw [lft] at ih1
    rw [al_13057]
    by_cases z : tb (lN m) c = true
    · rw [if_pos z] at ih1
      simp (disch := (first | omega | exact aCat_8 (by with_unfolding_all rfl) | exact rk_lt (by with_unfolding_all rfl) | exact aCat_16 (by with_unfolding_all rfl) | exact rk_eq (by with_unfolding_all rfl) | assumption | exact b2n_lt _ | exact id_b (by with_unfolding_all rfl) | (simp (disch := omega) only [u2_same, u2_ab, u2_aq]; done) | (simp (disch := omega) only [u2_same, u2_ab, u2_aq]; omega) | fail)) only [al_13056, wk_0, wp_istore_4, wp_istore_5, wp_jsr, wp_iload_5, wp_aloadr_0, wp_aloadk_0, hg_0_2, hg_5_1, wn_ge_t, wn_ge_f, wp_iload_1, wp_i2l, wc_161, t_161, wk_1, wn_ne_t, wn_ne_f, wp_iload_4, hg_0_17, ha_77l, ha_77s, wp_iload_2, wc_201, wp_iload_3, wp_iadd, al_13058, wp_iinc_5_1, wp_goto, al_13059, wc_121, wp_isub, wp_max, wp_ireturn, nl_i, nl_r, nl_k, nl_j, nl_l, nI_add, pk_mul, pk_sub, tl_s, tl_n, aL_inl, u2_same, u2_ab, u2_aq, nI_l, lN_i, Nat.add_zero, Nat.zero_add, Nat.zero_le, true_and, and_true, b2n_10, b2n_T, b2n_F, b2n_0, Decidable.not_not, not_true_eq_false, not_false_eq_true, Nat.reduceAdd, Nat.reduceMul, Nat.reduceSub, hd3, b2n_t z, t_201 (show c ≤ 6 by omega) (show n ≤ 21 by omega), hb]
      exact ih1
    · rw [if_neg z, Nat.add_zero] at ih1
      simp (disch := (first | omega | exact aCat_8 (by with_unfolding_all rfl) | exact rk_lt (by with_unfolding_all rfl) | exact aCat_16 (by with_unfolding_all rfl) | exact rk_eq (by with_unfolding_all rfl) | assumption | exact b2n_lt _ | exact id_b (by with_unfolding_all rfl) | (simp (disch := omega) only [u2_same, u2_ab, u2_aq]; done) | (simp (disch := omega) only [u2_same, u2_ab, u2_aq]; omega) | fail)) only [al_13056, wk_0, wp_istore_4, wp_istore_5, wp_jsr, wp_iload_5, wp_aloadr_0, wp_aloadk_0, hg_0_2, hg_5_1, wn_ge_t, wn_ge_f, wp_iload_1, wp_i2l, wc_161, t_161, wk_1, wn_ne_t, wn_ne_f, wp_iload_4, hg_0_17, ha_77l, ha_77s, wp_iload_2, wc_201, wp_iload_3, wp_iadd, al_13058, wp_iinc_5_1, wp_goto, al_13059, wc_121, wp_isub, wp_max, wp_ireturn, nl_i, nl_r, nl_k, nl_j, nl_l, nI_add, pk_mul, pk_sub, tl_s, tl_n, aL_inl, u2_same, u2_ab, u2_aq, nI_l, lN_i, Nat.add_zero, Nat.zero_add, Nat.zero_le, true_and, and_true, b2n_10, b2n_T, b2n_F, b2n_0, Decidable.not_not, not_true_eq_false, not_false_eq_true, Nat.reduceAdd, Nat.reduceMul, Nat.reduceSub, hd3, b2n_f z]
      exact ih1
theorem t_204 {N0 : Nat → Nat → Nat} {u n m f : Nat} (hd3 : D 3 = D 1) (hd6 : D 1 ≤ 6) (hm : m < 64) (hn : n < u) (hu : u ≤ 21) (hf : f < 36) (hw : drwn D N0 J u (D 1) 0) : aMm ko d 204 [.ref 0, .int (nI m), .int (nI n), .int (nI f)] (hp D N I J x) Q = Q (some (.int (nI (rdV D N0 n m f)))) (hp D N I J x) := by
  have hx := l_204 (ko := ko) (d := d) (N := N) (I := I) (x := x) (Q := Q) (N0 := N0) hd3 hd6 hm hn hu hf hw (D 1) 0 (by omega)
  have e0 : lft D N0 n m f 0 = 0 := rfl
  rw [e0] at hx
  rw [me_204]
  simp (disch := (first | omega | exact aCat_8 (by with_unfolding_all rfl) | exact rk_lt (by with_unfolding_all rfl) | exact aCat_16 (by with_unfolding_all rfl) | exact rk_eq (by with_unfolding_all rfl) | assumption | exact b2n_lt _ | exact id_b (by with_unfolding_all rfl) | (simp (disch := omega) only [u2_same, u2_ab, u2_aq]; done) | (simp (disch := omega) only [u2_same, u2_ab, u2_aq]; omega) | fail)) only [al_13056, wk_0, wp_istore_4, wp_istore_5, wp_jsr, wp_iload_5, wp_aloadr_0, wp_aloadk_0, hg_0_2, hg_5_1, wn_ge_t, wn_ge_f, wp_iload_1, wp_i2l, wc_161, t_161, wk_1, wn_ne_t, wn_ne_f, wp_iload_4, hg_0_17, ha_77l, ha_77s, wp_iload_2, wc_201, wp_iload_3, wp_iadd, al_13058, wp_iinc_5_1, wp_goto, al_13059, wc_121, wp_isub, wp_max, wp_ireturn, nl_i, nl_r, nl_k, nl_j, nl_l, nI_add, pk_mul, pk_sub, tl_s, tl_n, aL_inl, u2_same, u2_ab, u2_aq, nI_l, lN_i, Nat.add_zero, Nat.zero_add, Nat.zero_le, true_and, and_true, b2n_10, b2n_T, b2n_F, b2n_0, Decidable.not_not, not_true_eq_false, not_false_eq_true, Nat.reduceAdd, Nat.reduceMul, Nat.reduceSub]
  exact hx
theorem rdV_le {n m f : Nat} (hm : m < 64) (hd6 : D 1 ≤ 6) : rdV D N n m f ≤ 6 := by
  have h1 := lft_6 (D := D) (N := N) (n := n) (f := f) (c := D 1) hm hd6
  have h2 := pop_le 6 m
  unfold rdV
  omega
theorem l_203 {N0 : Nat → Nat → Nat} {u n m : Nat} (h2 : D 4 ≤ 36) (h4 : 0 < D 4) (hd3 : D 3 = D 1) (hd6 : D 1 ≤ 6) (hm : m < 64) (hn : n < u) (hu : u ≤ 21) (hw : drwn D N0 J u (D 1) 0)
    (hK : ∀ (w : Value), aWp ko d 203 (aP.1 (Int.toNat 12999)) [.ref 0, .int (nI n), .int (nI m), .int (nI (rdF (rdV D N0 n m) (D 4))), .int (nI (rdV D N0 n m (rdF (rdV D N0 n m) (D 4)))), .int (nI (D 4)), w] [] (hp D N I J x) (aL Q)) :
    ∀ (j f : Nat) (p q : Int32) (w : Value), f + j = D 4 → rdB (rdV D N0 n m) 0 f p q → aWp ko d 203 (aP.1 (Int.toNat 12996)) [.ref 0, .int (nI n), .int (nI m), .int p, .int q, .int (nI f), w] [] (hp D N I J x) (aL Q) := by
  intro j
  induction j with
  | zero =>
    intro f p q w hj hb
    have e : f = D 4 := by omega
    subst e
    rcases hb with ⟨h0, _⟩ | ⟨_, rfl, rfl⟩
    · omega
    · rw [al_12996]
      simp (disch := (first | omega | exact aCat_8 (by with_unfolding_all rfl) | exact rk_lt (by with_unfolding_all rfl) | exact aCat_16 (by with_unfolding_all rfl) | exact rk_eq (by with_unfolding_all rfl) | assumption | exact b2n_lt _ | exact id_b (by with_unfolding_all rfl) | (simp (disch := omega) only [u2_same, u2_ab, u2_aq]; done) | (simp (disch := omega) only [u2_same, u2_ab, u2_aq]; omega) | fail)) only [al_12992, wp_iload_1, wz_lt_t, wz_lt_f, wm_lt_1, wm_lt_2, wk_20, wn_le_t, wn_le_f, wp_jsr, al_12993, wk_m1, wp_ireturn, al_12994, wp_aloadr_0, wp_aloadk_0, hg_0_14, wp_max, wc_200, wp_istore_2, wp_iload_2, wz_ne_t, wz_ne_f, wb_ne_t, wb_ne_f, wm_ne_1, wm_ne_2, wk_m2, al_12995, wp_istore_3, wk_0, wp_istore_4, wp_istore_5, wp_iload_5, hg_0_2, hg_5_2, wn_ge_t, wn_ge_f, wc_204, wp_istore_6, wp_iload_3, wn_eq_t, wn_eq_f, wp_iload_6, wp_iload_4, al_12997, al_12998, wp_iinc_5_1, wp_goto, hg_0_1, wc_292, t_292, wp_i2l, wc_293, t_293, nl_i, nl_r, nl_k, nl_j, nl_l, nI_add, pk_mul, pk_sub, tl_s, tl_n, aL_inl, u2_same, u2_ab, u2_aq, nI_l, lN_i, Nat.add_zero, Nat.zero_add, Nat.zero_le, true_and, and_true, b2n_10, b2n_T, b2n_F, b2n_0, Decidable.not_not, not_true_eq_false, not_false_eq_true, Nat.reduceAdd, Nat.reduceMul, Nat.reduceSub]
      exact hK w
  | succ j ih =>
    intro f p q w hj hb
    have ht := @t_204 ko d D N I J x
    have hV := rdV_le (D := D) (N := N0) (n := n) (m := m) (f := f) hm hd6
    rw [al_12996]
    rcases hb with ⟨h0, rfl, rfl⟩ | ⟨h0, rfl, rfl⟩
    · subst h0
      simp (disch := (first | omega | exact aCat_8 (by with_unfolding_all rfl) | exact rk_lt (by with_unfolding_all rfl) | exact aCat_16 (by with_unfolding_all rfl) | exact rk_eq (by with_unfolding_all rfl) | assumption | exact b2n_lt _ | exact id_b (by with_unfolding_all rfl) | (simp (disch := omega) only [u2_same, u2_ab, u2_aq]; done) | (simp (disch := omega) only [u2_same, u2_ab, u2_aq]; omega) | fail)) only [al_12992, wp_iload_1, wz_lt_t, wz_lt_f, wm_lt_1, wm_lt_2, wk_20, wn_le_t, wn_le_f, wp_jsr, al_12993, wk_m1, wp_ireturn, al_12994, wp_aloadr_0, wp_aloadk_0, hg_0_14, wp_max, wc_200, wp_istore_2, wp_iload_2, wz_ne_t, wz_ne_f, wb_ne_t, wb_ne_f, wm_ne_1, wm_ne_2, wk_m2, al_12995, wp_istore_3, wk_0, wp_istore_4, wp_istore_5, wp_iload_5, hg_0_2, hg_5_2, wn_ge_t, wn_ge_f, wc_204, wp_istore_6, wp_iload_3, wn_eq_t, wn_eq_f, wp_iload_6, wp_iload_4, al_12997, al_12998, wp_iinc_5_1, wp_goto, hg_0_1, wc_292, t_292, wp_i2l, wc_293, t_293, nl_i, nl_r, nl_k, nl_j, nl_l, nI_add, pk_mul, pk_sub, tl_s, tl_n, aL_inl, u2_same, u2_ab, u2_aq, nI_l, lN_i, Nat.add_zero, Nat.zero_add, Nat.zero_le, true_and, and_true, b2n_10, b2n_T, b2n_F, b2n_0, Decidable.not_not, not_true_eq_false, not_false_eq_true, Nat.reduceAdd, Nat.reduceMul, Nat.reduceSub, t_204 (N0 := N0) hd3 hd6 hm hn hu (show 0 < 36 by omega) hw, qe_n1, qe_m1, qn_n1, qn_m1, qe_n2, qe_m2, qn_n2, qn_m2]
      refine ih 1 _ _ _ (by omega) (Or.inr ⟨by decide, rfl, rfl⟩)
    · have hlt := rdF_lt (V := rdV D N0 n m) f h0
      have hV2 := rdV_le (D := D) (N := N0) (n := n) (m := m) (f := rdF (rdV D N0 n m) f) hm hd6
      have es : rdF (rdV D N0 n m) (f + 1) = if rdV D N0 n m f < rdV D N0 n m (rdF (rdV D N0 n m) f) then f else rdF (rdV D N0 n m) f := by
        rw [rdF, if_neg (by omega)]
      by_cases z : rdV D N0 n m f < rdV D N0 n m (rdF (rdV D N0 n m) f)
      · rw [if_pos z] at es
        simp (disch := (first | omega | exact aCat_8 (by with_unfolding_all rfl) | exact rk_lt (by with_unfolding_all rfl) | exact aCat_16 (by with_unfolding_all rfl) | exact rk_eq (by with_unfolding_all rfl) | assumption | exact b2n_lt _ | exact id_b (by with_unfolding_all rfl) | (simp (disch := omega) only [u2_same, u2_ab, u2_aq]; done) | (simp (disch := omega) only [u2_same, u2_ab, u2_aq]; omega) | fail)) only [al_12992, wp_iload_1, wz_lt_t, wz_lt_f, wm_lt_1, wm_lt_2, wk_20, wn_le_t, wn_le_f, wp_jsr, al_12993, wk_m1, wp_ireturn, al_12994, wp_aloadr_0, wp_aloadk_0, hg_0_14, wp_max, wc_200, wp_istore_2, wp_iload_2, wz_ne_t, wz_ne_f, wb_ne_t, wb_ne_f, wm_ne_1, wm_ne_2, wk_m2, al_12995, wp_istore_3, wk_0, wp_istore_4, wp_istore_5, wp_iload_5, hg_0_2, hg_5_2, wn_ge_t, wn_ge_f, wc_204, wp_istore_6, wp_iload_3, wn_eq_t, wn_eq_f, wp_iload_6, wp_iload_4, al_12997, al_12998, wp_iinc_5_1, wp_goto, hg_0_1, wc_292, t_292, wp_i2l, wc_293, t_293, nl_i, nl_r, nl_k, nl_j, nl_l, nI_add, pk_mul, pk_sub, tl_s, tl_n, aL_inl, u2_same, u2_ab, u2_aq, nI_l, lN_i, Nat.add_zero, Nat.zero_add, Nat.zero_le, true_and, and_true, b2n_10, b2n_T, b2n_F, b2n_0, Decidable.not_not, not_true_eq_false, not_false_eq_true, Nat.reduceAdd, Nat.reduceMul, Nat.reduceSub, t_204 (N0 := N0) hd3 hd6 hm hn hu (show f < 36 by omega) hw, qe_n1, qe_m1, qn_n1, qn_m1, qe_n2, qe_m2, qn_n2, qn_m2]
        refine ih (f + 1) _ _ _ (by omega) (Or.inr ⟨by omega, by rw [es], by rw [es]⟩)
      · rw [if_neg z] at es
        simp (disch := (first | omega | exact aCat_8 (by with_unfolding_all rfl) | exact rk_lt (by with_unfolding_all rfl) | exact aCat_16 (by with_unfolding_all rfl) | exact rk_eq (by with_unfolding_all rfl) | assumption | exact b2n_lt _ | exact id_b (by with_unfolding_all rfl) | (simp (disch := omega) only [u2_same, u2_ab, u2_aq]; done) | (simp (disch := omega) only [u2_same, u2_ab, u2_aq]; omega) | fail)) only [al_12992, wp_iload_1, wz_lt_t, wz_lt_f, wm_lt_1, wm_lt_2, wk_20, wn_le_t, wn_le_f, wp_jsr, al_12993, wk_m1, wp_ireturn, al_12994, wp_aloadr_0, wp_aloadk_0, hg_0_14, wp_max, wc_200, wp_istore_2, wp_iload_2, wz_ne_t, wz_ne_f, wb_ne_t, wb_ne_f, wm_ne_1, wm_ne_2, wk_m2, al_12995, wp_istore_3, wk_0, wp_istore_4, wp_istore_5, wp_iload_5, hg_0_2, hg_5_2, wn_ge_t, wn_ge_f, wc_204, wp_istore_6, wp_iload_3, wn_eq_t, wn_eq_f, wp_iload_6, wp_iload_4, al_12997, al_12998, wp_iinc_5_1, wp_goto, hg_0_1, wc_292, t_292, wp_i2l, wc_293, t_293, nl_i, nl_r, nl_k, nl_j, nl_l, nI_add, pk_mul, pk_sub, tl_s, tl_n, aL_inl, u2_same, u2_ab, u2_aq, nI_l, lN_i, Nat.add_zero, Nat.zero_add, Nat.zero_le, true_and, and_true, b2n_10, b2n_T, b2n_F, b2n_0, Decidable.not_not, not_true_eq_false, not_false_eq_true, Nat.reduceAdd, Nat.reduceMul, Nat.reduceSub, t_204 (N0 := N0) hd3 hd6 hm hn hu (show f < 36 by omega) hw, qe_n1, qe_m1, qn_n1, qn_m1, qe_n2, qe_m2, qn_n2, qn_m2]
        refine ih (f + 1) _ _ _ (by omega) (Or.inr ⟨by omega, by rw [es], by rw [es]⟩)
end R1
