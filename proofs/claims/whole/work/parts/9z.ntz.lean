/-! numberOfTrailingZeros, of any set. From wip/whole/src. -/
theorem low_n {n k : Nat} (h1 : n.testBit k = true) (h0 : ∀ i, i < k → n.testBit i = false) : n % 2 ^ (k + 1) = 2 ^ k := by
  apply Nat.eq_of_testBit_eq
  intro i
  rw [Nat.testBit_mod_two_pow, Nat.testBit_two_pow]
  by_cases a : i < k
  · have : ¬ k = i := by omega
    simp [h0 i a, this]
  · by_cases b : i = k
    · subst b
      simp [h1]
    · have c : ¬ i < k + 1 := by omega
      have e : ¬ k = i := by omega
      simp [c, e]
theorem low_m {n k : Nat} (h1 : n.testBit k = true) (h0 : ∀ i, i < k → n.testBit i = false) (i : Nat) : (!n.testBit i && (n - 1).testBit i) = decide (i < k) := by
  have hm := low_n h1 h0
  have hp : 0 < 2 ^ k := Nat.pow_pos (by decide)
  have hd := Nat.div_add_mod n (2 ^ (k + 1))
  rw [hm] at hd
  have e1 : n - 1 = 2 ^ (k + 1) * (n / 2 ^ (k + 1)) + (2 ^ k - 1) := by omega
  have hlt : 2 ^ k - 1 < 2 ^ (k + 1) := by rw [Nat.pow_succ]; omega
  have hlt2 : 2 ^ k < 2 ^ (k + 1) := by rw [Nat.pow_succ]; omega
  have t1 : (n - 1).testBit i = if i < k + 1 then (2 ^ k - 1).testBit i else (n / 2 ^ (k + 1)).testBit (i - (k + 1)) := by
    rw [e1, Nat.testBit_two_pow_mul_add _ hlt]
  have t2 : n.testBit i = if i < k + 1 then (2 ^ k).testBit i else (n / 2 ^ (k + 1)).testBit (i - (k + 1)) := by
    conv => lhs; rw [← hd]
    rw [Nat.testBit_two_pow_mul_add _ hlt2]
  rw [t1, t2]
  by_cases a : i < k + 1
  · rw [if_pos a, if_pos a, Nat.testBit_two_pow_sub_one, Nat.testBit_two_pow]
    by_cases b : i < k
    · have : ¬ k = i := by omega
      simp [b, this]
    · simp [b]
  · rw [if_neg a, if_neg a]
    have : ¬ i < k := by omega
    simp [this]
theorem tz_m {v : Int32} {k : Nat} (hk : k < 32) (h1 : bt v k = true) (h0 : ∀ i, i < k → bt v i = false) : (v ^^^ (-1)) &&& (v - nI 1) = nI (2 ^ k - 1) := by
  have hpk : 2 ^ k ≤ 2 ^ 31 := Nat.pow_le_pow_right (by decide) (by omega)
  have hp31 : (2 : Nat) ^ 31 = 2147483648 := by decide
  have hn1 : 1 ≤ v.toBitVec.toNat := by
    apply Classical.byContradiction
    intro z
    have e : v.toBitVec.toNat = 0 := by omega
    have : v.toBitVec.toNat.testBit k = true := h1
    rw [e, Nat.zero_testBit] at this
    cases this
  have es : (v - nI 1).toBitVec.toNat = v.toBitVec.toNat - 1 := by
    rw [Int32.toBitVec_sub, BitVec.toNat_sub]
    show (2 ^ 32 - 1 + v.toBitVec.toNat) % 2 ^ 32 = _
    have := v.toBitVec.isLt
    omega
  apply b_ext
  intro i hi
  rw [b_and, b_xor, b_m1 i hi]
  have hb : bt (v - nI 1) i = (v.toBitVec.toNat - 1).testBit i := by
    show (v - nI 1).toBitVec.toNat.testBit i = _
    rw [es]
  have hr : bt (nI (2 ^ k - 1)) i = decide (i < k) := by
    show (BitVec.ofNat 32 (2 ^ k - 1)).getLsbD i = _
    rw [BitVec.getLsbD_ofNat, Nat.testBit_two_pow_sub_one]
    simp [hi]
  have hl := low_m (n := v.toBitVec.toNat) (k := k) h1 h0 i
  have hv : bt v i = v.toBitVec.toNat.testBit i := rfl
  rw [hb, hr, hv, ← hl]
  simp
theorem sh_u {a s : Nat} (ha : a < 4294967296) (hs : s < 32) : ((nI a).toUInt32 >>> ((nI s).toUInt32 &&& Int32.toUInt32 31)).toInt32 = nI (a / 2 ^ s) := by
  apply Int32.toBitVec_inj.mp
  apply BitVec.eq_of_toNat_eq
  show ((nI a).toUInt32 >>> ((nI s).toUInt32 &&& Int32.toUInt32 31)).toBitVec.toNat = (BitVec.ofNat 32 (a / 2 ^ s)).toNat
  rw [UInt32.toBitVec_shiftRight]
  show ((nI a).toUInt32.toBitVec >>> (((nI s).toUInt32 &&& Int32.toUInt32 31).toBitVec % 32).toNat).toNat = _
  have hle : a / 2 ^ s ≤ a := Nat.div_le_self _ _
  rw [s_u s hs, BitVec.toNat_ushiftRight, Nat.shiftRight_eq_div_pow, BitVec.toNat_ofNat, Nat.mod_eq_of_lt (by omega)]
  show (BitVec.ofNat 32 a).toNat / 2 ^ s = _
  rw [BitVec.toNat_ofNat, Nat.mod_eq_of_lt (by omega)]
section Z2
variable {ko : aKo} {d k : Nat} {is : List Instr} {ls st : List Value} {σ : aH} {D : Nat → Nat} {N : Nat → Nat → Nat} {I : Nat → Nat → Int32} {J : Nat → Nat → Int64} {x t : Nat} {Q : Option Value → aH → Prop} {P : (Option Value ⊕ Unit) → aH → Prop}
theorem t_120g {v : Int32} {k : Nat} (hk : k < 32) (h1 : bt v k = true) (h0 : ∀ i, i < k → bt v i = false) : aMm ko d 120 [.int v] σ Q = Q (some (.int (nI k))) σ := by
  have a2 := tz_m hk h1 h0
  have hc : k = 0 ∨ k = 1 ∨ k = 2 ∨ k = 3 ∨ k = 4 ∨ k = 5 ∨ k = 6 ∨ k = 7 ∨ k = 8 ∨ k = 9 ∨ k = 10 ∨ k = 11 ∨ k = 12 ∨ k = 13 ∨ k = 14 ∨ k = 15 ∨ k = 16 ∨ k = 17 ∨ k = 18 ∨ k = 19 ∨ k = 20 ∨ k = 21 ∨ k = 22 ∨ k = 23 ∨ k = 24 ∨ k = 25 ∨ k = 26 ∨ k = 27 ∨ k = 28 ∨ k = 29 ∨ k = 30 ∨ k = 31 := by omega
  have e0 : nI 0 &&& nI 32 = nI 0 := by decide
  clear h1 h0
  rw [me_120]
  rcases hc with rfl | rfl | rfl | rfl | rfl | rfl | rfl | rfl | rfl | rfl | rfl | rfl | rfl | rfl | rfl | rfl | rfl | rfl | rfl | rfl | rfl | rfl | rfl | rfl | rfl | rfl | rfl | rfl | rfl | rfl | rfl | rfl
  all_goals simp (disch := (first | omega | exact aCat_8 (by with_unfolding_all rfl) | exact rk_lt (by with_unfolding_all rfl) | exact aCat_16 (by with_unfolding_all rfl) | exact rk_eq (by with_unfolding_all rfl) | assumption | exact b2n_lt _ | exact id_b (by with_unfolding_all rfl) | (simp (disch := omega) only [u2_same, u2_ab, u2_aq]; done) | (simp (disch := omega) only [u2_same, u2_ab, u2_aq]; omega) | fail)) only [al_7680, wp_iload_0, wk_m1, wp_ixor, wk_1, wp_isub, wp_iand, wp_istore_0, wz_gt_t, wz_gt_f, wm_gt_1, wm_gt_2, wk_32, wp_ireturn, al_7681, wp_istore_1, wk_65536, wn_le_t, wn_le_f, wp_iinc_1_16, wk_16, wp_iushr, wp_jsr, al_7682, wk_256, wp_iinc_1_8, wk_8, al_7683, wp_iinc_1_4, wk_4, al_7684, wp_iinc_1_2, wk_2, al_7685, wp_iload_1, wp_iadd, nl_i, nl_r, nl_k, nl_j, nl_l, nI_add, pk_mul, pk_sub, tl_s, tl_n, aL_inl, u2_same, u2_ab, u2_aq, nI_l, lN_i, Nat.add_zero, Nat.zero_add, Nat.zero_le, true_and, and_true, b2n_10, b2n_T, b2n_F, b2n_0, Decidable.not_not, not_true_eq_false, not_false_eq_true, Nat.reduceAdd, Nat.reduceMul, Nat.reduceSub, a2, sh_u, e0, Nat.reducePow, Nat.reduceDiv]
theorem b_low {s : Int64} {i : Nat} (hi : i < 32) : bt s.toInt32 i = tb s i := by
  show (s.toInt32).toBitVec.getLsbD i = s.toBitVec.getLsbD i
  rw [Int64.toBitVec_toInt32, BitVec.getLsbD_signExtend, if_pos (show i < 64 by omega)]
  simp [hi]
theorem t_123 {s : Int64} {k : Nat} (hk : k < 64) (h1 : tb s k = true) (h0 : ∀ i, i < k → tb s i = false) : aMm ko d 123 [.long s] σ Q = Q (some (.int (nI k))) σ := by
  rw [me_123]
  by_cases z : k < 32
  · have hne : ¬ s.toInt32 = 0 := by
      intro e
      have := b_low (s := s) z
      rw [e, b_zero, h1] at this
      cases this
    have ht := fun Q => t_120g (ko := ko) (d := d) (σ := σ) (Q := Q) (v := s.toInt32) z (by rw [b_low z]; exact h1) (fun i hi => by rw [b_low (by omega)]; exact h0 i hi)
    simp (disch := (first | omega | exact aCat_8 (by with_unfolding_all rfl) | exact rk_lt (by with_unfolding_all rfl) | exact aCat_16 (by with_unfolding_all rfl) | exact rk_eq (by with_unfolding_all rfl) | assumption | exact b2n_lt _ | exact id_b (by with_unfolding_all rfl) | (simp (disch := omega) only [u2_same, u2_ab, u2_aq]; done) | (simp (disch := omega) only [u2_same, u2_ab, u2_aq]; omega) | fail)) only [al_7872, wp_lload_0, wp_l2i, wp_istore_2, wp_iload_2, wz_ne_t, wz_ne_f, wb_ne_t, wb_ne_f, wm_ne_1, wm_ne_2, wk_32, wp_lushr, wc_120, wp_iadd, wp_goto, al_7873, wp_jsr, al_7874, wp_ireturn, nl_i, nl_r, nl_k, nl_j, nl_l, nI_add, pk_mul, pk_sub, tl_s, tl_n, aL_inl, u2_same, u2_ab, u2_aq, nI_l, lN_i, Nat.add_zero, Nat.zero_add, Nat.zero_le, true_and, and_true, b2n_10, b2n_T, b2n_F, b2n_0, Decidable.not_not, not_true_eq_false, not_false_eq_true, Nat.reduceAdd, Nat.reduceMul, Nat.reduceSub, wy_ne_t hne, ht]
  · have he : s.toInt32 = 0 := by
      apply b_ext
      intro i hi
      rw [b_low hi, b_zero]
      exact h0 i (by omega)
    have hb : ∀ i, i < 32 → bt ((s.toUInt64 >>> ((lN 32).toUInt64 &&& Int64.toUInt64 63)).toInt64).toInt32 i = tb s (32 + i) := by
      intro i hi
      rw [b_low hi, tb_ushr (by decide)]
    have ht := fun Q => t_120g (ko := ko) (d := d) (σ := σ) (Q := Q) (v := ((s.toUInt64 >>> ((lN 32).toUInt64 &&& Int64.toUInt64 63)).toInt64).toInt32) (k := k - 32) (by omega) (by rw [hb _ (by omega), show 32 + (k - 32) = k by omega]; exact h1) (fun i hi => by rw [hb _ (by omega)]; exact h0 _ (by omega))
    have ek : 32 + (k - 32) = k := by omega
    simp (disch := (first | omega | exact aCat_8 (by with_unfolding_all rfl) | exact rk_lt (by with_unfolding_all rfl) | exact aCat_16 (by with_unfolding_all rfl) | exact rk_eq (by with_unfolding_all rfl) | assumption | exact b2n_lt _ | exact id_b (by with_unfolding_all rfl) | (simp (disch := omega) only [u2_same, u2_ab, u2_aq]; done) | (simp (disch := omega) only [u2_same, u2_ab, u2_aq]; omega) | fail)) only [al_7872, wp_lload_0, wp_l2i, wp_istore_2, wp_iload_2, wz_ne_t, wz_ne_f, wb_ne_t, wb_ne_f, wm_ne_1, wm_ne_2, wk_32, wp_lushr, wc_120, wp_iadd, wp_goto, al_7873, wp_jsr, al_7874, wp_ireturn, nl_i, nl_r, nl_k, nl_j, nl_l, nI_add, pk_mul, pk_sub, tl_s, tl_n, aL_inl, u2_same, u2_ab, u2_aq, nI_l, lN_i, Nat.add_zero, Nat.zero_add, Nat.zero_le, true_and, and_true, b2n_10, b2n_T, b2n_F, b2n_0, Decidable.not_not, not_true_eq_false, not_false_eq_true, Nat.reduceAdd, Nat.reduceMul, Nat.reduceSub, wy_ne_f (not_not_intro he), ht, ek]
end Z2
