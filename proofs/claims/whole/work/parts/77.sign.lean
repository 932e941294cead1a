/-! sign, end; seen, marked. From wip/whole/src; the first rows are the kit's family 'Int32 by its bits'. -/
def bt (x : Int32) (i : Nat) : Bool := x.toBitVec.getLsbD i
theorem b_ext {x y : Int32} (h : ∀ i, i < 32 → bt x i = bt y i) : x = y := Int32.toBitVec_inj.mp (BitVec.eq_of_getLsbD_eq (fun i hi => h i hi))
theorem b_or (x y : Int32) (i : Nat) : bt (x ||| y) i = (bt x i || bt y i) := by unfold bt; rw [Int32.toBitVec_or, BitVec.getLsbD_or]
theorem b_and (x y : Int32) (i : Nat) : bt (x &&& y) i = (bt x i && bt y i) := by unfold bt; rw [Int32.toBitVec_and, BitVec.getLsbD_and]
theorem b_big {x : Int32} {i : Nat} (h : 32 ≤ i) : bt x i = false := BitVec.getLsbD_of_ge _ _ h
theorem b_255 (i : Nat) : bt 255 i = decide (i < 8) := by
  rcases Nat.lt_or_ge i 32 with h | h
  · exact (by decide +kernel : ∀ i, i < 32 → bt 255 i = decide (i < 8)) i h
  · rw [b_big h, decide_eq_false (by omega)]
theorem s_l : ∀ n, n < 32 → ((nI n &&& 31).toBitVec.smod 32).toNat = n := by decide +kernel
theorem s_u : ∀ n, n < 32 → (((nI n).toUInt32 &&& Int32.toUInt32 31).toBitVec % 32).toNat = n := by decide +kernel
theorem b_shl (n : Nat) (hn : n < 32) (x : Int32) {i : Nat} (hi : i < 32) : bt (x <<< (nI n &&& 31)) i = (decide (n ≤ i) && bt x (i - n)) := by
  unfold bt
  rw [Int32.toBitVec_shiftLeft]
  show (x.toBitVec <<< ((nI n &&& 31).toBitVec.smod 32).toNat).getLsbD i = _
  rw [s_l n hn, BitVec.getLsbD_shiftLeft]
  rcases Nat.lt_or_ge i n with h | h
  · simp [h, Nat.not_le.mpr h]
  · simp [hi, h, Nat.not_lt.mpr h]
theorem b_ushr (n : Nat) (hn : n < 32) (x : Int32) (i : Nat) : bt ((x.toUInt32 >>> ((nI n).toUInt32 &&& Int32.toUInt32 31)).toInt32) i = bt x (n + i) := by
  show (x.toUInt32 >>> ((nI n).toUInt32 &&& Int32.toUInt32 31)).toBitVec.getLsbD i = x.toUInt32.toBitVec.getLsbD (n + i)
  rw [UInt32.toBitVec_shiftRight]
  show (x.toUInt32.toBitVec >>> (((nI n).toUInt32 &&& Int32.toUInt32 31).toBitVec % 32).toNat).getLsbD i = _
  rw [s_u n hn, BitVec.getLsbD_ushiftRight]
theorem b_sshr (n : Nat) (hn : n < 32) (x : Int32) {i : Nat} (hi : i < 32) : bt (x >>> (nI n &&& 31)) i = if n + i < 32 then bt x (n + i) else bt x 31 := by
  unfold bt
  rw [Int32.toBitVec_shiftRight]
  show (x.toBitVec.sshiftRight ((nI n &&& 31).toBitVec.smod 32).toNat).getLsbD i = _
  rw [s_l n hn, BitVec.getLsbD_sshiftRight, BitVec.msb_eq_getLsbD_last]
  simp [hi]
/-- a byte of a number -/
def byN (v : Int32) (s : Nat) : Nat := (v >>> (nI s &&& 31)).toBitVec.toNat % 2 ^ 8
theorem by_lt {v : Int32} {s : Nat} : byN v s < 256 := Nat.mod_lt _ (by decide)
theorem by_s {v : Int32} {s : Nat} : v >>> (nI s &&& 31) &&& nI 255 = nI (byN v s) := pk_and _ 8 rfl
theorem by_u {v : Int32} {s : Nat} (h : s ≤ 24) : (v.toUInt32 >>> ((nI s).toUInt32 &&& Int32.toUInt32 31)).toInt32 &&& nI 255 = nI (byN v s) := by
  rw [← by_s]
  apply b_ext
  intro i hi
  have e : nI 255 = 255 := rfl
  rw [b_and, b_and, b_ushr s (by omega), b_sshr s (by omega) _ hi, e, b_255]
  by_cases h8 : i < 8
  · rw [if_pos (by omega)]
  · simp [h8]
theorem by_c {v : Int32} {s : Nat} : ((nI (byN v s)).toUInt32 % 65536).toInt32 = nI (byN v s) := by
  have h := by_lt (v := v) (s := s)
  rw [pk_char, pk_tn (by omega), Nat.mod_eq_of_lt (by omega)]
section G2
variable {ko : aKo} {d k : Nat} {is : List Instr} {ls st : List Value} {σ : aH} {D : Nat → Nat} {N : Nat → Nat → Nat} {I : Nat → Nat → Int32} {J : Nat → Nat → Int64} {x t : Nat} {Q : Option Value → aH → Prop} {P : (Option Value ⊕ Unit) → aH → Prop}
theorem wp_dec0 {a0 a1 : Value} {l : List Value} : aWp ko d k (.iinc 2 (-8) :: is) (a0 :: a1 :: .int (nI 0) :: l) st σ P = aWp ko d k is (a0 :: aNl a1 :: .int (-8) :: l) st σ P := wp_iinx_2
/-- four signs more -/
def sg4 (N : Nat → Nat → Nat) (a n : Nat) (v : Int32) : Nat → Nat → Nat := u2 (u2 (u2 (u2 N a n (byN v 24)) a (n + 1) (byN v 16)) a (n + 2) (byN v 8)) a (n + 3) (byN v 0)
theorem sg4_rd {a n : Nat} {v : Int32} {b q : Nat} : sg4 N a n v b q = if b = a ∧ q = n + 3 then byN v 0 else if b = a ∧ q = n + 2 then byN v 8 else if b = a ∧ q = n + 1 then byN v 16 else if b = a ∧ q = n then byN v 24 else N b q := rfl
theorem u2_comm {N : Nat → Nat → Nat} {a j v b q w : Nat} (h : a ≠ b) : u2 (u2 N a j v) b q w = u2 (u2 N b q w) a j v := by
  funext c e
  unfold u2
  by_cases h1 : c = b ∧ e = q
  · rw [if_pos h1, if_neg (fun z => h (z.1.symm.trans h1.1)), if_pos h1]
  · rw [if_neg h1]
    by_cases h2 : c = a ∧ e = j
    · rw [if_pos h2, if_pos h2]
    · rw [if_neg h2, if_neg h2, if_neg h1]
theorem u2_u2 {N : Nat → Nat → Nat} {a j v w : Nat} : u2 (u2 N a j v) a j w = u2 N a j w := by
  funext c e
  unfold u2
  by_cases h1 : c = a ∧ e = j
  · rw [if_pos h1, if_pos h1]
  · rw [if_neg h1, if_neg h1, if_neg h1]
theorem t_285 {v : Int32} (h : N 1 1 + 4 ≤ 80) : aMm ko d 285 [.ref 1, .int v] (hp D N I J x) Q = Q (some (.int (nI (N 1 1 + 4)))) (hp D (u2 (sg4 N 2 (N 1 1) v) 1 1 (N 1 1 + 4)) I J x) := by
  have b1 := by_lt (v := v) (s := 24)
  have b2 := by_lt (v := v) (s := 16)
  have b3 := by_lt (v := v) (s := 8)
  have b4 := by_lt (v := v) (s := 0)
  have n12 : (2 : Nat) ≠ 1 := by decide
  have n21 : (1 : Nat) ≠ 2 := by decide
  have e1 : N 1 1 + 1 + 1 = N 1 1 + 2 := rfl
  have e2 : N 1 1 + 2 + 1 = N 1 1 + 3 := rfl
  have e3 : N 1 1 + 3 + 1 = N 1 1 + 4 := rfl
  rw [me_285]
  simp (disch := (first | omega | exact aCat_8 (by with_unfolding_all rfl) | exact rk_lt (by with_unfolding_all rfl) | exact aCat_16 (by with_unfolding_all rfl) | exact rk_eq (by with_unfolding_all rfl) | assumption | exact b2n_lt _ | exact id_b (by with_unfolding_all rfl) | (simp (disch := omega) only [u2_same, u2_ab, u2_aq]; done) | (simp (disch := omega) only [u2_same, u2_ab, u2_aq]; omega) | fail)) only [al_18240, wp_aloadr_0, wp_aloadk_0, hg_1_1, wk_4, wp_iadd, wk_80, wn_le_t, wn_le_f, wk_m1, wp_ireturn, al_18241, wk_24, wp_istore_2, wp_jsr, al_18242, wp_iload_2, wz_lt_t, wz_lt_f, wm_lt_1, wm_lt_2, hg_1_0, ha_2l, ha_2s, wp_iload_1, wp_iushr, wk_255, wp_iand, wp_i2c, wp_dupi, wp_dupr, wk_1, hp_1_1, wp_idec_2_8, wp_goto, al_18243, nl_i, nl_r, nl_k, nl_j, nl_l, nI_add, pk_mul, pk_sub, tl_s, tl_n, aL_inl, u2_same, u2_ab, u2_aq, nI_l, lN_i, Nat.add_zero, Nat.zero_add, Nat.zero_le, true_and, and_true, b2n_10, b2n_T, b2n_F, b2n_0, Decidable.not_not, not_true_eq_false, not_false_eq_true, Nat.reduceAdd, Nat.reduceMul, Nat.reduceSub, by_u, by_c, wp_dec0, wy_lt_t (x := (-8 : Int32)) (by decide), e1, e2, e3]
  have ef : u2 (u2 (u2 (u2 (u2 (u2 (u2 (u2 N 2 (N 1 1) (byN v 24)) 1 1 (N 1 1 + 1)) 2 (N 1 1 + 1) (byN v 16)) 1 1 (N 1 1 + 2)) 2 (N 1 1 + 2) (byN v 8)) 1 1 (N 1 1 + 3)) 2 (N 1 1 + 3) (byN v 0)) 1 1 (N 1 1 + 4) = u2 (sg4 N 2 (N 1 1) v) 1 1 (N 1 1 + 4) := by
    unfold sg4
    rw [u2_comm (a := 1) (b := 2) n21, u2_comm (a := 1) (b := 2) n21, u2_comm (a := 1) (b := 2) n21, u2_u2, u2_comm (a := 1) (b := 2) n21, u2_u2, u2_comm (a := 1) (b := 2) n21, u2_comm (a := 1) (b := 2) n21, u2_u2]
  rw [ef]
theorem t_2 {v : Int32} (h : N 86 11 + 4 ≤ 80) : aMm ko d 2 [.ref 86, .int v] (hp D N I J x) Q = Q (some (.int (nI (N 86 11 + 4)))) (hp D (u2 (sg4 (u2 N 86 0 0) 91 (N 86 11) v) 86 11 (N 86 11 + 4)) I J x) := by
  rw [me_2]
  simp (disch := (first | omega | exact aCat_8 (by with_unfolding_all rfl) | exact rk_lt (by with_unfolding_all rfl) | exact aCat_16 (by with_unfolding_all rfl) | exact rk_eq (by with_unfolding_all rfl) | assumption | exact b2n_lt _ | exact id_b (by with_unfolding_all rfl) | (simp (disch := omega) only [u2_same, u2_ab, u2_aq]; done) | (simp (disch := omega) only [u2_same, u2_ab, u2_aq]; omega) | fail)) only [al_128, wp_aloadr_0, wp_aloadk_0, wk_0, hp_86_0, hg_86_11, wk_76, wn_le_t, wn_le_f, wk_m1, wp_ireturn, al_129, wp_istore_2, wp_jsr, al_130, wp_iload_2, wk_4, wn_ge_t, wn_ge_f, hg_86_10, ha_91l, ha_91s, wp_iadd, wp_iload_1, wk_24, wk_8, wp_imul, wp_isub, wp_ishr, wk_255, wp_iand, wp_iinc_2_1, wp_goto, al_131, wp_dupi, wp_dupr, hp_86_11, nl_i, nl_r, nl_k, nl_j, nl_l, nI_add, pk_mul, pk_sub, tl_s, tl_n, aL_inl, u2_same, u2_ab, u2_aq, nI_l, lN_i, Nat.add_zero, Nat.zero_add, Nat.zero_le, true_and, and_true, b2n_10, b2n_T, b2n_F, b2n_0, Decidable.not_not, not_true_eq_false, not_false_eq_true, Nat.reduceAdd, Nat.reduceMul, Nat.reduceSub, by_s]
  rfl
theorem o_sign {v : Int32} (h : inv D N I J t) : opO ko d 151 2 [.int v] D N I J x (t + 300) := by
  obtain ⟨t1, t2, t3⟩ := h.1.2.1
  by_cases hf : N 86 11 + 4 ≤ 80
  · show aMm ko d 151 [.ref 0, .int v] (hp D N I J x) _
    have hc : N 1 1 + 4 ≤ 80 := by omega
    rw [me_151]
    simp (disch := (first | omega | exact aCat_8 (by with_unfolding_all rfl) | exact rk_lt (by with_unfolding_all rfl) | exact aCat_16 (by with_unfolding_all rfl) | exact rk_eq (by with_unfolding_all rfl) | assumption | exact b2n_lt _ | exact id_b (by with_unfolding_all rfl) | (simp (disch := omega) only [u2_same, u2_ab, u2_aq]; done) | (simp (disch := omega) only [u2_same, u2_ab, u2_aq]; omega) | fail)) only [al_9664, wp_aloadr_0, wp_aloadk_0, hg_0_0, wp_iload_1, wc_285, wp_ireturn, nl_i, nl_r, nl_k, nl_j, nl_l, nI_add, pk_mul, pk_sub, tl_s, tl_n, aL_inl, u2_same, u2_ab, u2_aq, nI_l, lN_i, Nat.add_zero, Nat.zero_add, Nat.zero_le, true_and, and_true, b2n_10, b2n_T, b2n_F, b2n_0, Decidable.not_not, not_true_eq_false, not_false_eq_true, Nat.reduceAdd, Nat.reduceMul, Nat.reduceSub, t_285 hc]
    have e11 : u2 (sg4 N 2 (N 1 1) v) 1 1 (N 1 1 + 4) 86 11 = N 86 11 := by
      rw [u2_ab (by decide)]
      simp [sg4, u2]
    have t2' := fun Q => @t_2 ko d D (u2 (sg4 N 2 (N 1 1) v) 1 1 (N 1 1 + 4)) I J x Q v (by rw [e11]; exact hf)
    simp only [e11] at t2'
    rw [t2']
    have hfr : ∀ b q, b ≠ 1 → b ≠ 2 → b ≠ 91 → ¬ (b = 86 ∧ (q = 0 ∨ q = 11)) → u2 (sg4 (u2 (u2 (sg4 N 2 (N 1 1) v) 1 1 (N 1 1 + 4)) 86 0 0) 91 (N 86 11) v) 86 11 (N 86 11 + 4) b q = N b q := by
      intro b q z1 z2 z3 z4
      rw [u2_rd, if_neg (by omega), sg4_rd, if_neg (by omega), if_neg (by omega), if_neg (by omega), if_neg (by omega), u2_rd, if_neg (by omega), u2_ab z1, sg4_rd, if_neg (by omega), if_neg (by omega), if_neg (by omega), if_neg (by omega)]
    refine ⟨by rw [t1], rfl, D, _, I, J, rfl, ?_, td_same h.2 (hfr 3 1 (by decide) (by decide) (by decide) (by omega)) (hfr 86 1 (by decide) (by decide) (by decide) (by omega)) (fun _ => rfl) (fun _ => rfl)⟩
    refine invB_p (fun g => g == 1) rfl h.1 (by omega) ?_ (fun _ _ _ _ => rfl) (fun _ _ _ _ => rfl) (fun _ => ?_) (fun z => by cases z) (fun z => by cases z) (fun z => by cases z) (fun z => by cases z) (fun z => by cases z) (fun z => by cases z) (fun z => by cases z)
    · intro b q z y
      refine hfr b q (by rintro rfl; cases y) (by rintro rfl; cases y) (by rintro rfl; cases y) ?_
      rintro ⟨rfl, rfl | rfl⟩
      · cases z
      · cases y
    · have g11 : u2 (sg4 (u2 (u2 (sg4 N 2 (N 1 1) v) 1 1 (N 1 1 + 4)) 86 0 0) 91 (N 86 11) v) 86 11 (N 86 11 + 4) 86 11 = N 86 11 + 4 := by rw [u2_same]
      unfold iTx
      rw [g11]
      refine ⟨?_, by omega, ?_⟩
      · rw [u2_ab (by decide), sg4_rd, if_neg (by omega), if_neg (by omega), if_neg (by omega), if_neg (by omega), u2_ab (by decide), u2_same, t1]
      · intro i hi
        have a2 : u2 (sg4 (u2 (u2 (sg4 N 2 (N 1 1) v) 1 1 (N 1 1 + 4)) 86 0 0) 91 (N 86 11) v) 86 11 (N 86 11 + 4) 2 i = sg4 N 2 (N 86 11) v 2 i := by
          rw [u2_ab (by decide), sg4_rd, if_neg (by omega), if_neg (by omega), if_neg (by omega), if_neg (by omega), u2_ab (by decide), u2_ab (by decide), t1]
        have a91 : u2 (sg4 (u2 (u2 (sg4 N 2 (N 1 1) v) 1 1 (N 1 1 + 4)) 86 0 0) 91 (N 86 11) v) 86 11 (N 86 11 + 4) 91 i = sg4 N 91 (N 86 11) v 91 i := by
          rw [u2_ab (by decide), sg4_rd, sg4_rd, u2_ab (by decide), u2_ab (by decide), sg4_rd]
          simp only [show ¬ (91 : Nat) = 2 by decide, false_and, if_false]
        rw [a2, a91, sg4_rd, sg4_rd]
        simp only [true_and]
        have b1 := by_lt (v := v) (s := 24)
        have b2 := by_lt (v := v) (s := 16)
        have b3 := by_lt (v := v) (s := 8)
        have b4 := by_lt (v := v) (s := 0)
        by_cases i3 : i = N 86 11 + 3
        · rw [if_pos i3, if_pos i3]; exact ⟨rfl, b4⟩
        · by_cases i2 : i = N 86 11 + 2
          · rw [if_neg i3, if_neg i3, if_pos i2, if_pos i2]; exact ⟨rfl, b3⟩
          · by_cases i1 : i = N 86 11 + 1
            · rw [if_neg i3, if_neg i3, if_neg i2, if_neg i2, if_pos i1, if_pos i1]; exact ⟨rfl, b2⟩
            · by_cases i0 : i = N 86 11
              · rw [if_neg i3, if_neg i3, if_neg i2, if_neg i2, if_neg i1, if_neg i1, if_pos i0, if_pos i0]; exact ⟨rfl, b1⟩
              · rw [if_neg i3, if_neg i3, if_neg i2, if_neg i2, if_neg i1, if_neg i1, if_neg i0, if_neg i0]
                exact t3 i (by omega)
  · refine op_same (v := .int (-1)) h (by omega) ?_ ?_
    · intro Q hQ
      have t285 : ∀ Q : Option Value → aH → Prop, aMm ko d 285 [.ref 1, .int v] (hp D N I J x) Q = Q (some (.int (-1))) (hp D N I J x) := by
        intro Q
        rw [me_285]
        simp (disch := (first | omega | exact aCat_8 (by with_unfolding_all rfl) | exact rk_lt (by with_unfolding_all rfl) | exact aCat_16 (by with_unfolding_all rfl) | exact rk_eq (by with_unfolding_all rfl) | assumption | exact b2n_lt _ | exact id_b (by with_unfolding_all rfl) | (simp (disch := omega) only [u2_same, u2_ab, u2_aq]; done) | (simp (disch := omega) only [u2_same, u2_ab, u2_aq]; omega) | fail)) only [al_18240, wp_aloadr_0, wp_aloadk_0, hg_1_1, wk_4, wp_iadd, wk_80, wn_le_t, wn_le_f, wk_m1, wp_ireturn, al_18241, wk_24, wp_istore_2, wp_jsr, wp_iload_2, wz_lt_t, wz_lt_f, wm_lt_1, wm_lt_2, hg_1_0, ha_2l, ha_2s, wp_iload_1, wp_iushr, wk_255, wp_iand, wp_i2c, wp_dupi, wp_dupr, wk_1, hp_1_1, wp_idec_2_8, wp_goto, al_18243, nl_i, nl_r, nl_k, nl_j, nl_l, nI_add, pk_mul, pk_sub, tl_s, tl_n, aL_inl, u2_same, u2_ab, u2_aq, nI_l, lN_i, Nat.add_zero, Nat.zero_add, Nat.zero_le, true_and, and_true, b2n_10, b2n_T, b2n_F, b2n_0, Decidable.not_not, not_true_eq_false, not_false_eq_true, Nat.reduceAdd, Nat.reduceMul, Nat.reduceSub]
      rw [me_151]
      simp (disch := (first | omega | exact aCat_8 (by with_unfolding_all rfl) | exact rk_lt (by with_unfolding_all rfl) | exact aCat_16 (by with_unfolding_all rfl) | exact rk_eq (by with_unfolding_all rfl) | assumption | exact b2n_lt _ | exact id_b (by with_unfolding_all rfl) | (simp (disch := omega) only [u2_same, u2_ab, u2_aq]; done) | (simp (disch := omega) only [u2_same, u2_ab, u2_aq]; omega) | fail)) only [al_9664, wp_aloadr_0, wp_aloadk_0, hg_0_0, wp_iload_1, wc_285, wp_ireturn, nl_i, nl_r, nl_k, nl_j, nl_l, nI_add, pk_mul, pk_sub, tl_s, tl_n, aL_inl, u2_same, u2_ab, u2_aq, nI_l, lN_i, Nat.add_zero, Nat.zero_add, Nat.zero_le, true_and, and_true, b2n_10, b2n_T, b2n_F, b2n_0, Decidable.not_not, not_true_eq_false, not_false_eq_true, Nat.reduceAdd, Nat.reduceMul, Nat.reduceSub, t285]
      exact hQ N I J sN_r sI_r sJ_r ⟨rfl, fun _ => rfl⟩ ⟨rfl, fun _ => rfl⟩
    · intro N1 I1 J1 h1 hN hI hJ Q hQ
      have e : N1 86 11 = N 86 11 := hN 86 11 rfl
      rw [me_2]
      simp (disch := (first | omega | exact aCat_8 (by with_unfolding_all rfl) | exact rk_lt (by with_unfolding_all rfl) | exact aCat_16 (by with_unfolding_all rfl) | exact rk_eq (by with_unfolding_all rfl) | assumption | exact b2n_lt _ | exact id_b (by with_unfolding_all rfl) | (simp (disch := omega) only [u2_same, u2_ab, u2_aq]; done) | (simp (disch := omega) only [u2_same, u2_ab, u2_aq]; omega) | fail)) only [al_128, wp_aloadr_0, wp_aloadk_0, wk_0, hp_86_0, hg_86_11, wk_76, wn_le_t, wn_le_f, wk_m1, wp_ireturn, al_129, wp_istore_2, wp_jsr, wp_iload_2, wk_4, wn_ge_t, wn_ge_f, hg_86_10, ha_91l, ha_91s, wp_iadd, wp_iload_1, wk_24, wk_8, wp_imul, wp_isub, wp_ishr, wk_255, wp_iand, wp_iinc_2_1, wp_goto, al_131, wp_dupi, wp_dupr, hp_86_11, nl_i, nl_r, nl_k, nl_j, nl_l, nI_add, pk_mul, pk_sub, tl_s, tl_n, aL_inl, u2_same, u2_ab, u2_aq, nI_l, lN_i, Nat.add_zero, Nat.zero_add, Nat.zero_le, true_and, and_true, b2n_10, b2n_T, b2n_F, b2n_0, Decidable.not_not, not_true_eq_false, not_false_eq_true, Nat.reduceAdd, Nat.reduceMul, Nat.reduceSub]
      exact hQ _ _ _ (qN_u qN_r rfl) sI_r qJ_r ⟨u2_aq (by decide), fun _ => rfl⟩
theorem o_end {a : Int32} (h : inv D N I J t) : opO ko d 152 3 [.int a] D N I J x (t + 300) := by
  obtain ⟨t1, t2, t3⟩ := h.1.2.1
  rcases rng3 a 0 (b := N 86 11) (by decide) (by omega) with ⟨n, _, hn, rfl⟩ | hbad
  · have t286 : ∀ Q : Option Value → aH → Prop, aMm ko d 286 [.ref 1, .int (nI n)] (hp D N I J x) Q = Q (some (.int (nI 1))) (hp D (u2 N 1 1 n) I J x) := by
      intro Q
      rw [me_286]
      simp (disch := (first | omega | exact aCat_8 (by with_unfolding_all rfl) | exact rk_lt (by with_unfolding_all rfl) | exact aCat_16 (by with_unfolding_all rfl) | exact rk_eq (by with_unfolding_all rfl) | assumption | exact b2n_lt _ | exact id_b (by with_unfolding_all rfl) | (simp (disch := omega) only [u2_same, u2_ab, u2_aq]; done) | (simp (disch := omega) only [u2_same, u2_ab, u2_aq]; omega) | fail)) only [al_18304, wp_iload_1, wz_lt_t, wz_lt_f, wm_lt_1, wm_lt_2, wp_aloadr_0, wp_aloadk_0, hg_1_1, wn_le_t, wn_le_f, wp_jsr, al_18305, wk_0, wp_freturn0, wp_freturn1, wp_freturnb, al_18306, hp_1_1, wk_1, nl_i, nl_r, nl_k, nl_j, nl_l, nI_add, pk_mul, pk_sub, tl_s, tl_n, aL_inl, u2_same, u2_ab, u2_aq, nI_l, lN_i, Nat.add_zero, Nat.zero_add, Nat.zero_le, true_and, and_true, b2n_10, b2n_T, b2n_F, b2n_0, Decidable.not_not, not_true_eq_false, not_false_eq_true, Nat.reduceAdd, Nat.reduceMul, Nat.reduceSub]
    show aMm ko d 152 [.ref 0, .int (nI n)] (hp D N I J x) _
    rw [me_152]
    simp (disch := (first | omega | exact aCat_8 (by with_unfolding_all rfl) | exact rk_lt (by with_unfolding_all rfl) | exact aCat_16 (by with_unfolding_all rfl) | exact rk_eq (by with_unfolding_all rfl) | assumption | exact b2n_lt _ | exact id_b (by with_unfolding_all rfl) | (simp (disch := omega) only [u2_same, u2_ab, u2_aq]; done) | (simp (disch := omega) only [u2_same, u2_ab, u2_aq]; omega) | fail)) only [al_9728, wp_aloadr_0, wp_aloadk_0, hg_0_0, wp_iload_1, wc_286, wp_freturn0, wp_freturn1, wp_freturnb, nl_i, nl_r, nl_k, nl_j, nl_l, nI_add, pk_mul, pk_sub, tl_s, tl_n, aL_inl, u2_same, u2_ab, u2_aq, nI_l, lN_i, Nat.add_zero, Nat.zero_add, Nat.zero_le, true_and, and_true, b2n_10, b2n_T, b2n_F, b2n_0, Decidable.not_not, not_true_eq_false, not_false_eq_true, Nat.reduceAdd, Nat.reduceMul, Nat.reduceSub, t286]
    rw [me_3]
    simp (disch := (first | omega | exact aCat_8 (by with_unfolding_all rfl) | exact rk_lt (by with_unfolding_all rfl) | exact aCat_16 (by with_unfolding_all rfl) | exact rk_eq (by with_unfolding_all rfl) | assumption | exact b2n_lt _ | exact id_b (by with_unfolding_all rfl) | (simp (disch := omega) only [u2_same, u2_ab, u2_aq]; done) | (simp (disch := omega) only [u2_same, u2_ab, u2_aq]; omega) | fail)) only [al_192, wp_aloadr_0, wp_aloadk_0, wk_0, hp_86_0, wp_iload_1, wp_i2l, wl_0, hg_86_11, wc_4, t_4, lN_le, wz_ne_t, wz_ne_f, wb_ne_t, wb_ne_f, wm_ne_1, wm_ne_2, wp_freturn0, wp_freturn1, wp_freturnb, al_193, hp_86_11, wk_1, nl_i, nl_r, nl_k, nl_j, nl_l, nI_add, pk_mul, pk_sub, tl_s, tl_n, aL_inl, u2_same, u2_ab, u2_aq, nI_l, lN_i, Nat.add_zero, Nat.zero_add, Nat.zero_le, true_and, and_true, b2n_10, b2n_T, b2n_F, b2n_0, Decidable.not_not, not_true_eq_false, not_false_eq_true, Nat.reduceAdd, Nat.reduceMul, Nat.reduceSub, b2n_t hn]
    have hfr : ∀ b q, ¬ (b = 1 ∧ q = 1) → ¬ (b = 86 ∧ (q = 0 ∨ q = 11)) → u2 (u2 (u2 N 1 1 n) 86 0 0) 86 11 n b q = N b q := by
      intro b q z1 z2
      rw [u2_rd, if_neg (by omega), u2_rd, if_neg (by omega), u2_rd, if_neg z1]
    refine ⟨rfl, D, _, I, J, rfl, ?_, td_same h.2 (hfr 3 1 (by omega) (by omega)) (hfr 86 1 (by omega) (by omega)) (fun _ => rfl) (fun _ => rfl)⟩
    refine invB_p (fun g => g == 1) rfl h.1 (by omega) ?_ (fun _ _ _ _ => rfl) (fun _ _ _ _ => rfl) (fun _ => ?_) (fun z => by cases z) (fun z => by cases z) (fun z => by cases z) (fun z => by cases z) (fun z => by cases z) (fun z => by cases z) (fun z => by cases z)
    · intro b q z y
      refine hfr b q (by rintro ⟨rfl, rfl⟩; cases y) ?_
      rintro ⟨rfl, rfl | rfl⟩
      · cases z
      · cases y
    · unfold iTx
      rw [u2_same]
      refine ⟨by rw [u2_ab (by decide), u2_ab (by decide), u2_same], by omega, fun i hi => ?_⟩
      rw [hfr 2 i (by omega) (by omega), hfr 91 i (by omega) (by omega)]
      exact t3 i (by omega)
  · refine op_same (v := .int (nI 0)) h (by omega) ?_ ?_
    · intro Q hQ
      have t286 : ∀ Q : Option Value → aH → Prop, aMm ko d 286 [.ref 1, .int a] (hp D N I J x) Q = Q (some (.int (nI 0))) (hp D N I J x) := by
        intro Q
        rw [me_286]
        rcases hbad with hb | ⟨hb1, hb2⟩
        · have hb' : a < 0 := hb
          simp (disch := (first | omega | exact aCat_8 (by with_unfolding_all rfl) | exact rk_lt (by with_unfolding_all rfl) | exact aCat_16 (by with_unfolding_all rfl) | exact rk_eq (by with_unfolding_all rfl) | assumption | exact b2n_lt _ | exact id_b (by with_unfolding_all rfl) | (simp (disch := omega) only [u2_same, u2_ab, u2_aq]; done) | (simp (disch := omega) only [u2_same, u2_ab, u2_aq]; omega) | fail)) only [al_18304, wp_iload_1, wz_lt_t, wz_lt_f, wm_lt_1, wm_lt_2, wp_aloadr_0, wp_aloadk_0, hg_1_1, wn_le_t, wn_le_f, wp_jsr, al_18305, wk_0, wp_freturn0, wp_freturn1, wp_freturnb, al_18306, hp_1_1, wk_1, nl_i, nl_r, nl_k, nl_j, nl_l, nI_add, pk_mul, pk_sub, tl_s, tl_n, aL_inl, u2_same, u2_ab, u2_aq, nI_l, lN_i, Nat.add_zero, Nat.zero_add, Nat.zero_le, true_and, and_true, b2n_10, b2n_T, b2n_F, b2n_0, Decidable.not_not, not_true_eq_false, not_false_eq_true, Nat.reduceAdd, Nat.reduceMul, Nat.reduceSub, wy_lt_t hb']
        · have hb' : ¬ a < 0 := hb1
          rw [← t1] at hb2
          have hb3 : ¬ a ≤ nI (N 1 1) := fun z => (Int32.not_lt.mpr z) hb2
          simp (disch := (first | omega | exact aCat_8 (by with_unfolding_all rfl) | exact rk_lt (by with_unfolding_all rfl) | exact aCat_16 (by with_unfolding_all rfl) | exact rk_eq (by with_unfolding_all rfl) | assumption | exact b2n_lt _ | exact id_b (by with_unfolding_all rfl) | (simp (disch := omega) only [u2_same, u2_ab, u2_aq]; done) | (simp (disch := omega) only [u2_same, u2_ab, u2_aq]; omega) | fail)) only [al_18304, wp_iload_1, wz_lt_t, wz_lt_f, wm_lt_1, wm_lt_2, wp_aloadr_0, wp_aloadk_0, hg_1_1, wn_le_t, wn_le_f, wp_jsr, al_18305, wk_0, wp_freturn0, wp_freturn1, wp_freturnb, al_18306, hp_1_1, wk_1, nl_i, nl_r, nl_k, nl_j, nl_l, nI_add, pk_mul, pk_sub, tl_s, tl_n, aL_inl, u2_same, u2_ab, u2_aq, nI_l, lN_i, Nat.add_zero, Nat.zero_add, Nat.zero_le, true_and, and_true, b2n_10, b2n_T, b2n_F, b2n_0, Decidable.not_not, not_true_eq_false, not_false_eq_true, Nat.reduceAdd, Nat.reduceMul, Nat.reduceSub, wy_lt_f hb', wx_le_f hb3]
      rw [me_152]
      simp (disch := (first | omega | exact aCat_8 (by with_unfolding_all rfl) | exact rk_lt (by with_unfolding_all rfl) | exact aCat_16 (by with_unfolding_all rfl) | exact rk_eq (by with_unfolding_all rfl) | assumption | exact b2n_lt _ | exact id_b (by with_unfolding_all rfl) | (simp (disch := omega) only [u2_same, u2_ab, u2_aq]; done) | (simp (disch := omega) only [u2_same, u2_ab, u2_aq]; omega) | fail)) only [al_9728, wp_aloadr_0, wp_aloadk_0, hg_0_0, wp_iload_1, wc_286, wp_freturn0, wp_freturn1, wp_freturnb, nl_i, nl_r, nl_k, nl_j, nl_l, nI_add, pk_mul, pk_sub, tl_s, tl_n, aL_inl, u2_same, u2_ab, u2_aq, nI_l, lN_i, Nat.add_zero, Nat.zero_add, Nat.zero_le, true_and, and_true, b2n_10, b2n_T, b2n_F, b2n_0, Decidable.not_not, not_true_eq_false, not_false_eq_true, Nat.reduceAdd, Nat.reduceMul, Nat.reduceSub, t286]
      exact hQ N I J sN_r sI_r sJ_r ⟨rfl, fun _ => rfl⟩ ⟨rfl, fun _ => rfl⟩
    · intro N1 I1 J1 h1 hN hI hJ Q hQ
      have e : N1 86 11 = N 86 11 := hN 86 11 rfl
      have hin := in_f (a := 0) (b := N 86 11) (by decide) (by omega) hbad
      rw [me_3]
      simp (disch := (first | omega | exact aCat_8 (by with_unfolding_all rfl) | exact rk_lt (by with_unfolding_all rfl) | exact aCat_16 (by with_unfolding_all rfl) | exact rk_eq (by with_unfolding_all rfl) | assumption | exact b2n_lt _ | exact id_b (by with_unfolding_all rfl) | (simp (disch := omega) only [u2_same, u2_ab, u2_aq]; done) | (simp (disch := omega) only [u2_same, u2_ab, u2_aq]; omega) | fail)) only [al_192, wp_aloadr_0, wp_aloadk_0, wk_0, hp_86_0, wp_iload_1, wp_i2l, wl_0, hg_86_11, wc_4, t_4, lN_le, wz_ne_t, wz_ne_f, wb_ne_t, wb_ne_f, wm_ne_1, wm_ne_2, wp_freturn0, wp_freturn1, wp_freturnb, al_193, hp_86_11, wk_1, nl_i, nl_r, nl_k, nl_j, nl_l, nI_add, pk_mul, pk_sub, tl_s, tl_n, aL_inl, u2_same, u2_ab, u2_aq, nI_l, lN_i, Nat.add_zero, Nat.zero_add, Nat.zero_le, true_and, and_true, b2n_10, b2n_T, b2n_F, b2n_0, Decidable.not_not, not_true_eq_false, not_false_eq_true, Nat.reduceAdd, Nat.reduceMul, Nat.reduceSub, e, b2n_f hin]
      exact hQ _ _ _ (qN_u qN_r rfl) sI_r qJ_r ⟨u2_aq (by decide), fun _ => rfl⟩
end G2
