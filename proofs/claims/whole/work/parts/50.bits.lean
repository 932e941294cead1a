/-! LONGS BY THEIR BITS. From wip/whole/src. -/
def tb (x : Int64) (i : Nat) : Bool := x.toBitVec.getLsbD i
theorem tb_ext {x y : Int64} (h : ∀ i, i < 64 → tb x i = tb y i) : x = y := Int64.toBitVec_inj.mp (BitVec.eq_of_getLsbD_eq (fun i hi => h i hi))
theorem tb_or (x y : Int64) (i : Nat) : tb (x ||| y) i = (tb x i || tb y i) := by unfold tb; rw [Int64.toBitVec_or, BitVec.getLsbD_or]
theorem tb_and (x y : Int64) (i : Nat) : tb (x &&& y) i = (tb x i && tb y i) := by unfold tb; rw [Int64.toBitVec_and, BitVec.getLsbD_and]
theorem tb_xor (x y : Int64) (i : Nat) : tb (x ^^^ y) i = (tb x i ^^ tb y i) := by unfold tb; rw [Int64.toBitVec_xor, BitVec.getLsbD_xor]
theorem tb_big {x : Int64} {i : Nat} (h : 64 ≤ i) : tb x i = false := BitVec.getLsbD_of_ge _ _ h
theorem tb_m1 : ∀ i, i < 64 → tb (-1) i = true := by decide +kernel
theorem tb_0 (i : Nat) : tb (lN 0) i = false := BitVec.getLsbD_zero
theorem tb_1' : ∀ i, i < 64 → tb (lN 1) i = decide (i = 0) := by decide +kernel
theorem tb_1 (i : Nat) : tb (lN 1) i = decide (i = 0) := by
  rcases Nat.lt_or_ge i 64 with h | h
  · exact tb_1' i h
  · rw [tb_big h, decide_eq_false (by omega)]
theorem tb_not {x : Int64} {i : Nat} (h : i < 64) : tb (x ^^^ (-1)) i = !tb x i := by rw [tb_xor, tb_m1 i h]; simp
theorem tb_sl : ∀ n, n < 64 → ((lN n &&& 63).toBitVec.smod 64).toNat = n := by decide +kernel
theorem tb_su : ∀ n, n < 64 → (((lN n).toUInt64 &&& Int64.toUInt64 63).toBitVec % 64).toNat = n := by decide +kernel
theorem tb_shl {x : Int64} {k i : Nat} (hk : k < 64) (hi : i < 64) : tb (x <<< (lN k &&& 63)) i = (decide (k ≤ i) && tb x (i - k)) := by
  unfold tb
  rw [Int64.toBitVec_shiftLeft]
  show (x.toBitVec <<< ((lN k &&& 63).toBitVec.smod 64).toNat).getLsbD i = _
  rw [tb_sl k hk, BitVec.getLsbD_shiftLeft]
  rcases Nat.lt_or_ge i k with h | h
  · simp [h, Nat.not_le.mpr h]
  · simp [hi, h, Nat.not_lt.mpr h]
theorem tb_ushr {x : Int64} {k i : Nat} (hk : k < 64) : tb ((x.toUInt64 >>> ((lN k).toUInt64 &&& Int64.toUInt64 63)).toInt64) i = tb x (k + i) := by
  show (x.toUInt64 >>> ((lN k).toUInt64 &&& Int64.toUInt64 63)).toBitVec.getLsbD i = x.toUInt64.toBitVec.getLsbD (k + i)
  rw [UInt64.toBitVec_shiftRight]
  show (x.toUInt64.toBitVec >>> (((lN k).toUInt64 &&& Int64.toUInt64 63).toBitVec % 64).toNat).getLsbD i = _
  rw [tb_su k hk, BitVec.getLsbD_ushiftRight]
theorem tb_sshr {x : Int64} {k i : Nat} (hk : k < 64) (hi : i < 64) : tb (x >>> (lN k &&& 63)) i = if k + i < 64 then tb x (k + i) else tb x 63 := by
  unfold tb
  rw [Int64.toBitVec_shiftRight]
  show (x.toBitVec.sshiftRight ((lN k &&& 63).toBitVec.smod 64).toNat).getLsbD i = _
  rw [tb_sl k hk, BitVec.getLsbD_sshiftRight, BitVec.msb_eq_getLsbD_last]
  simp [hi]
theorem tb_p2 {k i : Nat} (hk : k < 64) (hi : i < 64) : tb (lN 1 <<< (lN k &&& 63)) i = decide (i = k) := by
  rw [tb_shl hk hi, tb_1]
  by_cases h : i = k
  · subst h; simp
  · by_cases h2 : k ≤ i
    · simp [h2, h]; omega
    · simp [h2, h]
theorem tb_and1 (v : Int64) : v &&& lN 1 = lN (b2n (tb v 0 = true)) := by
  apply tb_ext
  intro i hi
  rw [tb_and, tb_1]
  by_cases h : tb v 0 = true
  · rw [b2n_t h, tb_1]
    by_cases h2 : i = 0
    · subst h2; simp [h]
    · simp [h2]
  · rw [b2n_f h, tb_0]
    by_cases h2 : i = 0
    · subst h2; simp at h; simp [h]
    · simp [h2]
theorem tb_get {x : Int64} {k : Nat} (hk : k < 64) : (x.toUInt64 >>> ((lN k).toUInt64 &&& Int64.toUInt64 63)).toInt64 &&& lN 1 = lN (b2n (tb x k = true)) := by
  rw [tb_and1, tb_ushr hk]
  rfl
theorem tb_get2 {x : Int64} {k : Nat} (hk : k < 64) : (x >>> (lN k &&& 63)) &&& lN 1 = lN (b2n (tb x k = true)) := by
  rw [tb_and1, tb_sshr hk (by decide), if_pos (by omega)]
  rfl
section B0
variable {ko : aKo} {d k : Nat} {is : List Instr} {ls st : List Value} {σ : aH} {D : Nat → Nat} {N : Nat → Nat → Nat} {I : Nat → Nat → Int32} {J : Nat → Nat → Int64} {x : Nat} {Q : Option Value → aH → Prop} {P : (Option Value ⊕ Unit) → aH → Prop}
theorem t_161 {s : Int64} {i : Nat} (h : i < 64) : aMm ko d 161 [.long s, .int (nI i)] σ Q = Q (some (.int (nI (b2n (tb s i = true))))) σ := by
  rw [me_161]
  simp (disch := (first | omega | exact aCat_8 (by with_unfolding_all rfl) | exact rk_lt (by with_unfolding_all rfl) | exact aCat_16 (by with_unfolding_all rfl) | exact rk_eq (by with_unfolding_all rfl) | assumption | exact b2n_lt _ | exact id_b (by with_unfolding_all rfl) | (simp (disch := omega) only [u2_same, u2_ab, u2_aq]; done) | (simp (disch := omega) only [u2_same, u2_ab, u2_aq]; omega) | fail)) only [al_10304, wp_lload_0, wp_iload_2, wp_lushr, wl_1, wp_land, wp_l2i, wp_ireturn, nl_i, nl_r, nl_k, nl_j, nl_l, nI_add, pk_mul, pk_sub, tl_s, tl_n, aL_inl, u2_same, u2_ab, u2_aq, nI_l, lN_i, Nat.add_zero, Nat.zero_add, Nat.zero_le, true_and, and_true, b2n_10, b2n_T, b2n_F, b2n_0, Decidable.not_not, not_true_eq_false, not_false_eq_true, Nat.reduceAdd, Nat.reduceMul, tb_get]
theorem t_84 {s : Int64} {i : Nat} (h : i < 64) : aMm ko d 84 [.long s, .int (nI i)] σ Q = Q (some (.int (nI (b2n (tb s i = true))))) σ := by
  rw [me_84]
  by_cases h1 : tb s i = true
  · rw [b2n_t h1]
    simp (disch := (first | omega | exact aCat_8 (by with_unfolding_all rfl) | exact rk_lt (by with_unfolding_all rfl) | exact aCat_16 (by with_unfolding_all rfl) | exact rk_eq (by with_unfolding_all rfl) | assumption | exact b2n_lt _ | exact id_b (by with_unfolding_all rfl) | (simp (disch := omega) only [u2_same, u2_ab, u2_aq]; done) | (simp (disch := omega) only [u2_same, u2_ab, u2_aq]; omega) | fail)) only [al_5376, wp_lload_0, wp_iload_2, wp_lshr, wl_1, wp_land, wp_lcmp, wz_ne_t, wz_ne_f, wb_ne_t, wb_ne_f, wm_ne_1, wm_ne_2, wk_1, wp_goto, al_5377, wk_0, wp_jsr, al_5378, wp_freturn0, wp_freturn1, wp_freturnb, nl_i, nl_r, nl_k, nl_j, nl_l, nI_add, pk_mul, pk_sub, tl_s, tl_n, aL_inl, u2_same, u2_ab, u2_aq, nI_l, lN_i, Nat.add_zero, Nat.zero_add, Nat.zero_le, true_and, and_true, b2n_10, b2n_T, b2n_F, b2n_0, Decidable.not_not, not_true_eq_false, not_false_eq_true, Nat.reduceAdd, Nat.reduceMul, tb_get2, wp_ifc, lg_ne, b2n_t h1, decide_eq_true_eq, if_true, if_false]
  · rw [b2n_f h1]
    have e : ¬ lN 0 = lN 1 := by decide
    simp (disch := (first | omega | exact aCat_8 (by with_unfolding_all rfl) | exact rk_lt (by with_unfolding_all rfl) | exact aCat_16 (by with_unfolding_all rfl) | exact rk_eq (by with_unfolding_all rfl) | assumption | exact b2n_lt _ | exact id_b (by with_unfolding_all rfl) | (simp (disch := omega) only [u2_same, u2_ab, u2_aq]; done) | (simp (disch := omega) only [u2_same, u2_ab, u2_aq]; omega) | fail)) only [al_5376, wp_lload_0, wp_iload_2, wp_lshr, wl_1, wp_land, wp_lcmp, wz_ne_t, wz_ne_f, wb_ne_t, wb_ne_f, wm_ne_1, wm_ne_2, wk_1, wp_goto, al_5377, wk_0, wp_jsr, al_5378, wp_freturn0, wp_freturn1, wp_freturnb, nl_i, nl_r, nl_k, nl_j, nl_l, nI_add, pk_mul, pk_sub, tl_s, tl_n, aL_inl, u2_same, u2_ab, u2_aq, nI_l, lN_i, Nat.add_zero, Nat.zero_add, Nat.zero_le, true_and, and_true, b2n_10, b2n_T, b2n_F, b2n_0, Decidable.not_not, not_true_eq_false, not_false_eq_true, Nat.reduceAdd, Nat.reduceMul, tb_get2, wp_ifc, lg_ne, b2n_f h1, decide_eq_true_eq, if_true, if_false, e]
/-! rows wanted beside those of part 31: lengths, arraycopy -/
theorem wp_alen {a n : Nat} {ty : FieldType} {c : (Nat → Int32) ⊕ (Nat → Int64) ⊕ (Nat → UInt32) ⊕ (Nat → UInt64) ⊕ (Nat → Option Nat)} (h : a < nC) (hk : kl a D (N a) (I a) (J a) = .inl (ty, n, c)) : aWp ko d k (.arraylength :: is) ls (.ref a :: st) (hp D N I J x) P = aWp ko d k is ls (.int (nI n) :: st) (hp D N I J x) P := wp_of (fun r => aEv_go (by simp only [aDo, aEnd, aJump, aStep, aLen, (hp_get h).trans (congrArg some hk)]; rfl))
theorem wp_alenK {i n : Nat} {f : Nat → Int32} (h : ko i = (.int, n, f)) : aWp ko d k (.arraylength :: is) ls (.retAddr i :: st) σ P = aWp ko d k is ls (.int (nI n) :: st) σ P := wp_of (fun r => aEv_go (by simp only [aDo, aEnd, aJump, aStep, aLen, h, if_true]; rfl))
theorem ev_cpy {a b n la lb : Nat} {f g : Nat → Int32} {r : (Option Value ⊕ Unit) × aH} (ha : σ[a]? = some (.inl (.int, la, .inl f))) (hb : σ[b]? = some (.inl (.int, lb, .inl g))) (h1 : n ≤ la) (h2 : n ≤ lb) (h3 : n < 2147483648) (hc : aCat (.int (nI n) :: .int (nI 0) :: .ref b :: .int (nI 0) :: .ref a :: st) ≤ 16) : aEv ko d k (.invokedynamic 1 :: is) ls (.int (nI n) :: .int (nI 0) :: .ref b :: .int (nI 0) :: .ref a :: st) σ r = aEv ko d k is ls st (σ.set b (.inl (.int, lb, .inl (va_cpy f g 0 0 n)))) r := by
  refine aEv_go ?_
  have e0 : (nI 0).toNatClampNeg = 0 := rfl
  have e1 : (nI n).toNatClampNeg = n := nI_clamp h3
  have e2 : (nI n).toInt = (n : Int) := nI_toInt h3
  have e3 : (nI 0).toInt = 0 := rfl
  simp only [aDo, aEnd, aJump, aStep, aPrim, aInts, ha, hb, e0, e1, e2, e3, if_pos hc]
  rw [if_pos (by omega)]
theorem cpy_N {f g : Nat → Nat} {n : Nat} : va_cpy (fun q => nI (f q)) (fun q => nI (g q)) 0 0 n = fun q => nI (mixN f g n q) := by
  funext q
  by_cases h : q < n
  · rw [pk_cpy_in (by omega) (by omega)]
    simp [mixN, h]
  · rw [pk_cpy_out (by omega)]
    simp [mixN, h]
theorem cpy_I {f g : Nat → Int32} {n : Nat} : va_cpy f g 0 0 n = mixN f g n := by
  funext q
  by_cases h : q < n
  · rw [pk_cpy_in (by omega) (by omega)]
    simp [mixN, h]
  · rw [pk_cpy_out (by omega)]
    simp [mixN, h]
theorem wp_cpyN {a b n la lb : Nat} (ha : a < nC) (hb : b < nC) (hka : ∀ D N I J, kl a D N I J = .inl (.int, la, .inl (fun q => nI (N q)))) (hkb : ∀ D N I J, kl b D N I J = .inl (.int, lb, .inl (fun q => nI (N q)))) (h1 : n ≤ la) (h2 : n ≤ lb) (h3 : n < 2147483648) (hc : aCat (.int (nI n) :: .int (nI 0) :: .ref b :: .int (nI 0) :: .ref a :: st) ≤ 16) : aWp ko d k (.invokedynamic 1 :: is) ls (.int (nI n) :: .int (nI 0) :: .ref b :: .int (nI 0) :: .ref a :: st) (hp D N I J x) P = aWp ko d k is ls st (hp D (setRow N b (mixN (N a) (N b) n)) I J x) P := wp_of (fun r => (ev_cpy ((hp_get ha).trans (congrArg some (hka _ _ _ _))) ((hp_get hb).trans (congrArg some (hkb _ _ _ _))) h1 h2 h3 hc).trans (by
  rw [cpy_N, ← hkb D (mixN (N a) (N b) n) (I b) (J b), hp_set0 (N' := setRow N b (mixN (N a) (N b) n)) (I' := I) (J' := J) hb (by rw [setRow_s]) (fun _ e => setRow_n e) (fun _ _ => rfl) (fun _ _ => rfl)]))
end B0
