/-! HOW MANY BITS. From wip/whole/src. -/
def rep8 (c : Nat) : Nat → Nat
  | 0 => 0
  | k + 1 => 256 * rep8 c k + c
def pS1 (k n : Nat) : Nat := n - ((n / 2) &&& rep8 85 k)
def pS2 (k n : Nat) : Nat := (n &&& rep8 51 k) + ((n / 4) &&& rep8 51 k)
def pS3 (k n : Nat) : Nat := (n + n / 16) &&& rep8 15 k
def s1b (r : Nat) : Nat := r - ((r / 2) &&& 85)
def s2b (r : Nat) : Nat := (r &&& 51) + ((r / 4) &&& 51)
def s3b (r : Nat) : Nat := (r + r / 16) &&& 15
def pcb (r : Nat) : Nat := s3b (s2b (s1b r))
def pcW : Nat → Nat → Nat
  | 0, _ => 0
  | k + 1, n => 256 * pcW k (n / 256) + pcb (n % 256)
theorem pc_facts : ∀ r, r < 256 → s1b r < 256 ∧ s2b (s1b r) < 256 ∧ s2b (s1b r) % 16 ≤ 4 ∧ s2b (s1b r) / 16 ≤ 4 ∧ pcb r ≤ 8 ∧ pcb r = sumR (fun i => b2n (r.testBit i = true)) 8 := by decide +kernel
theorem pc_d1 : ∀ c, c < 2 → ∀ r, r < 256 → (128 * c + r / 2) &&& 85 = (r / 2) &&& 85 := by decide +kernel
theorem pc_d2 : ∀ c, c < 4 → ∀ r, r < 256 → (64 * c + r / 4) &&& 51 = (r / 4) &&& 51 := by decide +kernel
theorem and_sp {a b c e : Nat} (hb : b < 256) (he : e < 256) : (256 * a + b) &&& (256 * c + e) = 256 * (a &&& c) + (b &&& e) := by
  apply Nat.eq_of_testBit_eq
  intro i
  have hbe : b &&& e < 2 ^ 8 := Nat.lt_of_le_of_lt Nat.and_le_left hb
  rw [Nat.testBit_and, show (256 : Nat) = 2 ^ 8 from rfl, Nat.testBit_two_pow_mul_add _ hb, Nat.testBit_two_pow_mul_add _ he, Nat.testBit_two_pow_mul_add _ hbe]
  by_cases h : i < 8
  · rw [if_pos h, if_pos h, if_pos h, Nat.testBit_and]
  · rw [if_neg h, if_neg h, if_neg h, Nat.testBit_and]
theorem pS1_s {k q r : Nat} (hr : r < 256) : pS1 (k + 1) (256 * q + r) = 256 * pS1 k q + s1b r := by
  unfold pS1 s1b
  have e : (256 * q + r) / 2 = 256 * (q / 2) + (128 * (q % 2) + r / 2) := by omega
  have h1 : 128 * (q % 2) + r / 2 < 256 := by omega
  rw [rep8, e, and_sp h1 (by decide), pc_d1 _ (by omega) r hr]
  have a : q / 2 &&& rep8 85 k ≤ q / 2 := Nat.and_le_left
  have b : r / 2 &&& 85 ≤ r / 2 := Nat.and_le_left
  omega
theorem pS2_s {k q r : Nat} (hr : r < 256) : pS2 (k + 1) (256 * q + r) = 256 * pS2 k q + s2b r := by
  unfold pS2 s2b
  have e : (256 * q + r) / 4 = 256 * (q / 4) + (64 * (q % 4) + r / 4) := by omega
  have h1 : 64 * (q % 4) + r / 4 < 256 := by omega
  rw [rep8, e, and_sp h1 (by decide), and_sp hr (by decide), pc_d2 _ (by omega) r hr]
  omega
theorem pS3_s {k q r : Nat} (hr : r < 256) (h4 : r / 16 ≤ 4) (hq : q % 16 ≤ 4) : pS3 (k + 1) (256 * q + r) = 256 * pS3 k q + s3b r := by
  unfold pS3 s3b
  have e : (256 * q + r) + (256 * q + r) / 16 = 256 * (q + q / 16) + (16 * (q % 16) + r + r / 16) := by omega
  have h1 : 16 * (q % 16) + r + r / 16 < 256 := by omega
  rw [rep8, e, and_sp h1 (by decide)]
  have m : ∀ z : Nat, z &&& 15 = z % 16 := fun z => Nat.and_two_pow_sub_one_eq_mod z 4
  rw [m, m]
  omega
theorem pc_W : ∀ k n, pS3 k (pS2 k (pS1 k n)) = pcW k n ∧ pS2 k (pS1 k n) % 16 ≤ 4 := by
  intro k
  induction k with
  | zero =>
    intro n
    simp [pS3, pS2, pcW, rep8]
  | succ k ih =>
    intro n
    have hr : n % 256 < 256 := Nat.mod_lt _ (by decide)
    obtain ⟨f1, f2, f3, f4, f5, f6⟩ := pc_facts (n % 256) hr
    obtain ⟨i1, i2⟩ := ih (n / 256)
    have e : n = 256 * (n / 256) + n % 256 := by omega
    have a1 : pS2 (k + 1) (pS1 (k + 1) n) = 256 * pS2 k (pS1 k (n / 256)) + s2b (s1b (n % 256)) := by
      conv => lhs; rw [e, pS1_s hr, pS2_s f1]
    rw [a1, pS3_s f2 f4 i2, i1, pcW]
    exact ⟨rfl, by omega⟩
theorem pc_fold {p0 p1 p2 p3 p4 p5 p6 p7 A1 A2 A3 A4 A5 A6 : Nat} (h0 : p0 ≤ 8) (h1 : p1 ≤ 8) (h2 : p2 ≤ 8) (h3 : p3 ≤ 8) (h4 : p4 ≤ 8) (h5 : p5 ≤ 8) (h6 : p6 ≤ 8) (h7 : p7 ≤ 8) {w x1 x2 x3 : Nat} (b0 : w = 256 * A1 + p0) (b1 : A1 = 256 * A2 + p1) (b2 : A2 = 256 * A3 + p2) (b3 : A3 = 256 * A4 + p3) (b4 : A4 = 256 * A5 + p4) (b5 : A5 = 256 * A6 + p5) (b6 : A6 = 256 * p7 + p6) (e1 : x1 = w + w / 256) (e2 : x2 = x1 + x1 / 65536) (e3 : x3 = x2 + x2 / 4294967296) : x3 % 128 = p0 + p1 + p2 + p3 + p4 + p5 + p6 + p7 := by
  have d1 : w / 256 = A1 := by omega
  have a1 : x1 = 65536 * (A2 + A3) + (256 * (p1 + p2) + (p0 + p1)) := by
    clear e2 e3 b3 b4 b5 b6
    omega
  have d2 : x1 / 65536 = A2 + A3 := by
    clear e1 e2 e3 b0 b1 b2 b3 b4 b5 b6 d1
    omega
  have c2 : A2 + A3 = 65536 * (A4 + A5) + (256 * (p3 + p4) + (p2 + p3)) := by
    clear e1 e2 e3 b0 b1 b5 b6 d1 a1 d2
    omega
  have c4 : A4 + A5 = 65536 * (A6 + p7) + (256 * (p5 + p6) + (p4 + p5)) := by
    clear e1 e2 e3 b0 b1 b2 b3 d1 a1 d2 c2
    omega
  have a2 : x2 = 4294967296 * ((A4 + A5) + (A6 + p7)) + (65536 * ((256 * (p3 + p4) + (p2 + p3)) + (256 * (p5 + p6) + (p4 + p5))) + (256 * (p1 + p2 + p3 + p4) + (p0 + p1 + p2 + p3))) := by
    rw [d2] at e2
    clear e1 e3 b0 b1 b2 b3 b4 b5 b6 d1 d2
    omega
  have d3 : x2 / 4294967296 = (A4 + A5) + (A6 + p7) := by
    clear e1 e2 e3 b0 b1 b2 b3 b4 b5 b6 d1 d2 a1 c2 c4
    omega
  rw [d3] at e3
  clear e1 e2 b0 b1 b2 b3 b4 b5 d1 d2 d3 a1 c2
  omega
/-- a long as a natural number -/
def uN (v : Int64) : Nat := v.toBitVec.toNat
theorem uN_lt {v : Int64} : uN v < 18446744073709551616 := v.toBitVec.isLt
theorem uN_l {n : Nat} (h : n < 18446744073709551616) : uN (lN n) = n := by
  show (BitVec.ofNat 64 n).toNat = n
  rw [BitVec.toNat_ofNat]
  exact Nat.mod_eq_of_lt h
theorem uN_and {v w : Int64} : uN (v &&& w) = uN v &&& uN w := by
  unfold uN
  rw [Int64.toBitVec_and, BitVec.toNat_and]
theorem uN_add {v w : Int64} (h : uN v + uN w < 18446744073709551616) : uN (v + w) = uN v + uN w := by
  unfold uN at *
  rw [Int64.toBitVec_add, BitVec.toNat_add]
  exact Nat.mod_eq_of_lt h
theorem uN_sub {v w : Int64} (h : uN w ≤ uN v) : uN (v - w) = uN v - uN w := by
  have := uN_lt (v := v)
  unfold uN at *
  rw [Int64.toBitVec_sub, BitVec.toNat_sub]
  omega
theorem uN_shr {v : Int64} {k : Nat} (hk : k < 64) : uN ((v.toUInt64 >>> ((lN k).toUInt64 &&& Int64.toUInt64 63)).toInt64) = uN v / 2 ^ k := by
  show (v.toUInt64 >>> ((lN k).toUInt64 &&& Int64.toUInt64 63)).toBitVec.toNat = v.toUInt64.toBitVec.toNat / 2 ^ k
  rw [UInt64.toBitVec_shiftRight]
  show (v.toUInt64.toBitVec >>> (((lN k).toUInt64 &&& Int64.toUInt64 63).toBitVec % 64).toNat).toNat = _
  rw [tb_su k hk, BitVec.toNat_ushiftRight, Nat.shiftRight_eq_div_pow]
theorem sumR_add {f : Nat → Nat} {a : Nat} : ∀ b, sumR f (a + b) = sumR f a + sumR (fun i => f (a + i)) b
  | 0 => rfl
  | b + 1 => by rw [← Nat.add_assoc, sumR, sumR_add b, sumR, Nat.add_assoc]
theorem pc_by {n k : Nat} : pcb (n / 2 ^ (8 * k) % 256) = sumR (fun i => b2n (n.testBit (8 * k + i) = true)) 8 := by
  rw [(pc_facts _ (Nat.mod_lt _ (by decide))).2.2.2.2.2]
  refine sumR_congr 8 (fun i hi => ?_)
  show b2n ((n / 2 ^ (8 * k) % 2 ^ 8).testBit i = true) = _
  rw [Nat.testBit_mod_two_pow, Nat.testBit_div_two_pow]
  simp [hi, Nat.add_comm]
theorem uN_32 {g : Int64} : g.toInt32.toBitVec.toNat = uN g % 4294967296 := by
  show (g.toBitVec.signExtend 32).toNat = _
  unfold uN
  rw [BitVec.signExtend_eq_setWidth_of_le _ (by decide), BitVec.toNat_setWidth]
theorem rep_85 : rep8 85 8 = 6148914691236517205 := rfl
theorem rep_51 : rep8 51 8 = 3689348814741910323 := rfl
theorem rep_15 : rep8 15 8 = 1085102592571150095 := rfl
theorem pcW_le : ∀ k n, pcW k n ≤ 8 * rep8 1 k := by
  intro k
  induction k with
  | zero => intro n; exact Nat.le_refl _
  | succ k ih =>
    intro n
    rw [pcW, rep8]
    have a := ih (n / 256)
    have b := (pc_facts (n % 256) (Nat.mod_lt _ (by decide))).2.2.2.2.1
    omega
theorem rep_1 : rep8 1 8 = 72340172838076673 := rfl
theorem bcL_eq {v : Int64} : bcL v = nI (sumR (fun i => b2n (tb v i = true)) 64) := by
  unfold bcL
  extract_lets a b c e f g
  have hv := uN_lt (v := v)
  have ha : uN a = pS1 8 (uN v) := by
    show uN (v - _) = _
    have h1 : uN ((v.toUInt64 >>> ((lN 1).toUInt64 &&& Int64.toUInt64 63)).toInt64 &&& lN 6148914691236517205) = (uN v / 2) &&& rep8 85 8 := by
      rw [uN_and, uN_shr (by decide), uN_l (by decide), rep_85]
    have h2 : (uN v / 2) &&& rep8 85 8 ≤ uN v / 2 := Nat.and_le_left
    rw [uN_sub (by rw [h1]; omega), h1]
    rfl
  have hb : uN b = pS2 8 (uN a) := by
    show uN (_ + _) = _
    have h1 : uN (a &&& lN 3689348814741910323) = uN a &&& rep8 51 8 := by rw [uN_and, uN_l (by decide), rep_51]
    have h2 : uN ((a.toUInt64 >>> ((lN 2).toUInt64 &&& Int64.toUInt64 63)).toInt64 &&& lN 3689348814741910323) = (uN a / 4) &&& rep8 51 8 := by rw [uN_and, uN_shr (by decide), uN_l (by decide), rep_51]
    have l1 : uN a &&& rep8 51 8 ≤ rep8 51 8 := Nat.and_le_right
    have l2 : uN a / 4 &&& rep8 51 8 ≤ rep8 51 8 := Nat.and_le_right
    rw [uN_add (by rw [h1, h2]; rw [rep_51] at *; omega), h1, h2]
    rfl
  have hb' : uN b ≤ 2 * 3689348814741910323 := by
    rw [hb, pS2]
    have l1 : uN a &&& rep8 51 8 ≤ rep8 51 8 := Nat.and_le_right
    have l2 : uN a / 4 &&& rep8 51 8 ≤ rep8 51 8 := Nat.and_le_right
    rw [rep_51] at *
    omega
  have hc : uN c = pcW 8 (uN v) := by
    show uN ((b + _) &&& _) = _
    have h1 : uN ((b.toUInt64 >>> ((lN 4).toUInt64 &&& Int64.toUInt64 63)).toInt64) = uN b / 16 := uN_shr (by decide)
    rw [uN_and, uN_add (by rw [h1]; omega), h1, uN_l (by decide), ← rep_15]
    show pS3 8 (uN b) = _
    rw [hb, ha]
    exact (pc_W 8 (uN v)).1
  have hc' : uN c ≤ 8 * 72340172838076673 := by rw [hc, ← rep_1]; exact pcW_le 8 _
  have he : uN e = uN c + uN c / 256 := by
    have h1 : uN ((c.toUInt64 >>> ((lN 8).toUInt64 &&& Int64.toUInt64 63)).toInt64) = uN c / 256 := uN_shr (by decide)
    show uN (c + _) = _
    rw [uN_add (by rw [h1]; omega), h1]
  have hf : uN f = uN e + uN e / 65536 := by
    have h1 : uN ((e.toUInt64 >>> ((lN 16).toUInt64 &&& Int64.toUInt64 63)).toInt64) = uN e / 65536 := uN_shr (by decide)
    show uN (e + _) = _
    rw [uN_add (by rw [h1]; omega), h1]
  have hg : uN g = uN f + uN f / 4294967296 := by
    have h1 : uN ((f.toUInt64 >>> ((lN 32).toUInt64 &&& Int64.toUInt64 63)).toInt64) = uN f / 4294967296 := uN_shr (by decide)
    show uN (f + _) = _
    rw [uN_add (by rw [h1]; omega), h1]
  have hp : ∀ k, pcb (uN v / 2 ^ (8 * k) % 256) ≤ 8 := fun k => (pc_facts _ (Nat.mod_lt _ (by decide))).2.2.2.2.1
  have hw : pcW 8 (uN v) = 256 * pcW 7 (uN v / 256) + pcb (uN v / 2 ^ (8 * 0) % 256) := by rw [pcW, Nat.mul_zero, Nat.pow_zero, Nat.div_one]
  have hw1 : pcW 7 (uN v / 256) = 256 * pcW 6 (uN v / 2 ^ (8 * 2)) + pcb (uN v / 2 ^ (8 * 1) % 256) := by rw [pcW, Nat.div_div_eq_div_mul]
  have hw2 : pcW 6 (uN v / 2 ^ (8 * 2)) = 256 * pcW 5 (uN v / 2 ^ (8 * 3)) + pcb (uN v / 2 ^ (8 * 2) % 256) := by rw [pcW, Nat.div_div_eq_div_mul]
  have hw3 : pcW 5 (uN v / 2 ^ (8 * 3)) = 256 * pcW 4 (uN v / 2 ^ (8 * 4)) + pcb (uN v / 2 ^ (8 * 3) % 256) := by rw [pcW, Nat.div_div_eq_div_mul]
  have hw4 : pcW 4 (uN v / 2 ^ (8 * 4)) = 256 * pcW 3 (uN v / 2 ^ (8 * 5)) + pcb (uN v / 2 ^ (8 * 4) % 256) := by rw [pcW, Nat.div_div_eq_div_mul]
  have hw5 : pcW 3 (uN v / 2 ^ (8 * 5)) = 256 * pcW 2 (uN v / 2 ^ (8 * 6)) + pcb (uN v / 2 ^ (8 * 5) % 256) := by rw [pcW, Nat.div_div_eq_div_mul]
  have hw6 : pcW 2 (uN v / 2 ^ (8 * 6)) = 256 * pcb (uN v / 2 ^ (8 * 7) % 256) + pcb (uN v / 2 ^ (8 * 6) % 256) := by
    rw [pcW, pcW, pcW, Nat.div_div_eq_div_mul (uN v) (2 ^ (8 * 6)) 256, Nat.mul_zero, Nat.zero_add]
  have hfin := pc_fold (hp 0) (hp 1) (hp 2) (hp 3) (hp 4) (hp 5) (hp 6) (hp 7) (hc.trans hw) hw1 hw2 hw3 hw4 hw5 hw6 he hf hg
  have hsum : sumR (fun i => b2n (tb v i = true)) 64 = uN g % 128 := by
    rw [hfin]
    show sumR (fun i => b2n ((uN v).testBit i = true)) (0 + 8 + 8 + 8 + 8 + 8 + 8 + 8 + 8) = _
    rw [sumR_add, sumR_add, sumR_add, sumR_add, sumR_add, sumR_add, sumR_add, sumR_add, pc_by, pc_by, pc_by, pc_by, pc_by, pc_by, pc_by, pc_by]
    simp only [sumR, Nat.zero_add, Nat.reduceMul, Nat.reduceAdd, Nat.add_assoc]
  rw [hsum]
  have : g.toInt32 &&& nI 127 = nI (g.toInt32.toBitVec.toNat % 2 ^ 7) := pk_and _ 7 rfl
  show g.toInt32 &&& nI 127 = _
  rw [this, uN_32, show (2 ^ 7 : Nat) = 128 from rfl, Nat.mod_mod_of_dvd (uN g) (show 128 ∣ 4294967296 from ⟨33554432, rfl⟩)]
