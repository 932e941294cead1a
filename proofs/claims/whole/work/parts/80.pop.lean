/-! HOW MANY BITS. From wip/whole/src. -/
def rep8 (c : Nat) : Nat → Nat
  | 0 => 0
  | k + 1 => 256 * rep8 c k + c
def pS1 (k n : Nat) : Nat := n - ((n / 2) &&& rep8 85 k)
def pS2 (k n : Nat) : Nat := (n &&& rep8 51 k) + ((n / 4) &&& rep8 51 k)
def pS3 (k n : Nat) : Nat := (n + n / 16) &&& rep8 15 k
def s1b (r : Nat) : Nat := r - ((r / 2) &&& 85)
def s2b (r : Nat) : Nat := (r &&& 51) + ((r / 4) &&& 51)
def s3b (r : Nat) : Nat := (r + r / 16) &&& 15
def pcb (r : Nat) : Nat := s3b (s2b (s1b r))
def pcW : Nat → Nat → Nat
  | 0, _ => 0
  | k + 1, n => 256 * pcW k (n / 256) + pcb (n % 256)
theorem pc_facts : ∀ r, r < 256 → s1b r < 256 ∧ s2b (s1b r) < 256 ∧ s2b (s1b r) % 16 ≤ 4 ∧ s2b (s1b r) / 16 ≤ 4 ∧ pcb r ≤ 8 ∧ pcb r = sumR (fun i => b2n (r.testBit i = true)) 8 := by decide +kernel
theorem pc_d1 : ∀ c, c < 2 → ∀ r, r < 256 → (128 * c + r / 2) &&& 85 = (r / 2) &&& 85 := by decide +kernel
theorem pc_d2 : ∀ c, c < 4 → ∀ r, r < 256 → (64 * c + r / 4) &&& 51 = (r / 4) &&& 51 := by decide +kernel
theorem and_sp {a b c e : Nat} (hb : b < 256) (he : e < 256) : (256 * a + b) &&& (256 * c + e) = 256 * (a &&& c) + (b &&& e) := by
  apply Nat.eq_of_testBit_eq
  intro i
  have hbe : b &&& e < 2 ^ 8 := Nat.lt_of_le_of_lt Nat.and_le_left hb
  rw [Nat.testBit_and, show (256 : Nat) = 2 ^ 8 from rfl, Nat.testBit_two_pow_mul_add _ hb, Nat.testBit_two_pow_mul_add _ he, Nat.testBit_two_pow_mul_add _ hbe]
  by_cases h : i < 8
  · rw [if_pos h, if_pos h, if_pos h, Nat.testBit_and]
  · rw [if_neg h, if_neg h, if_neg h, Nat.testBit_and]
theorem pS1_s {k q r : Nat} (hr : r < 256) : pS1 (k + 1) (256 * q + r) = 256 * pS1 k q + s1b r := by
  unfold pS1 s1b
  have e : (256 * q + r) / 2 = 256 * (q / 2) + (128 * (q % 2) + r / 2) := by omega
  have h1 : 128 * (q % 2) + r / 2 < 256 := by omega
  rw [rep8, e, and_sp h1 (by decide), pc_d1 _ (by omega) r hr]
  have a : q / 2 &&& rep8 85 k ≤ q / 2 := Nat.and_le_left
  have b : r / 2 &&& 85 ≤ r / 2 := Nat.and_le_left
  omega
theorem pS2_s {k q r : Nat} (hr : r < 256) : pS2 (k + 1) (256 * q + r) = 256 * pS2 k q + s2b r := by
  unfold pS2 s2b
  have e : (256 * q + r) / 4 = 256 * (q / 4) + (64 * (q % 4) + r / 4) := by omega
  have h1 : 64 * (q % 4) + r / 4 < 256 := by omega
  rw [rep8, e, and_sp h1 (by decide), and_sp hr (by decide), pc_d2 _ (by omega) r hr]
  omega
theorem pS3_s {k q r : Nat} (hr : r < 256) (h4 : r / 16 ≤ 4) (hq : q % 16 ≤ 4) : pS3 (k + 1) (256 * q + r) = 256 * pS3 k q + s3b r := by
  unfold pS3 s3b
  have e : (256 * q + r) + (256 * q + r) / 16 = 256 * (q + q / 16) + (16 * (q % 16) + r + r / 16) := by omega
  have h1 : 16 * (q % 16) + r + r / 16 < 256 := by omega
  rw [rep8, e, and_sp h1 (by decide)]
  have m : ∀ z : Nat, z &&& 15 = z % 16 := fun z => Nat.and_two_pow_sub_one_eq_mod z 4
  rw [m, m]
  omega
theorem pc_W : ∀ k n, pS3 k (pS2 k (pS1 k n)) = pcW k n ∧ pS2 k (pS1 k n) % 16 ≤ 4 := by
  intro k
  induction k with
  | zero =>
    intro n
    simp [pS3, pS2, pcW, rep8]
  | succ k ih =>
    intro n
    have hr : n % 256 < 256 := Nat.mod_lt _ (by decide)
    obtain ⟨f1, f2, f3, f4, f5, f6⟩ := pc_facts (n % 256) hr
    obtain ⟨i1, i2⟩ := ih (n / 256)
    have e : n = 256 * (n / 256) + n % 256 := by omega
    have a1 : pS2 (k + 1) (pS1 (k + 1) n) = 256 * pS2 k (pS1 k (n / 256)) + s2b (s1b (n % 256)) := by
      conv => lhs; rw [e, pS1_s hr, pS2_s f1]
    rw [a1, pS3_s f2 f4 i2, i1, pcW]
    exact ⟨rfl, by omega⟩
theorem pc_fold {p0 p1 p2 p3 p4 p5 p6 p7 A1 A2 A3 A4 A5 A6 : Nat} (h0 : p0 ≤ 8) (h1 : p1 ≤ 8) (h2 : p2 ≤ 8) (h3 : p3 ≤ 8) (h4 : p4 ≤ 8) (h5 : p5 ≤ 8) (h6 : p6 ≤ 8) (h7 : p7 ≤ 8) {w x1 x2 x3 : Nat} (b0 : w = 256 * A1 + p0) (b1 : A1 = 256 * A2 + p1) (b2 : A2 = 256 * A3 + p2) (b3 : A3 = 256 * A4 + p3) (b4 : A4 = 256 * A5 + p4) (b5 : A5 = 256 * A6 + p5) (b6 : A6 = 256 * p7 + p6) (e1 : x1 = w + w / 256) (e2 : x2 = x1 + x1 / 65536) (e3 : x3 = x2 + x2 / 4294967296) : x3 % 128 = p0 + p1 + p2 + p3 + p4 + p5 + p6 + p7 := by
  have d1 : w / 256 = A1 := by omega
  have a1 : x1 = 65536 * (A2 + A3) + (256 * (p1 + p2) + (p0 + p1)) := by
    clear e2 e3 b3 b4 b5 b6
    omega
  have d2 : x1 / 65536 = A2 + A3 := by
    clear e1 e2 e3 b0 b1 b2 b3 b4 b5 b6 d1
    omega
  have c2 : A2 + A3 = 65536 * (A4 + A5) + (256 * (p3 + p4) + (p2 + p3)) := by
    clear e1 e2 e3 b0 b1 b5 b6 d1 a1 d2
    omega
  have c4 : A4 + A5 = 65536 * (A6 + p7) + (256 * (p5 + p6) + (p4 + p5)) := by
    clear e1 e2 e3 b0 b1 b2 b3 d1 a1 d2 c2
    omega
  have a2 : x2 = 4294967296 * ((A4 + A5) + (A6 + p7)) + (65536 * ((256 * (p3 + p4) + (p2 + p3)) + (256 * (p5 + p6) + (p4 + p5))) + (256 * (p1 + p2 + p3 + p4) + (p0 + p1 + p2 + p3))) := by
    rw [d2] at e2
    clear e1 e3 b0 b1 b2 b3 b4 b5 b6 d1 d2
    omega
  have d3 : x2 / 4294967296 = (A4 + A5) + (A6 + p7) := by
    clear e1 e2 e3 b0 b1 b2 b3 b4 b5 b6 d1 d2 a1 c2 c4
    omega
  rw [d3] at e3
  clear e1 e2 b0 b1 b2 b3 b4 b5 d1 d2 d3 a1 c2
  omega
/-- a long as a natural number -/
def uN (v : Int64) : Nat := v.toBitVec.toNat
theorem uN_lt {v : Int64} : uN v < 18446744073709551616 := v.toBitVec.isLt
theorem uN_l {n : Nat} (h : n < 18446744073709551616) : uN (lN n) = n := by
  show (BitVec.ofNat 64 n).toNat = n
  rw [BitVec.toNat_ofNat]
  exact Nat.mod_eq_of_lt h
theorem uN_and {v w : Int64} : uN (v &&& w) = uN v &&& uN w := by
  unfold uN
  rw [Int64.toBitVec_and, BitVec.toNat_and]
theorem uN_add {v w : Int64} (h : uN v + uN w < 18446744073709551616) : uN (v + w) = uN v + uN w := by
  unfold uN at *
  rw [Int64.toBitVec_add, BitVec.toNat_add]
  exact Nat.mod_eq_of_lt h
theorem uN_sub {v w : Int64} (h : uN w ≤ uN v) : uN (v - w) = uN v - uN w := by
  have := uN_lt (v := v)
  unfold uN at *
  rw [Int64.toBitVec_sub, BitVec.toNat_sub]
  omega
theorem uN_shr {v : Int64} {k : Nat} (hk : k < 64) : uN ((v.toUInt64 >>> ((lN k).toUInt64 &&& Int64.toUInt64 63)).toInt64) = uN v / 2 ^ k := by
  show (v.toUInt64 >>> ((lN k).toUInt64 &&& Int64.toUInt64 63)).toBitVec.toNat = v.toUInt64.toBitVec.toNat / 2 ^ k
  rw [UInt64.toBitVec_shiftRight]
  show (v.toUInt64.toBitVec >>> (((lN k).toUInt64 &&& Int64.toUInt64 63).toBitVec % 64).toNat).toNat = _
  rw [tb_su k hk, BitVec.toNat_ushiftRight, Nat.shiftRight_eq_div_pow]
theorem sumR_add {f : Nat → Nat} {a : Nat} : ∀ b, sumR f (a + b) = sumR f a + sumR (fun i => f (a + i)) b
  | 0 => rfl
  | b + 1 => by rw [← Nat.add_assoc, sumR, sumR_add b, sumR, Nat.add_assoc]
theorem pc_by {n k : Nat} : pcb (n / 2 ^ (8 * k) % 256) = sumR (fun i => b2n (n.testBit (8 * k + i) = true)) 8 := by
  rw [(pc_facts _ (Nat.mod_lt _ (by decide))).2.2.2.2.2]
  refine sumR_congr 8 (fun i hi => ?_)
  show b2n ((n / 2 ^ (8 * k) % 2 ^ 8).testBit i = true) = _
  rw [Nat.testBit_mod_two_pow, Nat.testBit_div_two_pow]
  simp [hi, Nat.add_comm]
