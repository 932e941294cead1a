/-! open: how many of ten to the n. From wip/whole/src. -/
def opW (p : Nat) : Nat → Nat → Nat
  | 0, _ => 1
  | i + 1, q => opW p i q * (if q.testBit i = true then p else 10 - p)
def opR : Nat → Nat → Nat
  | 0, _ => 0
  | i + 1, q => if q.testBit i = true then opR i q + 1 else 0
def opB : Nat → Nat → Nat
  | 0, _ => 0
  | i + 1, q => max (opB i q) (opR (i + 1) q)
theorem op_rb : ∀ i q, opR i q ≤ opB i q
  | 0, _ => Nat.le_refl _
  | i + 1, q => by rw [opB]; omega
theorem op_i : ∀ i q, opR i q ≤ i ∧ opB i q ≤ i
  | 0, _ => ⟨Nat.le_refl _, Nat.le_refl _⟩
  | i + 1, q => by
    obtain ⟨h1, h2⟩ := op_i i q
    rw [opB, opR]
    split <;> omega
theorem op_low {p : Nat} {i a b : Nat} (h : ∀ j, j < i → a.testBit j = b.testBit j) : opW p i a = opW p i b ∧ opR i a = opR i b ∧ opB i a = opB i b := by
  induction i with
  | zero => exact ⟨rfl, rfl, rfl⟩
  | succ i ih =>
    obtain ⟨h1, h2, h3⟩ := ih (fun j hj => h j (by omega))
    have hb := h i (by omega)
    refine ⟨?_, ?_, ?_⟩
    · rw [opW, opW, h1, hb]
    · rw [opR, opR, h2, hb]
    · rw [opB, opB, opR, opR, h2, h3, hb]
theorem op_hi {p i q : Nat} (hq : q < 2 ^ i) : opW p (i + 1) (2 ^ i + q) = opW p i q * p ∧ opR (i + 1) (2 ^ i + q) = opR i q + 1 ∧ opB (i + 1) (2 ^ i + q) = max (opB i q) (opR i q + 1) := by
  have hl := op_low (p := p) (i := i) (a := 2 ^ i + q) (b := q) (fun j hj => Nat.testBit_two_pow_add_gt hj q)
  have hb : (2 ^ i + q).testBit i = true := by
    rw [Nat.testBit_two_pow_add_eq, Nat.testBit_lt_two_pow hq]
    rfl
  refine ⟨?_, ?_, ?_⟩
  · rw [opW, if_pos hb, hl.1]
  · rw [opR, if_pos hb, hl.2.1]
  · rw [opB, opR, if_pos hb, hl.2.1, hl.2.2]
theorem op_lo {p i q : Nat} (hq : q < 2 ^ i) : opW p (i + 1) q = opW p i q * (10 - p) ∧ opR (i + 1) q = 0 ∧ opB (i + 1) q = opB i q := by
  have hb : ¬ q.testBit i = true := by
    rw [Nat.testBit_lt_two_pow hq]
    decide
  refine ⟨?_, ?_, ?_⟩
  · rw [opW, if_neg hb]
  · rw [opR, if_neg hb]
  · rw [opB, opR, if_neg hb]
    omega
theorem sm_mul {f : Nat → Nat} {c : Nat} : ∀ n, sumR (fun q => f q * c) n = sumR f n * c
  | 0 => by simp [sumR]
  | n + 1 => by rw [sumR, sumR, sm_mul n, Nat.add_mul]
theorem sm_plus {f g : Nat → Nat} : ∀ n, sumR (fun q => f q + g q) n = sumR f n + sumR g n
  | 0 => rfl
  | n + 1 => by rw [sumR, sumR, sumR, sm_plus n]; omega
theorem sm_0 {f : Nat → Nat} : ∀ n, (∀ q, q < n → f q = 0) → sumR f n = 0
  | 0, _ => rfl
  | n + 1, h => by rw [sumR, sm_0 n (fun q hq => h q (by omega)), h n (by omega)]
/-- the weight of all sequences, of those with a run of m, of those without and with a run of k at the end -/
def opA (p i : Nat) : Nat := sumR (opW p i) (2 ^ i)
def opS (p m i : Nat) : Nat := sumR (fun q => if m ≤ opB i q then opW p i q else 0) (2 ^ i)
def opF (p m i : Nat) : Nat := sumR (fun q => if m ≤ opB i q then 0 else opW p i q) (2 ^ i)
def opC (p m i k : Nat) : Nat := sumR (fun q => if opB i q < m ∧ opR i q = k then opW p i q else 0) (2 ^ i)
theorem op_half {f : Nat → Nat} {i : Nat} : sumR f (2 ^ (i + 1)) = sumR f (2 ^ i) + sumR (fun q => f (2 ^ i + q)) (2 ^ i) := by
  rw [Nat.pow_succ, Nat.mul_two, sumR_add]
theorem opA_e {p : Nat} (hp : p ≤ 10) : ∀ i, opA p i = 10 ^ i
  | 0 => rfl
  | i + 1 => by
    unfold opA
    rw [op_half, sumR_congr (2 ^ i) (g := fun q => opW p i q * (10 - p)) (fun q hq => (op_lo hq).1), sumR_congr (f := fun q => opW p (i + 1) (2 ^ i + q)) (2 ^ i) (g := fun q => opW p i q * p) (fun q hq => (op_hi hq).1), sm_mul, sm_mul]
    have := opA_e hp i
    unfold opA at this
    rw [this, ← Nat.mul_add, Nat.sub_add_cancel hp, Nat.pow_succ]
theorem opSF {p m i : Nat} : opS p m i + opF p m i = opA p i := by
  unfold opS opF opA
  rw [← sm_plus]
  refine sumR_congr _ (fun q _ => ?_)
  split <;> omega
theorem opS_s {p m i : Nat} (hp : p ≤ 10) (hm : 1 ≤ m) : opS p m (i + 1) = opS p m i * 10 + opC p m i (m - 1) * p := by
  unfold opS opC
  rw [op_half, sumR_congr (2 ^ i) (g := fun q => (if m ≤ opB i q then opW p i q else 0) * (10 - p)) (fun q hq => ?_), sumR_congr (f := fun q => if m ≤ opB (i + 1) (2 ^ i + q) then opW p (i + 1) (2 ^ i + q) else 0) (2 ^ i) (g := fun q => (if m ≤ opB i q then opW p i q else 0) * p + (if opB i q < m ∧ opR i q = m - 1 then opW p i q else 0) * p) (fun q hq => ?_), sm_plus, sm_mul, sm_mul, sm_mul]
  · generalize sumR (fun q => if m ≤ opB i q then opW p i q else 0) (2 ^ i) = A
    have : A * (10 - p) + A * p = A * 10 := by rw [← Nat.mul_add, Nat.sub_add_cancel hp]
    omega
  · obtain ⟨h1, h2, h3⟩ := op_hi (p := p) hq
    have hrb := op_rb i q
    rw [h1, h3]
    by_cases z : m ≤ opB i q
    · rw [if_pos (by omega), if_pos z, if_neg (by omega), Nat.zero_mul, Nat.add_zero]
    · by_cases y : opR i q = m - 1
      · rw [if_pos (by omega), if_neg z, if_pos ⟨by omega, y⟩, Nat.zero_mul, Nat.zero_add]
      · rw [if_neg (by omega), if_neg z, if_neg (by omega), Nat.zero_mul]
  · obtain ⟨h1, h2, h3⟩ := op_lo (p := p) hq
    rw [h1, h3]
    split
    · rfl
    · rw [Nat.zero_mul]
theorem opC_0 {p m i : Nat} (hm : 1 ≤ m) : opC p m (i + 1) 0 = opF p m i * (10 - p) := by
  unfold opC opF
  rw [op_half, sumR_congr (2 ^ i) (g := fun q => (if m ≤ opB i q then 0 else opW p i q) * (10 - p)) (fun q hq => ?_), sm_mul, sm_0 (f := fun q => if opB (i + 1) (2 ^ i + q) < m ∧ opR (i + 1) (2 ^ i + q) = 0 then opW p (i + 1) (2 ^ i + q) else 0) _ (fun q hq => ?_), Nat.add_zero]
  · obtain ⟨h1, h2, h3⟩ := op_hi (p := p) hq
    rw [h2, if_neg (by omega)]
  · obtain ⟨h1, h2, h3⟩ := op_lo (p := p) hq
    rw [h1, h2, h3]
    by_cases z : m ≤ opB i q
    · rw [if_neg (by omega), if_pos z, Nat.zero_mul]
    · rw [if_pos ⟨by omega, rfl⟩, if_neg z]
theorem opC_s {p m i k : Nat} (hk : k + 1 < m) : opC p m (i + 1) (k + 1) = opC p m i k * p := by
  unfold opC
  rw [op_half, sm_0 (f := fun q => if opB (i + 1) q < m ∧ opR (i + 1) q = k + 1 then opW p (i + 1) q else 0) _ (fun q hq => ?_), sumR_congr (f := fun q => if opB (i + 1) (2 ^ i + q) < m ∧ opR (i + 1) (2 ^ i + q) = k + 1 then opW p (i + 1) (2 ^ i + q) else 0) (2 ^ i) (g := fun q => (if opB i q < m ∧ opR i q = k then opW p i q else 0) * p) (fun q hq => ?_), sm_mul, Nat.zero_add]
  · obtain ⟨h1, h2, h3⟩ := op_hi (p := p) hq
    rw [h1, h2, h3]
    by_cases z : opB i q < m ∧ opR i q = k
    · rw [if_pos z, if_pos (by omega)]
    · rw [if_neg z, if_neg (by omega), Nat.zero_mul]
  · obtain ⟨h1, h2, h3⟩ := op_lo (p := p) hq
    rw [h2, if_neg (by omega)]
/-- Euclid ends within n steps -/
def gS : Nat → Nat → Nat → Prop
  | 0, _, v => v = 0
  | n + 1, u, v => v = 0 ∨ gS n v (u % v)
theorem gS_up : ∀ n u v, gS n u v → gS (n + 1) u v
  | 0, _, _, h => Or.inl h
  | n + 1, u, v, h => by
    rcases h with h | h
    · exact Or.inl h
    · exact Or.inr (gS_up n _ _ h)
theorem gS_k : ∀ k u v, v < 2 ^ k → gS (2 * k + 1) u v
  | 0, _, v, h => Or.inl (by have : v < 1 := h; omega)
  | k + 1, u, v, h => by
    by_cases z : v = 0
    · exact Or.inl z
    · refine Or.inr ?_
      show gS (2 * k + 2) v (u % v)
      have hr : u % v < v := Nat.mod_lt _ (by omega)
      by_cases y : u % v = 0
      · exact Or.inl y
      · refine Or.inr ?_
        generalize u % v = r at hr y
        have h1 : v % r < r := Nat.mod_lt _ (by omega)
        have h2 : v % r ≤ v - r := by
          rw [Nat.mod_eq_sub_mod (by omega)]
          exact Nat.mod_le _ _
        rw [Nat.pow_succ] at h
        exact gS_k k r (v % r) (by omega)
theorem gcd_st {u v : Nat} : Nat.gcd u v = if v = 0 then u else Nat.gcd v (u % v) := by
  by_cases z : v = 0
  · rw [if_pos z, z, Nat.gcd_zero_right]
  · rw [if_neg z, Nat.gcd_comm u v, Nat.gcd_rec v u, Nat.gcd_comm]
