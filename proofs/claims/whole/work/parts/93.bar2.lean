/-! bar: the class. From wip/whole/src. -/
theorem b_xor (x y : Int32) (i : Nat) : bt (x ^^^ y) i = (bt x i ^^ bt y i) := by unfold bt; rw [Int32.toBitVec_xor, BitVec.getLsbD_xor]
theorem b_m1 : ∀ i, i < 32 → bt (-1) i = true := by decide +kernel
theorem b_one : ∀ i, i < 32 → bt (nI 1) i = decide (i = 0) := by decide +kernel
theorem b_p2 {g i : Nat} (hg : g < 32) (hi : i < 32) : bt (nI 1 <<< (nI g &&& 31)) i = decide (i = g) := by
  rw [b_shl g hg _ hi]
  by_cases h : g ≤ i
  · rw [b_one _ (by omega)]
    by_cases e : i = g
    · subst e; simp
    · have : ¬ i - g = 0 := by omega
      simp [e, this]
  · have : ¬ i = g := by omega
    simp [h, this]
theorem b_zero (i : Nat) : bt 0 i = false := by
  show (0#32).getLsbD i = false
  exact BitVec.getLsbD_zero
/-- the set of winning shares, as the class keeps it -/
def bwS (lim h : Nat) (v : Int32) : Prop := ∀ i, i < 32 → bt v i = (decide (i < 10) && bwn lim h i)
theorem bw_rest {lim h g : Nat} {v : Int32} (hg : g < 10) (hv : bwS lim h v) : (v &&& (nI 1 <<< (nI g &&& 31) ^^^ (-1)) = 0) ↔ ∀ b, b < 10 → b ≠ g → bwn lim h b = false := by
  have hb : ∀ i, i < 32 → bt (v &&& (nI 1 <<< (nI g &&& 31) ^^^ (-1))) i = ((decide (i < 10) && bwn lim h i) && !(decide (i = g))) := by
    intro i hi
    rw [b_and, b_xor, b_p2 (by omega) hi, b_m1 i hi, hv i hi]
    simp
  constructor
  · intro e b hb10 hne
    have := hb b (by omega)
    rw [e, b_zero] at this
    simp [hb10, hne] at this
    exact this
  · intro hall
    apply b_ext
    intro i hi
    rw [hb i hi, b_zero]
    by_cases h10 : i < 10
    · by_cases e : i = g
      · simp [e]
      · rw [hall i h10 e]; simp
    · simp [h10]
