/-! bar. From wip/whole/src. -/
/-- the winning shares at a height: first n heights known -/
def bwT (lim : Nat) : Nat → Nat → Nat → Bool
  | 0 => fun _ _ => false
  | n + 1 => fun h g => if h = n then decide (1 ≤ g ∧ g ≤ lim ∧ g ≤ n) && !((List.range 10).any (fun b => !(b == g) && bwT lim n (n - g) b)) else bwT lim n h g
theorem bw_old {lim n h g : Nat} (hn : h < n) : bwT lim (n + 1) h g = bwT lim n h g := by
  show (if h = n then _ else bwT lim n h g) = _
  rw [if_neg (by omega)]
theorem bw_keep {lim h g : Nat} : ∀ n, h < n → bwT lim n h g = bwT lim (h + 1) h g := by
  intro n
  induction n with
  | zero => intro z; omega
  | succ n ih =>
    intro z
    by_cases e : h = n
    · rw [e]
    · rw [bw_old (by omega), ih (by omega)]
/-- the winning shares at a height -/
def bwn (lim h g : Nat) : Bool := bwT lim (h + 1) h g
theorem bwn_iff {lim h g : Nat} : bwn lim h g = true ↔ (1 ≤ g ∧ g ≤ lim ∧ g ≤ h) ∧ ∀ b, b < 10 → b ≠ g → bwn lim (h - g) b = false := by
  unfold bwn
  show (if h = h then decide (1 ≤ g ∧ g ≤ lim ∧ g ≤ h) && !((List.range 10).any (fun b => !(b == g) && bwT lim h (h - g) b)) else bwT lim h h g) = true ↔ _
  rw [if_pos rfl]
  simp only [Bool.and_eq_true, decide_eq_true_eq, Bool.not_eq_true', List.any_eq_false, List.mem_range, beq_eq_false_iff_ne]
  constructor
  · rintro ⟨h1, h2⟩
    refine ⟨h1, fun b hb hne => ?_⟩
    have := h2 b hb
    rw [← bw_keep (n := h) (by omega)]
    cases hq : bwT lim h (h - g) b with
    | false => rfl
    | true => exact absurd ⟨hne, hq⟩ this
  · rintro ⟨h1, h2⟩
    refine ⟨h1, fun b hb => ?_⟩
    rintro ⟨hne, hq⟩
    have := h2 b hb hne
    rw [← bw_keep (n := h) (by omega), hq] at this
    cases this
/-- the least winning share but one, of those below k -/
def bwL (lim h l : Nat) : Nat → Option Nat
  | 0 => none
  | k + 1 => match bwL lim h l k with
    | some a => some a
    | none => if k ≠ l ∧ bwn lim h k = true then some k else none
