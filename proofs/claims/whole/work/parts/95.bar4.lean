/-! bar: the least winning share. From wip/whole/src. -/
theorem bwL_none {lim h l : Nat} : ∀ k, bwL lim h l k = none → ∀ b, b < k → b ≠ l → bwn lim h b = false := by
  intro k
  induction k with
  | zero => intro _ b hb; omega
  | succ k ih =>
    intro e b hb hne
    rw [bwL] at e
    cases hq : bwL lim h l k with
    | some a =>
      rw [hq] at e
      cases e
    | none =>
      rw [hq] at e
      have e' : (if k ≠ l ∧ bwn lim h k = true then some k else none) = none := e
      by_cases hc : k ≠ l ∧ bwn lim h k = true
      · rw [if_pos hc] at e'
        cases e'
      · by_cases z : b = k
        · subst z
          cases hw : bwn lim h b with
          | false => rfl
          | true => exact absurd ⟨hne, hw⟩ hc
        · exact ih hq b (by omega) hne
theorem bwL_some {lim h l a : Nat} : ∀ k, bwL lim h l k = some a → a < k ∧ a ≠ l ∧ bwn lim h a = true ∧ ∀ b, b < a → b ≠ l → bwn lim h b = false := by
  intro k
  induction k with
  | zero => intro e; cases e
  | succ k ih =>
    intro e
    rw [bwL] at e
    cases hq : bwL lim h l k with
    | some a' =>
      rw [hq] at e
      have e' : some a' = some a := e
      cases e'
      obtain ⟨i1, i2⟩ := ih hq
      exact ⟨by omega, i2⟩
    | none =>
      rw [hq] at e
      have e' : (if k ≠ l ∧ bwn lim h k = true then some k else none) = some a := e
      by_cases hc : k ≠ l ∧ bwn lim h k = true
      · rw [if_pos hc] at e'
        cases e'
        exact ⟨by omega, hc.1, hc.2, fun b hb hne => bwL_none a hq b hb hne⟩
      · rw [if_neg hc] at e'
        cases e'
/-- the answer of bar -/
def bwA (lim h l : Nat) : Nat := match bwL lim h l 10 with
  | none => 0
  | some a => a
