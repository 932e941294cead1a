/-! THE PURE WORDS: neighbours, rules, courses. From wip/whole/src. -/
def oI (o : Option Nat) : Int32 := match o with
  | none => -1
  | some g => nI g
theorem oI_s {g : Nat} : oI (some g) = nI g := rfl
theorem oI_n : oI none = -1 := rfl
/-- the field below (0), left (1), right (2), above (3) -/
def bsd (R C f w : Nat) : Option Nat :=
  if w = 0 then (if f / C + 1 < R then some (f + C) else none)
  else if w = 1 then (if 0 < f % C then some (f - 1) else none)
  else if w = 2 then (if f % C + 1 < C then some (f + 1) else none)
  else (if 0 < f / C then some (f - C) else none)
theorem dv_lt {R C f : Nat} (h : f < R * C) : f / C < R := Nat.div_lt_of_lt_mul (by rw [Nat.mul_comm]; exact h)
theorem bsd_lt {R C f w g : Nat} (hC : 0 < C) (h : f < R * C) (hb : bsd R C f w = some g) : g < R * C := by
  have h1 := dv_lt h
  have h2 : f % C < C := Nat.mod_lt _ hC
  have h3 := Nat.div_add_mod f C
  unfold bsd at hb
  split at hb
  · split at hb
    · rename_i q
      cases hb
      have : C * (f / C + 1 + 1) ≤ C * R := Nat.mul_le_mul_left C q
      rw [Nat.mul_comm C R] at this
      rw [Nat.mul_add, Nat.mul_add] at this
      omega
    · cases hb
  · split at hb
    · split at hb
      · cases hb; omega
      · cases hb
    · split at hb
      · split at hb
        · rename_i q
          cases hb
          have : C * (f / C + 1) ≤ C * R := Nat.mul_le_mul_left C h1
          rw [Nat.mul_comm C R, Nat.mul_add] at this
          omega
        · cases hb
      · split at hb
        · cases hb; omega
        · cases hb
theorem bsd_ne {R C f v w g : Nat} (hC : 2 ≤ C) (hvw : v < w) (hw : w ≤ 2) (h1 : bsd R C f v = some g) (h2 : bsd R C f w = some g) : False := by
  have h3 := Nat.div_add_mod f C
  have : (v = 0 ∧ w = 1) ∨ (v = 0 ∧ w = 2) ∨ (v = 1 ∧ w = 2) := by omega
  have h4 : 0 < f % C → 0 < f := fun q => Nat.pos_of_ne_zero (fun e => by rw [e, Nat.zero_mod] at q; omega)
  rcases this with ⟨rfl, rfl⟩ | ⟨rfl, rfl⟩ | ⟨rfl, rfl⟩
  · simp [bsd] at h1 h2
    omega
  · simp [bsd] at h1 h2
    omega
  · simp [bsd] at h1 h2
    omega
/-- what an act of a rule does -/
def wkd (act : Nat) (a b : Int32) : Int32 :=
  if act = 0 then nI (b2n (a < b)) else if act = 1 then nI (b2n (b < a)) else if act = 2 then nI (b2n (a = b)) else if act = 3 then a + b else if act = 4 then a - b else if act = 5 then a * b else if b = 0 then 0 else a / b
/-- how high the pile stands behind k steps of a rule -/
def hg (c : Nat → Nat) : Nat → Nat
  | 0 => 0
  | n + 1 => if c n = 3000 then hg c n else if 2000 ≤ c n then hg c n - 1 else hg c n + 1
/-- the pile behind k steps -/
def rf (c : Nat → Nat) (a : Nat → Int32) : Nat → Nat → Int32
  | 0 => fun _ => 0
  | n + 1 => if c n = 3000 then upd (rf c a n) (hg c n - 1) (-(rf c a n (hg c n - 1))) else if 2000 ≤ c n then upd (rf c a n) (hg c n - 2) (wkd (c n - 2000) (rf c a n (hg c n - 2)) (rf c a n (hg c n - 1))) else upd (rf c a n) (hg c n) (if 1000 ≤ c n then a (c n - 1000) else nI (c n))
/-- a rule that can be reckoned -/
def okc (c : Nat → Nat) (n : Nat) : Prop := n ≤ 40 ∧ (0 < n → 1 ≤ hg c n) ∧ ∀ k, k < n → (c k = 3000 ∧ 1 ≤ hg c k) ∨ (2000 ≤ c k ∧ c k ≤ 2006 ∧ 2 ≤ hg c k) ∨ c k ≤ 1006
theorem hg_le (c : Nat → Nat) : ∀ k, hg c k ≤ k
  | 0 => Nat.le_refl _
  | k + 1 => by
    have := hg_le c k
    unfold hg
    split
    · omega
    · split <;> omega
/-- what a rule says: none at all is h+s*2-w -/
def rlv (c : Nat → Nat) (n : Nat) (a : Nat → Int32) : Int32 := if n = 0 then a 0 + nI 2 * a 1 - a 2 else rf c a n 0
/-- what is asked of a field: S a row of the reference, sk the force on a tide -/
def asks (C : Nat) (sk : Nat → Nat) (S : Nat → Nat) (f bs : Nat) : Nat → Int32 := fun q =>
  if q = 0 then nI (S f) else if q = 1 then nI bs else if q = 2 then nI (S (72 + f)) else if q = 3 then nI (sk (S 109)) else if q = 4 then nI (S 109 % 7) else if q = 5 then nI (f / C) else nI (f % C)
/-- the best of the first w ways from a field: it, and how little it is liked -/
def bst (R C : Nat) (dis : Nat → Nat → Int32) (sh : Nat → Bool) (f : Nat) : Nat → Option (Nat × Int32)
  | 0 => none
  | w + 1 => match bsd R C f w with
    | none => bst R C dis sh f w
    | some g => if sh g then bst R C dis sh f w else (match bst R C dis sh f w with
      | none => some (g, dis g (b2n (0 < w)))
      | some (b, l) => if dis g (b2n (0 < w)) < l then some (g, dis g (b2n (0 < w))) else some (b, l))
def onP (L : Nat) (p : Nat → Nat) (g : Nat) : Bool := (List.range L).any (fun k => p k == g)
theorem onP_iff {L : Nat} {p : Nat → Nat} {g : Nat} : onP L p g = true ↔ ∃ k, k < L ∧ p k = g := by
  unfold onP
  simp [List.any_eq_true, List.mem_range]
def upn (p : Nat → Nat) (k v : Nat) : Nat → Nat := fun j => if j = k then v else p j
/-- a course on: L fields so far, p they in turn; whether it is a lake -/
def crs (R C : Nat) (dis : Nat → Nat → Int32) (wl : Nat → Bool) : Nat → Nat → (Nat → Nat) → Nat × (Nat → Nat) × Bool
  | 0, L, p => (L, p, true)
  | n + 1, L, p => if R * C - C ≤ p (L - 1) then (L, p, false) else (match bst R C dis (fun g => wl g || onP L p g) (p (L - 1)) 3 with
    | none => (L, p, true)
    | some (g, _) => crs R C dis wl n (L + 1) (upn p L g))
/-- the course from a source -/
def crs0 (R C : Nat) (dis : Nat → Nat → Int32) (wl : Nat → Bool) (s : Nat) : Nat × (Nat → Nat) × Bool := if wl s then (0, fun _ => 0, true) else crs R C dis wl 36 1 (upn (fun _ => 0) 0 s)
theorem pig : ∀ (F L : Nat) (p : Nat → Nat), (∀ k, k < L → p k < F) → (∀ i j, i < j → j < L → p i ≠ p j) → L ≤ F := by
  intro F
  induction F with
  | zero =>
    intro L p h _
    cases L with
    | zero => omega
    | succ L => exact absurd (h 0 (by omega)) (by omega)
  | succ F ih =>
    intro L p h hi
    by_cases e : ∃ k, k < L ∧ p k = F
    · obtain ⟨k0, hk, hp⟩ := e
      have := ih (L - 1) (fun k => if k < k0 then p k else p (k + 1)) (by
        intro k hk2
        split
        · have h1 := h k (by omega)
          have h2 := hi k k0 (by omega) hk
          omega
        · have h1 := h (k + 1) (by omega)
          have h2 := hi k0 (k + 1) (by omega) (by omega)
          omega) (by
        intro i j hij hj
        split <;> split
        · exact hi i j hij (by omega)
        · exact hi i (j + 1) (by omega) (by omega)
        · omega
        · exact hi (i + 1) (j + 1) (by omega) (by omega))
      omega
    · have := ih L p (by
        intro k hk
        have h1 := h k hk
        have h2 : p k ≠ F := fun q => e ⟨k, hk, q⟩
        omega) hi
      omega
theorem bst_some {R C : Nat} {dis : Nat → Nat → Int32} {sh : Nat → Bool} {f : Nat} : ∀ {w : Nat} {g : Nat} {l : Int32}, bst R C dis sh f w = some (g, l) → (∃ v, v < w ∧ bsd R C f v = some g) ∧ sh g = false := by
  intro w
  induction w with
  | zero => intro g l h; cases h
  | succ w ih =>
    intro g l h
    unfold bst at h
    cases hb : bsd R C f w with
    | none =>
      rw [hb] at h
      obtain ⟨⟨v, h1, h2⟩, h3⟩ := ih h
      exact ⟨⟨v, by omega, h2⟩, h3⟩
    | some g' =>
      rw [hb] at h
      dsimp only at h
      by_cases hs : sh g' = true
      · rw [if_pos hs] at h
        obtain ⟨⟨v, h1, h2⟩, h3⟩ := ih h
        exact ⟨⟨v, by omega, h2⟩, h3⟩
      · rw [if_neg hs] at h
        cases hq : bst R C dis sh f w with
        | none =>
          rw [hq] at h
          cases h
          exact ⟨⟨w, by omega, hb⟩, by simpa using hs⟩
        | some bl =>
          obtain ⟨b, l'⟩ := bl
          rw [hq] at h
          dsimp only at h
          split at h
          · cases h
            exact ⟨⟨w, by omega, hb⟩, by simpa using hs⟩
          · cases h
            obtain ⟨⟨v, h1, h2⟩, h3⟩ := ih hq
            exact ⟨⟨v, by omega, h2⟩, h3⟩
