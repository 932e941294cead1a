/-! rules: the reader as steps over signs. From wip/whole/src. -/
def bnd (j : Nat) : Nat := if j = 0 then 0 else if j = 3000 then 4 else if j = 2005 ∨ j = 2006 then 3 else if j = 2003 ∨ j = 2004 then 2 else 1
def jn (c : Nat) : Option Nat := if c = 42 then some 2005 else if c = 47 then some 2006 else if c = 43 then some 2003 else if c = 45 then some 2004 else if c = 60 then some 2000 else if c = 62 then some 2001 else if c = 61 then some 2002 else none
def thg (c : Nat) : Option Nat := if c = 104 then some 0 else if c = 115 then some 1 else if c = 119 then some 2 else if c = 102 then some 3 else if c = 116 then some 4 else if c = 114 then some 5 else if c = 99 then some 6 else none
/-- what is told behind a release, last first; what waits then, top first -/
def rpO (b : Nat) : List Nat → List Nat → List Nat
  | o, [] => o
  | o, j :: w => if b ≤ bnd j then rpO b (j :: o) w else o
def rpW (b : Nat) : List Nat → List Nat
  | [] => []
  | j :: w => if b ≤ bnd j then rpW b w else j :: w
def tp1 (w : List Nat) : Bool := match w with
  | [] => false
  | j :: _ => decide (bnd j = 1)
/-- told (last first), waiting (top first), brackets open, digits of the number, a thing is wanted -/
abbrev rdS : Type := List Nat × List Nat × Nat × Nat × Bool
def stq (o w : List Nat) (ne dg : Nat) (wa : Bool) (c : Nat) : Option rdS :=
  if isD c = true then
    (if wa = true then some ((c - 48) :: o, w, ne, 1, false)
     else if dg = 0 ∨ 3 ≤ dg then none else (match o with
      | [] => none
      | a :: o' => some ((a * 10 + (c - 48)) :: o', w, ne, dg + 1, false)))
  else if wa = true then
    (if c = 45 then some (o, 3000 :: w, ne, 0, true)
     else if c = 40 then (if 4 ≤ ne then none else some (o, 0 :: w, ne + 1, 0, true))
     else (match thg c with
      | none => none
      | some i => some ((1000 + i) :: o, w, ne, 0, false)))
  else if c = 41 then (if ne = 0 then none else some (rpO 1 o w, (rpW 1 w).tail, ne - 1, 0, false))
  else (match jn c with
    | none => none
    | some j => if bnd j = 1 ∧ tp1 (rpW (max 2 (bnd j)) w) = true then none else some (rpO (max 2 (bnd j)) o w, j :: rpW (max 2 (bnd j)) w, ne, 0, true))
def stp (s : rdS) (c : Nat) : Option rdS := stq s.1 s.2.1 s.2.2.1 s.2.2.2.1 s.2.2.2.2 c
theorem jn_cs {c j : Nat} (h : jn c = some j) : (c = 42 ∧ j = 2005) ∨ (c = 47 ∧ j = 2006) ∨ (c = 43 ∧ j = 2003) ∨ (c = 45 ∧ j = 2004) ∨ (c = 60 ∧ j = 2000) ∨ (c = 62 ∧ j = 2001) ∨ (c = 61 ∧ j = 2002) := by
  unfold jn at h
  repeat (first | (cases h; done) | (split at h <;> first | (cases h; omega) | skip))
theorem jn_D {c j : Nat} (h : jn c = some j) : isD c = false ∧ c ≠ 41 := by
  rcases jn_cs h with ⟨rfl, _⟩ | ⟨rfl, _⟩ | ⟨rfl, _⟩ | ⟨rfl, _⟩ | ⟨rfl, _⟩ | ⟨rfl, _⟩ | ⟨rfl, _⟩ <;> decide
theorem jn_b {c j : Nat} (h : jn c = some j) : 1 ≤ bnd j ∧ bnd j ≤ 3 ∧ 2000 ≤ j ∧ j ≤ 2006 := by
  rcases jn_cs h with ⟨_, rfl⟩ | ⟨_, rfl⟩ | ⟨_, rfl⟩ | ⟨_, rfl⟩ | ⟨_, rfl⟩ | ⟨_, rfl⟩ | ⟨_, rfl⟩ <;> decide
theorem th_cs {c i : Nat} (h : thg c = some i) : (c = 104 ∧ i = 0) ∨ (c = 115 ∧ i = 1) ∨ (c = 119 ∧ i = 2) ∨ (c = 102 ∧ i = 3) ∨ (c = 116 ∧ i = 4) ∨ (c = 114 ∧ i = 5) ∨ (c = 99 ∧ i = 6) := by
  unfold thg at h
  repeat (first | (cases h; done) | (split at h <;> first | (cases h; omega) | skip))
theorem th_D {c i : Nat} (h : thg c = some i) : isD c = false ∧ c ≠ 45 ∧ c ≠ 40 ∧ i ≤ 6 := by
  rcases th_cs h with ⟨rfl, rfl⟩ | ⟨rfl, rfl⟩ | ⟨rfl, rfl⟩ | ⟨rfl, rfl⟩ | ⟨rfl, rfl⟩ | ⟨rfl, rfl⟩ | ⟨rfl, rfl⟩ <;> decide
section RA
variable {o w : List Nat} {ne dg c : Nat} {wa : Bool}
theorem stp_d1 (h : isD c = true) : stp (o, w, ne, dg, true) c = some ((c - 48) :: o, w, ne, 1, false) := by
  show stq o w ne dg true c = _
  unfold stq
  rw [if_pos h, if_pos rfl]
theorem stp_d2 {a : Nat} (h : isD c = true) (h1 : 0 < dg) (h2 : dg < 3) : stp (a :: o, w, ne, dg, false) c = some ((a * 10 + (c - 48)) :: o, w, ne, dg + 1, false) := by
  show stq (a :: o) w ne dg false c = _
  unfold stq
  rw [if_pos h, if_neg (by decide), if_neg (by omega)]
theorem stp_d0 (h : isD c = true) (h1 : dg = 0 ∨ 3 ≤ dg) : stp (o, w, ne, dg, false) c = none := by
  show stq o w ne dg false c = _
  unfold stq
  rw [if_pos h, if_neg (by decide), if_pos h1]
theorem stp_m : stp (o, w, ne, dg, true) 45 = some (o, 3000 :: w, ne, 0, true) := rfl
theorem stp_l (h : ne < 4) : stp (o, w, ne, dg, true) 40 = some (o, 0 :: w, ne + 1, 0, true) := by
  show stq o w ne dg true 40 = _
  unfold stq
  rw [if_neg (by decide), if_pos rfl, if_neg (by decide), if_pos rfl, if_neg (by omega)]
theorem stp_l4 (h : 4 ≤ ne) : stp (o, w, ne, dg, true) 40 = none := by
  show stq o w ne dg true 40 = _
  unfold stq
  rw [if_neg (by decide), if_pos rfl, if_neg (by decide), if_pos rfl, if_pos h]
theorem stp_t {i : Nat} (h : thg c = some i) : stp (o, w, ne, dg, true) c = some ((1000 + i) :: o, w, ne, 0, false) := by
  obtain ⟨h1, h2, h3, _⟩ := th_D h
  show stq o w ne dg true c = _
  unfold stq
  rw [if_neg (by rw [h1]; decide), if_pos rfl, if_neg h2, if_neg h3, h]
theorem stp_tn (h1 : isD c = false) (h2 : c ≠ 45) (h3 : c ≠ 40) (h : thg c = none) : stp (o, w, ne, dg, true) c = none := by
  show stq o w ne dg true c = _
  unfold stq
  rw [if_neg (by rw [h1]; decide), if_pos rfl, if_neg h2, if_neg h3, h]
theorem stp_r (h : 0 < ne) : stp (o, w, ne, dg, false) 41 = some (rpO 1 o w, (rpW 1 w).tail, ne - 1, 0, false) := by
  show stq o w ne dg false 41 = _
  unfold stq
  rw [if_neg (by decide), if_neg (by decide), if_pos rfl, if_neg (by omega)]
theorem stp_r0 : stp (o, w, 0, dg, false) 41 = none := rfl
theorem stp_j {j : Nat} (h : jn c = some j) : stp (o, w, ne, dg, false) c = if bnd j = 1 ∧ tp1 (rpW (max 2 (bnd j)) w) = true then none else some (rpO (max 2 (bnd j)) o w, j :: rpW (max 2 (bnd j)) w, ne, 0, true) := by
  obtain ⟨h1, h2⟩ := jn_D h
  show stq o w ne dg false c = _
  unfold stq
  rw [if_neg (by rw [h1]; decide), if_neg (by decide), if_neg h2, h]
theorem stp_jn (h1 : isD c = false) (h2 : c ≠ 41) (h : jn c = none) : stp (o, w, ne, dg, false) c = none := by
  show stq o w ne dg false c = _
  unfold stq
  rw [if_neg (by rw [h1]; decide), if_neg (by decide), if_neg h2, h]
theorem rp_len {b : Nat} : ∀ {w o : List Nat}, (rpO b o w).length + (rpW b w).length = o.length + w.length := by
  intro w
  induction w with
  | nil => intro o; rfl
  | cons j w ih =>
    intro o
    unfold rpO rpW
    by_cases h : b ≤ bnd j
    · rw [if_pos h, if_pos h, ih, List.length_cons, List.length_cons]
      omega
    · rw [if_neg h, if_neg h]
theorem tl_len {l : List Nat} : l.tail.length ≤ l.length := by
  rw [List.length_tail]
  omega
/-- a step adds at most one sign -/
theorem stp_len {s s' : rdS} (h : stp s c = some s') : s'.1.length + s'.2.1.length ≤ s.1.length + s.2.1.length + 1 := by
  obtain ⟨o, w, ne, dg, wa⟩ := s
  have h' : stq o w ne dg wa c = some s' := h
  show _ ≤ o.length + w.length + 1
  unfold stq at h'
  split at h'
  · split at h'
    · cases h'
      simp only [List.length_cons]
      omega
    · split at h'
      · cases h'
      · cases o with
        | nil => cases h'
        | cons a o' =>
          cases h'
          simp only [List.length_cons]
          omega
  · split at h'
    · split at h'
      · cases h'
        simp only [List.length_cons]
        omega
      · split at h'
        · split at h'
          · cases h'
          · cases h'
            simp only [List.length_cons]
            omega
        · cases ht : thg c with
          | none => rw [ht] at h'; cases h'
          | some i =>
            rw [ht] at h'
            cases h'
            simp only [List.length_cons]
            omega
    · split at h'
      · split at h'
        · cases h'
        · cases h'
          have h1 := rp_len (b := 1) (w := w) (o := o)
          have h2 := tl_len (l := rpW 1 w)
          show (rpO 1 o w).length + (rpW 1 w).tail.length ≤ _
          omega
      · cases ht : jn c with
        | none => rw [ht] at h'; cases h'
        | some j =>
          rw [ht] at h'
          dsimp only at h'
          split at h'
          · cases h'
          · cases h'
            have h1 := rp_len (b := max 2 (bnd j)) (w := w) (o := o)
            show (rpO (max 2 (bnd j)) o w).length + (rpW (max 2 (bnd j)) w).length.succ ≤ _
            omega
end RA
/-- k steps over a text -/
def arn (T : Nat → Nat) : rdS → Nat → Nat → Option rdS
  | s, _, 0 => some s
  | s, p, k + 1 => match stp s (T p) with
    | none => none
    | some s' => arn T s' (p + 1) k
theorem arn_s {T : Nat → Nat} {s s' : rdS} {p k : Nat} (h : stp s (T p) = some s') : arn T s p (k + 1) = arn T s' (p + 1) k := by
  rw [arn, h]
theorem arn_n {T : Nat → Nat} {s : rdS} {p k : Nat} (h : stp s (T p) = none) : arn T s p (k + 1) = none := by
  rw [arn, h]
theorem arn_add {T : Nat → Nat} : ∀ {k m p : Nat} {s s' : rdS}, arn T s p k = some s' → arn T s p (k + m) = arn T s' (p + k) m := by
  intro k
  induction k with
  | zero =>
    intro m p s s' h
    cases h
    rw [Nat.zero_add, Nat.add_zero]
  | succ k ih =>
    intro m p s s' h
    cases hs : stp s (T p) with
    | none => rw [arn_n hs] at h; cases h
    | some s1 =>
      rw [arn_s hs] at h
      rw [show k + 1 + m = (k + m) + 1 by omega, arn_s hs, ih h, show p + 1 + k = p + (k + 1) by omega]
/-- the reader goes from s at p to s' at p' -/
def rch (T : Nat → Nat) (s : rdS) (p : Nat) (s' : rdS) (p' : Nat) : Prop := ∃ k, p' = p + k ∧ arn T s p k = some s'
theorem rch_r {T : Nat → Nat} {s : rdS} {p : Nat} : rch T s p s p := ⟨0, rfl, rfl⟩
theorem rch_t {T : Nat → Nat} {s s1 s2 : rdS} {p p1 p2 : Nat} (h1 : rch T s p s1 p1) (h2 : rch T s1 p1 s2 p2) : rch T s p s2 p2 := by
  obtain ⟨k, rfl, e1⟩ := h1
  obtain ⟨m, rfl, e2⟩ := h2
  exact ⟨k + m, by omega, by rw [arn_add e1, e2]⟩
theorem rch_1 {T : Nat → Nat} {s s1 : rdS} {p : Nat} (h : stp s (T p) = some s1) : rch T s p s1 (p + 1) := ⟨1, rfl, by rw [arn_s h]; rfl⟩
theorem rch_le {T : Nat → Nat} {s s1 : rdS} {p p1 : Nat} (h : rch T s p s1 p1) : p ≤ p1 := by
  obtain ⟨k, rfl, _⟩ := h
  omega
theorem rch_len {T : Nat → Nat} {s s' : rdS} {p p' : Nat} (h : rch T s p s' p') : s'.1.length + s'.2.1.length + p ≤ s.1.length + s.2.1.length + p' := by
  obtain ⟨k, rfl, h⟩ := h
  induction k generalizing s p with
  | zero => cases h; exact Nat.le_refl _
  | succ k ih =>
    cases hs : stp s (T p) with
    | none => rw [arn_n hs] at h; cases h
    | some s1 =>
      rw [arn_s hs] at h
      have h1 := ih h
      have h2 := stp_len hs
      omega
/-- where the reader stops -/
def stO (T : Nat → Nat) (s0 : rdS) (to p : Nat) (s : rdS) : Prop := p ≤ to ∧ arn T s0 0 p = some s ∧ (p < to → stp s (T p) = none)
theorem stO_u {T : Nat → Nat} {s0 s s' : rdS} {to p p' : Nat} (h : stO T s0 to p s) (h' : stO T s0 to p' s') : p = p' ∧ s = s' := by
  have key : ∀ {p p' : Nat} {s s' : rdS}, stO T s0 to p s → stO T s0 to p' s' → ¬ p < p' := by
    intro p p' s s' h h' hl
    have h1 := h.2.2 (by have := h'.1; omega)
    have h2 := h'.2.1
    obtain ⟨m, rfl⟩ : ∃ m, p' = p + (m + 1) := ⟨p' - p - 1, by omega⟩
    rw [arn_add h.2.1, Nat.zero_add, arn_n h1] at h2
    cases h2
  have e : p = p' := by
    have h1 := key h h'
    have h2 := key h' h
    omega
  subst e
  refine ⟨rfl, ?_⟩
  have h1 := h.2.1
  rw [h'.2.1] at h1
  cases h1
  rfl
/-- what waits is of the joins; a number is small -/
def jok (j : Nat) : Prop := j = 0 ∨ j = 3000 ∨ (2000 ≤ j ∧ j ≤ 2006)
def vS (s : rdS) : Prop := (∀ j, j ∈ s.2.1 → jok j) ∧ (s.2.2.2.1 = 0 ∨ (∃ a o, s.1 = a :: o ∧ ((s.2.2.2.1 = 1 ∧ a < 10) ∨ (s.2.2.2.1 = 2 ∧ a < 100) ∨ s.2.2.2.1 = 3)))
theorem rpW_m {b : Nat} : ∀ {w : List Nat} {j : Nat}, j ∈ rpW b w → j ∈ w := by
  intro w
  induction w with
  | nil => intro j h; exact h
  | cons i w ih =>
    intro j h
    unfold rpW at h
    split at h
    · exact List.mem_cons_of_mem _ (ih h)
    · exact h
theorem vS_stp {s s' : rdS} {c : Nat} (hv : vS s) (h : stp s c = some s') : vS s' := by
  obtain ⟨o, w, ne, dg, wa⟩ := s
  obtain ⟨v1, v2⟩ := hv
  have h' : stq o w ne dg wa c = some s' := h
  unfold stq at h'
  split at h'
  · rename_i hd
    have hd := isD_iff.mp hd
    split at h'
    · cases h'
      exact ⟨v1, Or.inr ⟨_, _, rfl, Or.inl ⟨rfl, by omega⟩⟩⟩
    · split at h'
      · cases h'
      · rename_i hn
        cases o with
        | nil => cases h'
        | cons a o' =>
          cases h'
          refine ⟨v1, Or.inr ⟨_, _, rfl, ?_⟩⟩
          rcases v2 with v2 | ⟨a', o2, e, v2⟩
          · exact absurd (Or.inl v2) hn
          · cases e
            show (dg + 1 = 1 ∧ _) ∨ (dg + 1 = 2 ∧ a * 10 + (c - 48) < 100) ∨ dg + 1 = 3
            rcases v2 with ⟨y1, y2⟩ | ⟨y1, y2⟩ | y1
            · have y1 : dg = 1 := y1
              exact Or.inr (Or.inl ⟨by omega, by omega⟩)
            · have y1 : dg = 2 := y1
              exact Or.inr (Or.inr (by omega))
            · have y1 : dg = 3 := y1
              exact absurd (Or.inr (by omega)) hn
  · split at h'
    · split at h'
      · cases h'
        refine ⟨fun j hj => ?_, Or.inl rfl⟩
        rcases List.mem_cons.mp hj with e | hj
        · exact Or.inr (Or.inl e)
        · exact v1 j hj
      · split at h'
        · split at h'
          · cases h'
          · cases h'
            refine ⟨fun j hj => ?_, Or.inl rfl⟩
            rcases List.mem_cons.mp hj with e | hj
            · exact Or.inl e
            · exact v1 j hj
        · cases ht : thg c with
          | none => rw [ht] at h'; cases h'
          | some i =>
            rw [ht] at h'
            cases h'
            exact ⟨v1, Or.inl rfl⟩
    · split at h'
      · split at h'
        · cases h'
        · cases h'
          exact ⟨fun j hj => v1 j (rpW_m (List.mem_of_mem_tail hj)), Or.inl rfl⟩
      · cases ht : jn c with
        | none => rw [ht] at h'; cases h'
        | some j =>
          rw [ht] at h'
          dsimp only at h'
          split at h'
          · cases h'
          · cases h'
            refine ⟨fun i hi => ?_, Or.inl rfl⟩
            rcases List.mem_cons.mp hi with e | hi
            · have := jn_b ht
              rw [e]
              exact Or.inr (Or.inr ⟨this.2.2.1, this.2.2.2⟩)
            · exact v1 i (rpW_m hi)
/-- a row that holds a list, its last first -/
def stk {α : Type} (f e : Nat → α) : List Nat → Prop
  | [] => True
  | c :: L => f L.length = e c ∧ stk f e L
theorem stk_f {α : Type} {f f' e : Nat → α} : ∀ {L : List Nat}, (∀ q, q < L.length → f' q = f q) → stk f e L → stk f' e L := by
  intro L
  induction L with
  | nil => intro _ _; trivial
  | cons c L ih =>
    intro h hs
    exact ⟨(h L.length (by rw [List.length_cons]; omega)).trans hs.1, ih (fun q hq => h q (by rw [List.length_cons]; omega)) hs.2⟩
theorem stk_b {α : Type} {f e : Nat → α} {g : Nat → Nat} : ∀ {L : List Nat}, stk f e L → stk g (fun c => c) L → ∀ k, k < L.length → f k = e (g k) := by
  intro L
  induction L with
  | nil => intro _ _ k hk; exact absurd hk (Nat.not_lt_zero k)
  | cons c L ih =>
    intro h1 h2 k hk
    by_cases e1 : k = L.length
    · subst e1
      rw [h1.1, h2.1]
    · exact ih h1.2 h2.2 k (by rw [List.length_cons] at hk; omega)
/-- how high the pile stands behind a list of steps that can be reckoned -/
def hgt : List Nat → Option Nat
  | [] => some 0
  | c :: L => match hgt L with
    | none => none
    | some h => if c = 3000 then (if 1 ≤ h then some h else none) else if 2000 ≤ c ∧ c ≤ 2006 then (if 2 ≤ h then some (h - 1) else none) else if c ≤ 1006 then some (h + 1) else none
theorem hgt_m {L : List Nat} {h : Nat} (e : hgt L = some h) (h1 : 1 ≤ h) : hgt (3000 :: L) = some h := by
  rw [hgt, e]
  dsimp only
  rw [if_pos rfl, if_pos h1]
theorem hgt_j {L : List Nat} {h c : Nat} (e : hgt L = some h) (h1 : 2 ≤ h) (hc : 2000 ≤ c ∧ c ≤ 2006) : hgt (c :: L) = some (h - 1) := by
  rw [hgt, e]
  dsimp only
  rw [if_neg (by omega), if_pos hc, if_pos h1]
theorem hgt_t {L : List Nat} {h c : Nat} (e : hgt L = some h) (hc : c ≤ 1006) : hgt (c :: L) = some (h + 1) := by
  rw [hgt, e]
  dsimp only
  rw [if_neg (by omega), if_neg (by omega), if_pos hc]
theorem hgt_ok {g : Nat → Nat} : ∀ {L : List Nat} {h : Nat}, stk g (fun c => c) L → hgt L = some h → hg g L.length = h ∧ ∀ k, k < L.length → (g k = 3000 ∧ 1 ≤ hg g k) ∨ (2000 ≤ g k ∧ g k ≤ 2006 ∧ 2 ≤ hg g k) ∨ g k ≤ 1006 := by
  intro L
  induction L with
  | nil =>
    intro h _ e
    cases e
    exact ⟨rfl, fun k hk => absurd hk (Nat.not_lt_zero k)⟩
  | cons c L ih =>
    intro h hs e
    rw [hgt] at e
    cases he : hgt L with
    | none => rw [he] at e; cases e
    | some h0 =>
      rw [he] at e
      dsimp only at e
      obtain ⟨i1, i2⟩ := ih hs.2 he
      have hc : g L.length = c := hs.1
      have key : ∀ P : Prop, P → ((g L.length = 3000 ∧ 1 ≤ hg g L.length) ∨ (2000 ≤ g L.length ∧ g L.length ≤ 2006 ∧ 2 ≤ hg g L.length) ∨ g L.length ≤ 1006) → P ∧ ∀ k, k < (c :: L).length → (g k = 3000 ∧ 1 ≤ hg g k) ∨ (2000 ≤ g k ∧ g k ≤ 2006 ∧ 2 ≤ hg g k) ∨ g k ≤ 1006 := by
        intro P hP hl
        refine ⟨hP, fun k hk => ?_⟩
        by_cases e1 : k = L.length
        · subst e1
          exact hl
        · exact i2 k (by rw [List.length_cons] at hk; omega)
      rw [List.length_cons] at key ⊢
      rw [hg, hc, i1]
      rw [hc, i1] at key
      split at e
      · rename_i hc3
        split at e
        · rename_i h1
          cases e
          rw [if_pos hc3]
          exact key _ rfl (Or.inl ⟨hc3, h1⟩)
        · cases e
      · rename_i hc3
        rw [if_neg hc3]
        split at e
        · rename_i hc2
          split at e
          · rename_i h2
            cases e
            rw [if_pos hc2.1]
            exact key _ rfl (Or.inr (Or.inl ⟨hc2.1, hc2.2, h2⟩))
          · cases e
        · rename_i hc2
          split at e
          · rename_i hc1
            cases e
            rw [if_neg (by omega)]
            exact key _ rfl (Or.inr (Or.inr hc1))
          · cases e
