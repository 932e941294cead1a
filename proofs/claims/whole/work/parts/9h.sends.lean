/-! sends, stops: the walls looked for. From wip/whole/src. -/
/-- a row with walls more -/
def waS (S : Nat → Nat) (A : Nat → Bool) : Nat → Nat := fun q => if 36 ≤ q ∧ q < 72 ∧ A (q - 36) = true then 1 else S q
def adA (A : Nat → Bool) (g : Nat) : Nat → Bool := fun y => A y || decide (y = g)
def wcA (D : Nat → Nat) (N : Nat → Nat → Nat) (S : Nat → Nat) (A : Nat → Bool) : Nat × (Nat → Nat) × Bool := crs0 (D 0) (D 1) (dsl (D 1) N S) (fun g => wlS S g || A g) (S 108)
theorem wa_o {S : Nat → Nat} {A : Nat → Bool} {q : Nat} (h : q < 36 ∨ 72 ≤ q) : waS S A q = S q := by
  unfold waS
  rw [if_neg (by omega)]
theorem wa_w {S : Nat → Nat} {A : Nat → Bool} {g : Nat} (h : g < 36) : waS S A (36 + g) = if A g = true then 1 else S (36 + g) := by
  unfold waS
  have e : 36 + g - 36 = g := by omega
  by_cases z : A g = true
  · rw [if_pos ⟨by omega, by omega, by rw [e]; exact z⟩, if_pos z]
  · rw [if_neg (by rw [e]; exact fun y => z y.2.2), if_neg z]
theorem wa_crs {D : Nat → Nat} {N : Nat → Nat → Nat} {S : Nat → Nat} {A : Nat → Bool} (hd : dmO D) (hS : S 108 < D 1) : crsS D N (waS S A) = wcA D N S A := by
  have hF := dm_F hd
  unfold crsS wcA
  rw [wa_o (q := 108) (by omega)]
  refine crs0_congr (by have := hd.2.2.1; omega) (by omega) ?_ ?_
  · intro g hg
    unfold wlS
    rw [wa_w (by omega)]
    by_cases z : A g = true
    · rw [if_pos z, z]; simp
    · rw [if_neg z]
      have : A g = false := by simpa using z
      rw [this]; simp
  · intro g b hg hb
    unfold dsl asks
    rw [wa_o (q := g) (by omega), wa_o (q := 72 + g) (by omega), wa_o (q := 109) (by omega)]
theorem wa_O {C : Nat} {S : Nat → Nat} {A : Nat → Bool} (h : rwO C S) : rwO C (waS S A) := by
  refine ⟨fun g hg => ?_, ?_, ?_, ?_, fun q hq => ?_⟩
  · rw [wa_o (q := g) (by omega), wa_o (q := 72 + g) (by omega), wa_w hg]
    obtain ⟨a1, a2, a3⟩ := h.1 g hg
    refine ⟨a1, ?_, a3⟩
    split
    · exact Nat.le_refl _
    · exact a2
  · rw [wa_o (by omega)]; exact h.2.1
  · rw [wa_o (by omega)]; exact h.2.2.1
  · rw [wa_o (by omega)]; exact h.2.2.2.1
  · rw [wa_o (by omega)]; exact h.2.2.2.2 q hq
theorem wa_add {S : Nat → Nat} {A : Nat → Bool} {g : Nat} (hg : g < 36) : upn (waS S A) (36 + g) 1 = waS S (adA A g) := by
  funext q
  by_cases z : q = 36 + g
  · subst z
    rw [upn, if_pos rfl, wa_w hg, if_pos]
    simp [adA]
  · rw [upn, if_neg z]
    unfold waS adA
    by_cases y : 36 ≤ q ∧ q < 72
    · have e : ¬ q - 36 = g := by omega
      simp [y, e]
    · rw [if_neg (fun w => y ⟨w.1, w.2.1⟩), if_neg (fun w => y ⟨w.1, w.2.1⟩)]
theorem wa_del {S : Nat → Nat} {A : Nat → Bool} {g : Nat} (hg : g < 36) (hA : A g = false) (hS : S (36 + g) = 0) : upn (waS S (adA A g)) (36 + g) 0 = waS S A := by
  rw [← wa_add hg]
  funext q
  by_cases z : q = 36 + g
  · subst z
    rw [upn, if_pos rfl, wa_w hg, if_neg (by rw [hA]; decide), hS]
  · rw [upn, if_neg z, upn, if_neg z]
theorem wc_off {D : Nat → Nat} {N : Nat → Nat → Nat} {S : Nat → Nat} {A : Nat → Bool} {g : Nat} (h : onP (wcA D N S A).1 (wcA D N S A).2.1 g = false) : wcA D N S (adA A g) = wcA D N S A := by
  unfold wcA at h ⊢
  refine crs0_wall (g := g) ?_ h
  intro y
  show (wlS S y || (A y || decide (y = g))) = ((wlS S y || A y) || decide (y = g))
  rw [Bool.or_assoc]
/-- n walls more, from the last j fields, the first set in turn by which it comes to m -/
def bse (D : Nat → Nat) (N : Nat → Nat → Nat) (S : Nat → Nat) (m : Int32) (A : Nat → Bool) : Option (List Nat) := if mth (D 1) (wcA D N S A) = m then some [] else none
def fnd (D : Nat → Nat) (N : Nat → Nat → Nat) (S : Nat → Nat) (m : Int32) : Nat → Nat → (Nat → Bool) → Option (List Nat)
  | 0 => fun n A => if n = 0 then bse D N S m A else none
  | j + 1 => fun n A => if n = 0 then bse D N S m A else if S (36 + (D 0 * D 1 - (j + 1))) = 1 ∨ D 0 * D 1 - (j + 1) = S 108 then fnd D N S m j n A else (match fnd D N S m j (n - 1) (adA A (D 0 * D 1 - (j + 1))) with
    | some l => some ((D 0 * D 1 - (j + 1)) :: l)
    | none => fnd D N S m j n A)
section W0
variable {D : Nat → Nat} {N : Nat → Nat → Nat} {S : Nat → Nat} {m : Int32} {A : Nat → Bool} {j n : Nat} {l : List Nat}
theorem fnd_0 : fnd D N S m j 0 A = bse D N S m A := by
  cases j with
  | zero => rfl
  | succ j => rfl
theorem fnd_e : fnd D N S m 0 (n + 1) A = none := rfl
theorem fnd_k (h : S (36 + (D 0 * D 1 - (j + 1))) = 1 ∨ D 0 * D 1 - (j + 1) = S 108) : fnd D N S m (j + 1) (n + 1) A = fnd D N S m j (n + 1) A := by
  rw [fnd]
  dsimp only
  rw [if_neg (by omega), if_pos h]
theorem fnd_s (h : ¬ (S (36 + (D 0 * D 1 - (j + 1))) = 1 ∨ D 0 * D 1 - (j + 1) = S 108)) (h2 : fnd D N S m j n (adA A (D 0 * D 1 - (j + 1))) = some l) : fnd D N S m (j + 1) (n + 1) A = some ((D 0 * D 1 - (j + 1)) :: l) := by
  rw [fnd]
  dsimp only
  rw [if_neg (by omega), if_neg h, Nat.add_sub_cancel, h2]
theorem fnd_n (h : ¬ (S (36 + (D 0 * D 1 - (j + 1))) = 1 ∨ D 0 * D 1 - (j + 1) = S 108)) (h2 : fnd D N S m j n (adA A (D 0 * D 1 - (j + 1))) = none) : fnd D N S m (j + 1) (n + 1) A = fnd D N S m j (n + 1) A := by
  rw [fnd]
  dsimp only
  rw [if_neg (by omega), if_neg h, Nat.add_sub_cancel, h2]
end W0
theorem fnd_ok {D : Nat → Nat} {N : Nat → Nat → Nat} {S : Nat → Nat} {m : Int32} : ∀ (j n : Nat) (A : Nat → Bool) (l : List Nat), j ≤ D 0 * D 1 → fnd D N S m j n A = some l → l.length = n ∧ (∀ y, y ∈ l → D 0 * D 1 - j ≤ y ∧ y < D 0 * D 1) ∧ (List.range' (D 0 * D 1 - j) j).filter (fun y => l.contains y) = l := by
  intro j
  induction j with
  | zero =>
    intro n A l _ h
    cases n with
    | zero =>
      rw [fnd_0] at h
      unfold bse at h
      split at h
      · cases h
        exact ⟨rfl, fun y hy => (List.not_mem_nil hy).elim, rfl⟩
      · cases h
    | succ n => cases h
  | succ j ih =>
    intro n A l hj h
    have e0 : D 0 * D 1 - j = D 0 * D 1 - (j + 1) + 1 := by omega
    have er : List.range' (D 0 * D 1 - (j + 1)) (j + 1) = (D 0 * D 1 - (j + 1)) :: List.range' (D 0 * D 1 - j) j := by
      rw [e0]
      rfl
    have hskip : ∀ l, fnd D N S m j n A = some l → l.length = n ∧ (∀ y, y ∈ l → D 0 * D 1 - (j + 1) ≤ y ∧ y < D 0 * D 1) ∧ (List.range' (D 0 * D 1 - (j + 1)) (j + 1)).filter (fun y => l.contains y) = l := by
      intro l h
      obtain ⟨i1, i2, i3⟩ := ih n A l (by omega) h
      refine ⟨i1, fun y hy => ⟨by have := (i2 y hy).1; omega, (i2 y hy).2⟩, ?_⟩
      have hc : l.contains (D 0 * D 1 - (j + 1)) = false := by
        cases hq : l.contains (D 0 * D 1 - (j + 1)) with
        | false => rfl
        | true =>
          have := (i2 _ (List.contains_iff_mem.mp hq)).1
          omega
      rw [er, List.filter_cons_of_neg (by rw [hc]; decide)]
      exact i3
    cases n with
    | zero =>
      rw [fnd_0] at h
      unfold bse at h
      split at h
      · cases h
        refine ⟨rfl, fun y hy => (List.not_mem_nil hy).elim, ?_⟩
        apply List.filter_eq_nil_iff.mpr
        intro a _
        simp
      · cases h
    | succ n =>
      by_cases hk : S (36 + (D 0 * D 1 - (j + 1))) = 1 ∨ D 0 * D 1 - (j + 1) = S 108
      · rw [fnd_k hk] at h
        exact hskip l h
      · cases hq : fnd D N S m j n (adA A (D 0 * D 1 - (j + 1))) with
        | none =>
          rw [fnd_n hk hq] at h
          exact hskip l h
        | some l' =>
          rw [fnd_s hk hq] at h
          cases h
          obtain ⟨i1, i2, i3⟩ := ih n _ l' (by omega) hq
          refine ⟨by rw [List.length_cons, i1], ?_, ?_⟩
          · intro y hy
            rcases List.mem_cons.mp hy with rfl | hy
            · omega
            · have := i2 y hy
              omega
          · rw [er, List.filter_cons_of_pos (by simp)]
            congr 1
            refine (List.filter_congr (fun y hy => ?_)).trans i3
            have hy2 := List.mem_range'_1.mp hy
            have : ¬ y = D 0 * D 1 - (j + 1) := by omega
            simp [this]
