/-! arms: sets of dams. From wip/whole/src. -/
def cntT (T : Nat → Bool) (n : Nat) : Nat := sumR (fun g => b2n (T g = true)) n
def valT (T : Nat → Bool) (n : Nat) : Nat := sumR (fun g => b2n (T g = true) * 2 ^ g) n
theorem ct_add {T : Nat → Bool} {F g : Nat} (hg : g < F) (hT : T g = false) : cntT (adA T g) F = cntT T F + 1 ∧ valT (adA T g) F = valT T F + 2 ^ g := by
  have b0 : b2n (T g = true) = 0 := b2n_f (by rw [hT]; decide)
  constructor
  · have h := sumR_up (g := fun y => b2n (T y = true)) (f := g) (v := 1) F hg
    have e : upn (fun y => b2n (T y = true)) g 1 = fun y => b2n (adA T g y = true) := by
      funext y
      unfold upn adA
      by_cases z : y = g
      · rw [if_pos z, b2n_t (by simp [z])]
      · rw [if_neg z]
        simp [z]
    rw [e, b0, Nat.add_zero] at h
    exact h
  · have h := sumR_up (g := fun y => b2n (T y = true) * 2 ^ y) (f := g) (v := 2 ^ g) F hg
    have e : upn (fun y => b2n (T y = true) * 2 ^ y) g (2 ^ g) = fun y => b2n (adA T g y = true) * 2 ^ y := by
      funext y
      unfold upn adA
      by_cases z : y = g
      · rw [if_pos z, b2n_t (by simp [z]), Nat.one_mul, z]
      · rw [if_neg z]
        simp [z]
    rw [e, b0, Nat.zero_mul, Nat.add_zero] at h
    exact h
theorem ct_del {T : Nat → Bool} {g : Nat} (hT : T g = true) : adA (fun y => T y && !decide (y = g)) g = T := by
  funext y
  unfold adA
  by_cases z : y = g
  · subst z; simp [hT]
  · simp [z]
theorem ct_0 {T : Nat → Bool} {F : Nat} (h : ∀ g, g < F → T g = false) : cntT T F = 0 ∧ valT T F = 0 := by
  constructor
  · exact sm_0 F (fun q hq => b2n_f (by rw [h q hq]; decide))
  · exact sm_0 F (fun q hq => by rw [b2n_f (by rw [h q hq]; decide), Nat.zero_mul])
theorem ct_z {T : Nat → Bool} : ∀ F, cntT T F = 0 → ∀ g, g < F → T g = false := by
  intro F
  induction F with
  | zero => intro _ g hg; omega
  | succ F ih =>
    intro h g hg
    have h' : cntT T F + b2n (T F = true) = 0 := h
    by_cases e : g = F
    · subst e
      cases hq : T g with
      | false => rfl
      | true =>
        rw [b2n_t hq] at h'
        omega
    · exact ih (by omega) g (by omega)
theorem ct_le {T U : Nat → Bool} (h : ∀ g, T g = true → U g = true) : ∀ F, cntT T F ≤ cntT U F := by
  intro F
  induction F with
  | zero => exact Nat.le_refl _
  | succ F ih =>
    show cntT T F + b2n (T F = true) ≤ cntT U F + b2n (U F = true)
    by_cases z : T F = true
    · rw [b2n_t z, b2n_t (h F z)]; omega
    · rw [b2n_f z]; omega
theorem vt_lt {T : Nat → Bool} : ∀ F, valT T F < 2 ^ F := by
  intro F
  induction F with
  | zero => show 0 < 1; decide
  | succ F ih =>
    show valT T F + b2n (T F = true) * 2 ^ F < 2 ^ (F + 1)
    have := b2n_le (T F = true)
    rw [Nat.pow_succ]
    by_cases z : T F = true
    · rw [b2n_t z]; omega
    · rw [b2n_f z]; omega
theorem vt_bit {T : Nat → Bool} : ∀ F g, (valT T F).testBit g = (decide (g < F) && T g) := by
  intro F
  induction F with
  | zero =>
    intro g
    show (0 : Nat).testBit g = _
    rw [Nat.zero_testBit]
    simp
  | succ F ih =>
    intro g
    show (valT T F + b2n (T F = true) * 2 ^ F).testBit g = _
    have hlt := vt_lt (T := T) F
    by_cases z : T F = true
    · rw [b2n_t z, Nat.one_mul, Nat.add_comm]
      by_cases e : g = F
      · subst e
        rw [Nat.testBit_two_pow_add_eq, ih]
        simp [z]
      · by_cases l : g < F
        · rw [Nat.testBit_two_pow_add_gt l, ih]
          have : g < F + 1 := by omega
          simp [l, this]
        · have hge : ¬ g < F + 1 := by omega
          rw [Nat.testBit_lt_two_pow (Nat.lt_of_lt_of_le (show 2 ^ F + valT T F < 2 ^ (F + 1) by rw [Nat.pow_succ]; omega) (Nat.pow_le_pow_right (by decide) (by omega)))]
          simp [hge]
    · rw [b2n_f z, Nat.zero_mul, Nat.add_zero, ih]
      by_cases e : g = F
      · subst e
        have : T g = false := by simpa using z
        simp [this]
      · by_cases l : g < F
        · have : g < F + 1 := by omega
          simp [l, this]
        · have : ¬ g < F + 1 := by omega
          simp [l, this]
/-- n dams below v more than A, in the order of their numbers -/
def dmL (s : Nat) : Nat → Nat → Nat → List Nat
  | 0 => fun n A => if n = 0 then [A] else []
  | v + 1 => fun n A => if n = 0 then [A] else dmL s v n A ++ (if v = s then [] else dmL s v (n - 1) (A + 2 ^ v))
/-- n dams from the last j fields more than A, in the reference's order -/
def tkL (F : Nat) (fr : Nat → Bool) : Nat → Nat → Nat → List Nat
  | 0 => fun n A => if n = 0 then [A] else []
  | j + 1 => fun n A => if n = 0 then [A] else (if fr (F - (j + 1)) = true then tkL F fr j (n - 1) (A + 2 ^ (F - (j + 1))) else []) ++ tkL F fr j n A
theorem dm_0 {s v A : Nat} : dmL s v 0 A = [A] := by cases v <;> rfl
theorem dm_s {s v n A : Nat} : dmL s (v + 1) (n + 1) A = dmL s v (n + 1) A ++ (if v = s then [] else dmL s v n (A + 2 ^ v)) := rfl
theorem tk_0 {F j A : Nat} {fr : Nat → Bool} : tkL F fr j 0 A = [A] := by cases j <;> rfl
theorem tk_s {F j n A : Nat} {fr : Nat → Bool} : tkL F fr (j + 1) (n + 1) A = (if fr (F - (j + 1)) = true then tkL F fr j n (A + 2 ^ (F - (j + 1))) else []) ++ tkL F fr j (n + 1) A := rfl
theorem dm_small {s : Nat} : ∀ v n A, v < n → dmL s v n A = [] := by
  intro v
  induction v with
  | zero => intro n A h; show (if n = 0 then [A] else []) = []; rw [if_neg (by omega)]
  | succ v ih =>
    intro n A h
    cases n with
    | zero => omega
    | succ n =>
      rw [dm_s, ih (n + 1) A (by omega), ih n _ (by omega)]
      simp
theorem dm_mem {s F : Nat} : ∀ v n A m, v ≤ F → (m ∈ dmL s v n A ↔ ∃ T : Nat → Bool, (∀ g, T g = true → g < v ∧ g ≠ s) ∧ cntT T F = n ∧ m = A + valT T F) := by
  intro v
  induction v with
  | zero =>
    intro n A m _
    constructor
    · intro h
      cases n with
      | zero =>
        rw [dm_0] at h
        have := List.mem_singleton.mp h
        obtain ⟨c1, c2⟩ := ct_0 (T := fun _ => false) (F := F) (fun _ _ => rfl)
        exact ⟨fun _ => false, (fun g hg => by cases hg), c1, by rw [c2]; exact this⟩
      | succ n => exact absurd h (List.not_mem_nil)
    · rintro ⟨T, h1, h2, h3⟩
      obtain ⟨c1, c2⟩ := ct_0 (T := T) (F := F) (fun g _ => by
        cases hq : T g with
        | false => rfl
        | true => have := (h1 g hq).1; omega)
      rw [c1] at h2
      rw [c2] at h3
      subst h2
      rw [dm_0]
      exact List.mem_singleton.mpr h3
  | succ v ih =>
    intro n A m hv
    cases n with
    | zero =>
      rw [dm_0]
      constructor
      · intro h
        have := List.mem_singleton.mp h
        obtain ⟨c1, c2⟩ := ct_0 (T := fun _ => false) (F := F) (fun _ _ => rfl)
        exact ⟨fun _ => false, (fun g hg => by cases hg), c1, by rw [c2]; exact this⟩
      · rintro ⟨T, h1, h2, h3⟩
        obtain ⟨c1, c2⟩ := ct_0 (ct_z F h2)
        rw [c2] at h3
        exact List.mem_singleton.mpr h3
    | succ n =>
      rw [dm_s, List.mem_append]
      constructor
      · rintro (h | h)
        · obtain ⟨T, h1, h2, h3⟩ := (ih (n + 1) A m (by omega)).mp h
          exact ⟨T, fun g hg => ⟨by have := (h1 g hg).1; omega, (h1 g hg).2⟩, h2, h3⟩
        · by_cases e : v = s
          · rw [if_pos e] at h; exact absurd h List.not_mem_nil
          · rw [if_neg e] at h
            obtain ⟨T, h1, h2, h3⟩ := (ih n _ m (by omega)).mp h
            have hTv : T v = false := by
              cases hq : T v with
              | false => rfl
              | true => have := (h1 v hq).1; omega
            obtain ⟨c1, c2⟩ := ct_add (F := F) (show v < F by omega) hTv
            refine ⟨adA T v, fun g hg => ?_, by rw [c1, h2], by rw [c2, h3]; omega⟩
            unfold adA at hg
            rcases Bool.or_eq_true _ _ |>.mp hg with hg | hg
            · exact ⟨by have := (h1 g hg).1; omega, (h1 g hg).2⟩
            · have := of_decide_eq_true hg
              exact ⟨by omega, by omega⟩
      · rintro ⟨T, h1, h2, h3⟩
        cases hq : T v with
        | false =>
          refine Or.inl ((ih (n + 1) A m (by omega)).mpr ⟨T, fun g hg => ⟨?_, (h1 g hg).2⟩, h2, h3⟩)
          have := (h1 g hg).1
          by_cases e : g = v
          · rw [e, hq] at hg; cases hg
          · omega
        | true =>
          have hvs := (h1 v hq).2
          rw [if_neg hvs]
          refine Or.inr ((ih n _ m (by omega)).mpr ⟨fun y => T y && !decide (y = v), fun g hg => ?_, ?_, ?_⟩)
          · have hg' := Bool.and_eq_true _ _ |>.mp hg
            have := h1 g hg'.1
            have hne : g ≠ v := by simpa using hg'.2
            exact ⟨by omega, this.2⟩
          · obtain ⟨c1, _⟩ := ct_add (T := fun y => T y && !decide (y = v)) (F := F) (show v < F by omega) (by simp)
            rw [ct_del hq, h2] at c1
            omega
          · obtain ⟨_, c2⟩ := ct_add (T := fun y => T y && !decide (y = v)) (F := F) (show v < F by omega) (by simp)
            rw [ct_del hq] at c2
            omega
theorem tk_mem {F : Nat} {fr : Nat → Bool} : ∀ j n A m, j ≤ F → (m ∈ tkL F fr j n A ↔ ∃ T : Nat → Bool, (∀ g, T g = true → F - j ≤ g ∧ g < F ∧ fr g = true) ∧ cntT T F = n ∧ m = A + valT T F) := by
  intro j
  induction j with
  | zero =>
    intro n A m _
    constructor
    · intro h
      cases n with
      | zero =>
        rw [tk_0] at h
        have := List.mem_singleton.mp h
        obtain ⟨c1, c2⟩ := ct_0 (T := fun _ => false) (F := F) (fun _ _ => rfl)
        exact ⟨fun _ => false, (fun g hg => by cases hg), c1, by rw [c2]; exact this⟩
      | succ n => exact absurd h (List.not_mem_nil)
    · rintro ⟨T, h1, h2, h3⟩
      obtain ⟨c1, c2⟩ := ct_0 (T := T) (F := F) (fun g _ => by
        cases hq : T g with
        | false => rfl
        | true => have := h1 g hq; omega)
      rw [c1] at h2
      rw [c2] at h3
      subst h2
      rw [tk_0]
      exact List.mem_singleton.mpr h3
  | succ j ih =>
    intro n A m hj
    cases n with
    | zero =>
      rw [tk_0]
      constructor
      · intro h
        have := List.mem_singleton.mp h
        obtain ⟨c1, c2⟩ := ct_0 (T := fun _ => false) (F := F) (fun _ _ => rfl)
        exact ⟨fun _ => false, (fun g hg => by cases hg), c1, by rw [c2]; exact this⟩
      · rintro ⟨T, h1, h2, h3⟩
        obtain ⟨c1, c2⟩ := ct_0 (ct_z F h2)
        rw [c2] at h3
        exact List.mem_singleton.mpr h3
    | succ n =>
      have hgF : F - (j + 1) < F := by omega
      rw [tk_s, List.mem_append]
      constructor
      · rintro (h | h)
        · by_cases e : fr (F - (j + 1)) = true
          · rw [if_pos e] at h
            obtain ⟨T, h1, h2, h3⟩ := (ih n _ m (by omega)).mp h
            have hTv : T (F - (j + 1)) = false := by
              cases hq : T (F - (j + 1)) with
              | false => rfl
              | true => have := (h1 _ hq).1; omega
            obtain ⟨c1, c2⟩ := ct_add (F := F) hgF hTv
            refine ⟨adA T (F - (j + 1)), fun g hg => ?_, by rw [c1, h2], by rw [c2, h3]; omega⟩
            unfold adA at hg
            rcases Bool.or_eq_true _ _ |>.mp hg with hg | hg
            · have := h1 g hg
              exact ⟨by omega, this.2⟩
            · have := of_decide_eq_true hg
              rw [this]
              exact ⟨Nat.le_refl _, hgF, e⟩
          · rw [if_neg e] at h; exact absurd h List.not_mem_nil
        · obtain ⟨T, h1, h2, h3⟩ := (ih (n + 1) A m (by omega)).mp h
          exact ⟨T, fun g hg => ⟨by have := (h1 g hg).1; omega, (h1 g hg).2⟩, h2, h3⟩
      · rintro ⟨T, h1, h2, h3⟩
        cases hq : T (F - (j + 1)) with
        | false =>
          refine Or.inr ((ih (n + 1) A m (by omega)).mpr ⟨T, fun g hg => ⟨?_, (h1 g hg).2⟩, h2, h3⟩)
          have := (h1 g hg).1
          by_cases e : g = F - (j + 1)
          · rw [e, hq] at hg; cases hg
          · omega
        | true =>
          rw [if_pos (h1 _ hq).2.2]
          refine Or.inl ((ih n _ m (by omega)).mpr ⟨fun y => T y && !decide (y = F - (j + 1)), fun g hg => ?_, ?_, ?_⟩)
          · have hg' := Bool.and_eq_true _ _ |>.mp hg
            have := h1 g hg'.1
            have hne : g ≠ F - (j + 1) := by simpa using hg'.2
            exact ⟨by omega, this.2⟩
          · obtain ⟨c1, _⟩ := ct_add (T := fun y => T y && !decide (y = F - (j + 1))) (F := F) hgF (by simp)
            rw [ct_del hq, h2] at c1
            omega
          · obtain ⟨_, c2⟩ := ct_add (T := fun y => T y && !decide (y = F - (j + 1))) (F := F) hgF (by simp)
            rw [ct_del hq] at c2
            omega
theorem dm_bd {s : Nat} : ∀ v n A m, m ∈ dmL s v n A → A ≤ m ∧ m < A + 2 ^ v := by
  intro v n A m h
  obtain ⟨T, h1, h2, h3⟩ := (dm_mem (F := v) v n A m (Nat.le_refl _)).mp h
  have := vt_lt (T := T) v
  omega
theorem dm_asc {s : Nat} : ∀ v n A, (dmL s v n A).Pairwise (· < ·) := by
  intro v
  induction v with
  | zero =>
    intro n A
    show (if n = 0 then [A] else []).Pairwise (· < ·)
    split
    · exact List.pairwise_singleton _ _
    · exact List.Pairwise.nil
  | succ v ih =>
    intro n A
    cases n with
    | zero => rw [dm_0]; exact List.pairwise_singleton _ _
    | succ n =>
      rw [dm_s]
      split
      · rw [List.append_nil]; exact ih _ _
      · rw [List.pairwise_append]
        refine ⟨ih _ _, ih _ _, fun a ha b hb => ?_⟩
        have h1 := dm_bd v _ _ a ha
        have h2 := dm_bd v _ _ b hb
        omega
theorem find_least {p : Nat → Bool} : ∀ {L : List Nat}, L.Pairwise (· < ·) → ∀ {m : Nat}, L.find? p = some m → m ∈ L ∧ p m = true ∧ ∀ y, y ∈ L → p y = true → m ≤ y := by
  intro L
  induction L with
  | nil => intro _ m h; cases h
  | cons a L ih =>
    intro hP m h
    obtain ⟨h1, h2⟩ := List.pairwise_cons.mp hP
    rw [List.find?_cons] at h
    cases hq : p a with
    | true =>
      rw [hq] at h
      cases h
      refine ⟨List.mem_cons_self, hq, fun y hy _ => ?_⟩
      rcases List.mem_cons.mp hy with rfl | hy
      · exact Nat.le_refl _
      · exact Nat.le_of_lt (h1 y hy)
    | false =>
      rw [hq] at h
      obtain ⟨i1, i2, i3⟩ := ih h2 h
      refine ⟨List.mem_cons_of_mem _ i1, i2, fun y hy hpy => ?_⟩
      rcases List.mem_cons.mp hy with rfl | hy
      · rw [hq] at hpy; cases hpy
      · exact i3 y hy hpy
/-- the least so far -/
def amU (p : Nat → Bool) (o : Option Nat) (m : Nat) : Option Nat := if p m = true then (match o with
    | none => some m
    | some b => if m < b then some m else some b) else o
theorem fold_least {p : Nat → Bool} : ∀ (L : List Nat) (o : Option Nat), (L.foldl (amU p) o = none → o = none ∧ ∀ y, y ∈ L → p y = false) ∧ (∀ b, L.foldl (amU p) o = some b → (o = some b ∨ (b ∈ L ∧ p b = true)) ∧ (∀ y, y ∈ L → p y = true → b ≤ y) ∧ ∀ c, o = some c → b ≤ c) := by
  intro L
  induction L with
  | nil =>
    intro o
    refine ⟨fun h => ⟨h, fun y hy => absurd hy List.not_mem_nil⟩, fun b h => ⟨Or.inl h, fun y hy => absurd hy List.not_mem_nil, fun c hc => ?_⟩⟩
    have h' : o = some b := h
    rw [h'] at hc
    cases hc
    exact Nat.le_refl _
  | cons a L ih =>
    intro o
    rw [List.foldl_cons]
    obtain ⟨i1, i2⟩ := ih (amU p o a)
    constructor
    · intro h
      obtain ⟨h1, h2⟩ := i1 h
      cases hq : p a with
      | true =>
        exfalso
        unfold amU at h1
        rw [if_pos hq] at h1
        cases o with
        | none => cases h1
        | some c =>
          dsimp only at h1
          split at h1 <;> cases h1
      | false =>
        unfold amU at h1
        rw [if_neg (by rw [hq]; decide)] at h1
        refine ⟨h1, fun y hy => ?_⟩
        rcases List.mem_cons.mp hy with rfl | hy
        · exact hq
        · exact h2 y hy
    · intro b h
      obtain ⟨h1, h2, h3⟩ := i2 b h
      cases hq : p a with
      | false =>
        have e : amU p o a = o := if_neg (by rw [hq]; decide)
        rw [e] at h1 h3
        refine ⟨?_, fun y hy hpy => ?_, h3⟩
        · rcases h1 with h1 | h1
          · exact Or.inl h1
          · exact Or.inr ⟨List.mem_cons_of_mem _ h1.1, h1.2⟩
        · rcases List.mem_cons.mp hy with rfl | hy
          · rw [hq] at hpy; cases hpy
          · exact h2 y hy hpy
      | true =>
        have ha : ∃ c, amU p o a = some c ∧ c ≤ a ∧ (c = a ∨ o = some c) ∧ ∀ c', o = some c' → c ≤ c' := by
          unfold amU
          rw [if_pos hq]
          cases o with
          | none => exact ⟨a, rfl, Nat.le_refl _, Or.inl rfl, fun c' hc' => by cases hc'⟩
          | some c0 =>
            dsimp only
            by_cases z : a < c0
            · rw [if_pos z]
              exact ⟨a, rfl, Nat.le_refl _, Or.inl rfl, (fun c' hc' => by cases hc'; omega)⟩
            · rw [if_neg z]
              exact ⟨c0, rfl, by omega, Or.inr rfl, fun c' hc' => by cases hc'; exact Nat.le_refl _⟩
        obtain ⟨c, c1, c2, c3, c4⟩ := ha
        have hbc := h3 c c1
        refine ⟨?_, fun y hy hpy => ?_, fun c' hc' => Nat.le_trans hbc (c4 c' hc')⟩
        · rcases h1 with h1 | h1
          · rw [c1] at h1
            cases h1
            rcases c3 with c3 | c3
            · exact Or.inr ⟨by rw [c3]; exact List.mem_cons_self, by rw [c3]; exact hq⟩
            · exact Or.inl c3
          · exact Or.inr ⟨List.mem_cons_of_mem _ h1.1, h1.2⟩
        · rcases List.mem_cons.mp hy with rfl | hy
          · omega
          · exact h2 y hy hpy
