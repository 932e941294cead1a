/-! Floods. From wip/whole/src. -/
theorem besW_iff {R C : Nat} {o : Nat → Bool} {f : Nat} : ∀ n, besW R C o f n = true ↔ ∃ w y, w < n ∧ bsd R C f w = some y ∧ o y = true := by
  intro n
  induction n with
  | zero =>
    constructor
    · intro h; cases h
    · rintro ⟨w, y, h, _⟩; omega
  | succ n ih =>
    rw [besW]
    constructor
    · intro h
      rcases Bool.or_eq_true _ _ |>.mp h with h | h
      · obtain ⟨w, y, h1, h2⟩ := ih.mp h
        exact ⟨w, y, by omega, h2⟩
      · cases hb : bsd R C f n with
        | none => rw [hb] at h; cases h
        | some y =>
          rw [hb] at h
          exact ⟨n, y, by omega, hb, h⟩
    · rintro ⟨w, y, h1, h2, h3⟩
      by_cases e : w = n
      · subst e
        rw [h2]
        simp [h3]
      · rw [ih.mpr ⟨w, y, by omega, h2, h3⟩]
        rfl
theorem bsd_sym {R C f w g : Nat} (hC : 2 ≤ C) (hw : w < 4) (hf : f < R * C) (h : bsd R C f w = some g) : ∃ v, v < 4 ∧ bsd R C g v = some f := by
  have hc : w = 0 ∨ w = 1 ∨ w = 2 ∨ w = 3 := by omega
  have hm : f % C < C := Nat.mod_lt _ (by omega)
  rcases hc with rfl | rfl | rfl | rfl
  · have h' : (if f / C + 1 < R then some (f + C) else none) = some g := h
    split at h'
    · cases h'
      refine ⟨3, by decide, ?_⟩
      show (if 0 < (f + C) / C then some (f + C - C) else none) = some f
      rw [Nat.add_div_right f (by omega), if_pos (Nat.succ_pos _), Nat.add_sub_cancel]
    · cases h'
  · have h' : (if 0 < f % C then some (f - 1) else none) = some g := h
    split at h'
    · rename_i hp0
      cases h'
      obtain ⟨j, rfl⟩ : ∃ j, f = j + 1 := by
        cases f with
        | zero => rw [Nat.zero_mod] at hp0; omega
        | succ j => exact ⟨j, rfl⟩
      refine ⟨2, by decide, ?_⟩
      have h1 : ¬ j % C + 1 = C := fun z => by have := (md_1 hC).mpr z; omega
      have h2 : j % C < C := Nat.mod_lt _ (by omega)
      show (if (j + 1 - 1) % C + 1 < C then some (j + 1 - 1 + 1) else none) = some (j + 1)
      rw [Nat.add_sub_cancel, if_pos (by omega)]
    · cases h'
  · have h' : (if f % C + 1 < C then some (f + 1) else none) = some g := h
    split at h'
    · cases h'
      refine ⟨1, by decide, ?_⟩
      have h1 : ¬ (f + 1) % C = 0 := fun z => by have := (md_1 hC).mp z; omega
      show (if 0 < (f + 1) % C then some (f + 1 - 1) else none) = some f
      rw [if_pos (by omega), Nat.add_sub_cancel]
    · cases h'
  · have h' : (if 0 < f / C then some (f - C) else none) = some g := h
    split at h'
    · rename_i hp0
      cases h'
      refine ⟨0, by decide, ?_⟩
      have hge : C ≤ f := (Nat.div_pos_iff.mp hp0).2
      show (if (f - C) / C + 1 < R then some (f - C + C) else none) = some f
      have e : (f - C) / C + 1 = f / C := by
        have := Nat.add_div_right (f - C) (show 0 < C by omega)
        rw [Nat.sub_add_cancel hge] at this
        exact this.symm
      rw [e, if_pos (dv_lt hf), Nat.sub_add_cancel hge]
    · cases h'
/-- from A over O, k steps -/
def fl (R C : Nat) (O A : Nat → Bool) : Nat → Nat → Bool
  | 0 => fun g => A g && O g
  | k + 1 => fun g => fl R C O A k g || (O g && besW R C (fl R C O A k) g 4)
section FL
variable {R C : Nat} {O A : Nat → Bool}
theorem fl_s {k g : Nat} : fl R C O A (k + 1) g = (fl R C O A k g || (O g && besW R C (fl R C O A k) g 4)) := rfl
theorem fl_up {g : Nat} : ∀ k j, fl R C O A k g = true → fl R C O A (k + j) g = true
  | _, 0, h => h
  | k, j + 1, h => by
    rw [← Nat.add_assoc, fl_s, fl_up k j h]
    rfl
theorem fl_open {g : Nat} : ∀ k, fl R C O A k g = true → O g = true
  | 0, h => (Bool.and_eq_true _ _ |>.mp h).2
  | k + 1, h => by
    rw [fl_s] at h
    rcases Bool.or_eq_true _ _ |>.mp h with h | h
    · exact fl_open k h
    · exact (Bool.and_eq_true _ _ |>.mp h).1
/-- reached first in k steps -/
def flF (R C : Nat) (O A : Nat → Bool) (k g : Nat) : Prop := fl R C O A k g = true ∧ ∀ i, i < k → fl R C O A i g = false
theorem fl_first {g : Nat} : ∀ k, fl R C O A k g = true → ∃ i, i ≤ k ∧ flF R C O A i g
  | 0, h => ⟨0, Nat.le_refl _, h, fun i hi => absurd hi (Nat.not_lt_zero i)⟩
  | k + 1, h => by
    cases hq : fl R C O A k g with
    | true =>
      obtain ⟨i, h1, h2⟩ := fl_first k hq
      exact ⟨i, by omega, h2⟩
    | false =>
      refine ⟨k + 1, Nat.le_refl _, h, ?_⟩
      intro i hi
      cases hi2 : fl R C O A i g with
      | false => rfl
      | true =>
        have := fl_up i (k - i) hi2
        rw [show i + (k - i) = k by omega, hq] at this
        cases this
theorem fl_step {k g y w : Nat} (hO : O g = true) (hw : w < 4) (hb : bsd R C g w = some y) (hy : fl R C O A k y = true) : fl R C O A (k + 1) g = true := by
  rw [fl_s, hO, (besW_iff 4).mpr ⟨w, y, hw, hb, hy⟩]
  simp
theorem fl_pred {k g : Nat} (h : flF R C O A (k + 1) g) : ∃ w y, w < 4 ∧ bsd R C g w = some y ∧ flF R C O A k y := by
  obtain ⟨h1, h2⟩ := h
  have hk := h2 k (by omega)
  rw [fl_s, hk, Bool.false_or, Bool.and_eq_true] at h1
  obtain ⟨w, y, hw, hb, hy⟩ := (besW_iff 4).mp h1.2
  refine ⟨w, y, hw, hb, hy, ?_⟩
  intro i hi
  cases hq : fl R C O A i y with
  | false => rfl
  | true =>
    have := fl_step h1.1 hw hb hq
    rw [h2 (i + 1) (by omega)] at this
    cases this
/-- a neighbour that is reached in k steps is reached first in k, where g is reached first in k + 1 -/
theorem fl_exact {k g y w : Nat} (h : flF R C O A (k + 1) g) (hw : w < 4) (hb : bsd R C g w = some y) (hy : fl R C O A k y = true) : flF R C O A k y := by
  refine ⟨hy, fun i hi => ?_⟩
  cases hq : fl R C O A i y with
  | false => rfl
  | true =>
    have := fl_step (fl_open _ h.1) hw hb hq
    rw [h.2 (i + 1) (by omega)] at this
    cases this
theorem fl_u {k j g : Nat} (h1 : flF R C O A k g) (h2 : flF R C O A j g) : k = j := by
  rcases Nat.lt_trichotomy k j with h | h | h
  · have := h2.2 k h
    rw [h1.1] at this
    cases this
  · exact h
  · have := h1.2 j h
    rw [h2.1] at this
    cases this
theorem fl_chain (hC : 0 < C) : ∀ k g, g < R * C → flF R C O A k g → ∃ p : Nat → Nat, ∀ i, i ≤ k → p i < R * C ∧ flF R C O A i (p i) := by
  intro k
  induction k with
  | zero =>
    intro g hg h
    refine ⟨fun _ => g, fun i hi => ?_⟩
    have : i = 0 := by omega
    subst this
    exact ⟨hg, h⟩
  | succ k ih =>
    intro g hg h
    obtain ⟨w, y, hw, hb, hy⟩ := fl_pred h
    obtain ⟨p, hp1⟩ := ih y (bsd_lt hC hg hb) hy
    refine ⟨fun i => if i = k + 1 then g else p i, fun i hi => ?_⟩
    by_cases e : i = k + 1
    · subst e
      simp only [if_true]
      exact ⟨hg, h⟩
    · simp only [e, if_false]
      exact hp1 i (by omega)
theorem fl_lt (hC : 0 < C) {k g : Nat} (hg : g < R * C) (h : flF R C O A k g) : k < R * C := by
  obtain ⟨p, hp1⟩ := fl_chain hC k g hg h
  have := pig (R * C) (k + 1) p (fun i hi => (hp1 i (by omega)).1) (fun i j hij hj e => by
    have h1 := (hp1 i (by omega)).2
    have h2 := (hp1 j (by omega)).2
    rw [e] at h1
    have := fl_u h1 h2
    omega)
  omega
end FL
theorem fs_of {p : Nat → Bool} {a : Nat} : ∀ m, a < m → p a = true → (∀ b, b < a → p b = false) → fsP p m = some a := by
  intro m
  induction m with
  | zero => intro h; omega
  | succ m ih =>
    intro ha hp1 hno
    rw [fsP]
    by_cases e : a = m
    · subst e
      have : fsP p a = none := by
        cases hq : fsP p a with
        | none => rfl
        | some b =>
          exfalso
          have hb : ∀ m b, fsP p m = some b → b < m ∧ p b = true := by
            intro m
            induction m with
            | zero => intro b h; cases h
            | succ m ih2 =>
              intro b h
              rw [fsP] at h
              cases hq2 : fsP p m with
              | some c =>
                rw [hq2] at h
                cases h
                have := ih2 b hq2
                exact ⟨by omega, this.2⟩
              | none =>
                rw [hq2] at h
                have h' : (if p m = true then some m else none) = some b := h
                split at h'
                · rename_i z
                  cases h'
                  exact ⟨by omega, z⟩
                · cases h'
          obtain ⟨h1, h2⟩ := hb a b hq
          rw [hno b h1] at h2
          cases h2
      rw [this]
      exact if_pos hp1
    · rw [ih (by omega) hp1 hno]
