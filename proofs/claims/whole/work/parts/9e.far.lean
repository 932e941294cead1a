/-! A course depends only on what is beside it. From wip/whole/src. -/
/-- g shut too: the best stays, or was g, and what is then best is no better -/
theorem bst_shut {R C : Nat} {dis : Nat → Nat → Int32} {sh sh' : Nat → Bool} {f g : Nat} (hs : ∀ x, sh' x = (sh x || decide (x = g))) : ∀ w, bst R C dis sh' f w = bst R C dis sh f w ∨ (∃ l, bst R C dis sh f w = some (g, l) ∧ (bst R C dis sh' f w = none ∨ ∃ b' l', bst R C dis sh' f w = some (b', l') ∧ ¬ l' < l)) := by
  intro w
  induction w with
  | zero => exact Or.inl rfl
  | succ w ih =>
    rw [bst, bst]
    cases hb : bsd R C f w with
    | none => exact ih
    | some y =>
      by_cases hy : sh y = true
      · have hy' : sh' y = true := by rw [hs, hy]; rfl
        simp only [hy, hy', if_true]
        exact ih
      · have hyf : sh y = false := by simpa using hy
        by_cases e : y = g
        · subst e
          have hy' : sh' y = true := by rw [hs]; simp
          simp only [hyf, hy', if_true, Bool.false_eq_true, if_false]
          rcases ih with ih | ⟨l, i1, i2⟩
          · rw [ih]
            cases hq : bst R C dis sh f w with
            | none => exact Or.inr ⟨_, rfl, Or.inl rfl⟩
            | some p =>
              obtain ⟨b, l⟩ := p
              by_cases hlt : dis y (b2n (0 < w)) < l
              · simp only [hlt, if_true]
                refine Or.inr ⟨_, rfl, Or.inr ⟨b, l, rfl, ?_⟩⟩
                rw [Int32.lt_iff_toInt_lt] at hlt ⊢
                omega
              · simp only [hlt, if_false]
                exact Or.inl trivial
          · rw [i1]
            refine Or.inr ?_
            by_cases hlt : dis y (b2n (0 < w)) < l
            · simp only [hlt, if_true]
              refine ⟨_, rfl, ?_⟩
              rcases i2 with i2 | ⟨b', l', i2, i3⟩
              · exact Or.inl i2
              · refine Or.inr ⟨b', l', i2, ?_⟩
                rw [Int32.lt_iff_toInt_lt] at hlt i3 ⊢
                omega
            · simp only [hlt, if_false]
              exact ⟨l, rfl, i2⟩
        · have hy' : sh' y = false := by rw [hs, hyf]; simp [e]
          simp only [hyf, hy', Bool.false_eq_true, if_false]
          rcases ih with ih | ⟨l, i1, i2⟩
          · rw [ih]
            exact Or.inl rfl
          · rw [i1]
            by_cases hlt : dis y (b2n (0 < w)) < l
            · simp only [hlt, if_true]
              rcases i2 with i2 | ⟨b', l', i2, i3⟩
              · rw [i2]
                exact Or.inl rfl
              · rw [i2]
                have : dis y (b2n (0 < w)) < l' := by
                  rw [Int32.lt_iff_toInt_lt] at hlt i3 ⊢
                  omega
                simp only [this, if_true]
                exact Or.inl trivial
            · simp only [hlt, if_false]
              refine Or.inr ⟨l, rfl, Or.inr ?_⟩
              rcases i2 with i2 | ⟨b', l', i2, i3⟩
              · rw [i2]
                exact ⟨_, _, rfl, hlt⟩
              · rw [i2]
                by_cases h2 : dis y (b2n (0 < w)) < l'
                · simp only [h2, if_true]
                  exact ⟨_, _, rfl, hlt⟩
                · simp only [h2, if_false]
                  exact ⟨_, _, rfl, i3⟩
/-- the first fields of a course stay -/
theorem crs_pre {R C : Nat} {dis : Nat → Nat → Int32} {wl : Nat → Bool} : ∀ (n L : Nat) (p : Nat → Nat), L ≤ (crs R C dis wl n L p).1 ∧ ∀ k, k < L → (crs R C dis wl n L p).2.1 k = p k := by
  intro n
  induction n with
  | zero => intro L p; exact ⟨Nat.le_refl _, fun _ _ => rfl⟩
  | succ n ih =>
    intro L p
    rw [crs]
    by_cases h1 : R * C - C ≤ p (L - 1)
    · rw [if_pos h1]
      exact ⟨Nat.le_refl _, fun _ _ => rfl⟩
    · rw [if_neg h1]
      cases hq : bst R C dis (fun g => wl g || onP L p g) (p (L - 1)) 3 with
      | none => exact ⟨Nat.le_refl _, fun _ _ => rfl⟩
      | some q =>
        obtain ⟨b, l⟩ := q
        obtain ⟨i1, i2⟩ := ih (L + 1) (upn p L b)
        refine ⟨Nat.le_trans (Nat.le_succ L) i1, fun k hk => ?_⟩
        show (crs R C dis wl n (L + 1) (upn p L b)).2.1 k = p k
        rw [i2 k (by omega), upn, if_neg (by omega)]
theorem crs_wall {R C g : Nat} {dis : Nat → Nat → Int32} {wl wl' : Nat → Bool} (hs : ∀ x, wl' x = (wl x || decide (x = g))) : ∀ (n L : Nat) (p : Nat → Nat), onP (crs R C dis wl n L p).1 (crs R C dis wl n L p).2.1 g = false → crs R C dis wl' n L p = crs R C dis wl n L p := by
  intro n
  induction n with
  | zero => intro L p _; rfl
  | succ n ih =>
    intro L p
    rw [crs, crs]
    by_cases h1 : R * C - C ≤ p (L - 1)
    · rw [if_pos h1, if_pos h1]
      intro _; rfl
    · rw [if_neg h1, if_neg h1]
      have hb := bst_shut (R := R) (C := C) (dis := dis) (f := p (L - 1)) (g := g) (sh := fun x => wl x || onP L p x) (sh' := fun x => wl' x || onP L p x) (by
        intro x
        show (wl' x || onP L p x) = ((wl x || onP L p x) || decide (x = g))
        rw [hs]
        cases wl x <;> cases onP L p x <;> cases decide (x = g) <;> rfl) 3
      cases hq : bst R C dis (fun x => wl x || onP L p x) (p (L - 1)) 3 with
      | none =>
        intro _
        rcases hb with hb | ⟨l, i1, _⟩
        · rw [hb, hq]
        · rw [hq] at i1
          cases i1
      | some q =>
        obtain ⟨b, l⟩ := q
        intro hon
        have hon' : onP (crs R C dis wl n (L + 1) (upn p L b)).1 (crs R C dis wl n (L + 1) (upn p L b)).2.1 g = false := hon
        obtain ⟨i1, i2⟩ := crs_pre (R := R) (C := C) (dis := dis) (wl := wl) n (L + 1) (upn p L b)
        have hbg : b ≠ g := by
          intro e
          have : onP (crs R C dis wl n (L + 1) (upn p L b)).1 (crs R C dis wl n (L + 1) (upn p L b)).2.1 g = true := onP_iff.mpr ⟨L, by omega, by rw [i2 L (by omega), upn, if_pos rfl, e]⟩
          rw [this] at hon'
          cases hon'
        rcases hb with hb | ⟨l', j1, _⟩
        · rw [hb, hq]
          exact ih (L + 1) (upn p L b) hon'
        · rw [hq] at j1
          cases j1
          exact absurd rfl hbg
theorem crs0_wall {R C s g : Nat} {dis : Nat → Nat → Int32} {wl wl' : Nat → Bool} (hs : ∀ x, wl' x = (wl x || decide (x = g))) (hon : onP (crs0 R C dis wl s).1 (crs0 R C dis wl s).2.1 g = false) : crs0 R C dis wl' s = crs0 R C dis wl s := by
  unfold crs0 at hon ⊢
  by_cases h : wl s = true
  · have h' : wl' s = true := by rw [hs, h]; rfl
    rw [if_pos h, if_pos h']
  · rw [if_neg h] at hon ⊢
    obtain ⟨i1, i2⟩ := crs_pre (R := R) (C := C) (dis := dis) (wl := wl) 36 1 (upn (fun _ => 0) 0 s)
    have hsg : s ≠ g := by
      intro e
      have : onP (crs R C dis wl 36 1 (upn (fun _ => 0) 0 s)).1 (crs R C dis wl 36 1 (upn (fun _ => 0) 0 s)).2.1 g = true := onP_iff.mpr ⟨0, by omega, by rw [i2 0 (by omega), upn, if_pos rfl, e]⟩
      rw [this] at hon
      cases hon
    have h' : ¬ wl' s = true := by
      rw [hs]
      simp [hsg]
      simpa using h
    rw [if_neg h']
    exact crs_wall hs 36 1 _ hon
theorem bst_dis {R C : Nat} {dis dis' : Nat → Nat → Int32} {sh : Nat → Bool} {f : Nat} : ∀ w, (∀ v y b, v < w → bsd R C f v = some y → dis' y b = dis y b) → bst R C dis' sh f w = bst R C dis sh f w := by
  intro w
  induction w with
  | zero => intro _; rfl
  | succ w ih =>
    intro h
    rw [bst, bst, ih (fun v y b hv => h v y b (by omega))]
    cases hb : bsd R C f w with
    | none => rfl
    | some y => simp only [h w y (b2n (0 < w)) (by omega) hb]
theorem crs_dis {R C : Nat} {dis dis' : Nat → Nat → Int32} {wl : Nat → Bool} : ∀ (n L : Nat) (p : Nat → Nat), 0 < L → (∀ k v y b, k < (crs R C dis wl n L p).1 → v < 3 → bsd R C ((crs R C dis wl n L p).2.1 k) v = some y → dis' y b = dis y b) → crs R C dis' wl n L p = crs R C dis wl n L p := by
  intro n
  induction n with
  | zero => intro L p _ _; rfl
  | succ n ih =>
    intro L p hL
    have hpre := crs_pre (R := R) (C := C) (dis := dis) (wl := wl) (n + 1) L p
    intro h
    have hb := bst_dis (R := R) (C := C) (dis := dis) (dis' := dis') (sh := fun g => wl g || onP L p g) (f := p (L - 1)) 3 (fun v y b hv hy => h (L - 1) v y b (by omega) hv (by rw [hpre.2 (L - 1) (by omega)]; exact hy))
    rw [crs] at h ⊢
    rw [crs]
    by_cases h1 : R * C - C ≤ p (L - 1)
    · rw [if_pos h1, if_pos h1]
    · rw [if_neg h1] at h ⊢
      rw [if_neg h1, hb]
      cases hq : bst R C dis (fun g => wl g || onP L p g) (p (L - 1)) 3 with
      | none => rfl
      | some q =>
        obtain ⟨b, l⟩ := q
        rw [hq] at h
        exact ih (L + 1) (upn p L b) (by omega) h
theorem crs0_dis {R C s : Nat} {dis dis' : Nat → Nat → Int32} {wl : Nat → Bool} (h : ∀ k v y b, k < (crs0 R C dis wl s).1 → v < 3 → bsd R C ((crs0 R C dis wl s).2.1 k) v = some y → dis' y b = dis y b) : crs0 R C dis' wl s = crs0 R C dis wl s := by
  unfold crs0 at h ⊢
  by_cases hw : wl s = true
  · rw [if_pos hw, if_pos hw]
  · rw [if_neg hw] at h ⊢
    rw [if_neg hw]
    exact crs_dis 36 1 _ (by decide) h
