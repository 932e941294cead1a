/-! timetable: what a search for a way does to who comes when. From wip/whole/src. -/
def oBq (R : Nat → Bool) : Option Nat → Bool
  | none => false
  | some i => R i
/-- tides whose ship is such -/
def mR (o : Nat → Option Nat) (R : Nat → Bool) (n : Nat) : Nat := sumR (fun q => b2n (oBq R (o q) = true)) n
/-- ship i could come with tide q -/
def eD (dep dr : Nat → Nat) (U : Nat → Bool) (i q : Nat) : Prop := U q = false ∧ dr i ≤ dep q
/-- who comes when is well, where V is not -/
def vdO (dep dr : Nat → Nat) (n : Nat) (U V : Nat → Bool) (o : Nat → Option Nat) : Prop := (∀ q i, q < n → V q = false → o q = some i → eD dep dr U i q) ∧ ∀ p q i, p < n → q < n → V p = false → V q = false → o p = some i → o q = some i → p = q
def imO (n : Nat) (V : Nat → Bool) (o : Nat → Option Nat) (i : Nat) : Prop := ∃ q, q < n ∧ V q = false ∧ o q = some i
def cnO (n : Nat) (o : Nat → Option Nat) : Nat := mR o (fun _ => true) n
/-- one more ship comes in, where V is not -/
def agO (dep dr : Nat → Nat) (n : Nat) (U V : Nat → Bool) (o : Nat → Option Nat) (s : Nat) (o' : Nat → Option Nat) : Prop := (∀ q, q < n → V q = true → o' q = o q) ∧ vdO dep dr n U V o' ∧ (∀ i, imO n V o' i ↔ i = s ∨ imO n V o i) ∧ cnO n o' = cnO n o + 1
def upO (o : Nat → Option Nat) (q s : Nat) : Nat → Option Nat := fun p => if p = q then some s else o p
theorem mR_inj {o : Nat → Option Nat} {a s : Nat} : ∀ (n : Nat) (R : Nat → Bool), (∀ p q i, p < n → q < n → o p = some i → o q = some i → p = q) → (∀ q i, q < n → o q = some i → a ≤ i ∧ i < s) → mR o R n ≤ sumR (fun i => b2n (a ≤ i ∧ R i = true)) s := by
  intro n
  induction n with
  | zero => intro R _ _; exact Nat.zero_le _
  | succ n ih =>
    intro R hj hi
    have hj' : ∀ p q i, p < n → q < n → o p = some i → o q = some i → p = q := fun p q i h1 h2 => hj p q i (by omega) (by omega)
    have hi' : ∀ q i, q < n → o q = some i → a ≤ i ∧ i < s := fun q i h1 => hi q i (by omega)
    rw [mR, sumR]
    change mR o R n + b2n (oBq R (o n) = true) ≤ _
    cases ho : o n with
    | none =>
      rw [b2n_f (by intro y; cases y)]
      exact ih R hj' hi'
    | some j =>
      by_cases hR : R j = true
      · obtain ⟨b1, b2⟩ := hi n j (by omega) ho
        have h1 := ih (fun i => R i && !decide (i = j)) hj' hi'
        have e : mR o (fun i => R i && !decide (i = j)) n = mR o R n := sumR_congr n (fun q hq => by
          cases hq2 : o q with
          | none => rfl
          | some i =>
            have : i ≠ j := fun y => by
              subst y
              have := hj q n i (by omega) (by omega) hq2 ho
              omega
            show b2n ((R i && !decide (i = j)) = true) = b2n (R i = true)
            rw [decide_eq_false this, Bool.not_false, Bool.and_true])
        rw [e] at h1
        have h2 := sumR_pt (f := fun i => b2n (a ≤ i ∧ (R i && !decide (i = j)) = true)) (g := fun i => b2n (a ≤ i ∧ R i = true)) (p := j) s b2 (fun q hq => by
          show b2n (a ≤ q ∧ (R q && !decide (q = j)) = true) = b2n (a ≤ q ∧ R q = true)
          rw [decide_eq_false hq, Bool.not_false, Bool.and_true])
        have e1 : b2n (a ≤ j ∧ R j = true) = 1 := b2n_t ⟨b1, hR⟩
        have e2 : b2n (a ≤ j ∧ (R j && !decide (j = j)) = true) = 0 := b2n_f (fun y => by simp at y)
        have e3 : b2n (oBq R (some j) = true) = 1 := b2n_t hR
        omega
      · rw [b2n_f (P := oBq R (some j) = true) hR]
        exact ih R hj' hi'
theorem cn_up {n q s : Nat} {o : Nat → Option Nat} (hq : q < n) : cnO n (upO o q s) + b2n (oBq (fun _ => true) (o q) = true) = cnO n o + 1 := by
  have := sumR_pt (f := fun p => b2n (oBq (fun _ => true) (upO o q s p) = true)) (g := fun p => b2n (oBq (fun _ => true) (o p) = true)) n hq (fun p hp1 => by
    show b2n (oBq (fun _ => true) (upO o q s p) = true) = b2n (oBq (fun _ => true) (o p) = true)
    unfold upO
    rw [if_neg hp1])
  have e : b2n (oBq (fun _ => true) (upO o q s q) = true) = 1 := b2n_t (by unfold upO; rw [if_pos rfl]; rfl)
  unfold cnO mR
  omega
theorem upO_s {o : Nat → Option Nat} {q s : Nat} : upO o q s q = some s := if_pos rfl
theorem upO_n {o : Nat → Option Nat} {q s p : Nat} (h : p ≠ q) : upO o q s p = o p := if_neg h
/-- a tide that nobody has -/
theorem ag_free {dep dr : Nat → Nat} {n s q : Nat} {U V : Nat → Bool} {o : Nat → Option Nat} (hv : vdO dep dr n U V o) (hs : ¬ imO n V o s) (hq : q < n) (hV : V q = false) (he : eD dep dr U s q) (ho : o q = none) : agO dep dr n U V o s (upO o q s) := by
  obtain ⟨v1, v2⟩ := hv
  refine ⟨fun p _ hp2 => upO_n (by rintro rfl; rw [hV] at hp2; cases hp2), ⟨fun p i h1 h2 h3 => ?_, fun p r i h1 h2 h3 h4 h5 h6 => ?_⟩, fun i => ⟨?_, ?_⟩, ?_⟩
  · by_cases z : p = q
    · subst z
      rw [upO_s] at h3
      cases h3
      exact he
    · rw [upO_n z] at h3
      exact v1 p i h1 h2 h3
  · by_cases z : p = q
    · by_cases y : r = q
      · rw [z, y]
      · subst z
        rw [upO_s] at h5
        cases h5
        rw [upO_n y] at h6
        exact absurd ⟨r, h2, h4, h6⟩ hs
    · rw [upO_n z] at h5
      by_cases y : r = q
      · subst y
        rw [upO_s] at h6
        cases h6
        exact absurd ⟨p, h1, h3, h5⟩ hs
      · rw [upO_n y] at h6
        exact v2 p r i h1 h2 h3 h4 h5 h6
  · rintro ⟨p, h1, h2, h3⟩
    by_cases z : p = q
    · subst z
      rw [upO_s] at h3
      cases h3
      exact Or.inl rfl
    · rw [upO_n z] at h3
      exact Or.inr ⟨p, h1, h2, h3⟩
  · rintro (rfl | ⟨p, h1, h2, h3⟩)
    · exact ⟨q, hq, hV, upO_s⟩
    · exact ⟨p, h1, h2, by rw [upO_n (by rintro rfl; rw [ho] at h3; cases h3)]; exact h3⟩
  · have := cn_up (s := s) (o := o) hq
    rw [ho, b2n_f (by intro y; cases y)] at this
    omega
/-- its ship found another -/
theorem ag_way {dep dr : Nat → Nat} {n s q i : Nat} {U V V1 : Nat → Bool} {o o1 : Nat → Option Nat} (hv : vdO dep dr n U V o) (hs : ¬ imO n V o s) (hq : q < n) (hV : V q = false) (hV1 : V1 q = true) (hVV : ∀ p, V p = true → V1 p = true) (he : eD dep dr U s q) (ho : o q = some i) (hA : agO dep dr n U V1 o i o1) : agO dep dr n U V o s (upO o1 q s) := by
  obtain ⟨v1, v2⟩ := hv
  obtain ⟨a1, ⟨a2, a3⟩, a4, a5⟩ := hA
  have hV0 : ∀ p, V1 p = false → V p = false := fun p h => by
    cases hz : V p with
    | false => rfl
    | true => rw [hVV p hz] at h; cases h
  have hne : ∀ p, V1 p = false → p ≠ q := fun p h => by rintro rfl; rw [hV1] at h; cases h
  refine ⟨fun p hp1 hp2 => ?_, ⟨fun p j h1 h2 h3 => ?_, fun p r j h1 h2 h3 h4 h5 h6 => ?_⟩, fun j => ⟨?_, ?_⟩, ?_⟩
  · rw [upO_n (by rintro rfl; rw [hV] at hp2; cases hp2)]
    exact a1 p hp1 (hVV p hp2)
  · by_cases z : p = q
    · subst z
      rw [upO_s] at h3
      cases h3
      exact he
    · rw [upO_n z] at h3
      cases hz : V1 p with
      | true =>
        rw [a1 p h1 hz] at h3
        exact v1 p j h1 h2 h3
      | false => exact a2 p j h1 hz h3
  · -- one ship, one tide
    have key : ∀ r, r < n → V r = false → r ≠ q → o1 r = some s → False := by
      intro r r1 r2 r3 r4
      cases hz : V1 r with
      | true =>
        rw [a1 r r1 hz] at r4
        exact hs ⟨r, r1, r2, r4⟩
      | false =>
        rcases (a4 s).mp ⟨r, r1, hz, r4⟩ with e | ⟨p', b1, b2, b3⟩
        · subst e
          exact hs ⟨q, hq, hV, ho⟩
        · exact hs ⟨p', b1, hV0 p' b2, b3⟩
    have mix : ∀ p r, p < n → r < n → V p = false → V r = false → p ≠ q → V1 p = true → V1 r = false → o1 p = some j → o1 r = some j → False := by
      intro p r p1 r1 p2 r2 p3 p4 r4 p5 r5
      rw [a1 p p1 p4] at p5
      rcases (a4 j).mp ⟨r, r1, r4, r5⟩ with e | ⟨p', b1, b2, b3⟩
      · subst e
        exact p3 (v2 p q j p1 hq p2 hV p5 ho)
      · have := v2 p p' j p1 b1 p2 (hV0 p' b2) p5 b3
        subst this
        rw [p4] at b2
        cases b2
    by_cases z : p = q
    · by_cases y : r = q
      · rw [z, y]
      · subst z
        rw [upO_s] at h5
        cases h5
        rw [upO_n y] at h6
        exact absurd h6 (fun w => key r h2 h4 y w)
    · rw [upO_n z] at h5
      by_cases y : r = q
      · subst y
        rw [upO_s] at h6
        cases h6
        exact absurd h5 (fun w => key p h1 h3 z w)
      · rw [upO_n y] at h6
        cases hz : V1 p with
        | true =>
          cases hy : V1 r with
          | true =>
            rw [a1 p h1 hz] at h5
            rw [a1 r h2 hy] at h6
            exact v2 p r j h1 h2 h3 h4 h5 h6
          | false => exact absurd h6 (fun w => mix p r h1 h2 h3 h4 z hz hy h5 w)
        | false =>
          cases hy : V1 r with
          | true => exact absurd h5 (fun w => mix r p h2 h1 h4 h3 y hy hz h6 w)
          | false => exact a3 p r j h1 h2 hz hy h5 h6
  · rintro ⟨p, h1, h2, h3⟩
    by_cases z : p = q
    · subst z
      rw [upO_s] at h3
      cases h3
      exact Or.inl rfl
    · rw [upO_n z] at h3
      cases hz : V1 p with
      | true =>
        rw [a1 p h1 hz] at h3
        exact Or.inr ⟨p, h1, h2, h3⟩
      | false =>
        rcases (a4 j).mp ⟨p, h1, hz, h3⟩ with e | ⟨p', b1, b2, b3⟩
        · subst e
          exact Or.inr ⟨q, hq, hV, ho⟩
        · exact Or.inr ⟨p', b1, hV0 p' b2, b3⟩
  · rintro (rfl | ⟨p, h1, h2, h3⟩)
    · exact ⟨q, hq, hV, upO_s⟩
    · have back : ∀ p', p' < n → V1 p' = false → o1 p' = some j → imO n V (upO o1 q s) j := fun p' b1 b2 b3 => ⟨p', b1, hV0 p' b2, by rw [upO_n (hne p' b2)]; exact b3⟩
      by_cases z : p = q
      · subst z
        rw [ho] at h3
        cases h3
        obtain ⟨p', b1, b2, b3⟩ := (a4 i).mpr (Or.inl rfl)
        exact back p' b1 b2 b3
      · cases hz : V1 p with
        | true => exact ⟨p, h1, h2, by rw [upO_n z, a1 p h1 hz]; exact h3⟩
        | false =>
          obtain ⟨p', b1, b2, b3⟩ := (a4 j).mpr (Or.inr ⟨p, h1, hz, h3⟩)
          exact back p' b1 b2 b3
  · have := cn_up (s := s) (o := o1) hq
    rw [a1 q hq hV1, ho, b2n_t (show oBq (fun _ => true) (some i) = true from rfl)] at this
    omega
/-- a search that found none -/
def clO (dep dr : Nat → Nat) (n : Nat) (U V : Nat → Bool) (o : Nat → Option Nat) (V' : Nat → Bool) : Prop := (∀ q, V q = true → V' q = true) ∧ ∀ q, q < n → V q = false → V' q = true → ∃ i, o q = some i ∧ ∀ p, p < n → eD dep dr U i p → V' p = true
/-- as many as can be, ships a .. s - 1 -/
theorem kn_le {dep dr : Nat → Nat} {n a s v : Nat} {U : Nat → Bool} {o : Nat → Option Nat} (hv : vdO dep dr n U (fun _ => false) o) (hi : ∀ i, imO n (fun _ => false) o i → a ≤ i ∧ i < s) : cnO n o ≤ avS dep n U v + bvS dr s a v := by
  have h1 := mR_inj n (fun i => decide (dr i < v)) (fun p q i h1 h2 h3 h4 => hv.2 p q i h1 h2 rfl rfl h3 h4) (fun q i h1 h2 => hi i ⟨q, h1, rfl, h2⟩)
  have e1 : sumR (fun i => b2n (a ≤ i ∧ decide (dr i < v) = true)) s = bvS dr s a v := sumR_congr s (fun i _ => b2n_iff ⟨fun y => ⟨y.1, of_decide_eq_true y.2⟩, fun y => ⟨y.1, decide_eq_true y.2⟩⟩)
  have h2 : cnO n o ≤ sumR (fun q => b2n (U q = false ∧ v ≤ dep q) + b2n (oBq (fun i => decide (dr i < v)) (o q) = true)) n := sumR_le n (fun q hq => by
    show b2n (oBq (fun _ => true) (o q) = true) ≤ _
    cases ho : o q with
    | none =>
      rw [b2n_f (P := oBq (fun _ => true) none = true) (by intro y; cases y)]
      omega
    | some i =>
      rw [b2n_t (P := oBq (fun _ => true) (some i) = true) rfl]
      obtain ⟨g1, g2⟩ := hv.1 q i hq rfl ho
      by_cases y : dr i < v
      · rw [b2n_t (P := oBq (fun i => decide (dr i < v)) (some i) = true) (decide_eq_true y)]
        omega
      · rw [b2n_t (P := U q = false ∧ v ≤ dep q) ⟨g1, by omega⟩]
        omega)
  rw [sumR_2 n (f := fun q => b2n (U q = false ∧ v ≤ dep q)) (g := fun q => b2n (oBq (fun i => decide (dr i < v)) (o q) = true)) (fun _ _ => rfl)] at h2
  have h3 : sumR (fun q => b2n (U q = false ∧ v ≤ dep q)) n = avS dep n U v := rfl
  have h4 : sumR (fun q => b2n (oBq (fun i => decide (dr i < v)) (o q) = true)) n = mR o (fun i => decide (dr i < v)) n := rfl
  omega
theorem bv_K {dr : Nat → Nat} {a s v : Nat} : bvS dr (s + 1) a v = bvS dr s a v + b2n (a ≤ s ∧ dr s < v) := rfl
theorem kn_ok {dep dr : Nat → Nat} {n a s : Nat} {U : Nat → Bool} {o o' : Nat → Option Nat} (hi : ∀ i, imO n (fun _ => false) o i → a ≤ i ∧ i < s) (has : a ≤ s) (hc : cnO n o = gM dep dr n s a U) (hA : agO dep dr n U (fun _ => false) o s o') : cnO n o' = gM dep dr n (s + 1) a U ∧ ∀ i, imO n (fun _ => false) o' i → a ≤ i ∧ i < s + 1 := by
  have hi' : ∀ i, imO n (fun _ => false) o' i → a ≤ i ∧ i < s + 1 := fun i hh => by
    rcases (hA.2.2.1 i).mp hh with rfl | h
    · omega
    · have := hi i h
      omega
  refine ⟨?_, hi'⟩
  obtain ⟨v, hv, e⟩ := mnR_ex (f := fun v => avS dep n U v + bvS dr s a v) 10
  have e : gM dep dr n s a U = avS dep n U v + bvS dr s a v := e
  refine (mnR_eq (v := v) (fun u _ => kn_le hA.2.1 hi') hv ?_).symm
  have := hA.2.2.2
  show avS dep n U v + bvS dr (s + 1) a v ≤ _
  rw [bv_K]
  have := b2n_le (a ≤ s ∧ dr s < v)
  omega
theorem kn_no {dep dr : Nat → Nat} {n a s : Nat} {U V' : Nat → Bool} {o : Nat → Option Nat} (hv : vdO dep dr n U (fun _ => false) o) (hi : ∀ i, imO n (fun _ => false) o i → a ≤ i ∧ i < s) (hd : dr s ≤ 9) (hc : cnO n o = gM dep dr n s a U) (hC : clO dep dr n U (fun _ => false) o V') (hS : ∀ q, q < n → eD dep dr U s q → V' q = true) : cnO n o = gM dep dr n (s + 1) a U := by
  -- the least draught among those who were asked
  have hx : ∃ w, w ≤ dr s ∧ ∀ q, q < n → U q = false → w ≤ dep q → ∃ i, o q = some i ∧ w ≤ dr i := by
    rcases firstOf (fun w => w = dr s ∨ ∃ q i, q < n ∧ V' q = true ∧ o q = some i ∧ w = dr i) (dr s + 1) with ⟨w, hw, hp1, hno⟩ | hno
    · refine ⟨w, by omega, fun q q1 q2 q3 => ?_⟩
      have hin : V' q = true := by
        rcases hp1 with rfl | ⟨p, i, b1, b2, b3, rfl⟩
        · exact hS q q1 ⟨q2, q3⟩
        · obtain ⟨i', c1, c2⟩ := hC.2 p b1 rfl b2
          rw [b3] at c1
          cases c1
          exact c2 q q1 ⟨q2, q3⟩
      obtain ⟨i, c1, _⟩ := hC.2 q q1 rfl hin
      refine ⟨i, c1, ?_⟩
      apply Classical.byContradiction
      intro y
      exact hno (dr i) (by omega) (Or.inr ⟨q, i, q1, hin, c1, rfl⟩)
    · exact absurd (Or.inl rfl) (hno (dr s) (by omega))
  obtain ⟨w, hw, hW⟩ := hx
  obtain ⟨u, hu, e⟩ := mnR_ex (f := fun v => avS dep n U v + bvS dr s a v) 10
  have e : gM dep dr n s a U = avS dep n U u + bvS dr s a u := e
  have hi' : ∀ i, imO n (fun _ => false) o i → a ≤ i ∧ i < s + 1 := fun i h => by
    have := hi i h
    omega
  by_cases y : u ≤ dr s
  · refine (mnR_eq (v := u) (fun v _ => kn_le hv hi') hu ?_).symm
    show avS dep n U u + bvS dr (s + 1) a u ≤ _
    rw [bv_K, b2n_f (fun z => by omega)]
    omega
  · refine (mnR_eq (v := w) (fun v _ => kn_le hv hi') (by omega) ?_).symm
    show avS dep n U w + bvS dr (s + 1) a w ≤ _
    rw [bv_K, b2n_f (fun z => by omega)]
    -- between w and u
    have h1 := mR_inj n (fun i => decide (w ≤ dr i ∧ dr i < u)) (fun p q i h1 h2 h3 h4 => hv.2 p q i h1 h2 rfl rfl h3 h4) (fun q i h1 h2 => hi i ⟨q, h1, rfl, h2⟩)
    have h2 : bvS dr s a u = bvS dr s a w + sumR (fun i => b2n (a ≤ i ∧ decide (w ≤ dr i ∧ dr i < u) = true)) s := sumR_2 s (fun i _ => by
      by_cases z1 : a ≤ i
      · by_cases z2 : dr i < w
        · rw [b2n_t (P := a ≤ i ∧ dr i < u) ⟨z1, by omega⟩, b2n_t (P := a ≤ i ∧ dr i < w) ⟨z1, z2⟩, b2n_f (P := a ≤ i ∧ decide (w ≤ dr i ∧ dr i < u) = true) (fun y => by have := of_decide_eq_true y.2; omega)]
        · rw [b2n_f (P := a ≤ i ∧ dr i < w) (fun y => z2 y.2), Nat.zero_add]
          exact b2n_iff ⟨fun y => ⟨y.1, decide_eq_true ⟨by omega, y.2⟩⟩, fun y => ⟨y.1, (of_decide_eq_true y.2).2⟩⟩
      · rw [b2n_f (P := a ≤ i ∧ dr i < u) (fun y => z1 y.1), b2n_f (P := a ≤ i ∧ dr i < w) (fun y => z1 y.1), b2n_f (P := a ≤ i ∧ decide (w ≤ dr i ∧ dr i < u) = true) (fun y => z1 y.1)])
    have h3 : cnO n o ≤ sumR (fun q => b2n (U q = false ∧ u ≤ dep q) + (b2n (oBq (fun i => decide (dr i < w)) (o q) = true) + b2n (oBq (fun i => decide (w ≤ dr i ∧ dr i < u)) (o q) = true))) n := sumR_le n (fun q hq => by
      show b2n (oBq (fun _ => true) (o q) = true) ≤ _
      cases ho : o q with
      | none =>
        rw [b2n_f (P := oBq (fun _ => true) none = true) (by intro y; cases y)]
        omega
      | some i =>
        rw [b2n_t (P := oBq (fun _ => true) (some i) = true) rfl]
        obtain ⟨g1, g2⟩ := hv.1 q i hq rfl ho
        by_cases y1 : dr i < w
        · rw [b2n_t (P := oBq (fun i => decide (dr i < w)) (some i) = true) (decide_eq_true y1)]
          omega
        · by_cases y2 : dr i < u
          · rw [b2n_t (P := oBq (fun i => decide (w ≤ dr i ∧ dr i < u)) (some i) = true) (decide_eq_true ⟨by omega, y2⟩)]
            omega
          · rw [b2n_t (P := U q = false ∧ u ≤ dep q) ⟨g1, by omega⟩]
            omega)
    rw [sumR_2 n (f := fun q => b2n (U q = false ∧ u ≤ dep q)) (g := fun q => b2n (oBq (fun i => decide (dr i < w)) (o q) = true) + b2n (oBq (fun i => decide (w ≤ dr i ∧ dr i < u)) (o q) = true)) (fun _ _ => rfl), sumR_2 n (f := fun q => b2n (oBq (fun i => decide (dr i < w)) (o q) = true)) (g := fun q => b2n (oBq (fun i => decide (w ≤ dr i ∧ dr i < u)) (o q) = true)) (fun _ _ => rfl)] at h3
    have h4 : sumR (fun q => b2n (U q = false ∧ w ≤ dep q) + b2n (oBq (fun i => decide (dr i < w)) (o q) = true)) n ≤ cnO n o := sumR_le n (fun q hq => by
      show _ ≤ b2n (oBq (fun _ => true) (o q) = true)
      by_cases y1 : U q = false ∧ w ≤ dep q
      · obtain ⟨i, c1, c2⟩ := hW q hq y1.1 y1.2
        rw [c1, b2n_t y1, b2n_f (P := oBq (fun i => decide (dr i < w)) (some i) = true) (fun y => by have := of_decide_eq_true y; omega), b2n_t (P := oBq (fun _ => true) (some i) = true) rfl]
        exact Nat.le_refl _
      · rw [b2n_f y1, Nat.zero_add]
        cases ho : o q with
        | none => exact Nat.le_refl _
        | some i =>
          rw [b2n_t (P := oBq (fun _ => true) (some i) = true) rfl]
          exact b2n_le _)
    rw [sumR_2 n (f := fun q => b2n (U q = false ∧ w ≤ dep q)) (g := fun q => b2n (oBq (fun i => decide (dr i < w)) (o q) = true)) (fun _ _ => rfl)] at h4
    have e1 : sumR (fun q => b2n (U q = false ∧ u ≤ dep q)) n = avS dep n U u := rfl
    have e2 : sumR (fun q => b2n (U q = false ∧ w ≤ dep q)) n = avS dep n U w := rfl
    have e3 : sumR (fun q => b2n (oBq (fun i => decide (w ≤ dr i ∧ dr i < u)) (o q) = true)) n = mR o (fun i => decide (w ≤ dr i ∧ dr i < u)) n := rfl
    omega
