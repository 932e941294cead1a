/-! timetable: how many ships can come in at most. From wip/whole/src. -/
/-- the least of f 0 .. f k -/
def mnR (f : Nat → Nat) : Nat → Nat
  | 0 => f 0
  | k + 1 => min (mnR f k) (f (k + 1))
theorem mnR_le {f : Nat → Nat} {v : Nat} : ∀ k, v ≤ k → mnR f k ≤ f v
  | 0, h => by
    have : v = 0 := by omega
    subst this
    exact Nat.le_refl _
  | k + 1, h => by
    rw [mnR]
    by_cases z : v = k + 1
    · subst z
      omega
    · have := mnR_le (f := f) (v := v) k (by omega)
      omega
theorem mnR_ex {f : Nat → Nat} : ∀ k, ∃ v, v ≤ k ∧ mnR f k = f v
  | 0 => ⟨0, Nat.le_refl _, rfl⟩
  | k + 1 => by
    obtain ⟨v, h1, h2⟩ := mnR_ex (f := f) k
    rw [mnR]
    by_cases z : mnR f k ≤ f (k + 1)
    · exact ⟨v, by omega, by omega⟩
    · exact ⟨k + 1, Nat.le_refl _, by omega⟩
theorem mnR_eq {f : Nat → Nat} {k L v : Nat} (h1 : ∀ v, v ≤ k → L ≤ f v) (hv : v ≤ k) (h2 : f v ≤ L) : mnR f k = L := by
  obtain ⟨w, hw, e⟩ := mnR_ex (f := f) k
  have a := h1 w hw
  have b := mnR_le (f := f) k hv
  omega
/-- tides that nobody took, at least so deep -/
def avS (dep : Nat → Nat) (n : Nat) (U : Nat → Bool) (v : Nat) : Nat := sumR (fun q => b2n (U q = false ∧ v ≤ dep q)) n
/-- ships from s on, of less draught -/
def bvS (dr : Nat → Nat) (K s v : Nat) : Nat := sumR (fun i => b2n (s ≤ i ∧ dr i < v)) K
/-- the most ships from s on that come in -/
def gM (dep dr : Nat → Nat) (n K s : Nat) (U : Nat → Bool) : Nat := mnR (fun v => avS dep n U v + bvS dr K s v) 10
theorem sumR_le {f g : Nat → Nat} : ∀ n, (∀ q, q < n → f q ≤ g q) → sumR f n ≤ sumR g n
  | 0, _ => Nat.le_refl _
  | n + 1, h => by
    have a := sumR_le n (fun q hq => h q (by omega))
    have b := h n (by omega)
    rw [sumR, sumR]
    omega
theorem b2n_mono {A B : Prop} [Decidable A] [Decidable B] (h : A → B) : b2n A ≤ b2n B := by
  by_cases z : A
  · rw [b2n_t z, b2n_t (h z)]
    exact Nat.le_refl _
  · rw [b2n_f z]
    omega
theorem b2n_iff {A B : Prop} [Decidable A] [Decidable B] (h : A ↔ B) : b2n A = b2n B := by
  by_cases z : A
  · rw [b2n_t z, b2n_t (h.mp z)]
  · rw [b2n_f z, b2n_f (fun y => z (h.mpr y))]
theorem bv_mono {dr : Nat → Nat} {K s v w : Nat} (h : v ≤ w) : bvS dr K s v ≤ bvS dr K s w := sumR_le K (fun i _ => b2n_mono (fun y => ⟨y.1, by omega⟩))
theorem av_mono {dep : Nat → Nat} {n v w : Nat} {U : Nat → Bool} (h : v ≤ w) : avS dep n U w ≤ avS dep n U v := sumR_le n (fun i _ => b2n_mono (fun y => ⟨y.1, by omega⟩))
theorem sumR_pt {f g : Nat → Nat} {p : Nat} : ∀ n, p < n → (∀ q, q ≠ p → f q = g q) → sumR f n + g p = sumR g n + f p
  | 0, h, _ => absurd h (Nat.not_lt_zero p)
  | n + 1, h, he => by
    rw [sumR, sumR]
    by_cases z : p = n
    · subst z
      have := sumR_congr (f := f) (g := g) p (fun q hq => he q (by omega))
      omega
    · have := sumR_pt (f := f) (g := g) n (by omega) he
      have := he n (by omega)
      omega
theorem bv_s {dr : Nat → Nat} {K s v : Nat} (h : s < K) : bvS dr K s v = bvS dr K (s + 1) v + b2n (dr s < v) := by
  have := sumR_pt (f := fun i => b2n (s ≤ i ∧ dr i < v)) (g := fun i => b2n (s + 1 ≤ i ∧ dr i < v)) K h (fun q hq => b2n_iff ⟨fun y => ⟨by omega, y.2⟩, fun y => ⟨by omega, y.2⟩⟩)
  have e1 : b2n (s + 1 ≤ s ∧ dr s < v) = 0 := b2n_f (fun y => by omega)
  have e2 : b2n (s ≤ s ∧ dr s < v) = b2n (dr s < v) := b2n_iff ⟨fun y => y.2, fun y => ⟨Nat.le_refl _, y⟩⟩
  unfold bvS
  omega
/-- one tide more is taken -/
def upB (U : Nat → Bool) (p : Nat) : Nat → Bool := fun q => U q || decide (q = p)
theorem av_up {dep : Nat → Nat} {n p v : Nat} {U : Nat → Bool} (h : p < n) (hU : U p = false) : avS dep n (upB U p) v + b2n (v ≤ dep p) = avS dep n U v := by
  have := sumR_pt (f := fun q => b2n (upB U p q = false ∧ v ≤ dep q)) (g := fun q => b2n (U q = false ∧ v ≤ dep q)) n h (fun q hq => b2n_iff (by
    unfold upB
    rw [decide_eq_false hq, Bool.or_false]))
  have e1 : b2n (upB U p p = false ∧ v ≤ dep p) = 0 := b2n_f (fun y => by
    have := y.1
    unfold upB at this
    simp at this)
  have e2 : b2n (U p = false ∧ v ≤ dep p) = b2n (v ≤ dep p) := b2n_iff ⟨fun y => y.2, fun y => ⟨hU, y⟩⟩
  unfold avS
  omega
theorem av_10 {dep : Nat → Nat} {n : Nat} {U : Nat → Bool} (h : ∀ q, q < n → dep q ≤ 9) : avS dep n U 10 = 0 := by
  unfold avS
  rw [sumR_congr n (g := fun _ => 0) (fun q hq => b2n_f (fun y => by have := h q hq; omega))]
  have : ∀ n, sumR (fun _ => 0) n = 0 := fun n => by
    induction n with
    | zero => rfl
    | succ n ih => rw [sumR, ih]
  exact this n
theorem av_le {dep : Nat → Nat} {n v : Nat} {U : Nat → Bool} : avS dep n U v ≤ n := by
  have := sum_le (S := fun q => b2n (U q = false ∧ v ≤ dep q)) (c := 1) n (fun q _ => b2n_le _)
  unfold avS
  omega
theorem bv_le {dr : Nat → Nat} {K s v : Nat} : bvS dr K s v ≤ K := by
  have := sum_le (S := fun i => b2n (s ≤ i ∧ dr i < v)) (c := 1) K (fun q _ => b2n_le _)
  unfold bvS
  omega
theorem gM_le {dep dr : Nat → Nat} {n K s : Nat} {U : Nat → Bool} (h : ∀ q, q < n → dep q ≤ 9) : gM dep dr n K s U ≤ K := by
  have := mnR_le (f := fun v => avS dep n U v + bvS dr K s v) 10 (Nat.le_refl 10)
  have h1 := av_10 (U := U) h
  have h2 := bv_le (dr := dr) (K := K) (s := s) (v := 10)
  have : gM dep dr n K s U ≤ avS dep n U 10 + bvS dr K s 10 := this
  omega
/-- where the most need this ship, a tide for it can be taken -/
theorem gM_x {dep dr : Nat → Nat} {n K s : Nat} {U : Nat → Bool} (hs : s < K) (hd : dr s ≤ 9) (hne : gM dep dr n K (s + 1) U ≠ gM dep dr n K s U) :
    ∃ p, p < n ∧ U p = false ∧ dr s ≤ dep p ∧ gM dep dr n K (s + 1) (upB U p) + 1 = gM dep dr n K s U := by
  obtain ⟨v0, hv0, e0⟩ := mnR_ex (f := fun v => avS dep n U v + bvS dr K (s + 1) v) 10
  have e0 : gM dep dr n K (s + 1) U = avS dep n U v0 + bvS dr K (s + 1) v0 := e0
  have hL : ∀ v, v ≤ 10 → gM dep dr n K s U ≤ avS dep n U v + bvS dr K s v := fun v hv => mnR_le (f := fun v => avS dep n U v + bvS dr K s v) 10 hv
  have hL' : ∀ v, v ≤ 10 → gM dep dr n K (s + 1) U ≤ avS dep n U v + bvS dr K (s + 1) v := fun v hv => mnR_le (f := fun v => avS dep n U v + bvS dr K (s + 1) v) 10 hv
  obtain ⟨v1, hv1, e1⟩ := mnR_ex (f := fun v => avS dep n U v + bvS dr K s v) 10
  have e1 : gM dep dr n K s U = avS dep n U v1 + bvS dr K s v1 := e1
  have hb := fun v => bv_s (dr := dr) (v := v) hs
  have eL : gM dep dr n K (s + 1) U + 1 = gM dep dr n K s U := by
    have a := hL v0 hv0
    have b := hL' v1 hv1
    have c := hb v0
    have c1 := hb v1
    have := b2n_le (dr s < v0)
    omega
  -- the least deep of those that would do
  have key : ∀ b, (∃ p, p < n ∧ U p = false ∧ dr s ≤ dep p ∧ dep p < b ∧ ∀ q, q < n → U q = false → dr s ≤ dep q → dep p ≤ dep q) ∨ ∀ q, q < n → U q = false → dr s ≤ dep q → b ≤ dep q := by
    intro b
    induction b with
    | zero => exact Or.inr (fun q _ _ _ => Nat.zero_le _)
    | succ b ih =>
      rcases ih with ⟨p, h1, h2, h3, h4, h5⟩ | hno
      · exact Or.inl ⟨p, h1, h2, h3, by omega, h5⟩
      · by_cases hx : ∃ p, p < n ∧ U p = false ∧ dr s ≤ dep p ∧ dep p = b
        · obtain ⟨p, h1, h2, h3, h4⟩ := hx
          exact Or.inl ⟨p, h1, h2, h3, by omega, fun q a1 a2 a3 => by have := hno q a1 a2 a3; omega⟩
        · refine Or.inr (fun q a1 a2 a3 => ?_)
          have h := hno q a1 a2 a3
          have : dep q ≠ b := fun y => hx ⟨q, a1, a2, a3, y⟩
          omega
  have hsame : ∀ w, dr s ≤ w → (∀ q, q < n → U q = false → dr s ≤ dep q → w ≤ dep q) → avS dep n U w = avS dep n U (dr s) := by
    intro w hw hq
    exact sumR_congr n (fun q hqn => b2n_iff ⟨fun y => ⟨y.1, by omega⟩, fun y => ⟨y.1, hq q hqn y.1 y.2⟩⟩)
  have hlow : ∀ w, dr s ≤ w → avS dep n U w = avS dep n U (dr s) → gM dep dr n K s U ≤ avS dep n U w + bvS dr K (s + 1) w := by
    intro w hw he
    have a := hL (dr s) (by omega)
    have b := hb (dr s)
    have c : b2n (dr s < dr s) = 0 := b2n_f (by omega)
    have m := bv_mono (dr := dr) (K := K) (s := s + 1) hw
    omega
  rcases key 11 with ⟨p, h1, h2, h3, _, h5⟩ | hno
  · refine ⟨p, h1, h2, h3, ?_⟩
    have : gM dep dr n K (s + 1) (upB U p) = gM dep dr n K (s + 1) U := by
      refine mnR_eq (v := v0) (fun v hv => ?_) hv0 ?_
      · show gM dep dr n K (s + 1) U ≤ avS dep n (upB U p) v + bvS dr K (s + 1) v
        have ha := av_up (dep := dep) (v := v) h1 h2
        by_cases z : v ≤ dep p
        · rw [b2n_t z] at ha
          by_cases y : v ≤ dr s
          · have a := hL v hv
            have b := hb v
            have c : b2n (dr s < v) = 0 := b2n_f (by omega)
            omega
          · have := hlow v (by omega) (hsame v (by omega) (fun q a1 a2 a3 => by have := h5 q a1 a2 a3; omega))
            omega
        · rw [b2n_f z] at ha
          have := hL' v hv
          omega
      · show avS dep n (upB U p) v0 + bvS dr K (s + 1) v0 ≤ gM dep dr n K (s + 1) U
        have ha := av_up (dep := dep) (v := v0) h1 h2
        omega
    omega
  · exfalso
    by_cases y : v0 ≤ dr s
    · have a := hL v0 hv0
      have b := hb v0
      have c : b2n (dr s < v0) = 0 := b2n_f (by omega)
      omega
    · have := hlow v0 (by omega) (hsame v0 (by omega) (fun q a1 a2 a3 => by have := hno q a1 a2 a3; omega))
      omega
/-- the first below n that will do -/
def srB (p : Nat → Bool) : Nat → Option Nat
  | 0 => none
  | n + 1 => match srB p n with
    | some k => some k
    | none => if p n = true then some n else none
theorem srB_n {p : Nat → Bool} : ∀ n, srB p n = none → ∀ i, i < n → p i = false
  | 0, _ => fun i hi => absurd hi (Nat.not_lt_zero i)
  | n + 1, h => by
    intro i hi
    rw [srB] at h
    cases hq : srB p n with
    | some k => rw [hq] at h; cases h
    | none =>
      rw [hq] at h
      have h' : (if p n = true then some n else none) = (none : Option Nat) := h
      split at h'
      · cases h'
      · rename_i z
        by_cases y : i = n
        · subst y
          cases hz : p i with
          | true => exact absurd hz z
          | false => rfl
        · exact srB_n n hq i (by omega)
theorem srB_s {p : Nat → Bool} {k : Nat} : ∀ n, srB p n = some k → k < n ∧ p k = true ∧ ∀ i, i < k → p i = false
  | 0, h => by cases h
  | n + 1, h => by
    rw [srB] at h
    cases hq : srB p n with
    | some k' =>
      rw [hq] at h
      cases h
      obtain ⟨a, b, c⟩ := srB_s n hq
      exact ⟨by omega, b, c⟩
    | none =>
      rw [hq] at h
      have h' : (if p n = true then some n else none) = some k := h
      split at h'
      · rename_i z
        cases h'
        exact ⟨by omega, z, srB_n _ hq⟩
      · cases h'
/-- the tide of ship s, while U are taken -/
def plO (dep dr : Nat → Nat) (n K s : Nat) (U : Nat → Bool) : Option Nat := if gM dep dr n K (s + 1) U = gM dep dr n K s U then none else srB (fun p => !U p && (decide (dr s ≤ dep p) && decide (gM dep dr n K (s + 1) (upB U p) + 1 = gM dep dr n K s U))) n
def plN (U : Nat → Bool) : Option Nat → Nat → Bool
  | none => U
  | some p => upB U p
def plU (dep dr : Nat → Nat) (n K : Nat) : Nat → Nat → Bool
  | 0 => fun _ => false
  | s + 1 => plN (plU dep dr n K s) (plO dep dr n K s (plU dep dr n K s))
theorem pl_s {dep dr : Nat → Nat} {n K s p : Nat} {U : Nat → Bool} (h : plO dep dr n K s U = some p) : ¬ gM dep dr n K (s + 1) U = gM dep dr n K s U ∧ p < n ∧ U p = false ∧ dr s ≤ dep p ∧ gM dep dr n K (s + 1) (upB U p) + 1 = gM dep dr n K s U ∧ ∀ q, q < p → U q = false → dr s ≤ dep q → ¬ gM dep dr n K (s + 1) (upB U q) + 1 = gM dep dr n K s U := by
  unfold plO at h
  split at h
  · cases h
  · rename_i z
    obtain ⟨a, b, c⟩ := srB_s n h
    simp only [Bool.and_eq_true, decide_eq_true_eq, Bool.not_eq_true'] at b
    refine ⟨z, a, b.1, b.2.1, b.2.2, fun q hq h1 h2 h3 => ?_⟩
    have := c q hq
    simp [h1, h2, h3] at this
theorem pl_n {dep dr : Nat → Nat} {n K s : Nat} {U : Nat → Bool} (hs : s < K) (hd : dr s ≤ 9) (h : plO dep dr n K s U = none) : gM dep dr n K (s + 1) U = gM dep dr n K s U := by
  apply Classical.byContradiction
  intro z
  unfold plO at h
  rw [if_neg z] at h
  obtain ⟨p, h1, h2, h3, h4⟩ := gM_x hs hd z
  have := srB_n n h p h1
  simp [h2, h3, h4] at this
