/-! arms: both find the least. From wip/whole/src. -/
theorem lc_lt {a b : Int64} : lg_cmp a b < 0 ↔ a < b := by
  have h := @lg_lt a b
  have h' : decide (lg_cmp a b < 0) = decide (a < b) := h
  rw [decide_eq_decide] at h'
  exact h'
theorem ln_m1 {m : Nat} (h : m < 2 ^ 63) : ¬ lN m = -1 := by
  intro e
  have := congrArg Int64.toInt e
  rw [pk_lT h] at this
  have e2 : (-1 : Int64).toInt = -1 := rfl
  omega
theorem ln_or {A u b a : Nat} (hb : A = 2 ^ b * a) (hu : u < b) (hA : A < 2 ^ 63) (hu63 : u < 63) : lN A ||| lN 1 <<< (lN u &&& 63) = lN (A + 2 ^ u) := by
  have hlt : 2 ^ u < 2 ^ b := Nat.pow_lt_pow_right (by decide) hu
  have e : A + 2 ^ u = A ||| 2 ^ u := by rw [hb]; exact Nat.two_pow_add_eq_or_of_lt hlt a
  have hlt2 : 2 ^ u < 2 ^ 63 := Nat.pow_lt_pow_right (by decide) hu63
  apply tb_ext
  intro i hi
  rw [tb_or, tb_nat (by omega), tb_p2 (by omega) hi, tb_nat (by omega), e, Nat.testBit_or, Nat.testBit_two_pow]
  congr 1
  by_cases z : i = u
  · simp [z]
  · have : ¬ u = i := fun y => z y.symm
    simp [z, this]
section M4
variable {ko : aKo} {d k : Nat} {is : List Instr} {ls st : List Value} {σ : aH} {D : Nat → Nat} {N : Nat → Nat → Nat} {I : Nat → Nat → Int32} {J : Nat → Nat → Int64} {x t : Nat} {Q : Option Value → aH → Prop} {P : (Option Value ⊕ Unit) → aH → Prop}
def amBl (D : Nat → Nat) (N : Nat → Nat → Nat) (m : Nat) : Bool := !amC D N m
def amFr (D : Nat → Nat) (N : Nat → Nat → Nat) (g : Nat) : Bool := !wlS (N 89) g && !decide (g = N 89 108)
def amR (D : Nat → Nat) (N : Nat → Nat → Nat) (n : Nat) : Option Nat := (tkL (D 0 * D 1) (amFr D N) (D 0 * D 1) n 0).foldl (amU (amBl D N)) none
def amK (D : Nat → Nat) (N : Nat → Nat → Nat) (n : Nat) : Option Nat := (dmL (N 89 108) (D 0 * D 1) n 0).find? (amBl D N)
theorem am_same {m m' : Nat} (h : ∀ g, g < D 0 * D 1 → wlS (N 89) g = false → m.testBit g = m'.testBit g) : amBl D N m = amBl D N m' := by
  have e : amO D N m = amO D N m' := by
    funext g
    unfold amO
    by_cases z : g < D 0 * D 1
    · cases hw : wlS (N 89) g with
      | true => simp
      | false => rw [h g z hw]
    · simp [z]
  unfold amBl amC amF
  rw [e]
/-- dams on walls are idle -/
theorem am_min {n m : Nat} (hm : m ∈ dmL (N 89 108) (D 0 * D 1) n 0) (hb : amBl D N m = true) : (m ∈ tkL (D 0 * D 1) (amFr D N) (D 0 * D 1) n 0) ∨ ∃ n', n' < n ∧ ∃ m', m' ∈ tkL (D 0 * D 1) (amFr D N) (D 0 * D 1) n' 0 ∧ amBl D N m' = true := by
  obtain ⟨T, h1, h2, h3⟩ := (dm_mem (F := D 0 * D 1) _ n 0 m (Nat.le_refl _)).mp hm
  rw [Nat.zero_add] at h3
  by_cases hw : ∃ g, T g = true ∧ wlS (N 89) g = true
  · obtain ⟨g0, g1, g2⟩ := hw
    refine Or.inr ?_
    have hle : cntT (fun g => T g && !wlS (N 89) g) (D 0 * D 1) ≤ cntT (fun y => T y && !decide (y = g0)) (D 0 * D 1) := ct_le (fun g hg => by
      have hg' := Bool.and_eq_true _ _ |>.mp hg
      have : ¬ g = g0 := by
        rintro rfl
        rw [g2] at hg'
        cases hg'.2
      simp [hg'.1, this]) _
    obtain ⟨c1, _⟩ := ct_add (T := fun y => T y && !decide (y = g0)) (F := D 0 * D 1) (h1 g0 g1).1 (by simp)
    rw [ct_del g1, h2] at c1
    refine ⟨cntT (fun g => T g && !wlS (N 89) g) (D 0 * D 1), by omega, valT (fun g => T g && !wlS (N 89) g) (D 0 * D 1), ?_, ?_⟩
    · refine (tk_mem _ _ 0 _ (Nat.le_refl _)).mpr ⟨fun g => T g && !wlS (N 89) g, fun g hg => ?_, rfl, (Nat.zero_add _).symm⟩
      have hg' := Bool.and_eq_true _ _ |>.mp hg
      have := h1 g hg'.1
      refine ⟨by omega, this.1, ?_⟩
      unfold amFr
      rw [hg'.2]
      simp [this.2]
    · rw [← hb]
      refine am_same ?_
      intro g hg hwg
      rw [h3, vt_bit, vt_bit, hwg]
      simp
  · refine Or.inl ((tk_mem _ _ 0 _ (Nat.le_refl _)).mpr ⟨T, fun g hg => ⟨by omega, (h1 g hg).1, ?_⟩, h2, by rw [h3, Nat.zero_add]⟩)
    have hwg : wlS (N 89) g = false := by
      cases hq : wlS (N 89) g with
      | false => rfl
      | true => exact absurd ⟨g, hg, hq⟩ hw
    unfold amFr
    rw [hwg]
    simp [(h1 g hg).2]
theorem tk_dm {n m : Nat} (h : m ∈ tkL (D 0 * D 1) (amFr D N) (D 0 * D 1) n 0) : m ∈ dmL (N 89 108) (D 0 * D 1) n 0 := by
  obtain ⟨T, h1, h2, h3⟩ := (tk_mem _ _ 0 _ (Nat.le_refl _)).mp h
  refine (dm_mem (F := D 0 * D 1) _ n 0 m (Nat.le_refl _)).mpr ⟨T, fun g hg => ⟨(h1 g hg).2.1, ?_⟩, h2, h3⟩
  have := (h1 g hg).2.2
  unfold amFr at this
  have := (Bool.and_eq_true _ _ |>.mp this).2
  simpa using this
theorem am_eq {n : Nat} (hno : ∀ n', n' < n → amR D N n' = none) : amK D N n = amR D N n := by
  obtain ⟨f1, f2⟩ := fold_least (p := amBl D N) (tkL (D 0 * D 1) (amFr D N) (D 0 * D 1) n 0) none
  have hbad : ∀ m, m ∈ dmL (N 89 108) (D 0 * D 1) n 0 → amBl D N m = true → m ∈ tkL (D 0 * D 1) (amFr D N) (D 0 * D 1) n 0 := by
    intro m hm hb
    rcases am_min hm hb with h | ⟨n', hn', m', hm', hb'⟩
    · exact h
    · obtain ⟨e1, _⟩ := fold_least (p := amBl D N) (tkL (D 0 * D 1) (amFr D N) (D 0 * D 1) n' 0) none
      have := (e1 (hno n' hn')).2 m' hm'
      rw [hb'] at this
      cases this
  cases hr : amR D N n with
  | none =>
    have hall := (f1 hr).2
    cases hk : amK D N n with
    | none => rfl
    | some m =>
      obtain ⟨h1, h2, _⟩ := find_least (dm_asc _ _ _) hk
      have := hall m (hbad m h1 h2)
      rw [h2] at this
      cases this
  | some b =>
    obtain ⟨g1, g2, _⟩ := f2 b hr
    have gb : b ∈ tkL (D 0 * D 1) (amFr D N) (D 0 * D 1) n 0 ∧ amBl D N b = true := by
      rcases g1 with g1 | g1
      · cases g1
      · exact g1
    cases hk : amK D N n with
    | none =>
      have := List.find?_eq_none.mp hk b (tk_dm gb.1)
      exact absurd gb.2 this
    | some m =>
      obtain ⟨h1, h2, h3⟩ := find_least (dm_asc _ _ _) hk
      have e1 := h3 b (tk_dm gb.1) gb.2
      have e2 := g2 m (hbad m h1 h2) h2
      have : m = b := by omega
      rw [this]
theorem sm_one {a : Nat} : ∀ n, sumR (fun g => b2n (g = a)) n ≤ 1 := by
  intro n
  induction n with
  | zero => exact Nat.zero_le _
  | succ n ih =>
    show sumR (fun g => b2n (g = a)) n + b2n (n = a) ≤ 1
    by_cases z : n = a
    · rw [b2n_t z, sm_0 n (fun q hq => b2n_f (by omega))]
      exact Nat.le_refl _
    · rw [b2n_f z]; omega
theorem sm_le {f g : Nat → Nat} : ∀ n, (∀ q, q < n → f q ≤ g q) → sumR f n ≤ sumR g n := by
  intro n
  induction n with
  | zero => intro _; exact Nat.le_refl _
  | succ n ih =>
    intro h
    have h1 := ih (fun q hq => h q (by omega))
    have h2 := h n (by omega)
    show sumR f n + f n ≤ sumR g n + g n
    omega
/-- three dams are enough -/
theorem am_three (h : invB D N I J t) : ∃ n, n ≤ 3 ∧ amR D N n ≠ none := by
  have hF := dm_F h.1.1
  have hC := h.1.1.2.2.1
  have hs := h.2.2.2.2.1.1.2.1
  have hsF : N 89 108 < D 0 * D 1 := by omega
  let T : Nat → Bool := fun g => amFr D N g && (decide (g < D 0 * D 1) && besW (D 0) (D 1) (fun y => y == N 89 108) g 4)
  have hT : ∀ g, T g = true → g < D 0 * D 1 ∧ amFr D N g = true ∧ ∃ w, w < 4 ∧ bsd (D 0) (D 1) (N 89 108) w = some g := by
    intro g hg
    have h1 := Bool.and_eq_true _ _ |>.mp hg
    have h2 := Bool.and_eq_true _ _ |>.mp h1.2
    have hgF := of_decide_eq_true h2.1
    obtain ⟨w, y, a1, a2, a3⟩ := (besW_iff 4).mp h2.2
    have e : y = N 89 108 := by simpa using a3
    rw [e] at a2
    obtain ⟨v, hv, hvb⟩ := bsd_sym hC a1 hgF a2
    exact ⟨hgF, h1.1, v, hv, hvb⟩
  have hcnt : cntT T (D 0 * D 1) ≤ 3 := by
    have hle : cntT T (D 0 * D 1) ≤ sumR (fun g => b2n (g = N 89 108 + D 1) + (b2n (g = N 89 108 - 1) + b2n (g = N 89 108 + 1))) (D 0 * D 1) := by
      refine sm_le _ (fun g hg => ?_)
      by_cases z : T g = true
      · rw [b2n_t z]
        obtain ⟨_, _, w, hw, hb⟩ := hT g z
        have hc : w = 0 ∨ w = 1 ∨ w = 2 ∨ w = 3 := by omega
        rcases hc with rfl | rfl | rfl | rfl
        · have hb' : (if N 89 108 / D 1 + 1 < D 0 then some (N 89 108 + D 1) else none) = some g := hb
          split at hb'
          · cases hb'
            rw [b2n_t rfl]
            omega
          · cases hb'
        · have hb' : (if 0 < N 89 108 % D 1 then some (N 89 108 - 1) else none) = some g := hb
          split at hb'
          · cases hb'
            rw [b2n_t (P := N 89 108 - 1 = N 89 108 - 1) rfl]
            omega
          · cases hb'
        · have hb' : (if N 89 108 % D 1 + 1 < D 1 then some (N 89 108 + 1) else none) = some g := hb
          split at hb'
          · cases hb'
            rw [b2n_t (P := N 89 108 + 1 = N 89 108 + 1) rfl]
            omega
          · cases hb'
        · have hb' : (if 0 < N 89 108 / D 1 then some (N 89 108 - D 1) else none) = some g := hb
          rw [Nat.div_eq_of_lt hs] at hb'
          cases hb'
      · rw [b2n_f z]; exact Nat.zero_le _
    rw [sm_plus, sm_plus] at hle
    have s1 := sm_one (a := N 89 108 + D 1) (D 0 * D 1)
    have s2 := sm_one (a := N 89 108 - 1) (D 0 * D 1)
    have s3 := sm_one (a := N 89 108 + 1) (D 0 * D 1)
    omega
  have hbl : amBl D N (valT T (D 0 * D 1)) = true := by
    have honly : ∀ k g, amF D N (valT T (D 0 * D 1)) k g = true → g = N 89 108 := by
      intro k
      induction k with
      | zero =>
        intro g hg
        have hg' : (amA N g && amO D N (valT T (D 0 * D 1)) g) = true := hg
        exact of_decide_eq_true (Bool.and_eq_true _ _ |>.mp hg').1
      | succ k ih =>
        intro g hg
        have hgF := am_in hg
        have hO := fl_open _ hg
        have hg' : (amF D N (valT T (D 0 * D 1)) k g || (amO D N (valT T (D 0 * D 1)) g && besW (D 0) (D 1) (amF D N (valT T (D 0 * D 1)) k) g 4)) = true := hg
        rcases Bool.or_eq_true _ _ |>.mp hg' with h1 | h1
        · exact ih g h1
        · obtain ⟨v, y, a1, a2, a3⟩ := (besW_iff 4).mp (Bool.and_eq_true _ _ |>.mp h1).2
          have e := ih y a3
          rw [e] at a2
          apply Classical.byContradiction
          intro hne
          unfold amO at hO
          have h2 := (Bool.and_eq_true _ _ |>.mp (Bool.and_eq_true _ _ |>.mp hO).2)
          have hTg : T g = true := by
            show (amFr D N g && (decide (g < D 0 * D 1) && besW (D 0) (D 1) (fun y => y == N 89 108) g 4)) = true
            unfold amFr
            rw [h2.1, (besW_iff 4).mpr ⟨v, N 89 108, a1, a2, by simp⟩]
            simp [hne, hgF]
          have h3 := h2.2
          rw [vt_bit, hTg] at h3
          simp [hgF] at h3
    unfold amBl
    rw [am_fls]
    · rfl
    · intro g hg
      rw [honly _ g hg]
      omega
  refine ⟨cntT T (D 0 * D 1), hcnt, ?_⟩
  intro hnone
  obtain ⟨e1, _⟩ := fold_least (p := amBl D N) (tkL (D 0 * D 1) (amFr D N) (D 0 * D 1) (cntT T (D 0 * D 1)) 0) none
  have := (e1 hnone).2 (valT T (D 0 * D 1)) ((tk_mem _ _ 0 _ (Nat.le_refl _)).mpr ⟨T, fun g hg => ⟨by omega, (hT g hg).1, (hT g hg).2.1⟩, rfl, (Nat.zero_add _).symm⟩)
  rw [hbl] at this
  cases this
end M4
