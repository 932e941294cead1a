/-! The class: around; what courses rest on. From wip/whole/src. -/
theorem bst_congr {R C : Nat} {dis dis' : Nat → Nat → Int32} {sh sh' : Nat → Bool} {f : Nat} (hC : 0 < C) (hf : f < R * C) (hs : ∀ g, g < R * C → sh g = sh' g) (hd : ∀ g b, g < R * C → b < 2 → dis g b = dis' g b) : ∀ w, bst R C dis sh f w = bst R C dis' sh' f w := by
  intro w
  induction w with
  | zero => rfl
  | succ w ih =>
    unfold bst
    rw [ih]
    cases hb : bsd R C f w with
    | none => rfl
    | some g =>
      have hg := bsd_lt hC hf hb
      simp only [hs g hg, hd g _ hg (b2n_lt _)]
theorem crs_congr {R C : Nat} {dis dis' : Nat → Nat → Int32} {wl wl' : Nat → Bool} (hC : 0 < C) (hs : ∀ g, g < R * C → wl g = wl' g) (hd : ∀ g b, g < R * C → b < 2 → dis g b = dis' g b) : ∀ (n L : Nat) (p : Nat → Nat), p (L - 1) < R * C → crs R C dis wl n L p = crs R C dis' wl' n L p := by
  intro n
  induction n with
  | zero => intro L p _; rfl
  | succ n ih =>
    intro L p hp
    unfold crs
    rw [bst_congr (sh' := fun g => wl' g || onP L p g) hC hp (fun g hg => by rw [hs g hg]) hd 3]
    split
    · rfl
    · cases hb : bst R C dis' (fun g => wl' g || onP L p g) (p (L - 1)) 3 with
      | none => rfl
      | some bl =>
        obtain ⟨g, l⟩ := bl
        obtain ⟨⟨v, _, hv⟩, _⟩ := bst_some hb
        exact ih (L + 1) (upn p L g) (by simpa [upn] using bsd_lt hC hp hv)
theorem crs0_congr {R C s : Nat} {dis dis' : Nat → Nat → Int32} {wl wl' : Nat → Bool} (hC : 0 < C) (h : s < R * C) (hs : ∀ g, g < R * C → wl g = wl' g) (hd : ∀ g b, g < R * C → b < 2 → dis g b = dis' g b) : crs0 R C dis wl s = crs0 R C dis' wl' s := by
  unfold crs0
  rw [hs s h]
  split
  · rfl
  · exact crs_congr hC hs hd 36 1 _ (by simpa [upn] using h)
def arJ (D : Nat → Nat) (J : Nat → Nat → Int64) (s : Int64) : Int64 := ((s <<< (lN (D 3) &&& 63) ||| (s.toUInt64 >>> ((lN (D 3)).toUInt64 &&& Int64.toUInt64 63)).toInt64) ||| (((s &&& (J 5 5 ^^^ -1)).toUInt64 >>> ((lN 1).toUInt64 &&& Int64.toUInt64 63)).toInt64 ||| (s &&& (J 5 6 ^^^ -1)) <<< (lN 1 &&& 63))) &&& J 5 3
theorem besW_4 {R C : Nat} {o : Nat → Bool} {i : Nat} : besW R C o i 4 = ((decide (i / C + 1 < R) && o (i + C)) || (decide (0 < i % C) && o (i - 1)) || (decide (i % C + 1 < C) && o (i + 1)) || (decide (0 < i / C) && o (i - C))) := by
  simp only [besW, bsd, Bool.false_or]
  congr 1
  · congr 1
    · congr 1
      · by_cases h : i / C + 1 < R <;> simp [h]
      · by_cases h : 0 < i % C <;> simp [h]
    · by_cases h : i % C + 1 < C <;> simp [h]
  · by_cases h : 0 < i / C <;> simp [h]
theorem dv_iff {R C i : Nat} (hC : 0 < C) : i / C + 1 < R ↔ i + C < R * C := by
  rw [← Nat.add_div_right i hC, Nat.div_lt_iff_lt_mul hC]
theorem md_1 {C i : Nat} (hC : 2 ≤ C) : (i + 1) % C = 0 ↔ i % C + 1 = C := by
  have h1 : i % C < C := Nat.mod_lt _ (by omega)
  constructor
  · intro h
    by_cases h2 : i % C + 1 < C
    · have : (i + 1) % C = i % C + 1 := by
        rw [Nat.add_mod, Nat.mod_eq_of_lt (show 1 < C by omega), Nat.mod_eq_of_lt h2]
      omega
    · omega
  · intro h
    rw [Nat.add_mod, Nat.mod_eq_of_lt (show 1 < C by omega), h, Nat.mod_self]
theorem tb_around {D : Nat → Nat} {N : Nat → Nat → Nat} {I : Nat → Nat → Int32} {J : Nat → Nat → Int64} {s : Int64} (h : ldO D N I J) (hs : ∀ i, i < 64 → D 2 * D 3 ≤ i → tb s i = false) {i : Nat} (hi : i < 64) : tb (arJ D J s) i = (decide (i < D 2 * D 3) && besW (D 2) (D 3) (tb s) i 4) := by
  have hF := ld_F h
  have hC2 := h.1.2.2.1
  have hC6 := h.1.2.2.2
  have hl := h.2.2.2
  unfold arJ
  rw [tb_and, (hl i hi).1, Bool.and_comm]
  by_cases hiF : i < D 2 * D 3
  · have e0 : decide (i < D 2 * D 3) = true := decide_eq_true hiF
    rw [e0, Bool.true_and, Bool.true_and, besW_4, tb_or, tb_or, tb_or, tb_shl (by omega) hi, tb_ushr (by omega), tb_ushr (by omega), tb_shl (by omega) hi, tb_and, tb_and, tb_not (by omega)]
    have e1 : (decide (i / D 3 + 1 < D 2) && tb s (i + D 3)) = tb s (D 3 + i) := by
      rw [Nat.add_comm (D 3) i]
      by_cases q : i / D 3 + 1 < D 2
      · simp [q]
      · have q2 : ¬ i + D 3 < D 2 * D 3 := fun z => q ((dv_iff (by omega)).mpr z)
        have : tb s (i + D 3) = false := hs _ (by omega) (by omega)
        simp [this]
    have e2 : (decide (0 < i / D 3) && tb s (i - D 3)) = (decide (D 3 ≤ i) && tb s (i - D 3)) := by
      congr 1
      apply decide_eq_decide.mpr
      exact Nat.div_pos_iff.trans ⟨fun z => z.2, fun z => ⟨by omega, z⟩⟩
    have e3 : (decide (i % D 3 + 1 < D 3) && tb s (i + 1)) = (tb s (1 + i) && !tb (J 5 5) (1 + i)) := by
      rw [(hl (1 + i) (by omega)).2.2.1, Nat.add_comm 1 i]
      have hm : i % D 3 < D 3 := Nat.mod_lt _ (by omega)
      by_cases q : tb s (i + 1) = true
      · have q3 : i + 1 < D 2 * D 3 := by
          apply Classical.byContradiction
          intro z
          rw [hs (i + 1) (by omega) (by omega)] at q
          cases q
        rw [q]
        by_cases q2 : i % D 3 + 1 < D 3
        · have : ¬ (i + 1) % D 3 = 0 := fun z => by have := (md_1 hC2).mp z; omega
          simp [q2, this]
        · have : (i + 1) % D 3 = 0 := (md_1 hC2).mpr (by omega)
          simp [q2, this, q3]
      · simp at q
        simp [q]
    have e4 : (decide (0 < i % D 3) && tb s (i - 1)) = (decide (1 ≤ i) && (tb s (i - 1) && tb (J 5 6 ^^^ -1) (i - 1))) := by
      rw [tb_not (by omega), (hl (i - 1) (by omega)).2.2.2]
      by_cases q1 : 1 ≤ i
      · obtain ⟨j, rfl⟩ : ∃ j, i = j + 1 := ⟨i - 1, by omega⟩
        simp only [Nat.add_sub_cancel]
        have hm : j % D 3 < D 3 := Nat.mod_lt _ (by omega)
        have hjF : j < D 2 * D 3 := by omega
        by_cases q2 : j % D 3 + 1 = D 3
        · have : (j + 1) % D 3 = 0 := (md_1 hC2).mpr q2
          simp [this, q2, hjF]
        · have : ¬ (j + 1) % D 3 = 0 := fun z => q2 ((md_1 hC2).mp z)
          have : 0 < (j + 1) % D 3 := by omega
          simp [this, q2]
      · have : i = 0 := by omega
        subst this
        simp
    rw [e1, e2, e3, e4]
    generalize tb s (D 3 + i) = a1
    generalize (decide (D 3 ≤ i) && tb s (i - D 3)) = a2
    generalize (tb s (1 + i) && !tb (J 5 5) (1 + i)) = a3
    generalize (decide (1 ≤ i) && (tb s (i - 1) && tb (J 5 6 ^^^ -1) (i - 1))) = a4
    cases a1 <;> cases a2 <;> cases a3 <;> cases a4 <;> rfl
  · simp [hiF]
section K2
variable {ko : aKo} {d k : Nat} {is : List Instr} {ls st : List Value} {σ : aH} {D : Nat → Nat} {N : Nat → Nat → Nat} {I : Nat → Nat → Int32} {J : Nat → Nat → Int64} {x : Nat} {Q : Option Value → aH → Prop} {P : (Option Value ⊕ Unit) → aH → Prop}
theorem t_243 {s : Int64} (h : D 3 ≤ 6) : aMm ko d 243 [.ref 5, .long s] (hp D N I J x) Q = Q (some (.long (arJ D J s))) (hp D N I J x) := by
  rw [me_243]
  simp (disch := (first | omega | exact aCat_8 (by with_unfolding_all rfl) | exact rk_lt (by with_unfolding_all rfl) | exact aCat_16 (by with_unfolding_all rfl) | exact rk_eq (by with_unfolding_all rfl) | assumption | exact b2n_lt _ | exact id_b (by with_unfolding_all rfl) | (simp (disch := omega) only [u2_same, u2_ab, u2_aq]; done) | (simp (disch := omega) only [u2_same, u2_ab, u2_aq]; omega) | fail)) only [al_15552, wp_lload_1, wp_aloadr_0, wp_aloadk_0, hg_5_1, wp_lshl, wp_lushr, wp_lor, wp_lstore_3, hg_5_5, wl_m1, wp_lxor, wp_land, wk_1, hg_5_6, wp_lstore_5, wp_lload_3, wp_lload_5, hg_5_3, wp_lreturn, nl_i, nl_r, nl_k, nl_j, nl_l, nI_add, pk_mul, pk_sub, tl_s, tl_n, aL_inl, u2_same, u2_ab, u2_aq, nI_l, lN_i, Nat.add_zero, Nat.zero_add, Nat.zero_le, true_and, and_true, b2n_10, b2n_T, b2n_F, b2n_0, Decidable.not_not, not_true_eq_false, not_false_eq_true, Nat.reduceAdd, Nat.reduceMul]
  rfl
end K2
