/-! land: the pair. From wip/whole/src. -/
section D6
variable {ko : aKo} {d k : Nat} {is : List Instr} {ls st : List Value} {σ : aH} {D : Nat → Nat} {N : Nat → Nat → Nat} {I : Nat → Nat → Int32} {J : Nat → Nat → Int64} {x t : Nat} {Q : Option Value → aH → Prop} {P : (Option Value ⊕ Unit) → aH → Prop}
theorem o_land (h : inv D N I J t) (ht : t + 300 < 1000000000) : opO ko d 153 5 [] D N I J x (t + 300) := by
  obtain ⟨t1, t2, t3⟩ := id h.1.2.1
  have e91 : u2 N 1 1 0 91 = N 91 := u2_nb (by decide)
  have e11 : u2 N 1 1 0 86 11 = N 86 11 := u2_ab (by decide)
  have hb : ∀ i, i < N 86 11 → u2 N 1 1 0 91 i < 256 := fun i hi => by rw [e91]; exact (t3 i hi).2
  by_cases h0 : d26 (N 91) (N 86 11) 0
  · by_cases h1 : d26 (N 91) (N 86 11) 1
    · have hd := h0.2
      have hd1 := h1.2
      have hm : (N 91 0 - 48) * (N 91 1 - 48) ≤ 6 * 6 := Nat.mul_le_mul (by omega) (by omega)
      obtain ⟨k, hk⟩ := lnK_ex (N 91) (N 86 11) (2 + (N 91 0 - 48) * (N 91 1 - 48)) (by omega)
      by_cases hok : k = 2 + (N 91 0 - 48) * (N 91 1 - 48) ∧ N 86 11 ≤ 2 + (N 91 0 - 48) * (N 91 1 - 48)
      · obtain ⟨ek, hle⟩ := hok
        rw [ek] at hk
        refine k_153 h.1 h0 h1 hk hle ?_
        intro N1 I1 J1 hC
        obtain ⟨c1, c2, c3, c4, c5, c6, c7, c8, c9⟩ := hC
        have f1 : ∀ b q, b ≠ 6 → b ≠ 7 → b ≠ 20 → b ≠ 21 → ¬ (b = 32 ∧ q = 2) → ¬ (b = 65 ∧ q = 3) → ¬ (b = 69 ∧ q = 3) → ¬ (b = 1 ∧ q = 1) → u2 N1 1 1 0 b q = N b q := by
          intro b q y1 y2 y3 y4 y5 y6 y7 y8
          rw [u2_rd, if_neg y8]
          exact c7 b q y1 y2 y3 y4 y5 y6 y7
        have f86 : ∀ b q, 86 ≤ b → u2 N1 1 1 0 b q = N b q := fun b q y => f1 b q (by omega) (by omega) (by omega) (by omega) (by omega) (by omega) (by omega) (by omega)
        have g91 : u2 N1 1 1 0 91 = N 91 := by funext q; exact f86 91 q (by decide)
        obtain ⟨kp1, m, kp2, kp3, kp4⟩ := id h.1.2.2.2.2.2.2.1
        have hr5 := r_5 (ko := ko) (d := d) (D := lnD D (N 91 0 - 48) (N 91 1 - 48)) (N := u2 N1 1 1 0) (I := I1) (J := J1) (x := x) (n := N 86 11) (Q := fun w σ2 => some (Value.int (nI ((N 91 0 - 48) * (N 91 1 - 48)))) = w ∧ (some (Value.int (nI ((N 91 0 - 48) * (N 91 1 - 48))))).isSome = true ∧ ∃ D' N' I' J', σ2 = hp D' N' I' J' x ∧ inv D' N' I' J' (t + 300)) (f86 86 11 (by decide)) t2 (fun i hi => by rw [g91]; exact (t3 i hi).2)
        rw [g91] at hr5
        refine hr5 h0 h1 hk hle (fun q hq => by rw [f86 89 q (by decide)]; exact h.1.2.2.2.2.1.1.2.2.2.2 q hq) (by rw [f86 86 5 (by decide)]; omega) ?_
        intro N2 I2 r1 r2 r3 r4 r5 r6 r7 r8
        rw [f86 86 5 (by decide)] at r4
        have fr : ∀ b q, b ≠ 92 → b ≠ 89 → ¬ (b = 86 ∧ (q = 0 ∨ q = 11 ∨ q = 12 ∨ q = 13 ∨ q = 14 ∨ q = 26 ∨ q = 5 ∨ q = 46 ∨ q = 51)) → b ≠ 6 → b ≠ 7 → b ≠ 20 → b ≠ 21 → ¬ (b = 32 ∧ q = 2) → ¬ (b = 65 ∧ q = 3) → ¬ (b = 69 ∧ q = 3) → ¬ (b = 1 ∧ q = 1) → N2 b q = N b q := fun b q a1 a2 a3 y1 y2 y3 y4 y5 y6 y7 y8 => (r7 b q a1 a2 a3).trans (f1 b q y1 y2 y3 y4 y5 y6 y7 y8)
        have f2 : ∀ b q, b ≠ 92 → b ≠ 89 → b ≠ 86 → b ≠ 1 → N2 b q = N1 b q := fun b q a1 a2 a3 a4 => (r7 b q a1 a2 (by omega)).trans (u2_ab a4)
        have fI : ∀ b q, b ≠ 92 → b ≠ 8 → ¬ (b = 0 ∧ q = 13) → I2 b q = I b q := fun b q a1 a2 a3 => (r8 b q a1).trans (c8 b q a2 a3)
        have hdm : dmO (u1 (u1 (lnD D (N 91 0 - 48) (N 91 1 - 48)) 0 (N 91 0 - 48)) 1 (N 91 1 - 48)) := ⟨by show 2 ≤ N 91 0 - 48; omega, by show N 91 0 - 48 ≤ 6; omega, by show 2 ≤ N 91 1 - 48; omega, by show N 91 1 - 48 ≤ 6; omega⟩
        have hS0 : ∀ q, 36 ≤ q → lnS (N 91) ((N 91 0 - 48) * (N 91 1 - 48)) q = 0 := fun q hq => by unfold lnS; rw [if_neg (by omega)]
        refine ⟨rfl, rfl, _, N2, I2, J1, rfl, ⟨⟨hdm, rfl, rfl, ?_⟩, ?_, ?_, ?_, ?_, ?_, ?_, ?_, ?_, ?_⟩, ?_⟩
        · have := ldO_f (N' := N2) (I' := I2) (J' := J1) c1 (fun q => ⟨f2 6 q (by decide) (by decide) (by decide) (by decide), f2 7 q (by decide) (by decide) (by decide) (by decide)⟩) (fun q => r8 8 q (by decide)) (fun _ => rfl)
          exact this
        · unfold iTx
          rw [r1]
          refine ⟨?_, by decide, fun i hi => absurd hi (Nat.not_lt_zero i)⟩
          rw [r7 1 1 (by decide) (by decide) (by omega), u2_same]
        · obtain ⟨s1, s2, s3, s4⟩ := h.1.2.2.1
          have e6 : N2 86 6 = N 86 6 := fr 86 6 (by decide) (by decide) (by omega) (by decide) (by decide) (by decide) (by decide) (by omega) (by omega) (by omega) (by omega)
          have e9 : N2 9 1 = N 9 1 := fr 9 1 (by decide) (by decide) (by omega) (by decide) (by decide) (by decide) (by decide) (by omega) (by omega) (by omega) (by omega)
          unfold iSk
          rw [e6, e9]
          refine ⟨s1, s2, s3, fun i hi => ?_⟩
          rw [fr 10 i (by decide) (by decide) (by omega) (by decide) (by decide) (by decide) (by decide) (by omega) (by omega) (by omega) (by omega), fr 88 i (by decide) (by decide) (by omega) (by decide) (by decide) (by decide) (by decide) (by omega) (by omega) (by omega) (by omega)]
          exact s4 i hi
        · obtain ⟨s1, s2, s3⟩ := h.1.2.2.2.1
          have e93 : N2 93 = N 93 := by funext q; exact fr 93 q (by decide) (by decide) (by omega) (by decide) (by decide) (by decide) (by decide) (by omega) (by omega) (by omega) (by omega)
          have e18 : N2 86 18 = N 86 18 := fr 86 18 (by decide) (by decide) (by omega) (by decide) (by decide) (by decide) (by decide) (by omega) (by omega) (by omega) (by omega)
          unfold iRl
          rw [e93, e18]
          refine ⟨s1, (fr 11 2 (by decide) (by decide) (by omega) (by decide) (by decide) (by decide) (by decide) (by omega) (by omega) (by omega) (by omega)).trans s2, fun k hk => ?_⟩
          rw [fI (11 + 1) k (by decide) (by decide) (by omega)]
          exact s3 k hk
        · rw [r2]
          refine ⟨⟨fun g hg => ?_, ?_, ?_, ?_, fun q hq => hS0 q (by omega)⟩, fun g z1 z2 => ?_, ⟨?_, ?_⟩, ?_⟩
          · rw [hS0 (36 + g) (by omega), hS0 (72 + g) (by omega)]
            refine ⟨?_, by decide, by decide⟩
            unfold lnS
            split
            · rename_i z
              have := isD_iff.mp (hk.2.2.1 (2 + g) (by omega) (by omega)).2
              omega
            · omega
          · rw [hS0 108 (by omega)]
            show 0 < N 91 1 - 48
            omega
          · rw [hS0 110 (by omega)]; omega
          · rw [hS0 109 (by omega)]; omega
          · rw [hS0 (36 + g) (by omega), hS0 (72 + g) (by omega)]
            have hge : (N 91 0 - 48) * (N 91 1 - 48) ≤ g := z1
            unfold lnS
            rw [if_neg (by omega)]
            exact ⟨rfl, rfl, rfl⟩
          · rw [hS0 109 (by omega)]; omega
          · rw [sumR_congr 36 (g := fun _ => 0) (fun q hq => hS0 (36 + q) (by omega))]
            decide
          · exact clS_c c2 (fun q => f2 20 q (by decide) (by decide) (by decide) (by decide)) (fun q => f2 21 q (by decide) (by decide) (by decide) (by decide)) (fun _ => rfl)
        · unfold iUn
          rw [r3]
          refine ⟨?_, by decide, ?_, fun j hj => absurd hj (Nat.not_lt_zero j)⟩
          · rw [f2 32 2 (by decide) (by decide) (by decide) (by decide)]; exact c3
          · rw [fr 32 1 (by decide) (by decide) (by omega) (by decide) (by decide) (by decide) (by decide) (by omega) (by omega) (by omega) (by omega)]
            exact h.1.2.2.2.2.2.1.2.2.1
        · unfold iKp
          rw [r4]
          refine ⟨by omega, 0, by decide, (r8 0 13 (by decide)).trans c4, fun i hi => ?_⟩
          obtain ⟨a1, a2, a3, a4⟩ := kp4 i hi
          have e122 : N2 122 i = N 122 i := fr 122 i (by decide) (by decide) (by omega) (by decide) (by decide) (by decide) (by decide) (by omega) (by omega) (by omega) (by omega)
          have e123 : N2 123 i = N 123 i := fr 123 i (by decide) (by decide) (by omega) (by decide) (by decide) (by decide) (by decide) (by omega) (by omega) (by omega) (by omega)
          rw [e122, e123, Nat.zero_testBit]
          refine ⟨a1, by omega, ?_, fun z => by cases z⟩
          symm
          apply decide_eq_false
          omega
        · unfold iSn
          rw [r5]
          exact ⟨(f2 65 3 (by decide) (by decide) (by decide) (by decide)).trans c5, by decide, fun k hk => absurd hk (Nat.not_lt_zero k)⟩
        · unfold iMk
          rw [r6]
          exact ⟨(f2 69 3 (by decide) (by decide) (by decide) (by decide)).trans c6, by decide, fun k hk => absurd hk (Nat.not_lt_zero k)⟩
        · intro q hq
          rw [fr 90 q (by decide) (by decide) (by omega) (by decide) (by decide) (by decide) (by decide) (by omega) (by omega) (by omega) (by omega)]
          exact h.1.2.2.2.2.2.2.2.2.2 q hq
        · refine td_same h.2 (fr 3 1 (by decide) (by decide) (by omega) (by decide) (by decide) (by decide) (by decide) (by omega) (by omega) (by omega) (by omega)) (fr 86 1 (by decide) (by decide) (by omega) (by decide) (by decide) (by decide) (by decide) (by omega) (by omega) (by omega) (by omega)) (fun q => c9 4 q (by decide) (by decide)) (fun q => c9 87 q (by decide) (by decide))
      · have h154 := fun Q => t_154c (ko := ko) (d := d) (x := x) (Q := Q) h.1 h0 h1 hk
        rw [if_neg hok] at h154
        refine op_bad (v := -1 - nI k) h (fun Q => k_153w rfl (by have := hk.2.1; omega) h154) (fun Q hQ => ?_)
        refine r_5w (n := N 86 11) (w := k) e11 t2 hb (Or.inr (Or.inr ?_)) hQ
        rw [e91]
        exact ⟨h0, h1, hk, hok⟩
    · refine op_bad (v := -1 - nI 1) h (fun Q => k_153w rfl (by decide) (fun Q => t_154b h.1 h0 h1)) (fun Q hQ => ?_)
      refine r_5w (n := N 86 11) (w := 1) e11 t2 hb (Or.inr (Or.inl ?_)) hQ
      rw [e91]
      exact ⟨rfl, h0, h1⟩
  · refine op_bad (v := -1 - nI 0) h (fun Q => k_153w rfl (by decide) (fun Q => t_154a h.1 h0)) (fun Q hQ => ?_)
    refine r_5w (n := N 86 11) (w := 0) e11 t2 hb (Or.inl ?_) hQ
    rw [e91]
    exact ⟨rfl, h0⟩
end D6
