/-! numberOfTrailingZeros of small sets. From wip/whole/src. -/
def lowB (m k : Nat) : Bool := m.testBit k && (List.range k).all (fun i => !m.testBit i)
theorem tz_1 : ∀ m, m < 1024 → ∀ k, k < 10 → lowB m k = true → 1 ≤ m ∧ (nI m ^^^ (-1)) &&& nI (m - 1) = nI (2 ^ k - 1) := by decide +kernel
theorem tz_s : ∀ a, a < 512 → ∀ s, s < 17 → ((nI a).toUInt32 >>> ((nI s).toUInt32 &&& Int32.toUInt32 31)).toInt32 = nI (a / 2 ^ s) := by decide +kernel
section Z1
variable {ko : aKo} {d k : Nat} {is : List Instr} {ls st : List Value} {σ : aH} {D : Nat → Nat} {N : Nat → Nat → Nat} {I : Nat → Nat → Int32} {J : Nat → Nat → Int64} {x t : Nat} {Q : Option Value → aH → Prop} {P : (Option Value ⊕ Unit) → aH → Prop}
theorem t_120 {m k : Nat} (hm : m < 1024) (hk : k < 10) (h1 : 1 ≤ k) (hl : lowB m k = true) : aMm ko d 120 [.int (nI m)] σ Q = Q (some (.int (nI k))) σ := by
  obtain ⟨a1, a2⟩ := tz_1 m hm k hk hl
  have hc : k = 1 ∨ k = 2 ∨ k = 3 ∨ k = 4 ∨ k = 5 ∨ k = 6 ∨ k = 7 ∨ k = 8 ∨ k = 9 := by omega
  rw [me_120]
  rcases hc with rfl | rfl | rfl | rfl | rfl | rfl | rfl | rfl | rfl
  all_goals simp (disch := (first | omega | exact aCat_8 (by with_unfolding_all rfl) | exact rk_lt (by with_unfolding_all rfl) | exact aCat_16 (by with_unfolding_all rfl) | exact rk_eq (by with_unfolding_all rfl) | assumption | exact b2n_lt _ | exact id_b (by with_unfolding_all rfl) | (simp (disch := omega) only [u2_same, u2_ab, u2_aq]; done) | (simp (disch := omega) only [u2_same, u2_ab, u2_aq]; omega) | fail)) only [al_7680, wp_iload_0, wk_m1, wp_ixor, wk_1, wp_isub, wp_iand, wp_istore_0, wz_gt_t, wz_gt_f, wm_gt_1, wm_gt_2, wk_32, wp_ireturn, al_7681, wp_istore_1, wk_65536, wn_le_t, wn_le_f, wp_iinc_1_16, wk_16, wp_iushr, wp_jsr, al_7682, wk_256, wp_iinc_1_8, wk_8, al_7683, wp_iinc_1_4, wk_4, al_7684, wp_iinc_1_2, wk_2, al_7685, wp_iload_1, wp_iadd, nl_i, nl_r, nl_k, nl_j, nl_l, nI_add, pk_mul, pk_sub, tl_s, tl_n, aL_inl, u2_same, u2_ab, u2_aq, nI_l, lN_i, Nat.add_zero, Nat.zero_add, Nat.zero_le, true_and, and_true, b2n_10, b2n_T, b2n_F, b2n_0, Decidable.not_not, not_true_eq_false, not_false_eq_true, Nat.reduceAdd, Nat.reduceMul, Nat.reduceSub, a2, tz_s, Nat.reducePow, Nat.reduceDiv]
end Z1
