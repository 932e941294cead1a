/-! The class: dislike, liked. From wip/whole/src. -/
/-- a state of the class holds a row -/
def clS (N : Nat → Nat → Nat) (J : Nat → Nat → Int64) (s : Nat) (S : Nat → Nat) : Prop := (∀ f, f < 36 → N (s + 1) f = S f) ∧ (∀ f, f < 64 → tb (J s 1) f = (decide (f < 36) && decide (S (36 + f) = 1)) ∧ tb (J s 2) f = (decide (f < 36) && decide (S (72 + f) = 1))) ∧ N s 3 = S 108 ∧ N s 4 = S 109 ∧ N s 5 = S 110
def dslG (C : Nat) (c : Nat → Nat) (n : Nat) (sk : Nat → Nat) (S : Nat → Nat) : Nat → Nat → Int32 := fun g b => rlv c n (asks C sk S g b)
/-- the river of the class looks at a row by a rule; what it knows of dislikes is so -/
def rvO (D : Nat → Nat) (N : Nat → Nat → Nat) (I : Nat → Nat → Int32) (J : Nat → Nat → Int64) (s ru : Nat) (c : Nat → Nat) (n : Nat) (sk : Nat → Nat) (S : Nat → Nat) : Prop := N 26 2 = s ∧ N 26 3 = ru ∧ N 26 7 = sk (S 109) ∧ ∀ f b, f < D 2 * D 3 → b < 2 → tb (J 29 b) f = true → I 28 (f * 2 + b) = dslG (D 3) c n sk S f b
def frI (b q : Nat) : Bool := b == 27 || (b == 28 || (b == 13 || b == 16))
section K3
variable {ko : aKo} {d k : Nat} {is : List Instr} {ls st : List Value} {σ : aH} {D : Nat → Nat} {N : Nat → Nat → Nat} {I : Nat → Nat → Int32} {J : Nat → Nat → Int64} {x : Nat} {Q : Option Value → aH → Prop} {P : (Option Value ⊕ Unit) → aH → Prop}
theorem wc_267h {m x0 : Nat} (h : ruB m = true) (h3 : aCat st ≤ 8) (h5 : 0 < (aP.2.1 k).2.2.2.1) : aWp ko d k (.invokestatic 267 :: is) ls (.ref x0 :: .ref m :: st) (hp D N I J x) P = aMm ko d 267 [.ref m, .ref x0] (hp D N I J x) (fun v σ1 => aWp ko d k is ls (v.toList ++ st) σ1 P) := wc_267 h h3 h5
theorem t_258 {s ru n f bs : Nat} {c sk S : Nat → Nat} (hs : stB s = true) (hu : ruB ru = true) (hL : ldO D N I J) (hS : clS N J s S) (hw : rwO (D 3) S) (hr : ruO N I ru c n) (ok : okc c n) (hv : rvO D N I J s ru c n sk S) (hf : f < D 2 * D 3) (hb : bs < 2)
    (hQ : ∀ (I' : Nat → Nat → Int32) (J' : Nat → Nat → Int64), rvO D N I' J' s ru c n sk S → (∀ b q, frI b q = false → I' b q = I b q) → (∀ b q, b ≠ 29 → J' b q = J b q) → Q (some (.int (dslG (D 3) c n sk S f bs))) (hp D N I' J' x)) :
    aMm ko d 258 [.ref 26, .int (nI f), .int (nI bs)] (hp D N I J x) Q := by
  have hF := ld_F hL
  have h4 := hL.2.1
  have hru := ru_or hu
  have hso := st_or hs
  obtain ⟨v2, v3, v7, vk⟩ := id hv
  obtain ⟨sh, sb, s3, s4, s5⟩ := id hS
  have e6 := hL.2.2.1 f hf
  have hbed : b2n (tb (J s 2) f = true) = S (72 + f) := by
    have := (hw.1 f (by omega)).2.2
    rw [(sb f (by omega)).2]
    by_cases q : S (72 + f) = 1
    · rw [b2n_t (by simp [q]; omega), q]
    · rw [b2n_f (by simp [q])]; omega
  have ht := hw.2.2.2.1
  have hh := sh f (by omega)
  rw [me_258]
  by_cases hk : tb (J 29 bs) f = true
  · simp (disch := (first | omega | exact aCat_8 (by with_unfolding_all rfl) | exact rk_lt (by with_unfolding_all rfl) | exact aCat_16 (by with_unfolding_all rfl) | exact rk_eq (by with_unfolding_all rfl) | assumption | exact b2n_lt _ | exact id_b (by with_unfolding_all rfl) | (simp (disch := omega) only [u2_same, u2_ab, u2_aq]; done) | (simp (disch := omega) only [u2_same, u2_ab, u2_aq]; omega) | fail)) only [al_16512, wp_iload_1, wk_2, wp_imul, wp_iload_2, wp_iadd, wp_istore_3, wp_aloadr_0, wp_aloadk_0, hg_26_6, ha_29l, ha_29s, wc_161, t_161, wz_ne_t, wz_ne_f, wb_ne_t, wb_ne_f, wm_ne_1, wm_ne_2, hg_26_4, ha_27l, ha_27s, wk_0, hg_26_2, hg_20_0, ha_21l, ha_21s, hg_22_0, ha_23l, ha_23s, hg_24_0, ha_25l, ha_25s, wk_1, hg_20_2, hg_22_2, hg_24_2, wk_3, hg_26_7, wk_4, hg_20_4, hg_22_4, hg_24_4, wk_7, wp_iremn, wk_5, hg_26_0, hg_5_7, ha_6l, ha_6s, wk_6, hg_5_8, ha_7l, ha_7s, hg_26_5, ha_28l, ha_28s, wp_iload_3, hg_26_3, wp_dup2, wl_1, wp_lshl, wp_lor, wp_jsr, al_16513, wp_ireturn, nl_i, nl_r, nl_k, nl_j, nl_l, nI_add, pk_mul, pk_sub, tl_s, tl_n, aL_inl, u2_same, u2_ab, u2_aq, nI_l, lN_i, Nat.add_zero, Nat.zero_add, Nat.zero_le, true_and, and_true, b2n_10, b2n_T, b2n_F, b2n_0, Decidable.not_not, not_true_eq_false, not_false_eq_true, Nat.reduceAdd, Nat.reduceMul]
    rw [vk f bs hf hb hk]
    exact hQ I J hv (fun _ _ _ => rfl) (fun _ _ _ => rfl)
  · simp (disch := (first | omega | exact aCat_8 (by with_unfolding_all rfl) | exact rk_lt (by with_unfolding_all rfl) | exact aCat_16 (by with_unfolding_all rfl) | exact rk_eq (by with_unfolding_all rfl) | assumption | exact b2n_lt _ | exact id_b (by with_unfolding_all rfl) | (simp (disch := omega) only [u2_same, u2_ab, u2_aq]; done) | (simp (disch := omega) only [u2_same, u2_ab, u2_aq]; omega) | fail)) only [al_16512, wp_iload_1, wk_2, wp_imul, wp_iload_2, wp_iadd, wp_istore_3, wp_aloadr_0, wp_aloadk_0, hg_26_6, ha_29l, ha_29s, wc_161, t_161, wz_ne_t, wz_ne_f, wb_ne_t, wb_ne_f, wm_ne_1, wm_ne_2, hg_26_4, ha_27l, ha_27s, wk_0, hg_26_2, hg_20_0, ha_21l, ha_21s, hg_22_0, ha_23l, ha_23s, hg_24_0, ha_25l, ha_25s, wk_1, hg_20_2, hg_22_2, hg_24_2, wk_3, hg_26_7, wk_4, hg_20_4, hg_22_4, hg_24_4, wk_7, wp_iremn, wk_5, hg_26_0, hg_5_7, ha_6l, ha_6s, wk_6, hg_5_8, ha_7l, ha_7s, hg_26_5, ha_28l, ha_28s, wp_iload_3, hg_26_3, wp_dup2, wl_1, wp_lshl, wp_lor, wp_jsr, al_16513, wp_ireturn, nl_i, nl_r, nl_k, nl_j, nl_l, nI_add, pk_mul, pk_sub, tl_s, tl_n, aL_inl, u2_same, u2_ab, u2_aq, nI_l, lN_i, Nat.add_zero, Nat.zero_add, Nat.zero_le, true_and, and_true, b2n_10, b2n_T, b2n_F, b2n_0, Decidable.not_not, not_true_eq_false, not_false_eq_true, Nat.reduceAdd, Nat.reduceMul, v2, v3, v7, s4, st_g0 hs, st_g1 hs, st_g2 hs, st_g4 hs, st_hl hs, hh, hbed, e6.1, e6.2.1, wc_267h hu]
    refine t_267 hu ?_ ok ?_
    · refine ⟨hr.1, ?_⟩
      intro k hk
      have hne : ru + 1 ≠ 27 := by omega
      simp only [u2_ab hne]
      exact hr.2 k hk
    intro I' hI'
    simp (disch := (first | omega | exact aCat_8 (by with_unfolding_all rfl) | exact rk_lt (by with_unfolding_all rfl) | exact aCat_16 (by with_unfolding_all rfl) | exact rk_eq (by with_unfolding_all rfl) | assumption | exact b2n_lt _ | exact id_b (by with_unfolding_all rfl) | (simp (disch := omega) only [u2_same, u2_ab, u2_aq]; done) | (simp (disch := omega) only [u2_same, u2_ab, u2_aq]; omega) | fail)) only [al_16512, wp_iload_1, wk_2, wp_imul, wp_iload_2, wp_iadd, wp_istore_3, wp_aloadr_0, wp_aloadk_0, hg_26_6, ha_29l, ha_29s, wc_161, t_161, wz_ne_t, wz_ne_f, wb_ne_t, wb_ne_f, wm_ne_1, wm_ne_2, hg_26_4, ha_27l, ha_27s, wk_0, hg_26_2, hg_20_0, ha_21l, ha_21s, hg_22_0, ha_23l, ha_23s, hg_24_0, ha_25l, ha_25s, wk_1, hg_20_2, hg_22_2, hg_24_2, wk_3, hg_26_7, wk_4, hg_20_4, hg_22_4, hg_24_4, wk_7, wp_iremn, wk_5, hg_26_0, hg_5_7, ha_6l, ha_6s, wk_6, hg_5_8, ha_7l, ha_7s, hg_26_5, ha_28l, ha_28s, wp_iload_3, hg_26_3, wp_dup2, wl_1, wp_lshl, wp_lor, wp_jsr, al_16513, wp_ireturn, nl_i, nl_r, nl_k, nl_j, nl_l, nI_add, pk_mul, pk_sub, tl_s, tl_n, aL_inl, u2_same, u2_ab, u2_aq, nI_l, lN_i, Nat.add_zero, Nat.zero_add, Nat.zero_le, true_and, and_true, b2n_10, b2n_T, b2n_F, b2n_0, Decidable.not_not, not_true_eq_false, not_false_eq_true, Nat.reduceAdd, Nat.reduceMul, v2, v3]
    have ev : rlv c n (u2 (u2 (u2 (u2 (u2 (u2 (u2 I 27 0 (nI (S f))) 27 1 (nI bs)) 27 2 (nI (S (72 + f)))) 27 3 (nI (sk (S 109)))) 27 4 (nI (S 109 % 7))) 27 5 (nI (f / D 3))) 27 6 (nI (f % D 3)) 27) = dslG (D 3) c n sk S f bs := by
      refine rlv_congr ok ?_
      intro q hq
      have h8 : q = 0 ∨ q = 1 ∨ q = 2 ∨ q = 3 ∨ q = 4 ∨ q = 5 ∨ q = 6 := by omega
      rcases h8 with rfl | rfl | rfl | rfl | rfl | rfl | rfl <;> simp [u2, asks]
    rw [ev]
    refine hQ _ _ ⟨v2, v3, v7, ?_⟩ ?_ ?_
    · intro g b hg hb2 hq
      rw [u2_rd] at hq
      rw [u2_rd]
      by_cases q1 : g = f ∧ b = bs
      · obtain ⟨rfl, rfl⟩ := q1
        rw [if_pos ⟨rfl, rfl⟩]
      · have q2 : ¬ g * 2 + b = f * 2 + bs := by omega
        rw [if_neg (fun z => q2 z.2)]
        rw [hI' 28 _ (by omega)]
        simp only [u2_ab (show (28 : Nat) ≠ 27 by decide)]
        refine vk g b hg hb2 ?_
        by_cases q3 : b = bs
        · subst q3
          rw [if_pos ⟨rfl, rfl⟩, tb_or, tb_p2 (by omega) (by omega)] at hq
          have : ¬ g = f := fun z => q1 ⟨z, rfl⟩
          simpa [this] using hq
        · rw [if_neg (fun z => q3 z.2)] at hq
          exact hq
    · intro b q hbq
      have a1 : b ≠ 28 := by
        rintro rfl
        exact absurd hbq (by simp [frI])
      have a2 : b ≠ 27 := by
        rintro rfl
        exact absurd hbq (by simp [frI])
      have a3 : b ≠ ru + 2 := by
        rintro rfl
        rcases hru with rfl | rfl <;> exact absurd hbq (by simp [frI])
      rw [u2_ab a1, hI' b q a3]
      simp only [u2_ab a2]
    · intro b q hb
      rw [u2_ab hb]
end K3
