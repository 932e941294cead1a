/-! year: the acts, by the class. From wip/whole/src. -/
/-- an act done to a row, or refused -/
def acS (D : Nat → Nat) (N : Nat → Nat → Nat) (k d1 d2 d3 : Nat) (S : Nat → Nat) : Option (Nat → Nat) :=
  if k = 0 then some (itS D N S d1)
  else if k = 1 then (if d1 < D 1 ∧ ¬ S 108 = d1 then some (upn S 108 d1) else none)
  else if ¬ (d1 < D 0 ∧ d2 < D 1) then none
  else if k = 2 then (if d3 ≤ S (d1 * D 1 + d2) then some (upn S (d1 * D 1 + d2) (S (d1 * D 1 + d2) - d3)) else none)
  else if k = 3 then (if S (d1 * D 1 + d2) + d3 ≤ 9 then some (upn S (d1 * D 1 + d2) (S (d1 * D 1 + d2) + d3)) else none)
  else (if S (36 + (d1 * D 1 + d2)) = 0 ∧ sumR (fun q => S (36 + q)) (D 0 * D 1) = 8 then none else some (upn S (36 + (d1 * D 1 + d2)) (1 - S (36 + (d1 * D 1 + d2)))))
section YV
variable {ko : aKo} {d k : Nat} {is : List Instr} {ls st : List Value} {σ : aH} {D : Nat → Nat} {N : Nat → Nat → Nat} {I : Nat → Nat → Int32} {J : Nat → Nat → Int64} {x t : Nat} {Q : Option Value → aH → Prop} {P : (Option Value ⊕ Unit) → aH → Prop}
theorem fld_lt {r c R C : Nat} (hr : r < R) (hc : c < C) : r * C + c < R * C := by
  have : (r + 1) * C ≤ R * C := Nat.mul_le_mul_right C hr
  rw [Nat.succ_mul] at this
  omega
theorem acS_G {u k d1 d2 d3 : Nat} {S S' : Nat → Nat} (h : invB D N I J t) (hS : rwG D u S) (hd1 : d1 ≤ 9) (hu : u + 9 < 1000000000) (he : acS D N k d1 d2 d3 S = some S') : rwG D (u + 9) S' := by
  have hF := dm_F h.1.1
  have hup : ∀ {v : Nat} {T : Nat → Nat}, rwG D v T → v ≤ u + 9 → rwG D (u + 9) T := fun hT hv => ⟨hT.1, hT.2.1, Nat.le_trans hT.2.2.1 hv, hT.2.2.2⟩
  unfold acS at he
  by_cases k0 : k = 0
  · rw [if_pos k0] at he
    cases he
    exact hup (rwG_it h hS (n := d1) (by omega)) (by omega)
  · rw [if_neg k0] at he
    by_cases k1 : k = 1
    · rw [if_pos k1] at he
      split at he
      · rename_i z
        cases he
        obtain ⟨a1, a2, a3, a4⟩ := hS
        have hr := rw_src a1 a2 z.1
        refine hup (v := u) ⟨hr.1, hr.2, by rw [upn, if_neg (by omega)]; exact a3, ?_⟩ (by omega)
        rw [sumR_congr 36 (g := fun q => S (36 + q)) (fun q hq => by rw [upn, if_neg (by omega)])]
        exact a4
      · cases he
    · rw [if_neg k1] at he
      split at he
      · cases he
      · rename_i z
        have z' : d1 < D 0 ∧ d2 < D 1 := Classical.byContradiction z
        have hf := fld_lt z'.1 z'.2
        by_cases k2 : k = 2
        · rw [if_pos k2] at he
          split at he
          · rename_i y
            cases he
            have hC := rwG_cut (n := d3) hF.1 hf hS
            unfold cutY at hC
            rw [if_pos y] at hC
            exact hup hC (by omega)
          · cases he
        · rw [if_neg k2] at he
          by_cases k3 : k = 3
          · rw [if_pos k3] at he
            split at he
            · rename_i y
              cases he
              obtain ⟨a1, a2, a3, a4⟩ := hS
              have hr := rw_up a1 a2 hf hF.1 (v := S (d1 * D 1 + d2) + d3) y
              exact hup (v := u) ⟨hr.1, hr.2, by rw [upn, if_neg (by omega)]; exact a3, w8_up (by omega) a4⟩ (by omega)
            · cases he
          · rw [if_neg k3] at he
            split at he
            · cases he
            · rename_i y
              cases he
              have hC := rwG_wal hF.1 hf hS
              unfold walY at hC
              rw [if_neg y] at hC
              exact hup hC (by omega)
/-- the class in the middle of a year -/
def yrC (D : Nat → Nat) (N0 N : Nat → Nat → Nat) (I0 I : Nat → Nat → Int32) (J0 J : Nat → Nat → Int64) (S : Nat → Nat) : Prop := rvA D N I J 20 11 (N0 93) (N0 86 18) S ∧ skC N = skC N0 ∧ N 9 1 = N0 9 1 ∧ aN N N0 ∧ sI I I0 ∧ aJ' J J0 ∧ (∀ b q, 86 ≤ b → N b q = N0 b q) ∧ (∀ b q, 86 ≤ b → J b q = J0 b q) ∧ (∀ b q, 32 ≤ b → b ≤ 63 → N b q = N0 b q ∧ J b q = J0 b q) ∧ clS N J 22 (N0 89) ∧ tdSC N N0 J J0
theorem yc_set {N0 N' : Nat → Nat → Nat} {I0 : Nat → Nat → Int32} {J0 J' : Nat → Nat → Int64} {S S' : Nat → Nat} (hD : yrC D N0 N I0 I J0 J S) (hr : rwO (D 3) S') (hc : clS N' J' 20 S') (h1 : ∀ b q, b ≠ 20 → b ≠ 21 → N' b q = N b q) (h2 : ∀ b q, b ≠ 20 → J' b q = J b q) : yrC D N0 N' I0 I J0 J' S' := by
  obtain ⟨⟨a1, a2, a3, a4, a5⟩, hsk, h91, hN, hI, hJ, h86, j86, hring, h22, hC⟩ := hD
  have e9 : N' 9 1 = N 9 1 := h1 9 1 (by decide) (by decide)
  refine ⟨⟨ldO_f a1 (fun q => ⟨h1 6 q (by decide) (by decide), h1 7 q (by decide) (by decide)⟩) (fun _ => rfl) (fun q => h2 5 q (by decide)), hc, hr, ⟨(h1 11 2 (by decide) (by decide)).trans a4.1, a4.2⟩, a5⟩, ?_, e9.trans h91, ?_, hI, ?_, fun b q hb => (h1 b q (by omega) (by omega)).trans (h86 b q hb), fun b q hb => (h2 b q (by omega)).trans (j86 b q hb), fun b q z1 z2 => ⟨(h1 b q (by omega) (by omega)).trans (hring b q z1 z2).1, (h2 b q (by omega)).trans (hring b q z1 z2).2⟩, clS_c h22 (fun q => h1 22 q (by decide) (by decide)) (fun q => h1 23 q (by decide) (by decide)) (fun q => h2 22 q (by decide)), ⟨(h1 3 1 (by decide) (by decide)).trans hC.1, fun q => (h2 4 q (by decide)).trans (hC.2 q)⟩⟩
  · rw [← hsk]
    unfold skC
    funext q
    rw [e9, h1 10 _ (by decide) (by decide)]
  · intro b q z y
    rw [h1 b q (by rintro rfl; cases y) (by rintro rfl; cases y)]
    exact hN b q z y
  · intro b q z y
    rw [h2 b q (by rintro rfl; cases y)]
    exact hJ b q z y
theorem yc_tide {N0 : Nat → Nat → Nat} {I0 : Nat → Nat → Int32} {J0 : Nat → Nat → Int64} {u n : Nat} {S : Nat → Nat} (h : invB D N0 I0 J0 t) (hS : rwG D u S) (hn : n ≤ 9) (hu : u + 9 < 1000000000) (hD : yrC D N0 N I0 I J0 J S)
    (hQ : ∀ (N' : Nat → Nat → Nat) (I' : Nat → Nat → Int32) (J' : Nat → Nat → Int64), yrC D N0 N' I0 I' J0 J' (itS D N0 S n) → Q (some (.int (nI (cmS D N0 S n)))) (hp D N' I' J' x)) : aMm ko d 254 [.ref 26, .ref 20, .ref 11, .int (nI n)] (hp D N I J x) Q := by
  obtain ⟨hA, hsk, h91, hN, hI, hJ, h86, j86, hring, h22, hC⟩ := hD
  refine t_254 (s := 20) (ru := 11) rfl rfl hA (by rw [h.1.2.1, h.1.2.2.1]; exact hS.2.1) (by rw [h91]; exact inv_s1 h) (by rw [h91]; exact inv_s2 h) (by omega) (by have := hS.2.2.1; omega) ?_
  intro N' I' J' hA' hN' hI' hJ' _
  rw [hsk, inv_it h] at hA'
  rw [hsk, inv_cm h]
  obtain ⟨f1, f2⟩ := pN_sk (s := 20) rfl hN'
  refine hQ N' I' J' ⟨hA', f1.trans hsk, f2.trans h91, ?_, sI_t (fI_s hI') hI, ?_, ?_, ?_, ?_, ?_, ⟨?_, ?_⟩⟩
  · intro b q z y
    rw [hN' b q (by rintro rfl; cases z) (by rintro ⟨rfl, _⟩; cases z) (by rintro rfl; cases y) (by rintro rfl; cases y)]
    exact hN b q z y
  · intro b q z y
    rw [hJ' b q (by rintro rfl; cases z) (by rintro ⟨rfl, _⟩; cases z) (by rintro rfl; cases y)]
    exact hJ b q z y
  · intro b q hb
    rw [hN' b q (by omega) (by omega) (by omega) (by omega)]
    exact h86 b q hb
  · intro b q hb
    rw [hJ' b q (by omega) (by omega) (by omega)]
    exact j86 b q hb
  · intro b q z1 z2
    rw [hN' b q (by omega) (by omega) (by omega) (by omega), hJ' b q (by omega) (by omega) (by omega)]
    exact hring b q z1 z2
  · exact clS_c h22 (fun q => hN' 22 q (by decide) (by omega) (by decide) (by decide)) (fun q => hN' 23 q (by decide) (by omega) (by decide) (by decide)) (fun q => hJ' 22 q (by decide) (by omega) (by decide))
  · rw [hN' 3 1 (by decide) (by omega) (by decide) (by decide)]; exact hC.1
  · intro q
    rw [hJ' 4 q (by decide) (by omega) (by decide)]; exact hC.2 q
def faI (D : Nat → Nat) (r : Nat) (y : Int32) : Int32 := if r < D 2 ∧ ¬ y < 0 ∧ y < nI (D 3) then nI r * nI (D 3) + y else -1
theorem t_244 {r : Nat} {y : Int32} (hr : r < 2147483648) (h2 : D 2 ≤ 6) : aMm ko d 244 [.ref 5, .int (nI r), .int y] (hp D N I J x) Q = Q (some (.int (faI D r y))) (hp D N I J x) := by
  unfold faI
  rw [me_244]
  by_cases h1 : r < D 2
  · by_cases h3 : y < 0
    · rw [if_neg (fun z => z.2.1 h3)]
      simp (disch := (first | omega | exact aCat_8 (by with_unfolding_all rfl) | exact rk_lt (by with_unfolding_all rfl) | exact aCat_16 (by with_unfolding_all rfl) | exact rk_eq (by with_unfolding_all rfl) | assumption | exact b2n_lt _ | exact id_b (by with_unfolding_all rfl) | (simp (disch := omega) only [u2_same, u2_ab, u2_aq]; done) | (simp (disch := omega) only [u2_same, u2_ab, u2_aq]; omega) | fail)) only [al_15616, wp_iload_1, wz_lt_t, wz_lt_f, wm_lt_1, wm_lt_2, wp_aloadr_0, wp_aloadk_0, hg_5_0, wn_ge_t, wn_ge_f, wp_iload_2, hg_5_1, wn_lt_t, wn_lt_f, wp_jsr, al_15617, wk_m1, wp_ireturn, al_15618, wp_imul, wp_iadd, nl_i, nl_r, nl_k, nl_j, nl_l, nI_add, pk_mul, pk_sub, tl_s, tl_n, aL_inl, u2_same, u2_ab, u2_aq, nI_l, lN_i, Nat.add_zero, Nat.zero_add, Nat.zero_le, true_and, and_true, b2n_10, b2n_T, b2n_F, b2n_0, Decidable.not_not, not_true_eq_false, not_false_eq_true, Nat.reduceAdd, Nat.reduceMul, Nat.reduceSub, wy_lt_t h3]
    · by_cases h4 : y < nI (D 3)
      · rw [if_pos ⟨h1, h3, h4⟩]
        simp (disch := (first | omega | exact aCat_8 (by with_unfolding_all rfl) | exact rk_lt (by with_unfolding_all rfl) | exact aCat_16 (by with_unfolding_all rfl) | exact rk_eq (by with_unfolding_all rfl) | assumption | exact b2n_lt _ | exact id_b (by with_unfolding_all rfl) | (simp (disch := omega) only [u2_same, u2_ab, u2_aq]; done) | (simp (disch := omega) only [u2_same, u2_ab, u2_aq]; omega) | fail)) only [al_15616, wp_iload_1, wz_lt_t, wz_lt_f, wm_lt_1, wm_lt_2, wp_aloadr_0, wp_aloadk_0, hg_5_0, wn_ge_t, wn_ge_f, wp_iload_2, hg_5_1, wn_lt_t, wn_lt_f, wp_jsr, al_15617, wk_m1, wp_ireturn, al_15618, wp_imul, wp_iadd, nl_i, nl_r, nl_k, nl_j, nl_l, nI_add, pk_mul, pk_sub, tl_s, tl_n, aL_inl, u2_same, u2_ab, u2_aq, nI_l, lN_i, Nat.add_zero, Nat.zero_add, Nat.zero_le, true_and, and_true, b2n_10, b2n_T, b2n_F, b2n_0, Decidable.not_not, not_true_eq_false, not_false_eq_true, Nat.reduceAdd, Nat.reduceMul, Nat.reduceSub, wy_lt_f h3, wx_lt_t h4]
      · rw [if_neg (fun z => h4 z.2.2)]
        simp (disch := (first | omega | exact aCat_8 (by with_unfolding_all rfl) | exact rk_lt (by with_unfolding_all rfl) | exact aCat_16 (by with_unfolding_all rfl) | exact rk_eq (by with_unfolding_all rfl) | assumption | exact b2n_lt _ | exact id_b (by with_unfolding_all rfl) | (simp (disch := omega) only [u2_same, u2_ab, u2_aq]; done) | (simp (disch := omega) only [u2_same, u2_ab, u2_aq]; omega) | fail)) only [al_15616, wp_iload_1, wz_lt_t, wz_lt_f, wm_lt_1, wm_lt_2, wp_aloadr_0, wp_aloadk_0, hg_5_0, wn_ge_t, wn_ge_f, wp_iload_2, hg_5_1, wn_lt_t, wn_lt_f, wp_jsr, al_15617, wk_m1, wp_ireturn, al_15618, wp_imul, wp_iadd, nl_i, nl_r, nl_k, nl_j, nl_l, nI_add, pk_mul, pk_sub, tl_s, tl_n, aL_inl, u2_same, u2_ab, u2_aq, nI_l, lN_i, Nat.add_zero, Nat.zero_add, Nat.zero_le, true_and, and_true, b2n_10, b2n_T, b2n_F, b2n_0, Decidable.not_not, not_true_eq_false, not_false_eq_true, Nat.reduceAdd, Nat.reduceMul, Nat.reduceSub, wy_lt_f h3, wx_lt_f h4]
  · rw [if_neg (fun z => h1 z.1)]
    simp (disch := (first | omega | exact aCat_8 (by with_unfolding_all rfl) | exact rk_lt (by with_unfolding_all rfl) | exact aCat_16 (by with_unfolding_all rfl) | exact rk_eq (by with_unfolding_all rfl) | assumption | exact b2n_lt _ | exact id_b (by with_unfolding_all rfl) | (simp (disch := omega) only [u2_same, u2_ab, u2_aq]; done) | (simp (disch := omega) only [u2_same, u2_ab, u2_aq]; omega) | fail)) only [al_15616, wp_iload_1, wz_lt_t, wz_lt_f, wm_lt_1, wm_lt_2, wp_aloadr_0, wp_aloadk_0, hg_5_0, wn_ge_t, wn_ge_f, wp_iload_2, hg_5_1, wn_lt_t, wn_lt_f, wp_jsr, al_15617, wk_m1, wp_ireturn, al_15618, wp_imul, wp_iadd, nl_i, nl_r, nl_k, nl_j, nl_l, nI_add, pk_mul, pk_sub, tl_s, tl_n, aL_inl, u2_same, u2_ab, u2_aq, nI_l, lN_i, Nat.add_zero, Nat.zero_add, Nat.zero_le, true_and, and_true, b2n_10, b2n_T, b2n_F, b2n_0, Decidable.not_not, not_true_eq_false, not_false_eq_true, Nat.reduceAdd, Nat.reduceMul, Nat.reduceSub]
theorem fa_n {r c : Nat} (h3 : D 3 ≤ 6) (hc : c ≤ 9) : faI D r (nI c) = if r < D 2 ∧ c < D 3 then nI (r * D 3 + c) else -1 := by
  unfold faI
  have hng : ¬ nI c < 0 := fun z => by
    rw [Int32.lt_iff_toInt_lt, nI_toInt (by omega)] at z
    have : (0 : Int32).toInt = 0 := rfl
    omega
  by_cases z : r < D 2 ∧ c < D 3
  · rw [if_pos ⟨z.1, hng, (nI_ltI (by omega) (by omega)).mpr z.2⟩, if_pos z, pk_mul, nI_add]
  · rw [if_neg (fun y => z ⟨y.1, (nI_ltI (by omega) (by omega)).mp y.2.2⟩), if_neg z]
end YV
