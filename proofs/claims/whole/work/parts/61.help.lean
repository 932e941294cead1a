/-! The class: Told, State; the reference: enters. From wip/whole/src. -/
def tdC (N : Nat → Nat → Nat) (J : Nat → Nat → Int64) (t : Nat) (f : Nat → Int64) : Prop := N 3 1 = t ∧ ∀ i, i < t → J 4 i = f i
def tdR (N : Nat → Nat → Nat) (J : Nat → Nat → Int64) (t : Nat) (f : Nat → Int64) : Prop := N 86 1 = t ∧ ∀ i, i < t → J 87 i = f i
theorem td_O {N : Nat → Nat → Nat} {J : Nat → Nat → Int64} {t : Nat} {f : Nat → Int64} (h1 : tdC N J t f) (h2 : tdR N J t f) (ht : t ≤ 36) : iTd N J := by
  refine ⟨h1.1.trans h2.1.symm, by rw [h2.1]; exact ht, ?_⟩
  intro i hi
  rw [h2.1] at hi
  rw [h1.2 i hi, h2.2 i hi]
section H1
variable {ko : aKo} {d k : Nat} {is : List Instr} {ls st : List Value} {σ : aH} {D : Nat → Nat} {N : Nat → Nat → Nat} {I : Nat → Nat → Int32} {J : Nat → Nat → Int64} {x : Nat} {Q : Option Value → aH → Prop} {P : (Option Value ⊕ Unit) → aH → Prop}
theorem t_292 : aMm ko d 292 [.ref 3] (hp D N I J x) Q = Q none (hp D (u2 N 3 1 0) I J x) := by
  rw [me_292]
  simp (disch := (first | omega | exact aCat_8 (by with_unfolding_all rfl) | exact rk_lt (by with_unfolding_all rfl) | exact aCat_16 (by with_unfolding_all rfl) | exact rk_eq (by with_unfolding_all rfl) | assumption | exact b2n_lt _ | exact id_b (by with_unfolding_all rfl) | (simp (disch := omega) only [u2_same, u2_ab, u2_aq]; done) | (simp (disch := omega) only [u2_same, u2_ab, u2_aq]; omega) | fail)) only [al_18688, wp_aloadr_0, wp_aloadk_0, wk_0, hp_3_1, wp_return, nl_i, nl_r, nl_k, nl_j, nl_l, nI_add, pk_mul, pk_sub, tl_s, tl_n, aL_inl, u2_same, u2_ab, u2_aq, nI_l, lN_i, Nat.add_zero, Nat.zero_add, Nat.zero_le, true_and, and_true, b2n_10, b2n_T, b2n_F, b2n_0, Decidable.not_not, not_true_eq_false, not_false_eq_true, Nat.reduceAdd, Nat.reduceMul, Nat.reduceSub]
theorem t_293 {v : Int64} (h : N 3 1 < 36) : aMm ko d 293 [.ref 3, .long v] (hp D N I J x) Q = Q none (hp D (u2 N 3 1 (N 3 1 + 1)) I (u2 J 4 (N 3 1) v) x) := by
  rw [me_293]
  simp (disch := (first | omega | exact aCat_8 (by with_unfolding_all rfl) | exact rk_lt (by with_unfolding_all rfl) | exact aCat_16 (by with_unfolding_all rfl) | exact rk_eq (by with_unfolding_all rfl) | assumption | exact b2n_lt _ | exact id_b (by with_unfolding_all rfl) | (simp (disch := omega) only [u2_same, u2_ab, u2_aq]; done) | (simp (disch := omega) only [u2_same, u2_ab, u2_aq]; omega) | fail)) only [al_18752, wp_aloadr_0, wp_aloadk_0, hg_3_1, wk_36, wn_ge_t, wn_ge_f, hg_3_0, ha_4l, ha_4s, wp_lload_1, wp_dupi, wp_dupr, wk_1, wp_iadd, hp_3_1, wp_jsr, al_18753, wp_return, nl_i, nl_r, nl_k, nl_j, nl_l, nI_add, pk_mul, pk_sub, tl_s, tl_n, aL_inl, u2_same, u2_ab, u2_aq, nI_l, lN_i, Nat.add_zero, Nat.zero_add, Nat.zero_le, true_and, and_true, b2n_10, b2n_T, b2n_F, b2n_0, Decidable.not_not, not_true_eq_false, not_false_eq_true, Nat.reduceAdd, Nat.reduceMul, Nat.reduceSub]
theorem l_282 {s : Nat} (hs : stB s = true) (h9 : ∀ q, q < 36 → N (s + 1) q ≤ 9) : ∀ j i : Nat, i + j = 36 → aWp ko d 282 (aP.1 (Int.toNat 18049)) [.ref s, .int (nI (sumR (N (s + 1)) i)), .int (nI i)] [] (hp D N I J x) (aL Q) = Q (some (.int (nI (sumR (N (s + 1)) 36)))) (hp D N I J x) := by
  intro j
  induction j with
  | zero =>
    intro i hi
    have e : i = 36 := by omega
    subst e
    simp (disch := (first | omega | exact aCat_8 (by with_unfolding_all rfl) | exact rk_lt (by with_unfolding_all rfl) | exact aCat_16 (by with_unfolding_all rfl) | exact rk_eq (by with_unfolding_all rfl) | assumption | exact b2n_lt _ | exact id_b (by with_unfolding_all rfl) | (simp (disch := omega) only [u2_same, u2_ab, u2_aq]; done) | (simp (disch := omega) only [u2_same, u2_ab, u2_aq]; omega) | fail)) only [al_18048, wk_0, wp_istore_1, wp_istore_2, wp_jsr, al_18049, wp_iload_2, wk_36, wn_ge_t, wn_ge_f, wp_iload_1, wp_aloadr_0, wp_aloadk_0, hg_20_0, ha_21l, ha_21s, hg_22_0, ha_23l, ha_23s, hg_24_0, ha_25l, ha_25s, wp_iadd, wp_iinc_2_1, wp_goto, al_18050, wp_ireturn, nl_i, nl_r, nl_k, nl_j, nl_l, nI_add, pk_mul, pk_sub, tl_s, tl_n, aL_inl, u2_same, u2_ab, u2_aq, nI_l, lN_i, Nat.add_zero, Nat.zero_add, Nat.zero_le, true_and, and_true, b2n_10, b2n_T, b2n_F, b2n_0, Decidable.not_not, not_true_eq_false, not_false_eq_true, Nat.reduceAdd, Nat.reduceMul, Nat.reduceSub]
  | succ j ih =>
    intro i hi
    rw [al_18049]
    simp (disch := (first | omega | exact aCat_8 (by with_unfolding_all rfl) | exact rk_lt (by with_unfolding_all rfl) | exact aCat_16 (by with_unfolding_all rfl) | exact rk_eq (by with_unfolding_all rfl) | assumption | exact b2n_lt _ | exact id_b (by with_unfolding_all rfl) | (simp (disch := omega) only [u2_same, u2_ab, u2_aq]; done) | (simp (disch := omega) only [u2_same, u2_ab, u2_aq]; omega) | fail)) only [al_18048, wk_0, wp_istore_1, wp_istore_2, wp_jsr, wp_iload_2, wk_36, wn_ge_t, wn_ge_f, wp_iload_1, wp_aloadr_0, wp_aloadk_0, hg_20_0, ha_21l, ha_21s, hg_22_0, ha_23l, ha_23s, hg_24_0, ha_25l, ha_25s, wp_iadd, wp_iinc_2_1, wp_goto, al_18050, wp_ireturn, nl_i, nl_r, nl_k, nl_j, nl_l, nI_add, pk_mul, pk_sub, tl_s, tl_n, aL_inl, u2_same, u2_ab, u2_aq, nI_l, lN_i, Nat.add_zero, Nat.zero_add, Nat.zero_le, true_and, and_true, b2n_10, b2n_T, b2n_F, b2n_0, Decidable.not_not, not_true_eq_false, not_false_eq_true, Nat.reduceAdd, Nat.reduceMul, Nat.reduceSub, st_g0 hs, st_hl hs]
    exact ih (i + 1) (by omega)
theorem t_282 {s : Nat} (hs : stB s = true) (h9 : ∀ q, q < 36 → N (s + 1) q ≤ 9) : aMm ko d 282 [.ref s] (hp D N I J x) Q = Q (some (.int (nI (sumR (N (s + 1)) 36)))) (hp D N I J x) := by
  rw [me_282]
  simp (disch := (first | omega | exact aCat_8 (by with_unfolding_all rfl) | exact rk_lt (by with_unfolding_all rfl) | exact aCat_16 (by with_unfolding_all rfl) | exact rk_eq (by with_unfolding_all rfl) | assumption | exact b2n_lt _ | exact id_b (by with_unfolding_all rfl) | (simp (disch := omega) only [u2_same, u2_ab, u2_aq]; done) | (simp (disch := omega) only [u2_same, u2_ab, u2_aq]; omega) | fail)) only [al_18048, wk_0, wp_istore_1, wp_istore_2, wp_jsr, wp_iload_2, wk_36, wn_ge_t, wn_ge_f, wp_iload_1, wp_aloadr_0, wp_aloadk_0, hg_20_0, ha_21l, ha_21s, hg_22_0, ha_23l, ha_23s, hg_24_0, ha_25l, ha_25s, wp_iadd, wp_iinc_2_1, wp_goto, al_18050, wp_ireturn, nl_i, nl_r, nl_k, nl_j, nl_l, nI_add, pk_mul, pk_sub, tl_s, tl_n, aL_inl, u2_same, u2_ab, u2_aq, nI_l, lN_i, Nat.add_zero, Nat.zero_add, Nat.zero_le, true_and, and_true, b2n_10, b2n_T, b2n_F, b2n_0, Decidable.not_not, not_true_eq_false, not_false_eq_true, Nat.reduceAdd, Nat.reduceMul, Nat.reduceSub]
  exact l_282 hs h9 36 0 rfl
theorem sumR_congr {f g : Nat → Nat} : ∀ n, (∀ q, q < n → f q = g q) → sumR f n = sumR g n
  | 0, _ => rfl
  | n + 1, h => by rw [sumR, sumR, sumR_congr n (fun q hq => h q (by omega)), h n (by omega)]
theorem w8_up {S : Nat → Nat} {f v : Nat} (h : f < 36 ∨ 72 ≤ f) (h8 : sumR (fun q => S (36 + q)) 36 ≤ 8) : sumR (fun q => upn S f v (36 + q)) 36 ≤ 8 := by
  rw [sumR_congr 36 (g := fun q => S (36 + q)) (fun q hq => by
    show upn S f v (36 + q) = _
    rw [upn, if_neg (by omega)])]
  exact h8
theorem sumR_z {f : Nat → Nat} {a : Nat} : ∀ n, a ≤ n → (∀ q, a ≤ q → q < n → f q = 0) → sumR f n = sumR f a := by
  intro n
  induction n with
  | zero =>
    intro h _
    have : a = 0 := by omega
    rw [this]
  | succ n ih =>
    intro h hz
    by_cases e : a = n + 1
    · rw [e]
    · rw [sumR, hz n (by omega) (by omega), ih (by omega) (fun q h1 h2 => hz q h1 (by omega)), Nat.add_zero]
/-- the sum of all heights, by the class as by the reference -/
theorem sum_eq {s F : Nat} {S : Nat → Nat} (h : clS N J s S) (hz : rwZ F S) (hF : F ≤ 36) : sumR (N (s + 1)) 36 = sumR S F := by
  rw [sumR_congr 36 (g := S) (fun q hq => h.1 q hq), sumR_z (a := F) 36 hF (fun q h1 h2 => (hz q h1 h2).1)]
theorem sum_le {S : Nat → Nat} {c : Nat} : ∀ m, (∀ q, q < m → S q ≤ c) → sumR S m ≤ c * m := by
  intro m
  induction m with
  | zero => intro _; exact Nat.le_refl _
  | succ m ih =>
    intro h
    rw [sumR, Nat.mul_succ]
    have a := ih (fun q hq => h q (by omega))
    have b := h m (by omega)
    omega
theorem sum_lt {C F : Nat} {S : Nat → Nat} (h : rwO C S) (hF : F ≤ 36) : sumR S F < 2147483648 := by
  have := sum_le F (fun q hq => (h.1 q (by omega)).1)
  omega
/-- what copying a state leaves -/
def cpS (N : Nat → Nat → Nat) (s s' : Nat) : Nat → Nat → Nat := u2 (u2 (u2 (setRow N (s + 1) (mixN (N (s' + 1)) (N (s + 1)) 36)) s 3 (N s' 3)) s 4 (N s' 4)) s 5 (N s' 5)
def cpJ (J : Nat → Nat → Int64) (s s' : Nat) : Nat → Nat → Int64 := u2 (u2 J s 1 (J s' 1)) s 2 (J s' 2)
theorem t_283 {s s' : Nat} (hs : stB s = true) (hs' : stB s' = true) (hne : s ≠ s') : aMm ko d 283 [.ref s, .ref s'] (hp D N I J x) Q = Q none (hp D (cpS N s s') I (cpJ J s s') x) := by
  have h1 := st_or hs
  have h2 := st_or hs'
  have e1 : ∀ T : Nat → Nat, setRow N (s + 1) T s' = N s' := fun T => setRow_n (by omega)
  rw [me_283]
  simp (disch := (first | omega | exact aCat_8 (by with_unfolding_all rfl) | exact rk_lt (by with_unfolding_all rfl) | exact aCat_16 (by with_unfolding_all rfl) | exact rk_eq (by with_unfolding_all rfl) | assumption | exact b2n_lt _ | exact id_b (by with_unfolding_all rfl) | (simp (disch := omega) only [u2_same, u2_ab, u2_aq]; done) | (simp (disch := omega) only [u2_same, u2_ab, u2_aq]; omega) | fail)) only [al_18112, wp_aloadr_1, wp_aloadk_1, hg_20_0, ha_21l, ha_21s, hg_22_0, ha_23l, ha_23s, hg_24_0, ha_25l, ha_25s, wk_0, wp_aloadr_0, wp_aloadk_0, wk_36, hg_20_1, hg_22_1, hg_24_1, hp_20_1, hp_22_1, hp_24_1, hg_20_2, hg_22_2, hg_24_2, hp_20_2, hp_22_2, hp_24_2, hg_20_3, hg_22_3, hg_24_3, hp_20_3, hp_22_3, hp_24_3, hg_20_4, hg_22_4, hg_24_4, hp_20_4, hp_22_4, hp_24_4, hg_20_5, hg_22_5, hg_24_5, hp_20_5, hp_22_5, hp_24_5, wp_return, nl_i, nl_r, nl_k, nl_j, nl_l, nI_add, pk_mul, pk_sub, tl_s, tl_n, aL_inl, u2_same, u2_ab, u2_aq, nI_l, lN_i, Nat.add_zero, Nat.zero_add, Nat.zero_le, true_and, and_true, b2n_10, b2n_T, b2n_F, b2n_0, Decidable.not_not, not_true_eq_false, not_false_eq_true, Nat.reduceAdd, Nat.reduceMul, Nat.reduceSub, st_g0 hs, st_g0 hs', st_g1 hs', st_g2 hs', st_g3 hs', st_g4 hs', st_g5 hs', st_p1 hs, st_p2 hs, st_p3 hs, st_p4 hs, st_p5 hs, wp_cpyN (st_lt hs') (st_lt hs) (st_kh hs') (st_kh hs), e1]
  rfl
theorem cp_S {s s' : Nat} {S : Nat → Nat} (hs : stB s = true) (hs' : stB s' = true) (hne : s ≠ s') (h : clS N J s' S) : clS (cpS N s s') (cpJ J s s') s S := by
  have h1 := st_or hs
  have h2 := st_or hs'
  unfold cpS cpJ
  refine ⟨?_, ?_, ?_, ?_, ?_⟩
  · intro f hf
    rw [u2_ab (by omega), u2_ab (by omega), u2_ab (by omega), setRow_s]
    unfold mixN
    rw [if_pos hf]
    exact h.1 f hf
  · intro f hf
    rw [u2_aq (by decide), u2_same, u2_same]
    exact h.2.1 f hf
  · rw [u2_aq (by decide), u2_aq (by decide), u2_same]; exact h.2.2.1
  · rw [u2_aq (by decide), u2_same]; exact h.2.2.2.1
  · rw [u2_same]; exact h.2.2.2.2
theorem cp_N {s s' b q : Nat} (h1 : b ≠ s) (h2 : b ≠ s + 1) : cpS N s s' b q = N b q := by
  unfold cpS
  rw [u2_ab h1, u2_ab h1, u2_ab h1, setRow_n h2]
theorem cp_J {s s' b q : Nat} (h1 : b ≠ s) : cpJ J s s' b q = J b q := by
  unfold cpJ
  rw [u2_ab h1, u2_ab h1]
theorem cp_sN {s' : Nat} : sN (cpS N 24 s') N := fun b q z => cp_N (by rintro rfl; cases z) (by rintro rfl; cases z)
theorem cp_sJ {s' : Nat} : sJ (cpJ J 24 s') J := fun b q z => cp_J (by rintro rfl; cases z)
end H1
