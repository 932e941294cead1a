/-! The class: trace, look, flow, settle, pass. From wip/whole/src. -/
def crsG (R C : Nat) (c : Nat → Nat) (n : Nat) (sk S : Nat → Nat) : Nat × (Nat → Nat) × Bool := crs0 R C (dslG C c n sk S) (wlS S) (S 108)
def tdG (R C : Nat) (c : Nat → Nat) (n : Nat) (sk S : Nat → Nat) : Nat → Nat := tdS R C (crsG R C c n sk S) S
def itG (R C : Nat) (c : Nat → Nat) (n : Nat) (sk S : Nat → Nat) : Nat → Nat → Nat
  | 0 => S
  | k + 1 => tdG R C c n sk (itG R C c n sk S k)
def cmG (R C : Nat) (c : Nat → Nat) (n : Nat) (sk S : Nat → Nat) : Nat → Nat
  | 0 => 0
  | k + 1 => cmG R C c n sk S k + b2n ((crsG R C c n sk (itG R C c n sk S k)).2.2 = false)
theorem itS_G {D : Nat → Nat} {N : Nat → Nat → Nat} {S : Nat → Nat} : ∀ k, itS D N S k = itG (D 0) (D 1) (N 93) (N 86 18) (skR N) S k
  | 0 => rfl
  | k + 1 => by
    rw [itS, itG, itS_G k]
    rfl
theorem cmS_G {D : Nat → Nat} {N : Nat → Nat → Nat} {S : Nat → Nat} : ∀ k, cmS D N S k = cmG (D 0) (D 1) (N 93) (N 86 18) (skR N) S k
  | 0 => rfl
  | k + 1 => by
    rw [cmS, cmG, cmS_G k, itS_G]
    rfl
theorem crsS_G {D : Nat → Nat} {N : Nat → Nat → Nat} {S : Nat → Nat} : crsS D N S = crsG (D 0) (D 1) (N 93) (N 86 18) (skR N) S := rfl
theorem tdG_O {R C n : Nat} {c sk S : Nat → Nat} (h2 : 2 ≤ R ∧ R ≤ 6 ∧ 2 ≤ C ∧ C ≤ 6) (h : rwO C S) (ht : S 109 + 1 < 1000000000) : rwO C (tdG R C c n sk S) := by
  have hF := dm_F (D := fun q => if q = 0 then R else C) (by simpa [dmO] using h2)
  simp at hF
  have := h.2.1
  exact tdS_O hF.1 (crs0_K (by omega) (by omega)) h ht
theorem itG_t {R C n : Nat} {c sk S : Nat → Nat} : ∀ k, itG R C c n sk S k 109 = S 109 + k
  | 0 => rfl
  | k + 1 => by
    rw [itG]
    unfold tdG tdS
    rw [if_pos rfl, itG_t k]
    omega
theorem itG_O {R C n : Nat} {c sk S : Nat → Nat} (h2 : 2 ≤ R ∧ R ≤ 6 ∧ 2 ≤ C ∧ C ≤ 6) (h : rwO C S) : ∀ k, S 109 + k < 1000000000 → rwO C (itG R C c n sk S k)
  | 0, _ => h
  | k + 1, ht => by
    rw [itG]
    exact tdG_O h2 (itG_O h2 h k (by omega)) (by rw [itG_t]; omega)
theorem besW_congr {R C f : Nat} {o o' : Nat → Bool} (hC : 0 < C) (hf : f < R * C) (h : ∀ g, g < R * C → o g = o' g) : ∀ w, besW R C o f w = besW R C o' f w := by
  intro w
  induction w with
  | zero => rfl
  | succ w ih =>
    unfold besW
    rw [ih]
    cases hb : bsd R C f w with
    | none => rfl
    | some g => simp only [h g (bsd_lt hC hf hb)]
def skC (N : Nat → Nat → Nat) : Nat → Nat := fun t => N 10 (t % N 9 1)
section K6
variable {ko : aKo} {d k : Nat} {is : List Instr} {ls st : List Value} {σ : aH} {D : Nat → Nat} {N : Nat → Nat → Nat} {I : Nat → Nat → Int32} {J : Nat → Nat → Int64} {x : Nat} {Q : Option Value → aH → Prop} {P : (Option Value ⊕ Unit) → aH → Prop}
theorem t_256 {s ru n : Nat} {c sk S : Nat → Nat} {wl : Int64} (hs : stB s = true) (hu : ruB ru = true) (hA : rvA D N I J s ru c n S) (hv : rvO D N I J s ru c n sk S)
    (hQ : ∀ (N' : Nat → Nat → Nat) (I' : Nat → Nat → Int32) (J' : Nat → Nat → Int64), rvO D N' I' J' s ru c n sk S → fN N' N → fI I' I → fJ J' J → clC (D 3) N' I' J' (crs0 (D 2) (D 3) (dslG (D 3) c n sk S) (tb wl) (S 108)) → Q none (hp D N' I' J' x)) :
    aMm ko d 256 [.ref 26, .long wl] (hp D N I J x) Q := by
  have hF := ld_F hA.1
  have h4 := hA.1.2.1
  have hso := st_or hs
  have hsrc := hA.2.2.1.2.1
  have e3 : N s 3 = S 108 := hA.2.1.2.2.1
  have e2 := hv.1
  have gN : fN (u2 N 26 9 0) N := fun b q _ h2 => by rw [u2_rd, if_neg h2]
  have gI : fI (u2 (u2 I 26 11 (-2)) 26 12 (-1)) I := fun b q h1 h2 h3 h4 h5 => by rw [u2_rd, if_neg (by omega), u2_rd, if_neg (by omega)]
  have gJ : fJ (u2 J 26 10 (lN 0)) J := fun b q _ h2 => by rw [u2_rd, if_neg h2]
  have hv1 : rvO D (u2 N 26 9 0) (u2 (u2 I 26 11 (-2)) 26 12 (-1)) (u2 J 26 10 (lN 0)) s ru c n sk S := by
    refine ⟨by rw [u2_aq (by decide)]; exact hv.1, by rw [u2_aq (by decide)]; exact hv.2.1, by rw [u2_aq (by decide)]; exact hv.2.2.1, ?_⟩
    intro f b hf hb hq
    rw [u2_ab (by decide)] at hq
    rw [u2_ab (by decide), u2_ab (by decide)]
    exact hv.2.2.2 f b hf hb hq
  rw [me_256]
  unfold crs0 at hQ
  by_cases h1 : tb wl (S 108) = true
  · rw [if_pos h1] at hQ
    simp (disch := (first | omega | exact aCat_8 (by with_unfolding_all rfl) | exact rk_lt (by with_unfolding_all rfl) | exact aCat_16 (by with_unfolding_all rfl) | exact rk_eq (by with_unfolding_all rfl) | assumption | exact b2n_lt _ | exact id_b (by with_unfolding_all rfl) | (simp (disch := omega) only [u2_same, u2_ab, u2_aq]; done) | (simp (disch := omega) only [u2_same, u2_ab, u2_aq]; omega) | fail)) only [al_16384, wp_aloadr_0, wp_aloadk_0, wk_0, hp_26_9, wl_0, hp_26_10, wk_m2, hp_26_11, wk_m1, hp_26_12, wp_lload_1, hg_26_2, hg_20_3, hg_22_3, hg_24_3, wc_161, t_161, wk_1, wn_ne_t, wn_ne_f, wp_goto, al_16385, wp_jsr, al_16386, wp_istore_3, wp_istore_4, al_16387, wp_iload_4, hg_26_0, hg_5_2, wn_ge_t, wn_ge_f, wp_iload_3, wn_eq_t, wn_eq_f, hg_26_8, ha_30l, ha_30s, wp_iadd, wp_dupi, wp_dupr, hg_26_10, wl_1, wp_lshl, wp_lor, hg_5_4, hg_5_8, ha_7l, ha_7s, wp_return, al_16388, wc_257, wp_istore_5, wp_iload_5, al_16389, al_16390, wp_iinc_4_1, al_16391, nl_i, nl_r, nl_k, nl_j, nl_l, nI_add, pk_mul, pk_sub, tl_s, tl_n, aL_inl, u2_same, u2_ab, u2_aq, nI_l, lN_i, Nat.add_zero, Nat.zero_add, Nat.zero_le, true_and, and_true, b2n_10, b2n_T, b2n_F, b2n_0, Decidable.not_not, not_true_eq_false, not_false_eq_true, Nat.reduceAdd, Nat.reduceMul, e2, e3, st_g3 hs, b2n_t h1, qe_n1, qe_m1, qn_n1, qn_m1, qe_n2, qe_m2, qn_n2, qn_m2]
    refine hQ _ _ _ hv1 gN gI gJ ⟨?_, ?_, ?_, ?_, ?_⟩
    · rw [u2_same]
    · intro k hk
      exact absurd hk (by simp)
    · intro f hf
      rw [u2_same, tb_0]
      simp [onP]
    · rw [u2_aq (by decide), u2_same]
      rfl
    · rw [u2_same]
      rfl
  · rw [if_neg h1] at hQ
    simp (disch := (first | omega | exact aCat_8 (by with_unfolding_all rfl) | exact rk_lt (by with_unfolding_all rfl) | exact aCat_16 (by with_unfolding_all rfl) | exact rk_eq (by with_unfolding_all rfl) | assumption | exact b2n_lt _ | exact id_b (by with_unfolding_all rfl) | (simp (disch := omega) only [u2_same, u2_ab, u2_aq]; done) | (simp (disch := omega) only [u2_same, u2_ab, u2_aq]; omega) | fail)) only [al_16384, wp_aloadr_0, wp_aloadk_0, wk_0, hp_26_9, wl_0, hp_26_10, wk_m2, hp_26_11, wk_m1, hp_26_12, wp_lload_1, hg_26_2, hg_20_3, hg_22_3, hg_24_3, wc_161, t_161, wk_1, wn_ne_t, wn_ne_f, wp_goto, al_16385, wp_jsr, al_16386, wp_istore_3, wp_istore_4, wp_iload_4, hg_26_0, hg_5_2, wn_ge_t, wn_ge_f, wp_iload_3, wn_eq_t, wn_eq_f, hg_26_8, ha_30l, ha_30s, wp_iadd, wp_dupi, wp_dupr, hg_26_10, wl_1, wp_lshl, wp_lor, hg_5_4, hg_5_8, ha_7l, ha_7s, wp_return, al_16388, wc_257, wp_istore_5, wp_iload_5, al_16389, al_16390, wp_iinc_4_1, al_16391, nl_i, nl_r, nl_k, nl_j, nl_l, nI_add, pk_mul, pk_sub, tl_s, tl_n, aL_inl, u2_same, u2_ab, u2_aq, nI_l, lN_i, Nat.add_zero, Nat.zero_add, Nat.zero_le, true_and, and_true, b2n_10, b2n_T, b2n_F, b2n_0, Decidable.not_not, not_true_eq_false, not_false_eq_true, Nat.reduceAdd, Nat.reduceMul, e2, e3, st_g3 hs, b2n_f h1, qe_n1, qe_m1, qn_n1, qn_m1, qe_n2, qe_m2, qn_n2, qn_m2]
    have := l_256 (ko := ko) (d := d) (D := D) (x := x) (Q := Q) (N0 := N) (I0 := I) (J0 := J) (sk := sk) (wl := wl) hs hu hA 36 0 (upn (fun _ => 0) 0 (S 108)) (u2 N 26 9 0) (u2 (u2 I 26 11 (-2)) 26 12 (-1)) (u2 J 26 10 (lN 0)) aJk rfl ?_ (by intro a b h5 h6; omega) hv1 gN gI gJ (by rw [u2_same]) (by intro k hk; omega) ?_ (by rw [u2_aq (by decide), u2_same]) (by rw [u2_same]) hQ
    · simpa [upn] using this
    · intro k hk
      have : k = 0 := by omega
      subst this
      simp [upn]
      omega
    · intro f hf
      rw [u2_same, tb_0]
      simp [onP]
theorem t_255 {s ru : Nat} {S : Nat → Nat} (hs : stB s = true) (h4 : N s 4 = S 109) (ht : S 109 < 1000000000) (h1 : 0 < N 9 1) (h2 : N 9 1 ≤ 20) : aMm ko d 255 [.ref 26, .ref s, .ref ru] (hp D N I J x) Q = Q none (hp D (u2 (u2 (u2 N 26 2 s) 26 3 ru) 26 7 (skC N (S 109))) I (u2 (u2 J 29 0 (lN 0)) 29 1 (lN 0)) x) := by
  have hso := st_or hs
  rw [me_255]
  simp (disch := (first | omega | exact aCat_8 (by with_unfolding_all rfl) | exact rk_lt (by with_unfolding_all rfl) | exact aCat_16 (by with_unfolding_all rfl) | exact rk_eq (by with_unfolding_all rfl) | assumption | exact b2n_lt _ | exact id_b (by with_unfolding_all rfl) | (simp (disch := omega) only [u2_same, u2_ab, u2_aq]; done) | (simp (disch := omega) only [u2_same, u2_ab, u2_aq]; omega) | fail)) only [al_16320, wp_aloadr_0, wp_aloadk_0, wp_aloadr_1, wp_aloadk_1, hp_26_2, wp_aloadr_2, wp_aloadk_2, hp_26_3, hg_26_1, hg_20_4, hg_22_4, hg_24_4, wc_230, hp_26_7, hg_26_6, ha_29l, ha_29s, wk_0, wl_0, wk_1, wp_return, nl_i, nl_r, nl_k, nl_j, nl_l, nI_add, pk_mul, pk_sub, tl_s, tl_n, aL_inl, u2_same, u2_ab, u2_aq, nI_l, lN_i, Nat.add_zero, Nat.zero_add, Nat.zero_le, true_and, and_true, b2n_10, b2n_T, b2n_F, b2n_0, Decidable.not_not, not_true_eq_false, not_false_eq_true, Nat.reduceAdd, Nat.reduceMul, st_g4 hs, h4, t_230]
  rfl
/-- frames of a look and a trace -/
def gN (N' N : Nat → Nat → Nat) : Prop := ∀ b q, b ≠ 30 → ¬ (b = 26 ∧ (q = 2 ∨ q = 3 ∨ q = 7 ∨ q = 9)) → N' b q = N b q
theorem lk_A {s ru n : Nat} {c S : Nat → Nat} (hs : stB s = true) (hu : ruB ru = true) (hA : rvA D N I J s ru c n S) (z : Nat) : rvA D (u2 (u2 (u2 N 26 2 s) 26 3 ru) 26 7 z) I (u2 (u2 J 29 0 (lN 0)) 29 1 (lN 0)) s ru c n S := by
  have hso := st_or hs
  have hru := ru_or hu
  have hJ : ∀ b q, b ≠ 29 → u2 (u2 J 29 0 (lN 0)) 29 1 (lN 0) b q = J b q := fun b q h => by rw [u2_ab h, u2_ab h]
  have hN : ∀ b q, b ≠ 26 → u2 (u2 (u2 N 26 2 s) 26 3 ru) 26 7 z b q = N b q := fun b q h => by rw [u2_ab h, u2_ab h, u2_ab h]
  obtain ⟨h1, h2, h3, h4, h5⟩ := hA
  refine ⟨⟨h1.1, h1.2.1, ?_, ?_⟩, ⟨?_, ?_, ?_⟩, h3, ⟨?_, h4.2⟩, h5⟩
  · intro i hi
    rw [hN 6 i (by decide), hN 7 i (by decide)]
    exact h1.2.2.1 i hi
  · intro i hi
    rw [hJ 5 3 (by decide), hJ 5 4 (by decide), hJ 5 5 (by decide), hJ 5 6 (by decide)]
    exact h1.2.2.2 i hi
  · intro f hf
    rw [hN (s + 1) f (by omega)]
    exact h2.1 f hf
  · intro f hf
    rw [hJ s 1 (by omega), hJ s 2 (by omega)]
    exact h2.2.1 f hf
  · rw [hN s 3 (by omega), hN s 4 (by omega), hN s 5 (by omega)]
    exact h2.2.2
  · rw [hN ru 2 (by omega)]
    exact h4.1
theorem lk_O {s ru n : Nat} {c sk S : Nat → Nat} : rvO D (u2 (u2 (u2 N 26 2 s) 26 3 ru) 26 7 (sk (S 109))) I (u2 (u2 J 29 0 (lN 0)) 29 1 (lN 0)) s ru c n sk S := by
  refine ⟨by rw [u2_aq (by decide), u2_aq (by decide), u2_same], by rw [u2_aq (by decide), u2_same], by rw [u2_same], ?_⟩
  intro f b hf hb hq
  have : b = 0 ∨ b = 1 := by omega
  rcases this with rfl | rfl
  · rw [u2_aq (by decide), u2_same, tb_0] at hq
    cases hq
  · rw [u2_same, tb_0] at hq
    cases hq
theorem wl_tb {s : Nat} {S : Nat → Nat} {R C : Nat} (h : clS N J s S) (hF : R * C ≤ 36) : ∀ g, g < R * C → tb (J s 1) g = wlS S g := by
  intro g hg
  rw [(h.2.1 g (by omega)).1]
  have : g < 36 := by omega
  simp [wlS, this]
theorem t_260 {s ru n : Nat} {c S : Nat → Nat} (hs : stB s = true) (hu : ruB ru = true) (hA : rvA D N I J s ru c n S) (h1 : 0 < N 9 1) (h2 : N 9 1 ≤ 20)
    (hQ : ∀ (N' : Nat → Nat → Nat) (I' : Nat → Nat → Int32) (J' : Nat → Nat → Int64), rvO D N' I' J' s ru c n (skC N) S → gN N' N → fI I' I → fJ J' J → clC (D 3) N' I' J' (crsG (D 2) (D 3) c n (skC N) S) → Q none (hp D N' I' J' x)) :
    aMm ko d 260 [.ref 26, .ref s, .ref ru] (hp D N I J x) Q := by
  have hF := ld_F hA.1
  have hso := st_or hs
  have hsrc := hA.2.2.1.2.1
  have hd := hA.1.1
  rw [me_260]
  simp (disch := (first | omega | exact aCat_8 (by with_unfolding_all rfl) | exact rk_lt (by with_unfolding_all rfl) | exact aCat_16 (by with_unfolding_all rfl) | exact rk_eq (by with_unfolding_all rfl) | assumption | exact b2n_lt _ | exact id_b (by with_unfolding_all rfl) | (simp (disch := omega) only [u2_same, u2_ab, u2_aq]; done) | (simp (disch := omega) only [u2_same, u2_ab, u2_aq]; omega) | fail)) only [al_16640, wp_aloadr_0, wp_aloadk_0, wp_aloadr_1, wp_aloadk_1, wp_aloadr_2, wp_aloadk_2, wc_255, hg_20_1, hg_22_1, hg_24_1, wc_256, wp_return, nl_i, nl_r, nl_k, nl_j, nl_l, nI_add, pk_mul, pk_sub, tl_s, tl_n, aL_inl, u2_same, u2_ab, u2_aq, nI_l, lN_i, Nat.add_zero, Nat.zero_add, Nat.zero_le, true_and, and_true, b2n_10, b2n_T, b2n_F, b2n_0, Decidable.not_not, not_true_eq_false, not_false_eq_true, Nat.reduceAdd, Nat.reduceMul, t_255 hs hA.2.1.2.2.2.1 hA.2.2.1.2.2.2.1 h1 h2, st_g1 hs]
  have ew : u2 (u2 J 29 0 (lN 0)) 29 1 (lN 0) s 1 = J s 1 := by rw [u2_ab (by omega), u2_ab (by omega)]
  try rw [ew]
  refine t_256 (sk := skC N) hs hu (lk_A hs hu hA _) lk_O ?_
  intro N' I' J' hv hN hI hJ hc
  simp (disch := (first | omega | exact aCat_8 (by with_unfolding_all rfl) | exact rk_lt (by with_unfolding_all rfl) | exact aCat_16 (by with_unfolding_all rfl) | exact rk_eq (by with_unfolding_all rfl) | assumption | exact b2n_lt _ | exact id_b (by with_unfolding_all rfl) | (simp (disch := omega) only [u2_same, u2_ab, u2_aq]; done) | (simp (disch := omega) only [u2_same, u2_ab, u2_aq]; omega) | fail)) only [al_16640, wp_aloadr_0, wp_aloadk_0, wp_aloadr_1, wp_aloadk_1, wp_aloadr_2, wp_aloadk_2, wc_255, hg_20_1, hg_22_1, hg_24_1, wc_256, wp_return, nl_i, nl_r, nl_k, nl_j, nl_l, nI_add, pk_mul, pk_sub, tl_s, tl_n, aL_inl, u2_same, u2_ab, u2_aq, nI_l, lN_i, Nat.add_zero, Nat.zero_add, Nat.zero_le, true_and, and_true, b2n_10, b2n_T, b2n_F, b2n_0, Decidable.not_not, not_true_eq_false, not_false_eq_true, Nat.reduceAdd, Nat.reduceMul]
  refine hQ N' I' J' hv ?_ hI ?_ ?_
  · intro b q z1 z2
    rw [hN b q z1 (by omega), u2_rd, if_neg (by omega), u2_rd, if_neg (by omega), u2_rd, if_neg (by omega)]
  · intro b q z1 z2
    rw [hJ b q z1 z2, u2_ab z1, u2_ab z1]
  · unfold crsG
    rw [← crs0_congr (by omega) (by omega) (wl_tb hA.2.1 hF.1) (fun _ _ _ _ => rfl)]
    exact hc
end K6
