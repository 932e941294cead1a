/-! least. From wip/whole/src. -/
def lsS (N : Nat → Nat → Nat) (a f : Nat) : Nat → Nat := upn (N 89) f (N 89 f - a)
/-- whether it would go another way, were a cut off from f -/
def lsA (D : Nat → Nat) (N : Nat → Nat → Nat) (a f : Nat) : Bool := decide (a ≤ N 89 f) && !smB (crsS D N (lsS N a f)) (crsS D N (N 89))
theorem bsd_back {R C g v f : Nat} {o : Nat → Bool} (hC : 2 ≤ C) (hv : v < 3) (hb : bsd R C g v = some f) (ho : o g = true) : besW R C o f 4 = true := by
  rw [besW_4]
  have hc : v = 0 ∨ v = 1 ∨ v = 2 := by omega
  rcases hc with rfl | rfl | rfl
  · have hb' : (if g / C + 1 < R then some (g + C) else none) = some f := hb
    split at hb'
    · cases hb'
      have h1 : 0 < (g + C) / C := by rw [Nat.add_div_right g (by omega)]; exact Nat.succ_pos _
      have h2 : g + C - C = g := by omega
      rw [h2, ho]
      simp [h1]
    · cases hb'
  · have hb' : (if 0 < g % C then some (g - 1) else none) = some f := hb
    split at hb'
    · rename_i hg
      cases hb'
      obtain ⟨j, rfl⟩ : ∃ j, g = j + 1 := by
        cases g with
        | zero => rw [Nat.zero_mod] at hg; omega
        | succ j => exact ⟨j, rfl⟩
      have hm : j % C < C := Nat.mod_lt _ (by omega)
      have h1 : ¬ j % C + 1 = C := fun z => by have := (md_1 hC).mpr z; omega
      have h2 : j + 1 - 1 = j := by omega
      have h3 : j % C + 1 < C := by omega
      rw [h2, ho]
      simp [h3]
    · cases hb'
  · have hb' : (if g % C + 1 < C then some (g + 1) else none) = some f := hb
    split at hb'
    · rename_i hg
      cases hb'
      have h1 : ¬ (g + 1) % C = 0 := fun z => by have := (md_1 hC).mp z; omega
      have h2 : g + 1 - 1 = g := by omega
      have h3 : 0 < (g + 1) % C := by omega
      rw [h2, ho]
      simp [h3]
    · cases hb'
section E1
variable {ko : aKo} {d k : Nat} {is : List Instr} {ls st : List Value} {σ : aH} {D : Nat → Nat} {N : Nat → Nat → Nat} {I : Nat → Nat → Int32} {J : Nat → Nat → Int64} {x t : Nat} {Q : Option Value → aH → Prop} {P : (Option Value ⊕ Unit) → aH → Prop}
theorem ls_far {f a : Nat} (hf : f < 36) (hn : ∀ k v, k < (crsS D N (N 89)).1 → v < 3 → bsd (D 0) (D 1) ((crsS D N (N 89)).2.1 k) v ≠ some f) : crsS D N (lsS N a f) = crsS D N (N 89) := by
  have e : ∀ q, q ≠ f → lsS N a f q = N 89 q := fun q hq => by rw [lsS, upn, if_neg hq]
  have ew : wlS (lsS N a f) = wlS (N 89) := by
    funext g
    unfold wlS
    rw [e (36 + g) (by omega)]
  unfold crsS at hn ⊢
  rw [ew, e 108 (by omega)]
  refine crs0_dis ?_
  intro k v y b hk hv hy
  have hyf : y ≠ f := by
    rintro rfl
    exact hn k v hk hv hy
  unfold dsl asks
  rw [e y hyf, e (72 + y) (by omega), e 109 (by omega)]
theorem now_G (h : invB D N I J t) : rwG D t (N 89) := by
  obtain ⟨a1, a2, a3, _⟩ := h.2.2.2.2.1
  exact ⟨a1, a2, a3.1, a3.2⟩
theorem ls_G (h : invB D N I J t) {a f : Nat} (hf : f < D 0 * D 1) (ha : a ≤ N 89 f) : rwG D t (lsS N a f) := by
  have hC := rwG_cut (n := a) (dm_F h.1.1).1 hf (now_G h)
  unfold cutY at hC
  rw [if_pos ha] at hC
  exact hC
/-- the class looks where the river would go in the dream -/
theorem dr_look {N0 : Nat → Nat → Nat} {I0 : Nat → Nat → Int32} {J0 : Nat → Nat → Int64} {S : Nat → Nat} (h : invB D N0 I0 J0 t) (hD : drO D N0 N I0 I J0 J S)
    (hQ : ∀ (N' : Nat → Nat → Nat) (I' : Nat → Nat → Int32) (J' : Nat → Nat → Int64), drO D N0 N' I0 I' J0 J' S → clC (D 1) N' I' J' (crsS D N0 S) → gN N' N → Q none (hp D N' I' J' x)) :
    aMm ko d 260 [.ref 26, .ref 24, .ref 11] (hp D N I J x) Q := by
  obtain ⟨hA, hsk, h91, hN, hI, hJ, hC, hR⟩ := hD
  refine t_260 (s := 24) (ru := 11) rfl rfl hA (by rw [h91]; exact inv_s1 h) (by rw [h91]; exact inv_s2 h) ?_
  intro N' I' J' _ hN' hI' hJ' hc
  rw [hsk, inv_G h, h.1.2.2.1] at hc
  have e91 : N' 9 1 = N 9 1 := hN' 9 1 (by decide) (by omega)
  refine hQ N' I' J' ⟨⟨ldO_f hA.1 (fun q => ⟨hN' 6 q (by decide) (by omega), hN' 7 q (by decide) (by omega)⟩) (fun q => hI' 8 q (by decide) (by decide) (by decide) (by decide) (by omega)) (fun q => hJ' 5 q (by decide) (by omega)), clS_c hA.2.1 (fun q => hN' 24 q (by decide) (by omega)) (fun q => hN' 25 q (by decide) (by omega)) (fun q => hJ' 24 q (by decide) (by omega)), hA.2.2.1, ⟨(hN' 11 2 (by decide) (by omega)).trans hA.2.2.2.1.1, fun k hk => (hI' 12 k (by decide) (by decide) (by decide) (by decide) (by omega)).trans (hA.2.2.2.1.2 k hk)⟩, hA.2.2.2.2⟩, ?_, e91.trans h91, sN_t (gN_s hN') hN, sI_t (fI_s hI') hI, sJ_t (fJ_s hJ') hJ, ⟨(hN' 3 1 (by decide) (by omega)).trans hC.1, fun q => (hJ' 4 q (by decide) (by omega)).trans (hC.2 q)⟩, ⟨(hN' 86 1 (by decide) (by omega)).trans hR.1, fun q => (hJ' 87 q (by decide) (by omega)).trans (hR.2 q)⟩⟩ hc hN'
  rw [← hsk]
  unfold skC
  funext q
  rw [e91, hN' 10 _ (by decide) (by omega)]
/-- the class, while it tries cuts -/
def lsO (D : Nat → Nat) (N0 N : Nat → Nat → Nat) (I0 I : Nat → Nat → Int32) (J0 J : Nat → Nat → Int64) : Prop := drO D N0 N I0 I J0 J (N0 89) ∧ N 26 14 = (crsS D N0 (N0 89)).1 ∧ ∀ i, i < (crsS D N0 (N0 89)).1 → N 31 i = (crsS D N0 (N0 89)).2.1 i
theorem crs_36 {S : Nat → Nat} (h : invB D N I J t) (hS : rwO (D 1) S) : (crsS D N S).1 ≤ 36 ∧ ∀ i, i < (crsS D N S).1 → (crsS D N S).2.1 i < 36 := by
  have hF := dm_F h.1.1
  have hK := crsS_K (N := N) h.1.1 hS
  exact ⟨Nat.le_trans hK.1 hF.1, fun i hi => Nat.lt_of_lt_of_le (hK.2.1 i hi) hF.1⟩
theorem t_189 {N0 : Nat → Nat → Nat} {I0 : Nat → Nat → Int32} {J0 : Nat → Nat → Int64} {a f : Nat} (h : invB D N0 I0 J0 t) (hf : f < D 0 * D 1) (ha : a ≤ 9) (hO : lsO D N0 N I0 I J0 J)
    (hQ : ∀ (N' : Nat → Nat → Nat) (I' : Nat → Nat → Int32) (J' : Nat → Nat → Int64), lsO D N0 N' I0 I' J0 J' → Q (some (.int (nI (b2n (lsA D N0 a f = true))))) (hp D N' I' J' x)) :
    aMm ko d 189 [.ref 0, .int (nI f), .int (nI a)] (hp D N I J x) Q := by
  have hF := dm_F h.1.1
  have h89 := h.2.2.2.2.1
  have h9 := (h89.1.1 f (by omega)).1
  have e21 : N 21 f = N0 89 f := (hO.1.2.2.2.1 21 f rfl).trans (h89.2.2.2.1 f (by omega))
  rw [me_189]
  by_cases hlt : a ≤ N0 89 f
  · simp (disch := (first | omega | exact aCat_8 (by with_unfolding_all rfl) | exact rk_lt (by with_unfolding_all rfl) | exact aCat_16 (by with_unfolding_all rfl) | exact rk_eq (by with_unfolding_all rfl) | assumption | exact b2n_lt _ | exact id_b (by with_unfolding_all rfl) | (simp (disch := omega) only [u2_same, u2_ab, u2_aq]; done) | (simp (disch := omega) only [u2_same, u2_ab, u2_aq]; omega) | fail)) only [al_12096, wp_aloadr_0, wp_aloadk_0, hg_0_7, hg_20_0, ha_21l, ha_21s, hg_22_0, ha_23l, ha_23s, hg_24_0, ha_25l, ha_25s, wp_iload_1, wp_iload_2, wn_ge_t, wn_ge_f, wk_0, wp_freturn0, wp_freturn1, wp_freturnb, al_12097, hg_0_9, wp_isub, hg_0_10, hg_0_4, wc_260, wc_262, wz_ne_t, wz_ne_f, wb_ne_t, wb_ne_f, wm_ne_1, wm_ne_2, wk_1, wp_goto, al_12098, wp_jsr, al_12099, nl_i, nl_r, nl_k, nl_j, nl_l, nI_add, pk_mul, pk_sub, tl_s, tl_n, aL_inl, u2_same, u2_ab, u2_aq, nI_l, lN_i, Nat.add_zero, Nat.zero_add, Nat.zero_le, true_and, and_true, b2n_10, b2n_T, b2n_F, b2n_0, Decidable.not_not, not_true_eq_false, not_false_eq_true, Nat.reduceAdd, Nat.reduceMul, Nat.reduceSub, e21]
    have hup : drO D N0 (u2 N 25 f (N0 89 f - a)) I0 I J0 J (lsS N0 a f) := dr_set hO.1 (by rw [h.1.2.2.1]; exact (ls_G h hf hlt).1) (cl_up hO.1.1.2.1 (by omega)) (fun b q z1 z2 => u2_ab z2) (fun _ _ _ => rfl)
    refine dr_look h hup ?_
    intro N1 I1 J1 hD1 hc1 hN1
    have e21' : N1 21 f = N0 89 f := (hD1.2.2.2.1 21 f rfl).trans (h89.2.2.2.1 f (by omega))
    obtain ⟨c1, c2⟩ := crs_36 h (ls_G h hf hlt).1
    obtain ⟨c3, c4⟩ := crs_36 h h89.1
    have eN : ∀ b q, b ≠ 25 → u2 N1 25 f (N0 89 f) b q = N1 b q := fun b q z => u2_ab z
    have h14 : N1 26 14 = (crsS D N0 (N0 89)).1 := (hN1 26 14 (by decide) (by omega)).trans (by rw [u2_ab (by decide)]; exact hO.2.1)
    have h31 : ∀ i, i < (crsS D N0 (N0 89)).1 → N1 31 i = (crsS D N0 (N0 89)).2.1 i := fun i hi => (hN1 31 i (by decide) (by omega)).trans (by rw [u2_ab (by decide)]; exact hO.2.2 i hi)
    have hback : lsO D N0 (u2 N1 25 f (N0 89 f)) I0 I1 J0 J1 := by
      refine ⟨?_, (eN 26 14 (by decide)).trans h14, fun i hi => (eN 31 i (by decide)).trans (h31 i hi)⟩
      refine dr_set hD1 (by rw [h.1.2.2.1]; exact h89.1) ?_ (fun b q z1 z2 => u2_ab z2) (fun _ _ _ => rfl)
      have := cl_up (w := N0 89 f) hD1.1.2.1 (f := f) (by omega)
      have e : upn (lsS N0 a f) f (N0 89 f) = N0 89 := by
        funext q
        unfold lsS upn
        by_cases z : q = f
        · rw [if_pos z, z]
        · rw [if_neg z, if_neg z]
      rw [e] at this
      exact this
    have t262 : ∀ Q : Option Value → aH → Prop, aMm ko d 262 [.ref 26] (hp D (u2 N1 25 f (N0 89 f)) I1 J1 x) Q = Q (some (.int (nI (b2n (smB (crsS D N0 (lsS N0 a f)) (crsS D N0 (N0 89)) = true))))) (hp D (u2 N1 25 f (N0 89 f)) I1 J1 x) := fun Q => t_262 ((eN 26 9 (by decide)).trans hc1.1) hback.2.1 (fun i hi => ⟨(eN 30 i (by decide)).trans (hc1.2.1 i hi), c2 i hi⟩) (fun i hi => ⟨hback.2.2 i hi, c4 i hi⟩) c1 c3
    have hq := hQ _ _ _ hback
    unfold lsA at hq
    rw [decide_eq_true hlt, Bool.true_and] at hq
    by_cases hs : smB (crsS D N0 (lsS N0 a f)) (crsS D N0 (N0 89)) = true
    · rw [hs, Bool.not_true, b2n_f (by decide)] at hq
      simp (disch := (first | omega | exact aCat_8 (by with_unfolding_all rfl) | exact rk_lt (by with_unfolding_all rfl) | exact aCat_16 (by with_unfolding_all rfl) | exact rk_eq (by with_unfolding_all rfl) | assumption | exact b2n_lt _ | exact id_b (by with_unfolding_all rfl) | (simp (disch := omega) only [u2_same, u2_ab, u2_aq]; done) | (simp (disch := omega) only [u2_same, u2_ab, u2_aq]; omega) | fail)) only [al_12096, wp_aloadr_0, wp_aloadk_0, hg_0_7, hg_20_0, ha_21l, ha_21s, hg_22_0, ha_23l, ha_23s, hg_24_0, ha_25l, ha_25s, wp_iload_1, wp_iload_2, wn_ge_t, wn_ge_f, wk_0, wp_freturn0, wp_freturn1, wp_freturnb, al_12097, hg_0_9, wp_isub, hg_0_10, hg_0_4, wc_260, wc_262, wz_ne_t, wz_ne_f, wb_ne_t, wb_ne_f, wm_ne_1, wm_ne_2, wk_1, wp_goto, al_12098, wp_jsr, al_12099, nl_i, nl_r, nl_k, nl_j, nl_l, nI_add, pk_mul, pk_sub, tl_s, tl_n, aL_inl, u2_same, u2_ab, u2_aq, nI_l, lN_i, Nat.add_zero, Nat.zero_add, Nat.zero_le, true_and, and_true, b2n_10, b2n_T, b2n_F, b2n_0, Decidable.not_not, not_true_eq_false, not_false_eq_true, Nat.reduceAdd, Nat.reduceMul, Nat.reduceSub, e21', t262, b2n_t hs]
      exact hq
    · have hs' : smB (crsS D N0 (lsS N0 a f)) (crsS D N0 (N0 89)) = false := by simpa using hs
      rw [hs', Bool.not_false, b2n_t rfl] at hq
      simp (disch := (first | omega | exact aCat_8 (by with_unfolding_all rfl) | exact rk_lt (by with_unfolding_all rfl) | exact aCat_16 (by with_unfolding_all rfl) | exact rk_eq (by with_unfolding_all rfl) | assumption | exact b2n_lt _ | exact id_b (by with_unfolding_all rfl) | (simp (disch := omega) only [u2_same, u2_ab, u2_aq]; done) | (simp (disch := omega) only [u2_same, u2_ab, u2_aq]; omega) | fail)) only [al_12096, wp_aloadr_0, wp_aloadk_0, hg_0_7, hg_20_0, ha_21l, ha_21s, hg_22_0, ha_23l, ha_23s, hg_24_0, ha_25l, ha_25s, wp_iload_1, wp_iload_2, wn_ge_t, wn_ge_f, wk_0, wp_freturn0, wp_freturn1, wp_freturnb, al_12097, hg_0_9, wp_isub, hg_0_10, hg_0_4, wc_260, wc_262, wz_ne_t, wz_ne_f, wb_ne_t, wb_ne_f, wm_ne_1, wm_ne_2, wk_1, wp_goto, al_12098, wp_jsr, al_12099, nl_i, nl_r, nl_k, nl_j, nl_l, nI_add, pk_mul, pk_sub, tl_s, tl_n, aL_inl, u2_same, u2_ab, u2_aq, nI_l, lN_i, Nat.add_zero, Nat.zero_add, Nat.zero_le, true_and, and_true, b2n_10, b2n_T, b2n_F, b2n_0, Decidable.not_not, not_true_eq_false, not_false_eq_true, Nat.reduceAdd, Nat.reduceMul, Nat.reduceSub, e21', t262, b2n_f hs]
      exact hq
  · have hq := hQ N I J hO
    have ef : ¬ lsA D N0 a f = true := by
      unfold lsA
      rw [decide_eq_false hlt, Bool.false_and]
      decide
    rw [b2n_f ef] at hq
    simp (disch := (first | omega | exact aCat_8 (by with_unfolding_all rfl) | exact rk_lt (by with_unfolding_all rfl) | exact aCat_16 (by with_unfolding_all rfl) | exact rk_eq (by with_unfolding_all rfl) | assumption | exact b2n_lt _ | exact id_b (by with_unfolding_all rfl) | (simp (disch := omega) only [u2_same, u2_ab, u2_aq]; done) | (simp (disch := omega) only [u2_same, u2_ab, u2_aq]; omega) | fail)) only [al_12096, wp_aloadr_0, wp_aloadk_0, hg_0_7, hg_20_0, ha_21l, ha_21s, hg_22_0, ha_23l, ha_23s, hg_24_0, ha_25l, ha_25s, wp_iload_1, wp_iload_2, wn_ge_t, wn_ge_f, wk_0, wp_freturn0, wp_freturn1, wp_freturnb, al_12097, hg_0_9, wp_isub, hg_0_10, hg_0_4, wc_260, wc_262, wz_ne_t, wz_ne_f, wb_ne_t, wb_ne_f, wm_ne_1, wm_ne_2, wk_1, wp_goto, al_12098, wp_jsr, al_12099, nl_i, nl_r, nl_k, nl_j, nl_l, nI_add, pk_mul, pk_sub, tl_s, tl_n, aL_inl, u2_same, u2_ab, u2_aq, nI_l, lN_i, Nat.add_zero, Nat.zero_add, Nat.zero_le, true_and, and_true, b2n_10, b2n_T, b2n_F, b2n_0, Decidable.not_not, not_true_eq_false, not_false_eq_true, Nat.reduceAdd, Nat.reduceMul, Nat.reduceSub, e21]
    exact hq
end E1
