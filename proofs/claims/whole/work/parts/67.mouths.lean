/-! mouths. From wip/whole/src. -/
def drW (D : Nat → Nat) (N0 N : Nat → Nat → Nat) (I0 I : Nat → Nat → Int32) (J0 J : Nat → Nat → Int64) (S : Nat → Nat) : Prop := rvA D N I J 24 11 (N0 93) (N0 86 18) S ∧ skC N = skC N0 ∧ N 9 1 = N0 9 1 ∧ sN N N0 ∧ sI I I0 ∧ sJ J J0
/-- the column of a mouth -/
def mcl (C : Nat) (c : Nat × (Nat → Nat) × Bool) : Nat := c.2.1 (c.1 - 1) % C
/-- how often of k tides it comes to the sea in a column -/
def cntM (C : Nat) (cs : Nat → Nat × (Nat → Nat) × Bool) (m : Nat) : Nat → Nat
  | 0 => 0
  | k + 1 => cntM C cs m k + b2n ((cs k).2.2 = false ∧ mcl C (cs k) = m)
def cntL (cs : Nat → Nat × (Nat → Nat) × Bool) : Nat → Nat
  | 0 => 0
  | k + 1 => cntL cs k + b2n ((cs k).2.2 = true)
def bitM (C : Nat) (cs : Nat → Nat × (Nat → Nat) × Bool) : Nat → Int32
  | 0 => nI 0
  | k + 1 => if (cs k).2.2 = true then bitM C cs k else bitM C cs k ||| nI 1 <<< (nI (mcl C (cs k)) &&& 31)
theorem cntM_le {C : Nat} {cs : Nat → Nat × (Nat → Nat) × Bool} {m : Nat} : ∀ k, cntM C cs m k ≤ k
  | 0 => Nat.le_refl _
  | k + 1 => by
    have := cntM_le (C := C) (cs := cs) (m := m) k
    have := b2n_le ((cs k).2.2 = false ∧ mcl C (cs k) = m)
    rw [cntM]
    omega
theorem cntL_le {cs : Nat → Nat × (Nat → Nat) × Bool} : ∀ k, cntL cs k ≤ k
  | 0 => Nat.le_refl _
  | k + 1 => by
    have := cntL_le (cs := cs) k
    have := b2n_le ((cs k).2.2 = true)
    rw [cntL]
    omega
section O6
variable {ko : aKo} {d k : Nat} {is : List Instr} {ls st : List Value} {σ : aH} {D : Nat → Nat} {N : Nat → Nat → Nat} {I : Nat → Nat → Int32} {J : Nat → Nat → Int64} {x t : Nat} {Q : Option Value → aH → Prop} {P : (Option Value ⊕ Unit) → aH → Prop}
theorem dr_w {N0 : Nat → Nat → Nat} {I0 : Nat → Nat → Int32} {J0 : Nat → Nat → Int64} {k : Nat} (h : invB D N0 I0 J0 t) (hk : k ≤ 100) (ht : t + 300 < 1000000000) (hD : drW D N0 N I0 I J0 J (itS D N0 (N0 89) k))
    (hQ : ∀ (N' : Nat → Nat → Nat) (I' : Nat → Nat → Int32) (J' : Nat → Nat → Int64), drW D N0 N' I0 I' J0 J' (itS D N0 (N0 89) (k + 1)) → clC (D 1) N' I' J' (crsS D N0 (itS D N0 (N0 89) k)) → pN 24 N' N → fI I' I → pJ 24 J' J → Q (some (.int (nI (b2n ((crsS D N0 (itS D N0 (N0 89) k)).2.2 = false))))) (hp D N' I' J' x)) :
    aMm ko d 254 [.ref 26, .ref 24, .ref 11, .int (nI 1)] (hp D N I J x) Q := by
  obtain ⟨hA, hsk, h91, hN, hI, hJ⟩ := hD
  have h89 := h.2.2.2.2.1
  have hz : rwZ (D 2 * D 3) (itS D N0 (N0 89) k) := by
    have := itG_Z (n := N0 86 18) (c := N0 93) (sk := skC N0) h.1.2.2.2.1 (by rw [h.1.2.2.1]; exact h89.1) (inv_z h) k (by have := h89.2.2.1; omega)
    rw [inv_it h] at this
    exact this
  refine t_254 (s := 24) (ru := 11) rfl rfl hA hz (by rw [h91]; exact inv_s1 h) (by rw [h91]; exact inv_s2 h) (by decide) (by rw [itS_t]; have := h89.2.2.1; omega) ?_
  intro N' I' J' hA' hN' hI' hJ' hc'
  have hc := hc' (by decide)
  have e1 : itG (D 2) (D 3) (N0 93) (N0 86 18) (skC N) (itS D N0 (N0 89) k) 1 = itS D N0 (N0 89) (k + 1) := by
    rw [hsk, inv_it h]
    rfl
  have e2 : cmG (D 2) (D 3) (N0 93) (N0 86 18) (skC N) (itS D N0 (N0 89) k) 1 = b2n ((crsS D N0 (itS D N0 (N0 89) k)).2.2 = false) := by
    rw [hsk, inv_cm h]
    show 0 + _ = _
    rw [Nat.zero_add]
    rfl
  rw [e1] at hA'
  rw [e2]
  have e3 : crsG (D 2) (D 3) (N0 93) (N0 86 18) (skC N) (itG (D 2) (D 3) (N0 93) (N0 86 18) (skC N) (itS D N0 (N0 89) k) (1 - 1)) = crsS D N0 (itS D N0 (N0 89) k) := by
    rw [hsk]
    show crsG _ _ _ _ _ (itS D N0 (N0 89) k) = _
    rw [inv_G h]
  rw [e3, h.1.2.2.1] at hc
  obtain ⟨f1, f2⟩ := pN_sk (s := 24) rfl hN'
  exact hQ N' I' J' ⟨hA', f1.trans hsk, f2.trans h91, sN_t (pN_s hN') hN, sI_t (fI_s hI') hI, sJ_t (pJ_s hJ') hJ⟩ hc hN' hI' hJ'
theorem t_294 {i v : Nat} (h : i < N 3 1) (h36 : N 3 1 ≤ 36) (hv : J 4 i = lN v) : aMm ko d 294 [.ref 3, .int (nI i)] (hp D N I J x) Q = Q none (hp D N I (u2 J 4 i (lN (v + 1))) x) := by
  rw [me_294]
  simp (disch := (first | omega | exact aCat_8 (by with_unfolding_all rfl) | exact rk_lt (by with_unfolding_all rfl) | exact aCat_16 (by with_unfolding_all rfl) | exact rk_eq (by with_unfolding_all rfl) | assumption | exact b2n_lt _ | exact id_b (by with_unfolding_all rfl) | (simp (disch := omega) only [u2_same, u2_ab, u2_aq]; done) | (simp (disch := omega) only [u2_same, u2_ab, u2_aq]; omega) | fail)) only [al_18816, wp_iload_1, wz_lt_t, wz_lt_f, wm_lt_1, wm_lt_2, wp_aloadr_0, wp_aloadk_0, hg_3_1, wn_ge_t, wn_ge_f, hg_3_0, ha_4l, ha_4s, wp_dup2, wl_1, wp_ladd, wp_jsr, al_18817, wp_return, nl_i, nl_r, nl_k, nl_j, nl_l, nI_add, pk_mul, pk_sub, tl_s, tl_n, aL_inl, u2_same, u2_ab, u2_aq, nI_l, lN_i, Nat.add_zero, Nat.zero_add, Nat.zero_le, true_and, and_true, b2n_10, b2n_T, b2n_F, b2n_0, Decidable.not_not, not_true_eq_false, not_false_eq_true, Nat.reduceAdd, Nat.reduceMul, hv, lN_add]
/-- the told row of mouths in the making -/
def mtd (C : Nat) (cs : Nat → Nat × (Nat → Nat) × Bool) (k : Nat) : Nat → Int64 := fun i => if i < C then lN (cntM C cs i k) else lN (cntL cs k)
theorem mtd_u {C k : Nat} {cs : Nat → Nat × (Nat → Nat) × Bool} {i : Nat} (hi : i ≤ C) (hm : (cs k).2.2 = true ∨ mcl C (cs k) < C) : mtd C cs (k + 1) i = if i = (if (cs k).2.2 = true then C else mcl C (cs k)) then lN ((if (cs k).2.2 = true then cntL cs k else cntM C cs (mcl C (cs k)) k) + 1) else mtd C cs k i := by
  unfold mtd
  by_cases hl : (cs k).2.2 = true
  · rw [if_pos hl, if_pos hl]
    by_cases e : i = C
    · subst e
      rw [if_pos rfl, if_neg (by omega), cntL, b2n_t hl]
    · rw [if_neg e, if_pos (by omega), if_pos (by omega), cntM, b2n_f (by simp [hl]), Nat.add_zero]
  · rw [if_neg hl, if_neg hl]
    have hm' : mcl C (cs k) < C := hm.resolve_left hl
    by_cases e : i = mcl C (cs k)
    · subst e
      rw [if_pos rfl, if_pos hm', cntM, b2n_t ⟨by simpa using hl, rfl⟩]
    · rw [if_neg e]
      by_cases e2 : i < C
      · rw [if_pos e2, if_pos e2, cntM, b2n_f (fun z => e z.2.symm), Nat.add_zero]
      · rw [if_neg e2, if_neg e2, cntL, b2n_f hl, Nat.add_zero]
theorem mcl_lt {C : Nat} {c : Nat × (Nat → Nat) × Bool} (h : 0 < C) : mcl C c < C := Nat.mod_lt _ h
theorem l_181b {N0 : Nat → Nat → Nat} {I0 : Nat → Nat → Int32} {J0 : Nat → Nat → Int64} {n : Nat} (h : invB D N0 I0 J0 t) (ht : t + 300 < 1000000000) (hn : n ≤ 99)
    (hQ : ansC D N0 I0 J0 x (.int (bitM (D 1) (fun k => crsS D N0 (itS D N0 (N0 89) k)) n)) (D 1 + 1) (mtd (D 1) (fun k => crsS D N0 (itS D N0 (N0 89) k)) n) Q) :
    ∀ (j k : Nat) (N : Nat → Nat → Nat) (I : Nat → Nat → Int32) (J : Nat → Nat → Int64), k + j = n → drW D N0 N I0 I J0 J (itS D N0 (N0 89) k) → tdC N J (D 1 + 1) (mtd (D 1) (fun k => crsS D N0 (itS D N0 (N0 89) k)) k) → aWp ko d 181 (aP.1 (Int.toNat 11588)) [.ref 0, .int (nI n), .int (bitM (D 1) (fun k => crsS D N0 (itS D N0 (N0 89) k)) k), .int (nI k)] [] (hp D N I J x) (aL Q) := by
  have hF := dm_F h.1.1
  have h89 := h.2.2.2.2.1
  have hd6 := h.1.1.2.2.2
  have hd2 := h.1.1.2.2.1
  have hd3 := h.1.2.2.1
  intro j
  induction j with
  | zero =>
    intro k N I J hj hD hT
    have e : k = n := by omega
    subst e
    rw [al_11588]
    simp (disch := (first | omega | exact aCat_8 (by with_unfolding_all rfl) | exact rk_lt (by with_unfolding_all rfl) | exact aCat_16 (by with_unfolding_all rfl) | exact rk_eq (by with_unfolding_all rfl) | assumption | exact b2n_lt _ | exact id_b (by with_unfolding_all rfl) | (simp (disch := omega) only [u2_same, u2_ab, u2_aq]; done) | (simp (disch := omega) only [u2_same, u2_ab, u2_aq]; omega) | fail)) only [al_11584, wp_iload_1, wc_180, wz_eq_t, wz_eq_f, wb_eq_t, wb_eq_f, wm_eq_1, wm_eq_2, wk_m1, wp_ireturn, al_11585, wp_aloadr_0, wp_aloadk_0, hg_0_1, wc_292, t_292, wk_0, wp_istore_2, wp_jsr, wp_iload_2, hg_0_2, hg_5_1, wn_gt_t, wn_gt_f, wl_0, wc_293, t_293, wp_iinc_2_1, wp_goto, al_11587, hg_0_9, hg_0_7, wp_istore_3, wp_iload_3, wn_ge_t, wn_ge_f, hg_0_10, hg_0_4, wk_1, wc_254, wp_pop, hg_26_11, wk_m2, wn_ne_t, wn_ne_f, wc_294, al_11589, wp_ishl, wp_ior, al_11590, wp_iinc_3_1, al_11591, nl_i, nl_r, nl_k, nl_j, nl_l, nI_add, pk_mul, pk_sub, tl_s, tl_n, aL_inl, u2_same, u2_ab, u2_aq, nI_l, lN_i, Nat.add_zero, Nat.zero_add, Nat.zero_le, true_and, and_true, b2n_10, b2n_T, b2n_F, b2n_0, Decidable.not_not, not_true_eq_false, not_false_eq_true, Nat.reduceAdd, Nat.reduceMul]
    exact hQ N I J hD.2.2.2.1 hD.2.2.2.2.1 hD.2.2.2.2.2 hT
  | succ j ih =>
    intro k N I J hj hD hT
    rw [al_11588]
    simp (disch := (first | omega | exact aCat_8 (by with_unfolding_all rfl) | exact rk_lt (by with_unfolding_all rfl) | exact aCat_16 (by with_unfolding_all rfl) | exact rk_eq (by with_unfolding_all rfl) | assumption | exact b2n_lt _ | exact id_b (by with_unfolding_all rfl) | (simp (disch := omega) only [u2_same, u2_ab, u2_aq]; done) | (simp (disch := omega) only [u2_same, u2_ab, u2_aq]; omega) | fail)) only [al_11584, wp_iload_1, wc_180, wz_eq_t, wz_eq_f, wb_eq_t, wb_eq_f, wm_eq_1, wm_eq_2, wk_m1, wp_ireturn, al_11585, wp_aloadr_0, wp_aloadk_0, hg_0_1, wc_292, t_292, wk_0, wp_istore_2, wp_jsr, wp_iload_2, hg_0_2, hg_5_1, wn_gt_t, wn_gt_f, wl_0, wc_293, t_293, wp_iinc_2_1, wp_goto, al_11587, hg_0_9, hg_0_7, wp_istore_3, wp_iload_3, wn_ge_t, wn_ge_f, hg_0_10, hg_0_4, wk_1, wc_254, wp_pop, hg_26_11, wk_m2, wn_ne_t, wn_ne_f, wc_294, al_11589, wp_ishl, wp_ior, al_11590, wp_iinc_3_1, al_11591, nl_i, nl_r, nl_k, nl_j, nl_l, nI_add, pk_mul, pk_sub, tl_s, tl_n, aL_inl, u2_same, u2_ab, u2_aq, nI_l, lN_i, Nat.add_zero, Nat.zero_add, Nat.zero_le, true_and, and_true, b2n_10, b2n_T, b2n_F, b2n_0, Decidable.not_not, not_true_eq_false, not_false_eq_true, Nat.reduceAdd, Nat.reduceMul]
    refine dr_w h (by omega) ht hD ?_
    intro N' I' J' hD' hc' hN' _ hJ'
    have e11 := hc'.2.2.2.1
    have e31 : N' 3 1 = D 1 + 1 := (hN' 3 1 (by decide) (by omega) (by decide) (by decide)).trans hT.1
    have e4 : ∀ i, i < D 1 + 1 → J' 4 i = mtd (D 1) (fun k => crsS D N0 (itS D N0 (N0 89) k)) k i := fun i hi => (hJ' 4 i (by decide) (by omega) (by decide)).trans (hT.2 i hi)
    have hml := mcl_lt (C := D 1) (c := crsS D N0 (itS D N0 (N0 89) k)) (by omega)
    have hgo : ∀ (i : Nat) (v : Nat) (b : Int32), i = (if (crsS D N0 (itS D N0 (N0 89) k)).2.2 = true then D 1 else mcl (D 1) (crsS D N0 (itS D N0 (N0 89) k))) → v = (if (crsS D N0 (itS D N0 (N0 89) k)).2.2 = true then cntL (fun k => crsS D N0 (itS D N0 (N0 89) k)) k else cntM (D 1) (fun k => crsS D N0 (itS D N0 (N0 89) k)) (mcl (D 1) (crsS D N0 (itS D N0 (N0 89) k))) k) → b = bitM (D 1) (fun k => crsS D N0 (itS D N0 (N0 89) k)) (k + 1) → aWp ko d 181 (aP.1 (Int.toNat 11588)) [.ref 0, .int (nI n), .int b, .int (nI (k + 1))] [] (hp D N' I' (u2 J' 4 i (lN (v + 1))) x) (aL Q) := by
      intro i v b hi hv hb
      rw [hb]
      obtain ⟨d1, d2, d3, d4, d5, d6⟩ := hD'
      refine ih (k + 1) N' I' _ (by omega) ⟨?_, d2, d3, d4, d5, sJ_u d6 rfl⟩ ⟨e31, ?_⟩
      · exact ⟨ldO_f d1.1 (fun _ => ⟨rfl, rfl⟩) (fun _ => rfl) (fun q => u2_ab (by decide)), clS_c d1.2.1 (fun _ => rfl) (fun _ => rfl) (fun q => u2_ab (by decide)), d1.2.2⟩
      · intro q hq
        rw [mtd_u (cs := fun k => crsS D N0 (itS D N0 (N0 89) k)) (k := k) (by omega) (Or.inr hml), u2_rd, e4 q hq, ← hi, ← hv]
        simp
    by_cases hlk : (crsS D N0 (itS D N0 (N0 89) k)).2.2 = true
    · rw [mth, if_pos hlk] at e11
      have ev : J' 4 (D 1) = lN (cntL (fun k => crsS D N0 (itS D N0 (N0 89) k)) k) := by
        rw [e4 _ (by omega), mtd, if_neg (by omega)]
      simp (disch := (first | omega | exact aCat_8 (by with_unfolding_all rfl) | exact rk_lt (by with_unfolding_all rfl) | exact aCat_16 (by with_unfolding_all rfl) | exact rk_eq (by with_unfolding_all rfl) | assumption | exact b2n_lt _ | exact id_b (by with_unfolding_all rfl) | (simp (disch := omega) only [u2_same, u2_ab, u2_aq]; done) | (simp (disch := omega) only [u2_same, u2_ab, u2_aq]; omega) | fail)) only [al_11584, wp_iload_1, wc_180, wz_eq_t, wz_eq_f, wb_eq_t, wb_eq_f, wm_eq_1, wm_eq_2, wk_m1, wp_ireturn, al_11585, wp_aloadr_0, wp_aloadk_0, hg_0_1, wc_292, t_292, wk_0, wp_istore_2, wp_jsr, wp_iload_2, hg_0_2, hg_5_1, wn_gt_t, wn_gt_f, wl_0, wc_293, t_293, wp_iinc_2_1, wp_goto, al_11587, hg_0_9, hg_0_7, wp_istore_3, wp_iload_3, wn_ge_t, wn_ge_f, hg_0_10, hg_0_4, wk_1, wc_254, wp_pop, hg_26_11, wk_m2, wn_ne_t, wn_ne_f, wc_294, al_11589, wp_ishl, wp_ior, al_11590, wp_iinc_3_1, al_11591, nl_i, nl_r, nl_k, nl_j, nl_l, nI_add, pk_mul, pk_sub, tl_s, tl_n, aL_inl, u2_same, u2_ab, u2_aq, nI_l, lN_i, Nat.add_zero, Nat.zero_add, Nat.zero_le, true_and, and_true, b2n_10, b2n_T, b2n_F, b2n_0, Decidable.not_not, not_true_eq_false, not_false_eq_true, Nat.reduceAdd, Nat.reduceMul, e11, qe_n1, qe_m1, qn_n1, qn_m1, qe_n2, qe_m2, qn_n2, qn_m2, hd3, t_294 (N := N') (J := J') (i := D 1) (by omega) (by omega) ev]
      exact hgo _ _ _ (by rw [if_pos hlk]) (by rw [if_pos hlk]) (by rw [bitM, if_pos hlk])
    · rw [mth, if_neg hlk] at e11
      have e11' : I' 26 11 = nI (mcl (D 1) (crsS D N0 (itS D N0 (N0 89) k))) := e11
      have ev : J' 4 (mcl (D 1) (crsS D N0 (itS D N0 (N0 89) k))) = lN (cntM (D 1) (fun k => crsS D N0 (itS D N0 (N0 89) k)) (mcl (D 1) (crsS D N0 (itS D N0 (N0 89) k))) k) := by
        rw [e4 _ (by omega), mtd, if_pos hml]
      simp (disch := (first | omega | exact aCat_8 (by with_unfolding_all rfl) | exact rk_lt (by with_unfolding_all rfl) | exact aCat_16 (by with_unfolding_all rfl) | exact rk_eq (by with_unfolding_all rfl) | assumption | exact b2n_lt _ | exact id_b (by with_unfolding_all rfl) | (simp (disch := omega) only [u2_same, u2_ab, u2_aq]; done) | (simp (disch := omega) only [u2_same, u2_ab, u2_aq]; omega) | fail)) only [al_11584, wp_iload_1, wc_180, wz_eq_t, wz_eq_f, wb_eq_t, wb_eq_f, wm_eq_1, wm_eq_2, wk_m1, wp_ireturn, al_11585, wp_aloadr_0, wp_aloadk_0, hg_0_1, wc_292, t_292, wk_0, wp_istore_2, wp_jsr, wp_iload_2, hg_0_2, hg_5_1, wn_gt_t, wn_gt_f, wl_0, wc_293, t_293, wp_iinc_2_1, wp_goto, al_11587, hg_0_9, hg_0_7, wp_istore_3, wp_iload_3, wn_ge_t, wn_ge_f, hg_0_10, hg_0_4, wk_1, wc_254, wp_pop, hg_26_11, wk_m2, wn_ne_t, wn_ne_f, wc_294, al_11589, wp_ishl, wp_ior, al_11590, wp_iinc_3_1, al_11591, nl_i, nl_r, nl_k, nl_j, nl_l, nI_add, pk_mul, pk_sub, tl_s, tl_n, aL_inl, u2_same, u2_ab, u2_aq, nI_l, lN_i, Nat.add_zero, Nat.zero_add, Nat.zero_le, true_and, and_true, b2n_10, b2n_T, b2n_F, b2n_0, Decidable.not_not, not_true_eq_false, not_false_eq_true, Nat.reduceAdd, Nat.reduceMul, e11', qe_n1, qe_m1, qn_n1, qn_m1, qe_n2, qe_m2, qn_n2, qn_m2, t_294 (N := N') (J := J') (i := mcl (D 1) (crsS D N0 (itS D N0 (N0 89) k))) (by omega) (by omega) ev]
      exact hgo _ _ _ (by rw [if_neg hlk]) (by rw [if_neg hlk]) (by rw [bitM, if_neg hlk])
theorem l_181a {C : Nat} (hC : D 3 = C) (hC6 : C ≤ 6)
    (hQ : ∀ (N' : Nat → Nat → Nat) (J' : Nat → Nat → Int64), (∀ b q, b ≠ 3 → N' b q = N b q) → (∀ b q, b ≠ 4 → J' b q = J b q) → tdC N' J' (C + 1) (fun _ => lN 0) → aWp ko d 181 (aP.1 (Int.toNat 11587)) [.ref 0, .int (nI k), .int (nI (C + 1)), aJk] [] (hp D N' I J' x) P) :
    ∀ (j i : Nat) (N' : Nat → Nat → Nat) (J' : Nat → Nat → Int64), i + j = C + 1 → (∀ b q, b ≠ 3 → N' b q = N b q) → (∀ b q, b ≠ 4 → J' b q = J b q) → tdC N' J' i (fun _ => lN 0) → aWp ko d 181 (aP.1 (Int.toNat 11586)) [.ref 0, .int (nI k), .int (nI i), aJk] [] (hp D N' I J' x) P := by
  intro j
  induction j with
  | zero =>
    intro i N' J' hj h1 h2 h3
    have e : i = C + 1 := by omega
    subst e
    rw [al_11586]
    simp (disch := (first | omega | exact aCat_8 (by with_unfolding_all rfl) | exact rk_lt (by with_unfolding_all rfl) | exact aCat_16 (by with_unfolding_all rfl) | exact rk_eq (by with_unfolding_all rfl) | assumption | exact b2n_lt _ | exact id_b (by with_unfolding_all rfl) | (simp (disch := omega) only [u2_same, u2_ab, u2_aq]; done) | (simp (disch := omega) only [u2_same, u2_ab, u2_aq]; omega) | fail)) only [al_11584, wp_iload_1, wc_180, wz_eq_t, wz_eq_f, wb_eq_t, wb_eq_f, wm_eq_1, wm_eq_2, wk_m1, wp_ireturn, al_11585, wp_aloadr_0, wp_aloadk_0, hg_0_1, wc_292, t_292, wk_0, wp_istore_2, wp_jsr, wp_iload_2, hg_0_2, hg_5_1, wn_gt_t, wn_gt_f, wl_0, wc_293, t_293, wp_iinc_2_1, wp_goto, hg_0_9, hg_0_7, wp_istore_3, wp_iload_3, wn_ge_t, wn_ge_f, hg_0_10, hg_0_4, wk_1, wc_254, wp_pop, hg_26_11, wk_m2, wn_ne_t, wn_ne_f, wc_294, al_11589, wp_ishl, wp_ior, al_11590, wp_iinc_3_1, al_11591, nl_i, nl_r, nl_k, nl_j, nl_l, nI_add, pk_mul, pk_sub, tl_s, tl_n, aL_inl, u2_same, u2_ab, u2_aq, nI_l, lN_i, Nat.add_zero, Nat.zero_add, Nat.zero_le, true_and, and_true, b2n_10, b2n_T, b2n_F, b2n_0, Decidable.not_not, not_true_eq_false, not_false_eq_true, Nat.reduceAdd, Nat.reduceMul, hC]
    exact hQ N' J' h1 h2 h3
  | succ j ih =>
    intro i N' J' hj h1 h2 h3
    have e31 := h3.1
    rw [al_11586]
    simp (disch := (first | omega | exact aCat_8 (by with_unfolding_all rfl) | exact rk_lt (by with_unfolding_all rfl) | exact aCat_16 (by with_unfolding_all rfl) | exact rk_eq (by with_unfolding_all rfl) | assumption | exact b2n_lt _ | exact id_b (by with_unfolding_all rfl) | (simp (disch := omega) only [u2_same, u2_ab, u2_aq]; done) | (simp (disch := omega) only [u2_same, u2_ab, u2_aq]; omega) | fail)) only [al_11584, wp_iload_1, wc_180, wz_eq_t, wz_eq_f, wb_eq_t, wb_eq_f, wm_eq_1, wm_eq_2, wk_m1, wp_ireturn, al_11585, wp_aloadr_0, wp_aloadk_0, hg_0_1, wc_292, t_292, wk_0, wp_istore_2, wp_jsr, wp_iload_2, hg_0_2, hg_5_1, wn_gt_t, wn_gt_f, wl_0, wc_293, t_293, wp_iinc_2_1, wp_goto, hg_0_9, hg_0_7, wp_istore_3, wp_iload_3, wn_ge_t, wn_ge_f, hg_0_10, hg_0_4, wk_1, wc_254, wp_pop, hg_26_11, wk_m2, wn_ne_t, wn_ne_f, wc_294, al_11589, wp_ishl, wp_ior, al_11590, wp_iinc_3_1, al_11591, nl_i, nl_r, nl_k, nl_j, nl_l, nI_add, pk_mul, pk_sub, tl_s, tl_n, aL_inl, u2_same, u2_ab, u2_aq, nI_l, lN_i, Nat.add_zero, Nat.zero_add, Nat.zero_le, true_and, and_true, b2n_10, b2n_T, b2n_F, b2n_0, Decidable.not_not, not_true_eq_false, not_false_eq_true, Nat.reduceAdd, Nat.reduceMul, hC, e31]
    refine ih (i + 1) _ _ (by omega) ?_ ?_ ⟨by rw [u2_same], ?_⟩
    · intro b q hb
      rw [u2_ab hb]
      exact h1 b q hb
    · intro b q hb
      rw [u2_ab hb]
      exact h2 b q hb
    · intro q hq
      rw [u2_rd]
      by_cases e : q = i
      · rw [if_pos ⟨rfl, e⟩]
      · rw [if_neg (fun z => e z.2)]
        exact h3.2 q (by omega)
end O6
