/-! The reference: beside, forceOn, worked, ruled, dislike. From wip/whole/src. -/
section R2
variable {ko : aKo} {d k : Nat} {is : List Instr} {ls st : List Value} {σ : aH} {D : Nat → Nat} {N : Nat → Nat → Nat} {I : Nat → Nat → Int32} {J : Nat → Nat → Int64} {x : Nat} {Q : Option Value → aH → Prop} {P : (Option Value ⊕ Unit) → aH → Prop}
theorem m1_l : ((-1 : Int32)).toInt64 = -1 := rfl
theorem m1_in {Y : Prop} [Decidable Y] : nI (b2n (lN 0 ≤ (-1 : Int64) ∧ Y)) = nI 0 := by rw [b2n_f (fun q => absurd q.1 (by decide))]
theorem n0_m1 : nI 0 + (-1) = -1 := by decide
theorem t_29 {f w : Nat} (h02 : 2 ≤ D 0) (h0 : 2 ≤ D 1) (h6 : D 1 ≤ 6) (hR : D 0 ≤ 6) (hf : f < D 0 * D 1) (hw : w ≤ 3) : aMm ko d 29 [.ref 86, .int (nI f), .int (nI w)] (hp D N I J x) Q = Q (some (.int (oI (bsd (D 0) (D 1) f w)))) (hp D N I J x) := by
  have hr := dv_lt hf
  have hc : f % D 1 < D 1 := Nat.mod_lt _ (by omega)
  have he := Nat.div_add_mod f (D 1)
  have hff : f < 37 := by
    have : D 0 * D 1 ≤ 6 * 6 := Nat.mul_le_mul hR h6
    omega
  have h4 : w = 0 ∨ w = 1 ∨ w = 2 ∨ w = 3 := by omega
  rcases h4 with rfl | rfl | rfl | rfl
  · rw [me_29]
    by_cases h : f / D 1 + 1 < D 0
    · have e : bsd (D 0) (D 1) f 0 = some (D 1 * (f / D 1 + 1) + f % D 1) := by
        simp [bsd, h, Nat.mul_add]; omega
      rw [e]
      simp (disch := (first | omega | exact aCat_8 (by with_unfolding_all rfl) | exact rk_lt (by with_unfolding_all rfl) | exact aCat_16 (by with_unfolding_all rfl) | exact rk_eq (by with_unfolding_all rfl) | assumption | exact b2n_lt _ | exact id_b (by with_unfolding_all rfl) | (simp (disch := omega) only [u2_same, u2_ab, u2_aq]; done) | (simp (disch := omega) only [u2_same, u2_ab, u2_aq]; omega) | fail)) only [al_1856, wp_iload_1, wp_aloadr_0, wp_aloadk_0, hg_86_4, wp_idivn, wp_iload_2, wz_ne_t, wz_ne_f, wb_ne_t, wb_ne_f, wm_ne_1, wm_ne_2, wk_1, wp_goto, al_1857, wk_3, wn_ne_t, wn_ne_f, wk_m1, al_1858, wk_0, wp_jsr, al_1859, wp_iadd, wp_istore_3, wp_iremn, wk_2, al_1860, al_1861, al_1862, wp_istore_4, wp_iload_3, wp_i2l, wl_0, hg_86_3, wp_isub, wc_4, t_4, lN_le, wz_eq_t, wz_eq_f, wb_eq_t, wb_eq_f, wm_eq_1, wm_eq_2, wp_iload_4, wp_imul, al_1863, al_1864, wp_ireturn, nl_i, nl_r, nl_k, nl_j, nl_l, nI_add, pk_mul, pk_sub, tl_s, tl_n, aL_inl, u2_same, u2_ab, u2_aq, nI_l, lN_i, Nat.add_zero, Nat.zero_add, Nat.zero_le, true_and, and_true, b2n_10, b2n_T, b2n_F, b2n_0, Decidable.not_not, not_true_eq_false, not_false_eq_true, Nat.reduceAdd, Nat.reduceMul, oI_s]
    · have e : bsd (D 0) (D 1) f 0 = none := by simp [bsd, h]
      rw [e]
      simp (disch := (first | omega | exact aCat_8 (by with_unfolding_all rfl) | exact rk_lt (by with_unfolding_all rfl) | exact aCat_16 (by with_unfolding_all rfl) | exact rk_eq (by with_unfolding_all rfl) | assumption | exact b2n_lt _ | exact id_b (by with_unfolding_all rfl) | (simp (disch := omega) only [u2_same, u2_ab, u2_aq]; done) | (simp (disch := omega) only [u2_same, u2_ab, u2_aq]; omega) | fail)) only [al_1856, wp_iload_1, wp_aloadr_0, wp_aloadk_0, hg_86_4, wp_idivn, wp_iload_2, wz_ne_t, wz_ne_f, wb_ne_t, wb_ne_f, wm_ne_1, wm_ne_2, wk_1, wp_goto, al_1857, wk_3, wn_ne_t, wn_ne_f, wk_m1, al_1858, wk_0, wp_jsr, al_1859, wp_iadd, wp_istore_3, wp_iremn, wk_2, al_1860, al_1861, al_1862, wp_istore_4, wp_iload_3, wp_i2l, wl_0, hg_86_3, wp_isub, wc_4, t_4, lN_le, wz_eq_t, wz_eq_f, wb_eq_t, wb_eq_f, wm_eq_1, wm_eq_2, wp_iload_4, wp_imul, al_1863, al_1864, wp_ireturn, nl_i, nl_r, nl_k, nl_j, nl_l, nI_add, pk_mul, pk_sub, tl_s, tl_n, aL_inl, u2_same, u2_ab, u2_aq, nI_l, lN_i, Nat.add_zero, Nat.zero_add, Nat.zero_le, true_and, and_true, b2n_10, b2n_T, b2n_F, b2n_0, Decidable.not_not, not_true_eq_false, not_false_eq_true, Nat.reduceAdd, Nat.reduceMul, oI_n]
  · rw [me_29]
    by_cases h : 0 < f % D 1
    · have e : bsd (D 0) (D 1) f 1 = some (D 1 * (f / D 1) + (f % D 1 - 1)) := by
        simp [bsd, h]; omega
      rw [e]
      simp (disch := (first | omega | exact aCat_8 (by with_unfolding_all rfl) | exact rk_lt (by with_unfolding_all rfl) | exact aCat_16 (by with_unfolding_all rfl) | exact rk_eq (by with_unfolding_all rfl) | assumption | exact b2n_lt _ | exact id_b (by with_unfolding_all rfl) | (simp (disch := omega) only [u2_same, u2_ab, u2_aq]; done) | (simp (disch := omega) only [u2_same, u2_ab, u2_aq]; omega) | fail)) only [al_1856, wp_iload_1, wp_aloadr_0, wp_aloadk_0, hg_86_4, wp_idivn, wp_iload_2, wz_ne_t, wz_ne_f, wb_ne_t, wb_ne_f, wm_ne_1, wm_ne_2, wk_1, wp_goto, al_1857, wk_3, wn_ne_t, wn_ne_f, wk_m1, al_1858, wk_0, wp_jsr, al_1859, wp_iadd, wp_istore_3, wp_iremn, wk_2, al_1860, al_1861, al_1862, wp_istore_4, wp_iload_3, wp_i2l, wl_0, hg_86_3, wp_isub, wc_4, t_4, lN_le, wz_eq_t, wz_eq_f, wb_eq_t, wb_eq_f, wm_eq_1, wm_eq_2, wp_iload_4, wp_imul, al_1863, al_1864, wp_ireturn, nl_i, nl_r, nl_k, nl_j, nl_l, nI_add, pk_mul, pk_sub, tl_s, tl_n, aL_inl, u2_same, u2_ab, u2_aq, nI_l, lN_i, Nat.add_zero, Nat.zero_add, Nat.zero_le, true_and, and_true, b2n_10, b2n_T, b2n_F, b2n_0, Decidable.not_not, not_true_eq_false, not_false_eq_true, Nat.reduceAdd, Nat.reduceMul, oI_s, sb_m1]
    · have e : bsd (D 0) (D 1) f 1 = none := by simp [bsd, h]
      have h2 : f % D 1 = 0 := by omega
      rw [e]
      simp (disch := (first | omega | exact aCat_8 (by with_unfolding_all rfl) | exact rk_lt (by with_unfolding_all rfl) | exact aCat_16 (by with_unfolding_all rfl) | exact rk_eq (by with_unfolding_all rfl) | assumption | exact b2n_lt _ | exact id_b (by with_unfolding_all rfl) | (simp (disch := omega) only [u2_same, u2_ab, u2_aq]; done) | (simp (disch := omega) only [u2_same, u2_ab, u2_aq]; omega) | fail)) only [al_1856, wp_iload_1, wp_aloadr_0, wp_aloadk_0, hg_86_4, wp_idivn, wp_iload_2, wz_ne_t, wz_ne_f, wb_ne_t, wb_ne_f, wm_ne_1, wm_ne_2, wk_1, wp_goto, al_1857, wk_3, wn_ne_t, wn_ne_f, wk_m1, al_1858, wk_0, wp_jsr, al_1859, wp_iadd, wp_istore_3, wp_iremn, wk_2, al_1860, al_1861, al_1862, wp_istore_4, wp_iload_3, wp_i2l, wl_0, hg_86_3, wp_isub, wc_4, t_4, lN_le, wz_eq_t, wz_eq_f, wb_eq_t, wb_eq_f, wm_eq_1, wm_eq_2, wp_iload_4, wp_imul, al_1863, al_1864, wp_ireturn, nl_i, nl_r, nl_k, nl_j, nl_l, nI_add, pk_mul, pk_sub, tl_s, tl_n, aL_inl, u2_same, u2_ab, u2_aq, nI_l, lN_i, Nat.add_zero, Nat.zero_add, Nat.zero_le, true_and, and_true, b2n_10, b2n_T, b2n_F, b2n_0, Decidable.not_not, not_true_eq_false, not_false_eq_true, Nat.reduceAdd, Nat.reduceMul, oI_n, h2, n0_m1, m1_l, m1_in]
  · rw [me_29]
    by_cases h : f % D 1 + 1 < D 1
    · have e : bsd (D 0) (D 1) f 2 = some (D 1 * (f / D 1) + (f % D 1 + 1)) := by
        simp [bsd, h]; omega
      rw [e]
      simp (disch := (first | omega | exact aCat_8 (by with_unfolding_all rfl) | exact rk_lt (by with_unfolding_all rfl) | exact aCat_16 (by with_unfolding_all rfl) | exact rk_eq (by with_unfolding_all rfl) | assumption | exact b2n_lt _ | exact id_b (by with_unfolding_all rfl) | (simp (disch := omega) only [u2_same, u2_ab, u2_aq]; done) | (simp (disch := omega) only [u2_same, u2_ab, u2_aq]; omega) | fail)) only [al_1856, wp_iload_1, wp_aloadr_0, wp_aloadk_0, hg_86_4, wp_idivn, wp_iload_2, wz_ne_t, wz_ne_f, wb_ne_t, wb_ne_f, wm_ne_1, wm_ne_2, wk_1, wp_goto, al_1857, wk_3, wn_ne_t, wn_ne_f, wk_m1, al_1858, wk_0, wp_jsr, al_1859, wp_iadd, wp_istore_3, wp_iremn, wk_2, al_1860, al_1861, al_1862, wp_istore_4, wp_iload_3, wp_i2l, wl_0, hg_86_3, wp_isub, wc_4, t_4, lN_le, wz_eq_t, wz_eq_f, wb_eq_t, wb_eq_f, wm_eq_1, wm_eq_2, wp_iload_4, wp_imul, al_1863, al_1864, wp_ireturn, nl_i, nl_r, nl_k, nl_j, nl_l, nI_add, pk_mul, pk_sub, tl_s, tl_n, aL_inl, u2_same, u2_ab, u2_aq, nI_l, lN_i, Nat.add_zero, Nat.zero_add, Nat.zero_le, true_and, and_true, b2n_10, b2n_T, b2n_F, b2n_0, Decidable.not_not, not_true_eq_false, not_false_eq_true, Nat.reduceAdd, Nat.reduceMul, oI_s]
    · have e : bsd (D 0) (D 1) f 2 = none := by simp [bsd, h]
      rw [e]
      simp (disch := (first | omega | exact aCat_8 (by with_unfolding_all rfl) | exact rk_lt (by with_unfolding_all rfl) | exact aCat_16 (by with_unfolding_all rfl) | exact rk_eq (by with_unfolding_all rfl) | assumption | exact b2n_lt _ | exact id_b (by with_unfolding_all rfl) | (simp (disch := omega) only [u2_same, u2_ab, u2_aq]; done) | (simp (disch := omega) only [u2_same, u2_ab, u2_aq]; omega) | fail)) only [al_1856, wp_iload_1, wp_aloadr_0, wp_aloadk_0, hg_86_4, wp_idivn, wp_iload_2, wz_ne_t, wz_ne_f, wb_ne_t, wb_ne_f, wm_ne_1, wm_ne_2, wk_1, wp_goto, al_1857, wk_3, wn_ne_t, wn_ne_f, wk_m1, al_1858, wk_0, wp_jsr, al_1859, wp_iadd, wp_istore_3, wp_iremn, wk_2, al_1860, al_1861, al_1862, wp_istore_4, wp_iload_3, wp_i2l, wl_0, hg_86_3, wp_isub, wc_4, t_4, lN_le, wz_eq_t, wz_eq_f, wb_eq_t, wb_eq_f, wm_eq_1, wm_eq_2, wp_iload_4, wp_imul, al_1863, al_1864, wp_ireturn, nl_i, nl_r, nl_k, nl_j, nl_l, nI_add, pk_mul, pk_sub, tl_s, tl_n, aL_inl, u2_same, u2_ab, u2_aq, nI_l, lN_i, Nat.add_zero, Nat.zero_add, Nat.zero_le, true_and, and_true, b2n_10, b2n_T, b2n_F, b2n_0, Decidable.not_not, not_true_eq_false, not_false_eq_true, Nat.reduceAdd, Nat.reduceMul, oI_n]
  · rw [me_29]
    by_cases h : 0 < f / D 1
    · have e : bsd (D 0) (D 1) f 3 = some (D 1 * (f / D 1 - 1) + f % D 1) := by
        simp [bsd, h]
        have h7 : D 1 * (f / D 1 - 1) + D 1 = D 1 * (f / D 1) := by
          rw [← Nat.mul_succ]; congr 1; omega
        omega
      rw [e]
      simp (disch := (first | omega | exact aCat_8 (by with_unfolding_all rfl) | exact rk_lt (by with_unfolding_all rfl) | exact aCat_16 (by with_unfolding_all rfl) | exact rk_eq (by with_unfolding_all rfl) | assumption | exact b2n_lt _ | exact id_b (by with_unfolding_all rfl) | (simp (disch := omega) only [u2_same, u2_ab, u2_aq]; done) | (simp (disch := omega) only [u2_same, u2_ab, u2_aq]; omega) | fail)) only [al_1856, wp_iload_1, wp_aloadr_0, wp_aloadk_0, hg_86_4, wp_idivn, wp_iload_2, wz_ne_t, wz_ne_f, wb_ne_t, wb_ne_f, wm_ne_1, wm_ne_2, wk_1, wp_goto, al_1857, wk_3, wn_ne_t, wn_ne_f, wk_m1, al_1858, wk_0, wp_jsr, al_1859, wp_iadd, wp_istore_3, wp_iremn, wk_2, al_1860, al_1861, al_1862, wp_istore_4, wp_iload_3, wp_i2l, wl_0, hg_86_3, wp_isub, wc_4, t_4, lN_le, wz_eq_t, wz_eq_f, wb_eq_t, wb_eq_f, wm_eq_1, wm_eq_2, wp_iload_4, wp_imul, al_1863, al_1864, wp_ireturn, nl_i, nl_r, nl_k, nl_j, nl_l, nI_add, pk_mul, pk_sub, tl_s, tl_n, aL_inl, u2_same, u2_ab, u2_aq, nI_l, lN_i, Nat.add_zero, Nat.zero_add, Nat.zero_le, true_and, and_true, b2n_10, b2n_T, b2n_F, b2n_0, Decidable.not_not, not_true_eq_false, not_false_eq_true, Nat.reduceAdd, Nat.reduceMul, oI_s, sb_m1]
    · have e : bsd (D 0) (D 1) f 3 = none := by simp [bsd, h]
      have h2 : f / D 1 = 0 := Nat.eq_zero_of_not_pos h
      rw [e]
      simp (disch := (first | omega | exact aCat_8 (by with_unfolding_all rfl) | exact rk_lt (by with_unfolding_all rfl) | exact aCat_16 (by with_unfolding_all rfl) | exact rk_eq (by with_unfolding_all rfl) | assumption | exact b2n_lt _ | exact id_b (by with_unfolding_all rfl) | (simp (disch := omega) only [u2_same, u2_ab, u2_aq]; done) | (simp (disch := omega) only [u2_same, u2_ab, u2_aq]; omega) | fail)) only [al_1856, wp_iload_1, wp_aloadr_0, wp_aloadk_0, hg_86_4, wp_idivn, wp_iload_2, wz_ne_t, wz_ne_f, wb_ne_t, wb_ne_f, wm_ne_1, wm_ne_2, wk_1, wp_goto, al_1857, wk_3, wn_ne_t, wn_ne_f, wk_m1, al_1858, wk_0, wp_jsr, al_1859, wp_iadd, wp_istore_3, wp_iremn, wk_2, al_1860, al_1861, al_1862, wp_istore_4, wp_iload_3, wp_i2l, wl_0, hg_86_3, wp_isub, wc_4, t_4, lN_le, wz_eq_t, wz_eq_f, wb_eq_t, wb_eq_f, wm_eq_1, wm_eq_2, wp_iload_4, wp_imul, al_1863, al_1864, wp_ireturn, nl_i, nl_r, nl_k, nl_j, nl_l, nI_add, pk_mul, pk_sub, tl_s, tl_n, aL_inl, u2_same, u2_ab, u2_aq, nI_l, lN_i, Nat.add_zero, Nat.zero_add, Nat.zero_le, true_and, and_true, b2n_10, b2n_T, b2n_F, b2n_0, Decidable.not_not, not_true_eq_false, not_false_eq_true, Nat.reduceAdd, Nat.reduceMul, oI_n, h2, n0_m1, m1_l, m1_in]
theorem t_31 {t : Nat} (h1 : 0 < N 86 6) (h2 : N 86 6 ≤ 20) (ht : t < 2147483648) : aMm ko d 31 [.ref 86, .int (nI t)] (hp D N I J x) Q = Q (some (.int (nI (N 88 (t % N 86 6))))) (hp D N I J x) := by
  have h3 : t % N 86 6 < N 86 6 := Nat.mod_lt _ h1
  rw [me_31]
  simp (disch := (first | omega | exact aCat_8 (by with_unfolding_all rfl) | exact rk_lt (by with_unfolding_all rfl) | exact aCat_16 (by with_unfolding_all rfl) | exact rk_eq (by with_unfolding_all rfl) | assumption | exact b2n_lt _ | exact id_b (by with_unfolding_all rfl) | (simp (disch := omega) only [u2_same, u2_ab, u2_aq]; done) | (simp (disch := omega) only [u2_same, u2_ab, u2_aq]; omega) | fail)) only [al_1984, wp_aloadr_0, wp_aloadk_0, hg_86_7, ha_88l, ha_88s, wp_iload_1, hg_86_6, wp_iremn, wp_ireturn, nl_i, nl_r, nl_k, nl_j, nl_l, nI_add, pk_mul, pk_sub, tl_s, tl_n, aL_inl, u2_same, u2_ab, u2_aq, nI_l, lN_i, Nat.add_zero, Nat.zero_add, Nat.zero_le, true_and, and_true, b2n_10, b2n_T, b2n_F, b2n_0, Decidable.not_not, not_true_eq_false, not_false_eq_true, Nat.reduceAdd, Nat.reduceMul]
theorem wp_tsw {dl lo hi : Int} {offs : Array Int} {L : Int} {x : Int32} (h : (if x.toInt < lo ∨ hi < x.toInt then dl else offs.toList.getD (x.toInt - lo).toNat dl) = L) : aWp ko d k (.tableswitch dl lo hi offs :: is) ls (.int x :: st) σ P = aWp ko d k (aP.1 L.toNat) ls st σ P := wp_of (fun _ => aEv_go (by rw [← h]; rfl))
theorem t_33 {act : Nat} {a b : Int32} (h : act ≤ 6) : aMm ko d 33 [.int (nI act), .int a, .int b] σ Q = Q (some (.int (wkd act a b))) σ := by
  have h7 : act = 0 ∨ act = 1 ∨ act = 2 ∨ act = 3 ∨ act = 4 ∨ act = 5 ∨ act = 6 := by omega
  rcases h7 with rfl | rfl | rfl | rfl | rfl | rfl | rfl
  · rw [me_33, al_2112]
    simp only [wp_iload_0]
    rw [wp_tsw (L := 2113) (by decide)]
    have e : wkd 0 a b = nI (b2n (a < b)) := rfl
    rw [e]
    by_cases q : a < b
    · have q2 : ¬ b ≤ a := fun z => (Int32.not_lt.mpr z) q
      simp (disch := (first | omega | exact aCat_8 (by with_unfolding_all rfl) | exact rk_lt (by with_unfolding_all rfl) | exact aCat_16 (by with_unfolding_all rfl) | exact rk_eq (by with_unfolding_all rfl) | assumption | exact b2n_lt _ | exact id_b (by with_unfolding_all rfl) | (simp (disch := omega) only [u2_same, u2_ab, u2_aq]; done) | (simp (disch := omega) only [u2_same, u2_ab, u2_aq]; omega) | fail)) only [al_2112, wp_iload_0, al_2113, wp_iload_1, wp_iload_2, wn_ge_t, wn_ge_f, wk_1, wp_goto, al_2114, wk_0, wp_jsr, al_2115, wc_17, t_17, wp_ireturn, al_2116, wn_le_t, wn_le_f, al_2117, al_2118, al_2119, wn_ne_t, wn_ne_f, al_2120, al_2121, al_2122, wp_iadd, al_2123, wp_isub, al_2124, wp_imul, al_2125, wz_ne_t, wz_ne_f, wb_ne_t, wb_ne_f, wm_ne_1, wm_ne_2, al_2126, wp_idivn, al_2127, nl_i, nl_r, nl_k, nl_j, nl_l, nI_add, pk_mul, pk_sub, tl_s, tl_n, aL_inl, u2_same, u2_ab, u2_aq, nI_l, lN_i, Nat.add_zero, Nat.zero_add, Nat.zero_le, true_and, and_true, b2n_10, b2n_T, b2n_F, b2n_0, Decidable.not_not, not_true_eq_false, not_false_eq_true, Nat.reduceAdd, Nat.reduceMul, wx_ge_f q2, b2n_t q]
    · have q2 : b ≤ a := Int32.not_lt.mp q
      simp (disch := (first | omega | exact aCat_8 (by with_unfolding_all rfl) | exact rk_lt (by with_unfolding_all rfl) | exact aCat_16 (by with_unfolding_all rfl) | exact rk_eq (by with_unfolding_all rfl) | assumption | exact b2n_lt _ | exact id_b (by with_unfolding_all rfl) | (simp (disch := omega) only [u2_same, u2_ab, u2_aq]; done) | (simp (disch := omega) only [u2_same, u2_ab, u2_aq]; omega) | fail)) only [al_2112, wp_iload_0, al_2113, wp_iload_1, wp_iload_2, wn_ge_t, wn_ge_f, wk_1, wp_goto, al_2114, wk_0, wp_jsr, al_2115, wc_17, t_17, wp_ireturn, al_2116, wn_le_t, wn_le_f, al_2117, al_2118, al_2119, wn_ne_t, wn_ne_f, al_2120, al_2121, al_2122, wp_iadd, al_2123, wp_isub, al_2124, wp_imul, al_2125, wz_ne_t, wz_ne_f, wb_ne_t, wb_ne_f, wm_ne_1, wm_ne_2, al_2126, wp_idivn, al_2127, nl_i, nl_r, nl_k, nl_j, nl_l, nI_add, pk_mul, pk_sub, tl_s, tl_n, aL_inl, u2_same, u2_ab, u2_aq, nI_l, lN_i, Nat.add_zero, Nat.zero_add, Nat.zero_le, true_and, and_true, b2n_10, b2n_T, b2n_F, b2n_0, Decidable.not_not, not_true_eq_false, not_false_eq_true, Nat.reduceAdd, Nat.reduceMul, wx_ge_t q2, b2n_f q]
  · rw [me_33, al_2112]
    simp only [wp_iload_0]
    rw [wp_tsw (L := 2116) (by decide)]
    have e : wkd 1 a b = nI (b2n (b < a)) := rfl
    rw [e]
    by_cases q : b < a
    · have q2 : ¬ a ≤ b := fun z => (Int32.not_lt.mpr z) q
      simp (disch := (first | omega | exact aCat_8 (by with_unfolding_all rfl) | exact rk_lt (by with_unfolding_all rfl) | exact aCat_16 (by with_unfolding_all rfl) | exact rk_eq (by with_unfolding_all rfl) | assumption | exact b2n_lt _ | exact id_b (by with_unfolding_all rfl) | (simp (disch := omega) only [u2_same, u2_ab, u2_aq]; done) | (simp (disch := omega) only [u2_same, u2_ab, u2_aq]; omega) | fail)) only [al_2112, wp_iload_0, al_2113, wp_iload_1, wp_iload_2, wn_ge_t, wn_ge_f, wk_1, wp_goto, al_2114, wk_0, wp_jsr, al_2115, wc_17, t_17, wp_ireturn, al_2116, wn_le_t, wn_le_f, al_2117, al_2118, al_2119, wn_ne_t, wn_ne_f, al_2120, al_2121, al_2122, wp_iadd, al_2123, wp_isub, al_2124, wp_imul, al_2125, wz_ne_t, wz_ne_f, wb_ne_t, wb_ne_f, wm_ne_1, wm_ne_2, al_2126, wp_idivn, al_2127, nl_i, nl_r, nl_k, nl_j, nl_l, nI_add, pk_mul, pk_sub, tl_s, tl_n, aL_inl, u2_same, u2_ab, u2_aq, nI_l, lN_i, Nat.add_zero, Nat.zero_add, Nat.zero_le, true_and, and_true, b2n_10, b2n_T, b2n_F, b2n_0, Decidable.not_not, not_true_eq_false, not_false_eq_true, Nat.reduceAdd, Nat.reduceMul, wx_le_f q2, b2n_t q]
    · have q2 : a ≤ b := Int32.not_lt.mp q
      simp (disch := (first | omega | exact aCat_8 (by with_unfolding_all rfl) | exact rk_lt (by with_unfolding_all rfl) | exact aCat_16 (by with_unfolding_all rfl) | exact rk_eq (by with_unfolding_all rfl) | assumption | exact b2n_lt _ | exact id_b (by with_unfolding_all rfl) | (simp (disch := omega) only [u2_same, u2_ab, u2_aq]; done) | (simp (disch := omega) only [u2_same, u2_ab, u2_aq]; omega) | fail)) only [al_2112, wp_iload_0, al_2113, wp_iload_1, wp_iload_2, wn_ge_t, wn_ge_f, wk_1, wp_goto, al_2114, wk_0, wp_jsr, al_2115, wc_17, t_17, wp_ireturn, al_2116, wn_le_t, wn_le_f, al_2117, al_2118, al_2119, wn_ne_t, wn_ne_f, al_2120, al_2121, al_2122, wp_iadd, al_2123, wp_isub, al_2124, wp_imul, al_2125, wz_ne_t, wz_ne_f, wb_ne_t, wb_ne_f, wm_ne_1, wm_ne_2, al_2126, wp_idivn, al_2127, nl_i, nl_r, nl_k, nl_j, nl_l, nI_add, pk_mul, pk_sub, tl_s, tl_n, aL_inl, u2_same, u2_ab, u2_aq, nI_l, lN_i, Nat.add_zero, Nat.zero_add, Nat.zero_le, true_and, and_true, b2n_10, b2n_T, b2n_F, b2n_0, Decidable.not_not, not_true_eq_false, not_false_eq_true, Nat.reduceAdd, Nat.reduceMul, wx_le_t q2, b2n_f q]
  · rw [me_33, al_2112]
    simp only [wp_iload_0]
    rw [wp_tsw (L := 2119) (by decide)]
    have e : wkd 2 a b = nI (b2n (a = b)) := rfl
    rw [e]
    by_cases q : a = b
    · have q2 : ¬ ¬ a = b := fun z => z q
      simp (disch := (first | omega | exact aCat_8 (by with_unfolding_all rfl) | exact rk_lt (by with_unfolding_all rfl) | exact aCat_16 (by with_unfolding_all rfl) | exact rk_eq (by with_unfolding_all rfl) | assumption | exact b2n_lt _ | exact id_b (by with_unfolding_all rfl) | (simp (disch := omega) only [u2_same, u2_ab, u2_aq]; done) | (simp (disch := omega) only [u2_same, u2_ab, u2_aq]; omega) | fail)) only [al_2112, wp_iload_0, al_2113, wp_iload_1, wp_iload_2, wn_ge_t, wn_ge_f, wk_1, wp_goto, al_2114, wk_0, wp_jsr, al_2115, wc_17, t_17, wp_ireturn, al_2116, wn_le_t, wn_le_f, al_2117, al_2118, al_2119, wn_ne_t, wn_ne_f, al_2120, al_2121, al_2122, wp_iadd, al_2123, wp_isub, al_2124, wp_imul, al_2125, wz_ne_t, wz_ne_f, wb_ne_t, wb_ne_f, wm_ne_1, wm_ne_2, al_2126, wp_idivn, al_2127, nl_i, nl_r, nl_k, nl_j, nl_l, nI_add, pk_mul, pk_sub, tl_s, tl_n, aL_inl, u2_same, u2_ab, u2_aq, nI_l, lN_i, Nat.add_zero, Nat.zero_add, Nat.zero_le, true_and, and_true, b2n_10, b2n_T, b2n_F, b2n_0, Decidable.not_not, not_true_eq_false, not_false_eq_true, Nat.reduceAdd, Nat.reduceMul, wx_ne_f q2, b2n_t q]
    · simp (disch := (first | omega | exact aCat_8 (by with_unfolding_all rfl) | exact rk_lt (by with_unfolding_all rfl) | exact aCat_16 (by with_unfolding_all rfl) | exact rk_eq (by with_unfolding_all rfl) | assumption | exact b2n_lt _ | exact id_b (by with_unfolding_all rfl) | (simp (disch := omega) only [u2_same, u2_ab, u2_aq]; done) | (simp (disch := omega) only [u2_same, u2_ab, u2_aq]; omega) | fail)) only [al_2112, wp_iload_0, al_2113, wp_iload_1, wp_iload_2, wn_ge_t, wn_ge_f, wk_1, wp_goto, al_2114, wk_0, wp_jsr, al_2115, wc_17, t_17, wp_ireturn, al_2116, wn_le_t, wn_le_f, al_2117, al_2118, al_2119, wn_ne_t, wn_ne_f, al_2120, al_2121, al_2122, wp_iadd, al_2123, wp_isub, al_2124, wp_imul, al_2125, wz_ne_t, wz_ne_f, wb_ne_t, wb_ne_f, wm_ne_1, wm_ne_2, al_2126, wp_idivn, al_2127, nl_i, nl_r, nl_k, nl_j, nl_l, nI_add, pk_mul, pk_sub, tl_s, tl_n, aL_inl, u2_same, u2_ab, u2_aq, nI_l, lN_i, Nat.add_zero, Nat.zero_add, Nat.zero_le, true_and, and_true, b2n_10, b2n_T, b2n_F, b2n_0, Decidable.not_not, not_true_eq_false, not_false_eq_true, Nat.reduceAdd, Nat.reduceMul, wx_ne_t q, b2n_f q]
  · rw [me_33, al_2112]
    simp only [wp_iload_0]
    rw [wp_tsw (L := 2122) (by decide)]
    have e : wkd 3 a b = a + b := rfl
    rw [e]
    simp (disch := (first | omega | exact aCat_8 (by with_unfolding_all rfl) | exact rk_lt (by with_unfolding_all rfl) | exact aCat_16 (by with_unfolding_all rfl) | exact rk_eq (by with_unfolding_all rfl) | assumption | exact b2n_lt _ | exact id_b (by with_unfolding_all rfl) | (simp (disch := omega) only [u2_same, u2_ab, u2_aq]; done) | (simp (disch := omega) only [u2_same, u2_ab, u2_aq]; omega) | fail)) only [al_2112, wp_iload_0, al_2113, wp_iload_1, wp_iload_2, wn_ge_t, wn_ge_f, wk_1, wp_goto, al_2114, wk_0, wp_jsr, al_2115, wc_17, t_17, wp_ireturn, al_2116, wn_le_t, wn_le_f, al_2117, al_2118, al_2119, wn_ne_t, wn_ne_f, al_2120, al_2121, al_2122, wp_iadd, al_2123, wp_isub, al_2124, wp_imul, al_2125, wz_ne_t, wz_ne_f, wb_ne_t, wb_ne_f, wm_ne_1, wm_ne_2, al_2126, wp_idivn, al_2127, nl_i, nl_r, nl_k, nl_j, nl_l, nI_add, pk_mul, pk_sub, tl_s, tl_n, aL_inl, u2_same, u2_ab, u2_aq, nI_l, lN_i, Nat.add_zero, Nat.zero_add, Nat.zero_le, true_and, and_true, b2n_10, b2n_T, b2n_F, b2n_0, Decidable.not_not, not_true_eq_false, not_false_eq_true, Nat.reduceAdd, Nat.reduceMul]
  · rw [me_33, al_2112]
    simp only [wp_iload_0]
    rw [wp_tsw (L := 2123) (by decide)]
    have e : wkd 4 a b = a - b := rfl
    rw [e]
    simp (disch := (first | omega | exact aCat_8 (by with_unfolding_all rfl) | exact rk_lt (by with_unfolding_all rfl) | exact aCat_16 (by with_unfolding_all rfl) | exact rk_eq (by with_unfolding_all rfl) | assumption | exact b2n_lt _ | exact id_b (by with_unfolding_all rfl) | (simp (disch := omega) only [u2_same, u2_ab, u2_aq]; done) | (simp (disch := omega) only [u2_same, u2_ab, u2_aq]; omega) | fail)) only [al_2112, wp_iload_0, al_2113, wp_iload_1, wp_iload_2, wn_ge_t, wn_ge_f, wk_1, wp_goto, al_2114, wk_0, wp_jsr, al_2115, wc_17, t_17, wp_ireturn, al_2116, wn_le_t, wn_le_f, al_2117, al_2118, al_2119, wn_ne_t, wn_ne_f, al_2120, al_2121, al_2122, wp_iadd, al_2123, wp_isub, al_2124, wp_imul, al_2125, wz_ne_t, wz_ne_f, wb_ne_t, wb_ne_f, wm_ne_1, wm_ne_2, al_2126, wp_idivn, al_2127, nl_i, nl_r, nl_k, nl_j, nl_l, nI_add, pk_mul, pk_sub, tl_s, tl_n, aL_inl, u2_same, u2_ab, u2_aq, nI_l, lN_i, Nat.add_zero, Nat.zero_add, Nat.zero_le, true_and, and_true, b2n_10, b2n_T, b2n_F, b2n_0, Decidable.not_not, not_true_eq_false, not_false_eq_true, Nat.reduceAdd, Nat.reduceMul]
  · rw [me_33, al_2112]
    simp only [wp_iload_0]
    rw [wp_tsw (L := 2124) (by decide)]
    have e : wkd 5 a b = a * b := rfl
    rw [e]
    simp (disch := (first | omega | exact aCat_8 (by with_unfolding_all rfl) | exact rk_lt (by with_unfolding_all rfl) | exact aCat_16 (by with_unfolding_all rfl) | exact rk_eq (by with_unfolding_all rfl) | assumption | exact b2n_lt _ | exact id_b (by with_unfolding_all rfl) | (simp (disch := omega) only [u2_same, u2_ab, u2_aq]; done) | (simp (disch := omega) only [u2_same, u2_ab, u2_aq]; omega) | fail)) only [al_2112, wp_iload_0, al_2113, wp_iload_1, wp_iload_2, wn_ge_t, wn_ge_f, wk_1, wp_goto, al_2114, wk_0, wp_jsr, al_2115, wc_17, t_17, wp_ireturn, al_2116, wn_le_t, wn_le_f, al_2117, al_2118, al_2119, wn_ne_t, wn_ne_f, al_2120, al_2121, al_2122, wp_iadd, al_2123, wp_isub, al_2124, wp_imul, al_2125, wz_ne_t, wz_ne_f, wb_ne_t, wb_ne_f, wm_ne_1, wm_ne_2, al_2126, wp_idivn, al_2127, nl_i, nl_r, nl_k, nl_j, nl_l, nI_add, pk_mul, pk_sub, tl_s, tl_n, aL_inl, u2_same, u2_ab, u2_aq, nI_l, lN_i, Nat.add_zero, Nat.zero_add, Nat.zero_le, true_and, and_true, b2n_10, b2n_T, b2n_F, b2n_0, Decidable.not_not, not_true_eq_false, not_false_eq_true, Nat.reduceAdd, Nat.reduceMul]
  · rw [me_33, al_2112]
    simp only [wp_iload_0]
    rw [wp_tsw (L := 2125) (by decide)]
    have e : wkd 6 a b = if b = 0 then 0 else a / b := rfl
    rw [e]
    by_cases q : b = 0
    · rw [if_pos q]
      have q2 : ¬ ¬ b = 0 := fun z => z q
      simp (disch := (first | omega | exact aCat_8 (by with_unfolding_all rfl) | exact rk_lt (by with_unfolding_all rfl) | exact aCat_16 (by with_unfolding_all rfl) | exact rk_eq (by with_unfolding_all rfl) | assumption | exact b2n_lt _ | exact id_b (by with_unfolding_all rfl) | (simp (disch := omega) only [u2_same, u2_ab, u2_aq]; done) | (simp (disch := omega) only [u2_same, u2_ab, u2_aq]; omega) | fail)) only [al_2112, wp_iload_0, al_2113, wp_iload_1, wp_iload_2, wn_ge_t, wn_ge_f, wk_1, wp_goto, al_2114, wk_0, wp_jsr, al_2115, wc_17, t_17, wp_ireturn, al_2116, wn_le_t, wn_le_f, al_2117, al_2118, al_2119, wn_ne_t, wn_ne_f, al_2120, al_2121, al_2122, wp_iadd, al_2123, wp_isub, al_2124, wp_imul, al_2125, wz_ne_t, wz_ne_f, wb_ne_t, wb_ne_f, wm_ne_1, wm_ne_2, al_2126, wp_idivn, al_2127, nl_i, nl_r, nl_k, nl_j, nl_l, nI_add, pk_mul, pk_sub, tl_s, tl_n, aL_inl, u2_same, u2_ab, u2_aq, nI_l, lN_i, Nat.add_zero, Nat.zero_add, Nat.zero_le, true_and, and_true, b2n_10, b2n_T, b2n_F, b2n_0, Decidable.not_not, not_true_eq_false, not_false_eq_true, Nat.reduceAdd, Nat.reduceMul, wy_ne_f q2]
      rfl
    · rw [if_neg q]
      simp (disch := (first | omega | exact aCat_8 (by with_unfolding_all rfl) | exact rk_lt (by with_unfolding_all rfl) | exact aCat_16 (by with_unfolding_all rfl) | exact rk_eq (by with_unfolding_all rfl) | assumption | exact b2n_lt _ | exact id_b (by with_unfolding_all rfl) | (simp (disch := omega) only [u2_same, u2_ab, u2_aq]; done) | (simp (disch := omega) only [u2_same, u2_ab, u2_aq]; omega) | fail)) only [al_2112, wp_iload_0, al_2113, wp_iload_1, wp_iload_2, wn_ge_t, wn_ge_f, wk_1, wp_goto, al_2114, wk_0, wp_jsr, al_2115, wc_17, t_17, wp_ireturn, al_2116, wn_le_t, wn_le_f, al_2117, al_2118, al_2119, wn_ne_t, wn_ne_f, al_2120, al_2121, al_2122, wp_iadd, al_2123, wp_isub, al_2124, wp_imul, al_2125, wz_ne_t, wz_ne_f, wb_ne_t, wb_ne_f, wm_ne_1, wm_ne_2, al_2126, wp_idivn, al_2127, nl_i, nl_r, nl_k, nl_j, nl_l, nI_add, pk_mul, pk_sub, tl_s, tl_n, aL_inl, u2_same, u2_ab, u2_aq, nI_l, lN_i, Nat.add_zero, Nat.zero_add, Nat.zero_le, true_and, and_true, b2n_10, b2n_T, b2n_F, b2n_0, Decidable.not_not, not_true_eq_false, not_false_eq_true, Nat.reduceAdd, Nat.reduceMul, wy_ne_t q, wp_idiv q]
theorem l_32 {I0 : Nat → Nat → Int32} {n : Nat} (hn : N 86 18 = n) (ok : okc (N 93) n) (hQ : ∀ I' : Nat → Nat → Int32, (∀ b q, b ≠ 95 → I' b q = I0 b q) → Q (some (.int (rlv (N 93) n (I0 96)))) (hp D N I' J x)) : ∀ (j k : Nat) (I : Nat → Nat → Int32) (v3 : Value), k + j = n → (∀ i, i < hg (N 93) k → I 95 i = rf (N 93) (I0 96) k i) → (∀ b q, b ≠ 95 → I b q = I0 b q) → aWp ko d 32 (aP.1 (Int.toNat 2049)) [.ref 86, .int (nI (hg (N 93) k)), .int (nI k), v3] [] (hp D N I J x) (aL Q) := by
  intro j
  induction j with
  | zero =>
    intro k I v3 hk hs hf
    have e : k = n := by omega
    subst e
    have h40 := ok.1
    rw [al_2049]
    by_cases h0 : k = 0
    · simp (disch := (first | omega | exact aCat_8 (by with_unfolding_all rfl) | exact rk_lt (by with_unfolding_all rfl) | exact aCat_16 (by with_unfolding_all rfl) | exact rk_eq (by with_unfolding_all rfl) | assumption | exact b2n_lt _ | exact id_b (by with_unfolding_all rfl) | (simp (disch := omega) only [u2_same, u2_ab, u2_aq]; done) | (simp (disch := omega) only [u2_same, u2_ab, u2_aq]; omega) | fail)) only [al_2048, wk_0, wp_istore_1, wp_istore_2, wp_jsr, wp_iload_2, wp_aloadr_0, wp_aloadk_0, hg_86_18, wn_ge_t, wn_ge_f, hg_86_16, ha_93l, ha_93s, wp_istore_3, wp_iload_3, wk_3000, wn_ne_t, wn_ne_f, hg_86_20, ha_95l, ha_95s, wp_iload_1, wk_1, wp_isub, wp_ineg, wp_goto, al_2050, wk_2000, wn_lt_t, wn_lt_f, wp_idec_1_1, wc_33, al_2051, wk_1000, hg_86_21, ha_96l, ha_96s, al_2052, al_2053, wp_iinc_1_1, al_2054, wp_iinc_2_1, al_2055, wz_ne_t, wz_ne_f, wb_ne_t, wb_ne_f, wm_ne_1, wm_ne_2, wk_2, wp_imul, wp_iadd, al_2056, al_2057, wp_ireturn, nl_i, nl_r, nl_k, nl_j, nl_l, nI_add, pk_mul, pk_sub, tl_s, tl_n, aL_inl, u2_same, u2_ab, u2_aq, nI_l, lN_i, Nat.add_zero, Nat.zero_add, Nat.zero_le, true_and, and_true, b2n_10, b2n_T, b2n_F, b2n_0, Decidable.not_not, not_true_eq_false, not_false_eq_true, Nat.reduceAdd, Nat.reduceMul, hn]
      have := hQ I hf
      rw [rlv, if_pos h0] at this
      rw [hf 96 0 (by decide), hf 96 1 (by decide), hf 96 2 (by decide)]
      exact this
    · simp (disch := (first | omega | exact aCat_8 (by with_unfolding_all rfl) | exact rk_lt (by with_unfolding_all rfl) | exact aCat_16 (by with_unfolding_all rfl) | exact rk_eq (by with_unfolding_all rfl) | assumption | exact b2n_lt _ | exact id_b (by with_unfolding_all rfl) | (simp (disch := omega) only [u2_same, u2_ab, u2_aq]; done) | (simp (disch := omega) only [u2_same, u2_ab, u2_aq]; omega) | fail)) only [al_2048, wk_0, wp_istore_1, wp_istore_2, wp_jsr, wp_iload_2, wp_aloadr_0, wp_aloadk_0, hg_86_18, wn_ge_t, wn_ge_f, hg_86_16, ha_93l, ha_93s, wp_istore_3, wp_iload_3, wk_3000, wn_ne_t, wn_ne_f, hg_86_20, ha_95l, ha_95s, wp_iload_1, wk_1, wp_isub, wp_ineg, wp_goto, al_2050, wk_2000, wn_lt_t, wn_lt_f, wp_idec_1_1, wc_33, al_2051, wk_1000, hg_86_21, ha_96l, ha_96s, al_2052, al_2053, wp_iinc_1_1, al_2054, wp_iinc_2_1, al_2055, wz_ne_t, wz_ne_f, wb_ne_t, wb_ne_f, wm_ne_1, wm_ne_2, wk_2, wp_imul, wp_iadd, al_2056, al_2057, wp_ireturn, nl_i, nl_r, nl_k, nl_j, nl_l, nI_add, pk_mul, pk_sub, tl_s, tl_n, aL_inl, u2_same, u2_ab, u2_aq, nI_l, lN_i, Nat.add_zero, Nat.zero_add, Nat.zero_le, true_and, and_true, b2n_10, b2n_T, b2n_F, b2n_0, Decidable.not_not, not_true_eq_false, not_false_eq_true, Nat.reduceAdd, Nat.reduceMul, hn]
      have := hQ I hf
      rw [rlv, if_neg h0] at this
      rw [hs 0 (by have := ok.2.1 (by omega); omega)]
      exact this
  | succ j ih =>
    intro k I v3 hk hs hf
    have h40 := ok.1
    have hgk := hg_le (N 93) k
    rw [al_2049]
    rcases ok.2.2 k (by omega) with ⟨h1, h2⟩ | ⟨h1, h2, h3⟩ | h1
    · have e : hg (N 93) (k + 1) = hg (N 93) k := by simp [hg, h1]
      simp (disch := (first | omega | exact aCat_8 (by with_unfolding_all rfl) | exact rk_lt (by with_unfolding_all rfl) | exact aCat_16 (by with_unfolding_all rfl) | exact rk_eq (by with_unfolding_all rfl) | assumption | exact b2n_lt _ | exact id_b (by with_unfolding_all rfl) | (simp (disch := omega) only [u2_same, u2_ab, u2_aq]; done) | (simp (disch := omega) only [u2_same, u2_ab, u2_aq]; omega) | fail)) only [al_2048, wk_0, wp_istore_1, wp_istore_2, wp_jsr, wp_iload_2, wp_aloadr_0, wp_aloadk_0, hg_86_18, wn_ge_t, wn_ge_f, hg_86_16, ha_93l, ha_93s, wp_istore_3, wp_iload_3, wk_3000, wn_ne_t, wn_ne_f, hg_86_20, ha_95l, ha_95s, wp_iload_1, wk_1, wp_isub, wp_ineg, wp_goto, al_2050, wk_2000, wn_lt_t, wn_lt_f, wp_idec_1_1, wc_33, al_2051, wk_1000, hg_86_21, ha_96l, ha_96s, al_2052, al_2053, wp_iinc_1_1, al_2054, wp_iinc_2_1, al_2055, wz_ne_t, wz_ne_f, wb_ne_t, wb_ne_f, wm_ne_1, wm_ne_2, wk_2, wp_imul, wp_iadd, al_2056, al_2057, wp_ireturn, nl_i, nl_r, nl_k, nl_j, nl_l, nI_add, pk_mul, pk_sub, tl_s, tl_n, aL_inl, u2_same, u2_ab, u2_aq, nI_l, lN_i, Nat.add_zero, Nat.zero_add, Nat.zero_le, true_and, and_true, b2n_10, b2n_T, b2n_F, b2n_0, Decidable.not_not, not_true_eq_false, not_false_eq_true, Nat.reduceAdd, Nat.reduceMul, hn]
      have := ih (k + 1) (u2 I 95 (hg (N 93) k - 1) (-(I 95 (hg (N 93) k - 1)))) (.int (nI (N 93 k))) (by omega) (by
        intro i hi
        rw [e] at hi
        rw [rf, if_pos h1]
        unfold upd u2
        by_cases q : i = hg (N 93) k - 1
        · subst q
          simp [hs _ hi]
        · simp [q, hs _ hi]) (by
        intro b q hb
        rw [u2_ab hb, hf b q hb])
      rw [e] at this
      exact this
    · have e : hg (N 93) (k + 1) = hg (N 93) k - 1 := by simp [hg]; rw [if_neg (by omega), if_pos h1]
      simp (disch := (first | omega | exact aCat_8 (by with_unfolding_all rfl) | exact rk_lt (by with_unfolding_all rfl) | exact aCat_16 (by with_unfolding_all rfl) | exact rk_eq (by with_unfolding_all rfl) | assumption | exact b2n_lt _ | exact id_b (by with_unfolding_all rfl) | (simp (disch := omega) only [u2_same, u2_ab, u2_aq]; done) | (simp (disch := omega) only [u2_same, u2_ab, u2_aq]; omega) | fail)) only [al_2048, wk_0, wp_istore_1, wp_istore_2, wp_jsr, wp_iload_2, wp_aloadr_0, wp_aloadk_0, hg_86_18, wn_ge_t, wn_ge_f, hg_86_16, ha_93l, ha_93s, wp_istore_3, wp_iload_3, wk_3000, wn_ne_t, wn_ne_f, hg_86_20, ha_95l, ha_95s, wp_iload_1, wk_1, wp_isub, wp_ineg, wp_goto, al_2050, wk_2000, wn_lt_t, wn_lt_f, wp_idec_1_1, wc_33, al_2051, wk_1000, hg_86_21, ha_96l, ha_96s, al_2052, al_2053, wp_iinc_1_1, al_2054, wp_iinc_2_1, al_2055, wz_ne_t, wz_ne_f, wb_ne_t, wb_ne_f, wm_ne_1, wm_ne_2, wk_2, wp_imul, wp_iadd, al_2056, al_2057, wp_ireturn, nl_i, nl_r, nl_k, nl_j, nl_l, nI_add, pk_mul, pk_sub, tl_s, tl_n, aL_inl, u2_same, u2_ab, u2_aq, nI_l, lN_i, Nat.add_zero, Nat.zero_add, Nat.zero_le, true_and, and_true, b2n_10, b2n_T, b2n_F, b2n_0, Decidable.not_not, not_true_eq_false, not_false_eq_true, Nat.reduceAdd, Nat.reduceMul, hn, t_33]
      have e2 : hg (N 93) k - 1 - 1 = hg (N 93) k - 2 := by omega
      rw [e2]
      have := ih (k + 1) (u2 I 95 (hg (N 93) k - 2) (wkd (N 93 k - 2000) (I 95 (hg (N 93) k - 2)) (I 95 (hg (N 93) k - 1)))) (.int (nI (N 93 k))) (by omega) (by
        intro i hi
        rw [e] at hi
        rw [rf, if_neg (by omega), if_pos h1]
        unfold upd u2
        by_cases q : i = hg (N 93) k - 2
        · subst q
          simp [hs _ (show hg (N 93) k - 2 < hg (N 93) k by omega), hs _ (show hg (N 93) k - 1 < hg (N 93) k by omega)]
        · simp [q, hs _ (show i < hg (N 93) k by omega)]) (by
        intro b q hb
        rw [u2_ab hb, hf b q hb])
      rw [e] at this
      exact this
    · have e : hg (N 93) (k + 1) = hg (N 93) k + 1 := by simp [hg]; rw [if_neg (by omega), if_neg (by omega)]
      by_cases h2 : 1000 ≤ N 93 k
      · simp (disch := (first | omega | exact aCat_8 (by with_unfolding_all rfl) | exact rk_lt (by with_unfolding_all rfl) | exact aCat_16 (by with_unfolding_all rfl) | exact rk_eq (by with_unfolding_all rfl) | assumption | exact b2n_lt _ | exact id_b (by with_unfolding_all rfl) | (simp (disch := omega) only [u2_same, u2_ab, u2_aq]; done) | (simp (disch := omega) only [u2_same, u2_ab, u2_aq]; omega) | fail)) only [al_2048, wk_0, wp_istore_1, wp_istore_2, wp_jsr, wp_iload_2, wp_aloadr_0, wp_aloadk_0, hg_86_18, wn_ge_t, wn_ge_f, hg_86_16, ha_93l, ha_93s, wp_istore_3, wp_iload_3, wk_3000, wn_ne_t, wn_ne_f, hg_86_20, ha_95l, ha_95s, wp_iload_1, wk_1, wp_isub, wp_ineg, wp_goto, al_2050, wk_2000, wn_lt_t, wn_lt_f, wp_idec_1_1, wc_33, al_2051, wk_1000, hg_86_21, ha_96l, ha_96s, al_2052, al_2053, wp_iinc_1_1, al_2054, wp_iinc_2_1, al_2055, wz_ne_t, wz_ne_f, wb_ne_t, wb_ne_f, wm_ne_1, wm_ne_2, wk_2, wp_imul, wp_iadd, al_2056, al_2057, wp_ireturn, nl_i, nl_r, nl_k, nl_j, nl_l, nI_add, pk_mul, pk_sub, tl_s, tl_n, aL_inl, u2_same, u2_ab, u2_aq, nI_l, lN_i, Nat.add_zero, Nat.zero_add, Nat.zero_le, true_and, and_true, b2n_10, b2n_T, b2n_F, b2n_0, Decidable.not_not, not_true_eq_false, not_false_eq_true, Nat.reduceAdd, Nat.reduceMul, hn]
        have := ih (k + 1) (u2 I 95 (hg (N 93) k) (I 96 (N 93 k - 1000))) (.int (nI (N 93 k))) (by omega) (by
          intro i hi
          rw [e] at hi
          rw [rf, if_neg (by omega), if_neg (by omega), if_pos h2]
          unfold upd u2
          by_cases q : i = hg (N 93) k
          · subst q
            simp [hf 96 _ (show (96 : Nat) ≠ 95 by decide)]
          · simp [q, hs _ (show i < hg (N 93) k by omega)]) (by
          intro b q hb
          rw [u2_ab hb, hf b q hb])
        rw [e] at this
        exact this
      · simp (disch := (first | omega | exact aCat_8 (by with_unfolding_all rfl) | exact rk_lt (by with_unfolding_all rfl) | exact aCat_16 (by with_unfolding_all rfl) | exact rk_eq (by with_unfolding_all rfl) | assumption | exact b2n_lt _ | exact id_b (by with_unfolding_all rfl) | (simp (disch := omega) only [u2_same, u2_ab, u2_aq]; done) | (simp (disch := omega) only [u2_same, u2_ab, u2_aq]; omega) | fail)) only [al_2048, wk_0, wp_istore_1, wp_istore_2, wp_jsr, wp_iload_2, wp_aloadr_0, wp_aloadk_0, hg_86_18, wn_ge_t, wn_ge_f, hg_86_16, ha_93l, ha_93s, wp_istore_3, wp_iload_3, wk_3000, wn_ne_t, wn_ne_f, hg_86_20, ha_95l, ha_95s, wp_iload_1, wk_1, wp_isub, wp_ineg, wp_goto, al_2050, wk_2000, wn_lt_t, wn_lt_f, wp_idec_1_1, wc_33, al_2051, wk_1000, hg_86_21, ha_96l, ha_96s, al_2052, al_2053, wp_iinc_1_1, al_2054, wp_iinc_2_1, al_2055, wz_ne_t, wz_ne_f, wb_ne_t, wb_ne_f, wm_ne_1, wm_ne_2, wk_2, wp_imul, wp_iadd, al_2056, al_2057, wp_ireturn, nl_i, nl_r, nl_k, nl_j, nl_l, nI_add, pk_mul, pk_sub, tl_s, tl_n, aL_inl, u2_same, u2_ab, u2_aq, nI_l, lN_i, Nat.add_zero, Nat.zero_add, Nat.zero_le, true_and, and_true, b2n_10, b2n_T, b2n_F, b2n_0, Decidable.not_not, not_true_eq_false, not_false_eq_true, Nat.reduceAdd, Nat.reduceMul, hn]
        have := ih (k + 1) (u2 I 95 (hg (N 93) k) (nI (N 93 k))) (.int (nI (N 93 k))) (by omega) (by
          intro i hi
          rw [e] at hi
          rw [rf, if_neg (by omega), if_neg (by omega), if_neg h2]
          unfold upd u2
          by_cases q : i = hg (N 93) k
          · subst q
            simp
          · simp [q, hs _ (show i < hg (N 93) k by omega)]) (by
          intro b q hb
          rw [u2_ab hb, hf b q hb])
        rw [e] at this
        exact this
theorem t_32 (ok : okc (N 93) (N 86 18)) (hQ : ∀ I' : Nat → Nat → Int32, (∀ b q, b ≠ 95 → I' b q = I b q) → Q (some (.int (rlv (N 93) (N 86 18) (I 96)))) (hp D N I' J x)) : aMm ko d 32 [.ref 86] (hp D N I J x) Q := by
  rw [me_32]
  simp (disch := (first | omega | exact aCat_8 (by with_unfolding_all rfl) | exact rk_lt (by with_unfolding_all rfl) | exact aCat_16 (by with_unfolding_all rfl) | exact rk_eq (by with_unfolding_all rfl) | assumption | exact b2n_lt _ | exact id_b (by with_unfolding_all rfl) | (simp (disch := omega) only [u2_same, u2_ab, u2_aq]; done) | (simp (disch := omega) only [u2_same, u2_ab, u2_aq]; omega) | fail)) only [al_2048, wk_0, wp_istore_1, wp_istore_2, wp_jsr, wp_iload_2, wp_aloadr_0, wp_aloadk_0, hg_86_18, wn_ge_t, wn_ge_f, hg_86_16, ha_93l, ha_93s, wp_istore_3, wp_iload_3, wk_3000, wn_ne_t, wn_ne_f, hg_86_20, ha_95l, ha_95s, wp_iload_1, wk_1, wp_isub, wp_ineg, wp_goto, al_2050, wk_2000, wn_lt_t, wn_lt_f, wp_idec_1_1, wc_33, al_2051, wk_1000, hg_86_21, ha_96l, ha_96s, al_2052, al_2053, wp_iinc_1_1, al_2054, wp_iinc_2_1, al_2055, wz_ne_t, wz_ne_f, wb_ne_t, wb_ne_f, wm_ne_1, wm_ne_2, wk_2, wp_imul, wp_iadd, al_2056, al_2057, wp_ireturn, nl_i, nl_r, nl_k, nl_j, nl_l, nI_add, pk_mul, pk_sub, tl_s, tl_n, aL_inl, u2_same, u2_ab, u2_aq, nI_l, lN_i, Nat.add_zero, Nat.zero_add, Nat.zero_le, true_and, and_true, b2n_10, b2n_T, b2n_F, b2n_0, Decidable.not_not, not_true_eq_false, not_false_eq_true, Nat.reduceAdd, Nat.reduceMul]
  exact l_32 rfl ok hQ (N 86 18) 0 I aJk (by omega) (fun i hi => absurd hi (Nat.not_lt_zero _)) (fun _ _ _ => rfl)
theorem rf_congr {c : Nat → Nat} {a a' : Nat → Int32} (h : ∀ q, q ≤ 6 → a q = a' q) : ∀ n, (∀ k, k < n → (c k = 3000 ∧ 1 ≤ hg c k) ∨ (2000 ≤ c k ∧ c k ≤ 2006 ∧ 2 ≤ hg c k) ∨ c k ≤ 1006) → rf c a n = rf c a' n := by
  intro n
  induction n with
  | zero => intro _; rfl
  | succ n ih =>
    intro ok
    have e := ih (fun k hk => ok k (by omega))
    unfold rf
    rw [e]
    by_cases h1 : c n = 3000
    · simp only [h1, if_true]
    · by_cases h2 : 2000 ≤ c n
      · simp only [if_neg h1, if_pos h2]
      · have h3 := ok n (by omega)
        by_cases h4 : 1000 ≤ c n
        · simp only [if_neg h1, if_neg h2, if_pos h4, h (c n - 1000) (by omega)]
        · simp only [if_neg h1, if_neg h2, if_neg h4]
theorem rlv_congr {c : Nat → Nat} {n : Nat} {a a' : Nat → Int32} (ok : okc c n) (h : ∀ q, q ≤ 6 → a q = a' q) : rlv c n a = rlv c n a' := by
  unfold rlv
  rw [rf_congr h n ok.2.2, h 0 (by omega), h 1 (by omega), h 2 (by omega)]
theorem t_30 {r f bs : Nat} (hr : r = 89 ∨ r = 90) (hf : f < 36) (h0 : 2 ≤ D 1) (h6 : D 1 ≤ 6) (h1 : 0 < N 86 6) (h2 : N 86 6 ≤ 20) (ht : N r 109 < 2147483648) (ok : okc (N 93) (N 86 18)) (hQ : ∀ I' : Nat → Nat → Int32, (∀ b q, b ≠ 95 → b ≠ 96 → I' b q = I b q) → Q (some (.int (rlv (N 93) (N 86 18) (asks (D 1) (fun t => N 88 (t % N 86 6)) (N r) f bs)))) (hp D N I' J x)) : aMm ko d 30 [.ref 86, .ref r, .int (nI f), .int (nI bs)] (hp D N I J x) Q := by
  rw [me_30]
  simp (disch := (first | omega | exact aCat_8 (by with_unfolding_all rfl) | exact rk_lt (by with_unfolding_all rfl) | exact aCat_16 (by with_unfolding_all rfl) | exact rk_eq (by with_unfolding_all rfl) | assumption | exact b2n_lt _ | exact id_b (by with_unfolding_all rfl) | (simp (disch := omega) only [u2_same, u2_ab, u2_aq]; done) | (simp (disch := omega) only [u2_same, u2_ab, u2_aq]; omega) | fail)) only [al_1920, wp_aloadr_0, wp_aloadk_0, hg_86_21, ha_96l, ha_96s, wk_0, wp_aloadr_1, wp_aloadk_1, wp_iload_2, wk_1, wp_iload_3, wk_2, wk_72, wp_iadd, wk_3, wk_109, wc_31, wk_4, wk_7, wp_iremn, wk_5, hg_86_4, wp_idivn, wk_6, wc_32, wp_ireturn, nl_i, nl_r, nl_k, nl_j, nl_l, nI_add, pk_mul, pk_sub, tl_s, tl_n, aL_inl, u2_same, u2_ab, u2_aq, nI_l, lN_i, Nat.add_zero, Nat.zero_add, Nat.zero_le, true_and, and_true, b2n_10, b2n_T, b2n_F, b2n_0, Decidable.not_not, not_true_eq_false, not_false_eq_true, Nat.reduceAdd, Nat.reduceMul, ra_l hr, t_31]
  refine t_32 ok ?_
  intro I' hI'
  simp (disch := (first | omega | exact aCat_8 (by with_unfolding_all rfl) | exact rk_lt (by with_unfolding_all rfl) | exact aCat_16 (by with_unfolding_all rfl) | exact rk_eq (by with_unfolding_all rfl) | assumption | exact b2n_lt _ | exact id_b (by with_unfolding_all rfl) | (simp (disch := omega) only [u2_same, u2_ab, u2_aq]; done) | (simp (disch := omega) only [u2_same, u2_ab, u2_aq]; omega) | fail)) only [al_1920, wp_aloadr_0, wp_aloadk_0, hg_86_21, ha_96l, ha_96s, wk_0, wp_aloadr_1, wp_aloadk_1, wp_iload_2, wk_1, wp_iload_3, wk_2, wk_72, wp_iadd, wk_3, wk_109, wc_31, wk_4, wk_7, wp_iremn, wk_5, hg_86_4, wp_idivn, wk_6, wc_32, wp_ireturn, nl_i, nl_r, nl_k, nl_j, nl_l, nI_add, pk_mul, pk_sub, tl_s, tl_n, aL_inl, u2_same, u2_ab, u2_aq, nI_l, lN_i, Nat.add_zero, Nat.zero_add, Nat.zero_le, true_and, and_true, b2n_10, b2n_T, b2n_F, b2n_0, Decidable.not_not, not_true_eq_false, not_false_eq_true, Nat.reduceAdd, Nat.reduceMul]
  have e := hQ I' (fun b q h5 h7 => by rw [hI' b q h5]; simp only [u2_ab h7])
  rw [rlv_congr ok (a' := asks (D 1) (fun t => N 88 (t % N 86 6)) (N r) f bs)]
  · exact e
  · intro q hq
    have h8 : q = 0 ∨ q = 1 ∨ q = 2 ∨ q = 3 ∨ q = 4 ∨ q = 5 ∨ q = 6 := by omega
    rcases h8 with rfl | rfl | rfl | rfl | rfl | rfl | rfl <;> simp [u2, asks]
end R2
