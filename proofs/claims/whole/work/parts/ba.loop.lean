/-! THE LAW'S LOOP. From wip/whole/src. -/
section LL
variable {ko : aKo} {d k : Nat} {is : List Instr} {ls st : List Value} {σ : aH} {D : Nat → Nat} {N : Nat → Nat → Nat} {I : Nat → Nat → Int32} {J : Nat → Nat → Int64} {x t : Nat} {Q : Option Value → aH → Prop} {P : (Option Value ⊕ Unit) → aH → Prop} {m i : Nat} {f : Nat → Int32} {v5 v6 v7 : Value}
theorem th_mono {k' : Nat} {As : List Value} {G G' : Int32 → aH → Prop} {r : Option Value ⊕ Unit} {σ1 : aH} (h : aTh k' As G r σ1) (hk : kpS σ σ1) (hG : ∀ z σ', G z σ' → kpS σ σ' → G' z σ') : aTh k' As G' r σ1 := by
  match r, h with
  | .inl (some v), h =>
    cases ho : aOut k' As v σ1 with
    | none =>
      simp only [aTh, ho] at h
    | some σ' =>
      simp only [aTh, ho] at h ⊢
      exact hG _ _ h (kpS_t hk (aOut_kp ho))
  | .inr _, h => exact hG _ _ h hk
theorem lw_thr {kf k' kr : Nat} {R : Option Value → Int64 → Prop} {As : List Value} {G' : Int32 → aH → Prop} (ho : opT ko 100 kf k' kr R As D N I J x t) (hG : ∀ z σ', (∃ fs, σ'[86]? = some (.inr (0, fs))) → aMm ko 100 kr (.ref 86 :: As) σ' (fun w σ2 => ∃ (v : Int64) (N' : Nat → Nat → Nat) (I' : Nat → Nat → Int32) (J' : Nat → Nat → Int64) (x' : Nat), σ2 = hp D N' I' J' x' ∧ inv D N' I' J' t ∧ x' ≤ x + 1 ∧ z = nI (N' 86 0) ∧ N' 86 0 ≤ 1 ∧ (N' 86 0 = 0 → J' 125 0 = v) ∧ R w v) → G' z σ') : aWp ko 100 kf (aP.1 (aP.2.1 kf).1) (aEnt (aP.2.1 kf).2.2.1 (.ref 0 :: As)) [] (hp D N I J x) (aTh k' (.ref 0 :: (As ++ [.ref 125])) G') := by
  refine wp_mono (wp_kp ho) ?_
  rintro r σ1 ⟨h, hk⟩
  refine th_mono h hk ?_
  intro z σ' hz hk'
  obtain ⟨fs, hfs⟩ := hp_86 (D := D) (N := N) (I := I) (J := J) (x := x)
  exact hG z σ' (hk' 86 0 fs hfs) hz
theorem lc_8967 (h0 : ko 0 = (.int, m, f)) (hm : m ≤ 2560) (h : inv D N I J t) (hi : i + 5 ≤ m) (hc : lwN ko P i x t) : aWp ko 100 140 (aP.1 (Int.toNat 8967)) [.retAddr 0, .ref 0, .ref 86, .ref 125, .int (nI i), v5, v6, v7] [] (hp D N I J x) P := by
  rw [al_8967]
  simp (disch := (first | omega | exact aCat_8 (by with_unfolding_all rfl) | exact rk_lt (by with_unfolding_all rfl) | exact aCat_16 (by with_unfolding_all rfl) | exact rk_eq (by with_unfolding_all rfl) | assumption | exact b2n_lt _ | exact id_b (by with_unfolding_all rfl) | (simp (disch := omega) only [u2_same, u2_ab, u2_aq]; done) | (simp (disch := omega) only [u2_same, u2_ab, u2_aq]; omega) | fail)) only [wp_aloadr_1, wp_aloadk_0, wp_aloadr_3, wp_iload_4, wk_1, wk_2, wp_iadd, nI_add, wp_sc h0 (show i + 1 < m by omega) hm, wp_sc h0 (show i + 2 < m by omega) hm]
  refine wp_help (k' := 141) (kf := 225) (As := [.ref 0, .int (f (i + 1)), .int (f (i + 2)), .ref 125]) (rest := []) rfl rfl rfl (aCat_8 (by with_unfolding_all rfl)) (Nat.le_of_ble_eq_true rfl) (rk_lt (by with_unfolding_all rfl)) rfl ⟨Nat.le_of_ble_eq_true rfl, rfl, rfl⟩ ?_
  refine lw_thr (As := [.int (f (i + 1)), .int (f (i + 2))]) (o_field (d := 100) h) ?_
  rintro z σ' ⟨fs, hfs⟩ hr
  simp (disch := (first | omega | exact aCat_8 (by with_unfolding_all rfl) | exact rk_lt (by with_unfolding_all rfl) | exact aCat_16 (by with_unfolding_all rfl) | exact rk_eq (by with_unfolding_all rfl) | assumption | exact b2n_lt _ | exact id_b (by with_unfolding_all rfl) | (simp (disch := omega) only [u2_same, u2_ab, u2_aq]; done) | (simp (disch := omega) only [u2_same, u2_ab, u2_aq]; omega) | fail)) only [wp_istore_5, wp_aloadr_2, wp_aloadk_0, wp_iload_4, wk_1, wk_2, wp_iadd, nI_add, nl_i, wp_sc h0 (show i + 1 < m by omega) hm, wp_sc h0 (show i + 2 < m by omega) hm]
  rw [wp_call (k' := 22) (As := [.ref 86, .int (f (i + 1)), .int (f (i + 2))]) (rest := []) (st := [.int (f (i + 2)), .int (f (i + 1)), .ref 86]) rfl rfl (rc86 hfs) (aCat_8 (by with_unfolding_all rfl)) (Nat.le_of_ble_eq_true rfl) (rk_lt (by with_unfolding_all rfl)) rfl]
  refine mm_mono hr ?_
  rintro w σ2 ⟨v, N', I', J', x', rfl, hv, hx, hz, h1, hj, u, rfl, rfl⟩
  have hend := lw_on (v5 := .int z) (v6 := .int u) (v7 := v7) hc ⟨hv, hx⟩
  subst hz
  by_cases y : N' 86 0 = 0
  · have hj' := hj y
    rw [y] at hend ⊢
    simp (disch := (first | omega | exact aCat_8 (by with_unfolding_all rfl) | exact rk_lt (by with_unfolding_all rfl) | exact aCat_16 (by with_unfolding_all rfl) | exact rk_eq (by with_unfolding_all rfl) | assumption | exact b2n_lt _ | exact id_b (by with_unfolding_all rfl) | (simp (disch := omega) only [u2_same, u2_ab, u2_aq]; done) | (simp (disch := omega) only [u2_same, u2_ab, u2_aq]; omega) | fail)) only [tl_s, List.cons_append, List.nil_append, wp_istore_6, nl_i, wp_aloadr_2, wc_1, t_1, y, wp_iload_5, wn_eq_t, al_8968, wz_ne_f, wp_aloadr_3, wk_0, ha_125l, hj', wp_iload_6, wp_i2l, wp_lcmp, wy_eq_t (lc_t (@rfl _ u.toInt64)), al_8969, wp_goto]
    exact hend
  · have y1 : N' 86 0 = 1 := by omega
    rw [y1] at hend ⊢
    simp (disch := (first | omega | exact aCat_8 (by with_unfolding_all rfl) | exact rk_lt (by with_unfolding_all rfl) | exact aCat_16 (by with_unfolding_all rfl) | exact rk_eq (by with_unfolding_all rfl) | assumption | exact b2n_lt _ | exact id_b (by with_unfolding_all rfl) | (simp (disch := omega) only [u2_same, u2_ab, u2_aq]; done) | (simp (disch := omega) only [u2_same, u2_ab, u2_aq]; omega) | fail)) only [tl_s, List.cons_append, List.nil_append, wp_istore_6, nl_i, wp_aloadr_2, wc_1, t_1, y1, wp_iload_5, wn_eq_t, al_8968, wz_ne_t, al_8969, wp_goto]
    exact hend
theorem lc_8970 (h0 : ko 0 = (.int, m, f)) (hm : m ≤ 2560) (h : inv D N I J t) (hi : i + 5 ≤ m) (hc : lwN ko P i x t) : aWp ko 100 140 (aP.1 (Int.toNat 8970)) [.retAddr 0, .ref 0, .ref 86, .ref 125, .int (nI i), v5, v6, v7] [] (hp D N I J x) P := by
  rw [al_8970]
  simp (disch := (first | omega | exact aCat_8 (by with_unfolding_all rfl) | exact rk_lt (by with_unfolding_all rfl) | exact aCat_16 (by with_unfolding_all rfl) | exact rk_eq (by with_unfolding_all rfl) | assumption | exact b2n_lt _ | exact id_b (by with_unfolding_all rfl) | (simp (disch := omega) only [u2_same, u2_ab, u2_aq]; done) | (simp (disch := omega) only [u2_same, u2_ab, u2_aq]; omega) | fail)) only [wp_aloadr_1, wp_aloadk_0, wp_aloadr_3, wp_iload_4, wk_1, wk_2, wp_iadd, nI_add, wp_sc h0 (show i + 1 < m by omega) hm, wp_sc h0 (show i + 2 < m by omega) hm]
  refine wp_help (k' := 142) (kf := 226) (As := [.ref 0, .int (f (i + 1)), .int (f (i + 2)), .ref 125]) (rest := []) rfl rfl rfl (aCat_8 (by with_unfolding_all rfl)) (Nat.le_of_ble_eq_true rfl) (rk_lt (by with_unfolding_all rfl)) rfl ⟨Nat.le_of_ble_eq_true rfl, rfl, rfl⟩ ?_
  refine lw_thr (As := [.int (f (i + 1)), .int (f (i + 2))]) (o_dislikes (d := 100) h) ?_
  rintro z σ' ⟨fs, hfs⟩ hr
  simp (disch := (first | omega | exact aCat_8 (by with_unfolding_all rfl) | exact rk_lt (by with_unfolding_all rfl) | exact aCat_16 (by with_unfolding_all rfl) | exact rk_eq (by with_unfolding_all rfl) | assumption | exact b2n_lt _ | exact id_b (by with_unfolding_all rfl) | (simp (disch := omega) only [u2_same, u2_ab, u2_aq]; done) | (simp (disch := omega) only [u2_same, u2_ab, u2_aq]; omega) | fail)) only [wp_istore_5, wp_aloadr_2, wp_aloadk_0, wp_iload_4, wk_1, wk_2, wp_iadd, nI_add, nl_i, wp_sc h0 (show i + 1 < m by omega) hm, wp_sc h0 (show i + 2 < m by omega) hm]
  rw [wp_call (k' := 34) (As := [.ref 86, .int (f (i + 1)), .int (f (i + 2))]) (rest := []) (st := [.int (f (i + 2)), .int (f (i + 1)), .ref 86]) rfl rfl (rc86 hfs) (aCat_8 (by with_unfolding_all rfl)) (Nat.le_of_ble_eq_true rfl) (rk_lt (by with_unfolding_all rfl)) rfl]
  refine mm_mono hr ?_
  rintro w σ2 ⟨v, N', I', J', x', rfl, hv, hx, hz, h1, hj, u, rfl, rfl⟩
  have hend := lw_on (v5 := .int z) (v6 := .int u) (v7 := v7) hc ⟨hv, hx⟩
  subst hz
  by_cases y : N' 86 0 = 0
  · have hj' := hj y
    rw [y] at hend ⊢
    simp (disch := (first | omega | exact aCat_8 (by with_unfolding_all rfl) | exact rk_lt (by with_unfolding_all rfl) | exact aCat_16 (by with_unfolding_all rfl) | exact rk_eq (by with_unfolding_all rfl) | assumption | exact b2n_lt _ | exact id_b (by with_unfolding_all rfl) | (simp (disch := omega) only [u2_same, u2_ab, u2_aq]; done) | (simp (disch := omega) only [u2_same, u2_ab, u2_aq]; omega) | fail)) only [tl_s, List.cons_append, List.nil_append, wp_istore_6, nl_i, wp_aloadr_2, wc_1, t_1, y, wp_iload_5, wn_eq_t, al_8971, wz_ne_f, wp_aloadr_3, wk_0, ha_125l, hj', wp_iload_6, wp_i2l, wp_lcmp, wy_eq_t (lc_t (@rfl _ u.toInt64)), al_8972, wp_goto]
    exact hend
  · have y1 : N' 86 0 = 1 := by omega
    rw [y1] at hend ⊢
    simp (disch := (first | omega | exact aCat_8 (by with_unfolding_all rfl) | exact rk_lt (by with_unfolding_all rfl) | exact aCat_16 (by with_unfolding_all rfl) | exact rk_eq (by with_unfolding_all rfl) | assumption | exact b2n_lt _ | exact id_b (by with_unfolding_all rfl) | (simp (disch := omega) only [u2_same, u2_ab, u2_aq]; done) | (simp (disch := omega) only [u2_same, u2_ab, u2_aq]; omega) | fail)) only [tl_s, List.cons_append, List.nil_append, wp_istore_6, nl_i, wp_aloadr_2, wc_1, t_1, y1, wp_iload_5, wn_eq_t, al_8971, wz_ne_t, al_8972, wp_goto]
    exact hend
theorem lc_9010 (h0 : ko 0 = (.int, m, f)) (hm : m ≤ 2560) (h : inv D N I J t) (hi : i + 5 ≤ m) (hc : lwN ko P i x t) : aWp ko 100 140 (aP.1 (Int.toNat 9010)) [.retAddr 0, .ref 0, .ref 86, .ref 125, .int (nI i), v5, v6, v7] [] (hp D N I J x) P := by
  rw [al_9010]
  simp (disch := (first | omega | exact aCat_8 (by with_unfolding_all rfl) | exact rk_lt (by with_unfolding_all rfl) | exact aCat_16 (by with_unfolding_all rfl) | exact rk_eq (by with_unfolding_all rfl) | assumption | exact b2n_lt _ | exact id_b (by with_unfolding_all rfl) | (simp (disch := omega) only [u2_same, u2_ab, u2_aq]; done) | (simp (disch := omega) only [u2_same, u2_ab, u2_aq]; omega) | fail)) only [wp_aloadr_1, wp_aloadk_0, wp_aloadr_3, wp_iload_4, wk_1, wp_iadd, nI_add, wp_sc h0 (show i + 1 < m by omega) hm]
  refine wp_help (k' := 143) (kf := 227) (As := [.ref 0, .int (f (i + 1)), .ref 125]) (rest := []) rfl rfl rfl (aCat_8 (by with_unfolding_all rfl)) (Nat.le_of_ble_eq_true rfl) (rk_lt (by with_unfolding_all rfl)) rfl ⟨Nat.le_of_ble_eq_true rfl, rfl, rfl⟩ ?_
  refine lw_thr (As := [.int (f (i + 1))]) (o_row (d := 100) h) ?_
  rintro z σ' ⟨fs, hfs⟩ hr
  simp (disch := (first | omega | exact aCat_8 (by with_unfolding_all rfl) | exact rk_lt (by with_unfolding_all rfl) | exact aCat_16 (by with_unfolding_all rfl) | exact rk_eq (by with_unfolding_all rfl) | assumption | exact b2n_lt _ | exact id_b (by with_unfolding_all rfl) | (simp (disch := omega) only [u2_same, u2_ab, u2_aq]; done) | (simp (disch := omega) only [u2_same, u2_ab, u2_aq]; omega) | fail)) only [wp_istore_5, wp_aloadr_2, wp_aloadk_0, wp_iload_4, wk_1, wp_iadd, nI_add, nl_i, wp_sc h0 (show i + 1 < m by omega) hm]
  rw [wp_call (k' := 107) (As := [.ref 86, .int (f (i + 1))]) (rest := []) (st := [.int (f (i + 1)), .ref 86]) rfl rfl (rc86 hfs) (aCat_8 (by with_unfolding_all rfl)) (Nat.le_of_ble_eq_true rfl) (rk_lt (by with_unfolding_all rfl)) rfl]
  refine mm_mono hr ?_
  rintro w σ2 ⟨v, N', I', J', x', rfl, hv, hx, hz, h1, hj, rfl⟩
  have hend := lw_on (v5 := .int z) (v6 := .long v) (v7 := aJk) hc ⟨hv, hx⟩
  subst hz
  by_cases y : N' 86 0 = 0
  · have hj' := hj y
    rw [y] at hend ⊢
    simp (disch := (first | omega | exact aCat_8 (by with_unfolding_all rfl) | exact rk_lt (by with_unfolding_all rfl) | exact aCat_16 (by with_unfolding_all rfl) | exact rk_eq (by with_unfolding_all rfl) | assumption | exact b2n_lt _ | exact id_b (by with_unfolding_all rfl) | (simp (disch := omega) only [u2_same, u2_ab, u2_aq]; done) | (simp (disch := omega) only [u2_same, u2_ab, u2_aq]; omega) | fail)) only [tl_s, List.cons_append, List.nil_append, wp_lstore_6, nl_i, wp_aloadr_2, wc_1, t_1, y, wp_iload_5, wn_eq_t, al_9011, wz_ne_f, wp_aloadr_3, wk_0, ha_125l, hj', wp_lload_6, wp_lcmp, wy_eq_t (lc_t (@rfl _ v)), al_9012, wp_goto]
    exact hend
  · have y1 : N' 86 0 = 1 := by omega
    rw [y1] at hend ⊢
    simp (disch := (first | omega | exact aCat_8 (by with_unfolding_all rfl) | exact rk_lt (by with_unfolding_all rfl) | exact aCat_16 (by with_unfolding_all rfl) | exact rk_eq (by with_unfolding_all rfl) | assumption | exact b2n_lt _ | exact id_b (by with_unfolding_all rfl) | (simp (disch := omega) only [u2_same, u2_ab, u2_aq]; done) | (simp (disch := omega) only [u2_same, u2_ab, u2_aq]; omega) | fail)) only [tl_s, List.cons_append, List.nil_append, wp_lstore_6, nl_i, wp_aloadr_2, wc_1, t_1, y1, wp_iload_5, wn_eq_t, al_9011, wz_ne_t, al_9012, wp_goto]
    exact hend
theorem l_sw {n : Nat} (hk : koT ko) (hF : koF ko) (h0 : ko 0 = (.int, m, f)) (hm : m ≤ 2560) (h : inv D N I J t) (ht : t + 300 < 1000000000) (hi : i + 5 ≤ m) (hc : lwN ko P i x t) (hn : n < 64) : aWp ko 100 140 [.tableswitch 9013 (0) (44) #[8962, 8963, 8964, 8965, 8966, 8967, 8970, 8973, 8974, 8975, 8976, 8977, 8978, 8979, 8980, 8981, 8982, 8983, 8984, 8985, 8986, 8987, 8988, 8989, 8990, 8991, 8992, 8993, 8994, 8995, 8996, 8997, 8998, 8999, 9000, 9001, 9002, 9003, 9004, 9005, 9006, 9007, 9008, 9009, 9010]] [.retAddr 0, .ref 0, .ref 86, .ref 125, .int (nI i), v5, v6, v7] [.int (nI n)] (hp D N I J x) P := by
  by_cases z : 44 < n
  · rw [wp_tsw (L := 9013) (by rw [nI_toInt (by omega)]; exact if_pos (Or.inr (by omega)))]
    exact lw_on hc ⟨⟨invB_c h.1 (by omega) sN_r sI_r sJ_r, h.2⟩, by omega⟩
  · have h45 : n = 0 ∨ n = 1 ∨ n = 2 ∨ n = 3 ∨ n = 4 ∨ n = 5 ∨ n = 6 ∨ n = 7 ∨ n = 8 ∨ n = 9 ∨ n = 10 ∨ n = 11 ∨ n = 12 ∨ n = 13 ∨ n = 14 ∨ n = 15 ∨ n = 16 ∨ n = 17 ∨ n = 18 ∨ n = 19 ∨ n = 20 ∨ n = 21 ∨ n = 22 ∨ n = 23 ∨ n = 24 ∨ n = 25 ∨ n = 26 ∨ n = 27 ∨ n = 28 ∨ n = 29 ∨ n = 30 ∨ n = 31 ∨ n = 32 ∨ n = 33 ∨ n = 34 ∨ n = 35 ∨ n = 36 ∨ n = 37 ∨ n = 38 ∨ n = 39 ∨ n = 40 ∨ n = 41 ∨ n = 42 ∨ n = 43 ∨ n = 44 := by omega
    rcases h45 with rfl | rfl | rfl | rfl | rfl | rfl | rfl | rfl | rfl | rfl | rfl | rfl | rfl | rfl | rfl | rfl | rfl | rfl | rfl | rfl | rfl | rfl | rfl | rfl | rfl | rfl | rfl | rfl | rfl | rfl | rfl | rfl | rfl | rfl | rfl | rfl | rfl | rfl | rfl | rfl | rfl | rfl | rfl | rfl | rfl
    · rw [wp_tsw (L := 8962) (by decide)]
      exact lc_8962 hk hF h0 hm h ht hi hc
    · rw [wp_tsw (L := 8963) (by decide)]
      exact lc_8963 hk hF h0 hm h ht hi hc
    · rw [wp_tsw (L := 8964) (by decide)]
      exact lc_8964 hk hF h0 hm h ht hi hc
    · rw [wp_tsw (L := 8965) (by decide)]
      exact lc_8965 hk hF h0 hm h ht hi hc
    · rw [wp_tsw (L := 8966) (by decide)]
      exact lc_8966 hk hF h0 hm h ht hi hc
    · rw [wp_tsw (L := 8967) (by decide)]
      exact lc_8967 h0 hm h hi hc
    · rw [wp_tsw (L := 8970) (by decide)]
      exact lc_8970 h0 hm h hi hc
    · rw [wp_tsw (L := 8973) (by decide)]
      exact lc_8973 hk hF h0 hm h ht hi hc
    · rw [wp_tsw (L := 8974) (by decide)]
      exact lc_8974 hk hF h0 hm h ht hi hc
    · rw [wp_tsw (L := 8975) (by decide)]
      exact lc_8975 hk hF h0 hm h ht hi hc
    · rw [wp_tsw (L := 8976) (by decide)]
      exact lc_8976 hk hF h0 hm h ht hi hc
    · rw [wp_tsw (L := 8977) (by decide)]
      exact lc_8977 hk hF h0 hm h ht hi hc
    · rw [wp_tsw (L := 8978) (by decide)]
      exact lc_8978 hk hF h0 hm h ht hi hc
    · rw [wp_tsw (L := 8979) (by decide)]
      exact lc_8979 hk hF h0 hm h ht hi hc
    · rw [wp_tsw (L := 8980) (by decide)]
      exact lc_8980 hk hF h0 hm h ht hi hc
    · rw [wp_tsw (L := 8981) (by decide)]
      exact lc_8981 hk hF h0 hm h ht hi hc
    · rw [wp_tsw (L := 8982) (by decide)]
      exact lc_8982 hk hF h0 hm h ht hi hc
    · rw [wp_tsw (L := 8983) (by decide)]
      exact lc_8983 hk hF h0 hm h ht hi hc
    · rw [wp_tsw (L := 8984) (by decide)]
      exact lc_8984 hk hF h0 hm h ht hi hc
    · rw [wp_tsw (L := 8985) (by decide)]
      exact lc_8985 hk hF h0 hm h ht hi hc
    · rw [wp_tsw (L := 8986) (by decide)]
      exact lc_8986 hk hF h0 hm h ht hi hc
    · rw [wp_tsw (L := 8987) (by decide)]
      exact lc_8987 hk hF h0 hm h ht hi hc
    · rw [wp_tsw (L := 8988) (by decide)]
      exact lc_8988 hk hF h0 hm h ht hi hc
    · rw [wp_tsw (L := 8989) (by decide)]
      exact lc_8989 hk hF h0 hm h ht hi hc
    · rw [wp_tsw (L := 8990) (by decide)]
      exact lc_8990 hk hF h0 hm h ht hi hc
    · rw [wp_tsw (L := 8991) (by decide)]
      exact lc_8991 hk hF h0 hm h ht hi hc
    · rw [wp_tsw (L := 8992) (by decide)]
      exact lc_8992 hk hF h0 hm h ht hi hc
    · rw [wp_tsw (L := 8993) (by decide)]
      exact lc_8993 hk hF h0 hm h ht hi hc
    · rw [wp_tsw (L := 8994) (by decide)]
      exact lc_8994 hk hF h0 hm h ht hi hc
    · rw [wp_tsw (L := 8995) (by decide)]
      exact lc_8995 hk hF h0 hm h ht hi hc
    · rw [wp_tsw (L := 8996) (by decide)]
      exact lc_8996 hk hF h0 hm h ht hi hc
    · rw [wp_tsw (L := 8997) (by decide)]
      exact lc_8997 hk hF h0 hm h ht hi hc
    · rw [wp_tsw (L := 8998) (by decide)]
      exact lc_8998 hk hF h0 hm h ht hi hc
    · rw [wp_tsw (L := 8999) (by decide)]
      exact lc_8999 hk hF h0 hm h ht hi hc
    · rw [wp_tsw (L := 9000) (by decide)]
      exact lc_9000 hk hF h0 hm h ht hi hc
    · rw [wp_tsw (L := 9001) (by decide)]
      exact lc_9001 hk hF h0 hm h ht hi hc
    · rw [wp_tsw (L := 9002) (by decide)]
      exact lc_9002 hk hF h0 hm h ht hi hc
    · rw [wp_tsw (L := 9003) (by decide)]
      exact lc_9003 hk hF h0 hm h ht hi hc
    · rw [wp_tsw (L := 9004) (by decide)]
      exact lc_9004 hk hF h0 hm h ht hi hc
    · rw [wp_tsw (L := 9005) (by decide)]
      exact lc_9005 hk hF h0 hm h ht hi hc
    · rw [wp_tsw (L := 9006) (by decide)]
      exact lc_9006 hk hF h0 hm h ht hi hc
    · rw [wp_tsw (L := 9007) (by decide)]
      exact lc_9007 hk hF h0 hm h ht hi hc
    · rw [wp_tsw (L := 9008) (by decide)]
      exact lc_9008 hk hF h0 hm h ht hi hc
    · rw [wp_tsw (L := 9009) (by decide)]
      exact lc_9009 hk hF h0 hm h ht hi hc
    · rw [wp_tsw (L := 9010) (by decide)]
      exact lc_9010 h0 hm h hi hc
theorem lw_t {t q : Nat} (h : t + 300 * (q + 1) < 1000000000) : t + 300 < 1000000000 ∧ t + 300 + 300 * q < 1000000000 := by omega
theorem l_140 (hk : koT ko) (hF : koF ko) (h0 : ko 0 = (.int, m, f)) (hm : m ≤ 2560) : ∀ (q i : Nat) (D : Nat → Nat) (N : Nat → Nat → Nat) (I : Nat → Nat → Int32) (J : Nat → Nat → Int64) (x t : Nat) (v5 v6 v7 : Value), i + 5 * q ≤ m → m < i + 5 * q + 5 → inv D N I J t → t + 300 * q < 1000000000 → aWp ko 100 140 (aP.1 (Int.toNat 8961)) [.retAddr 0, .ref 0, .ref 86, .ref 125, .int (nI i), v5, v6, v7] [] (hp D N I J x) (fun r σ => r = .inl (some (.int (nI 1))) ∧ ∃ D' N' I' J' x', σ = hp D' N' I' J' x' ∧ x' ≤ x + q) := by
  intro q
  induction q with
  | zero =>
    intro i D N I J x t v5 v6 v7 h1 h2 hv ht
    have hal : ∀ (is : List Instr) (ls st : List Value) P, aWp ko 100 140 (.arraylength :: is) ls (.retAddr 0 :: st) (hp D N I J x) P = aWp ko 100 140 is ls (.int (nI m) :: st) (hp D N I J x) P := fun is ls st P => wp_alenK h0
    have hgt : nI m - nI 5 < nI i := by
      have e1 : (nI m).toInt = (m : Int) := nI_toInt (by omega)
      have e2 : (nI i).toInt = (i : Int) := nI_toInt (by omega)
      have e3 : (nI 5).toInt = 5 := rfl
      rw [Int32.lt_iff_toInt_lt, Int32.toInt_sub, e1, e2, e3, Int.bmod_def]
      split <;> omega
    rw [al_8961]
    simp (disch := (first | omega | exact aCat_8 (by with_unfolding_all rfl) | exact rk_lt (by with_unfolding_all rfl) | exact aCat_16 (by with_unfolding_all rfl) | exact rk_eq (by with_unfolding_all rfl) | assumption | exact b2n_lt _ | exact id_b (by with_unfolding_all rfl) | (simp (disch := omega) only [u2_same, u2_ab, u2_aq]; done) | (simp (disch := omega) only [u2_same, u2_ab, u2_aq]; omega) | fail)) only [wp_iload_4, wp_aloadk_0, hal, wk_5, wp_isub, wx_gt_t hgt, al_9014, wk_1, wp_freturn1]
    exact ⟨trivial, D, N, I, J, x, rfl, by omega⟩
  | succ q ih =>
    intro i D N I J x t v5 v6 v7 h1 h2 hv ht
    have hal : ∀ (is : List Instr) (ls st : List Value) P, aWp ko 100 140 (.arraylength :: is) ls (.retAddr 0 :: st) (hp D N I J x) P = aWp ko 100 140 is ls (.int (nI m) :: st) (hp D N I J x) P := fun is ls st P => wp_alenK h0
    have ht' : t + 300 < 1000000000 := (lw_t ht).1
    have hi' : i + 5 ≤ m := by omega
    have h64 : (f i).toBitVec.toNat % 64 < 64 := Nat.mod_lt _ (by decide)
    have hx := l_sw (P := fun r σ => r = .inl (some (.int (nI 1))) ∧ ∃ D' N' I' J' x', σ = hp D' N' I' J' x' ∧ x' ≤ x + (q + 1)) (v5 := v5) (v6 := v6) (v7 := v7) (n := (f i).toBitVec.toNat % 64) (D := D) (N := N) (I := I) (J := J) (x := x) (t := t) (i := i) hk hF h0 hm hv ht' hi' (fun D' N' I' J' x' v5 v6 v7 hx' hv' => wp_mono (ih (i + 5) D' N' I' J' x' (t + 300) v5 v6 v7 (by omega) (by omega) hv' (lw_t ht).2) (fun r σ1 hr => ⟨hr.1, by
      obtain ⟨D2, N2, I2, J2, x2, e1, e2⟩ := hr.2
      exact ⟨D2, N2, I2, J2, x2, e1, by omega⟩⟩)) h64
    have hand : f i &&& nI 63 = nI ((f i).toBitVec.toNat % 64) := pk_and _ 6 rfl
    rw [al_8961]
    simp (disch := (first | omega | exact aCat_8 (by with_unfolding_all rfl) | exact rk_lt (by with_unfolding_all rfl) | exact aCat_16 (by with_unfolding_all rfl) | exact rk_eq (by with_unfolding_all rfl) | assumption | exact b2n_lt _ | exact id_b (by with_unfolding_all rfl) | (simp (disch := omega) only [u2_same, u2_ab, u2_aq]; done) | (simp (disch := omega) only [u2_same, u2_ab, u2_aq]; omega) | fail)) only [wp_iload_4, wp_aloadk_0, hal, wk_5, wp_isub, pk_sub, wn_gt_f, wp_sc h0 (show i < m by omega) hm, wk_63, wp_iand, hand]
    exact hx
end LL
