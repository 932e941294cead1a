/-! row, field, dislikes: calls that may throw. From wip/whole/src. -/
/-- with what the law goes on after a call that may throw: 0 and the answer put down, or 1 -/
def aTh (k' : Nat) (As : List Value) (G : Int32 → aH → Prop) : (Option Value ⊕ Unit) → aH → Prop := fun r σ => match r with
  | .inl (some v) => (match aOut k' As v σ with
    | some σ' => G (nI 0) σ'
    | none => False)
  | .inl none => False
  | .inr _ => G (nI 1) σ
theorem aRun_le {P : aPg} {ko : aKo} {n d k : Nat} {is : List Instr} {ls st : List Value} {σ : aH} {r : (Option Value ⊕ Unit) × aH} (h : aRun P ko n d k is ls st σ = some r) : ∀ m, aRun P ko (n + m) d k is ls st σ = some r
  | 0 => h
  | m + 1 => aRun_mono _ _ _ _ _ _ _ _ (aRun_le h m)
section T1
variable {ko : aKo} {d k : Nat} {is : List Instr} {ls st : List Value} {σ : aH} {D : Nat → Nat} {N : Nat → Nat → Nat} {I : Nat → Nat → Int32} {J : Nat → Nat → Int64} {x t : Nat} {Q : Option Value → aH → Prop} {P : (Option Value ⊕ Unit) → aH → Prop}
theorem wp_help0 {d' k' kf : Nat} {As rest : List Value} (hk : (aP.2.1 k').2.2.2.2.2 = some kf) (h : aDo aP ko d k (.invokestatic k') is ls st σ = some (.inr (.inr (d', k', As, rest)))) (hc : (aLay As.dropLast).length ≤ (aP.2.1 kf).2.2.1 ∧ ((As.dropLast.drop 1).all aIsI = true ∧ aLastR As = true)) (hx : aWp ko d' kf (aP.1 (aP.2.1 kf).1) (aEnt (aP.2.1 kf).2.2.1 As.dropLast) [] σ (aTh k' As (fun z σ' => aWp ko d k is ls (.int z :: rest) σ' P))) : aWp ko d k (.invokestatic k' :: is) ls st σ P := by
  obtain ⟨⟨r, σ1⟩, ⟨n, hn⟩, hr⟩ := hx
  match r, hn, hr with
  | .inl none, hn, hr => exact hr.elim
  | .inl (some v), hn, hr =>
    cases ho : aOut k' As v σ1 with
    | none =>
      simp only [aTh, ho] at hr
    | some σ2 =>
      simp only [aTh, ho] at hr
      obtain ⟨r2, ⟨m, hm⟩, hP⟩ := hr
      refine ⟨r2, ⟨n + m + 1, ?_⟩, hP⟩
      have e1 := aRun_le hn m
      have e2 := aRun_le hm n
      rw [Nat.add_comm] at e2
      unfold aRun
      dsimp only
      rw [h]
      dsimp only
      rw [hk]
      dsimp only
      rw [if_pos hc, e1]
      dsimp only
      rw [ho]
      exact e2
  | .inr _, hn, hr =>
    obtain ⟨r2, ⟨m, hm⟩, hP⟩ := hr
    refine ⟨r2, ⟨n + m + 1, ?_⟩, hP⟩
    have e1 := aRun_le hn m
    have e2 := aRun_le hm n
    rw [Nat.add_comm] at e2
    unfold aRun
    dsimp only
    rw [h]
    dsimp only
    rw [hk]
    dsimp only
    rw [if_pos hc, e1]
    exact e2
theorem wp_help {k' kf : Nat} {As rest : List Value} (hst : st = As.reverse ++ rest) (h1 : As.length = (aP.2.1 k').2.1) (h2 : aRecv (aP.2.1 k').2.2.2.2.1 As σ = true) (h3 : aCat rest ≤ 8) (h4 : (aLay As).length ≤ (aP.2.1 k').2.2.1) (h5 : (aP.2.1 k').2.2.2.1 < (aP.2.1 k).2.2.2.1) (h6 : (aP.2.1 k').2.2.2.2.2 = some kf) (hc : (aLay As.dropLast).length ≤ (aP.2.1 kf).2.2.1 ∧ ((As.dropLast.drop 1).all aIsI = true ∧ aLastR As = true)) (hx : aWp ko d kf (aP.1 (aP.2.1 kf).1) (aEnt (aP.2.1 kf).2.2.1 As.dropLast) [] σ (aTh k' As (fun z σ' => aWp ko d k is ls (.int z :: rest) σ' P))) : aWp ko d k (.invokestatic k' :: is) ls st σ P := by
  refine wp_help0 (d' := d) h6 ?_ hc hx
  have e1 : st.take (aP.2.1 k').2.1 = As.reverse := by rw [hst, ← h1, ← List.length_reverse, List.take_left]
  have e2 : st.drop (aP.2.1 k').2.1 = rest := by rw [hst, ← h1, ← List.length_reverse, List.drop_left]
  have e3 : (aP.2.1 k').2.1 ≤ st.length := by rw [hst, ← h1, List.length_append, List.length_reverse]; omega
  unfold aDo
  dsimp only
  rw [e1, e2, List.reverse_reverse, if_pos ⟨e3, h2, h3, h4⟩]
  unfold aDn
  rw [if_pos h5]
theorem wp_athrow : aWp ko d k (.athrow :: is) ls [] σ P = P (.inr ()) (σ ++ [aXc]) := wp_end (fun _ => aEv_end rfl)
theorem hp_x : hp D N I J x ++ [aXc] = hp D N I J (x + 1) := by
  unfold hp
  rw [List.append_assoc, ← List.replicate_succ']
theorem hp_o {v : Int64} : (hp D N I J x).set 125 (.inl (.long, 1, .inr (.inl (vp_updL (J 125) 0 v)))) = hp D N I (u2 J 125 0 v) x := by
  rw [up_J]
  exact hp_setJ (by decide) rfl
theorem hp_o1 : (hp D N I J x)[125]? = some (.inl (.long, 1, .inr (.inl (J 125)))) := hp_get (by decide)
theorem tho_l {a : Int32} {v : Int64} {G : Int32 → aH → Prop} : aTh 143 [.ref 0, .int a, .ref 125] G (.inl (some (.long v))) (hp D N I J x) = G (nI 0) (hp D N I (u2 J 125 0 v) x) := by
  have ho : aOut 143 [.ref 0, .int a, .ref 125] (.long v) (hp D N I J x) = some (hp D N I (u2 J 125 0 v) x) := by
    unfold aOut
    dsimp only [List.getLast?]
    simp only [List.getLast, hp_o1]
    rw [if_pos (by decide), if_pos True.intro, hp_o]
  simp only [aTh, ho]
theorem tho_i {k' : Nat} {a b : Int32} {v : Int32} {G : Int32 → aH → Prop} (hk : k' ≠ 143) : aTh k' [.ref 0, .int a, .int b, .ref 125] G (.inl (some (.int v))) (hp D N I J x) = G (nI 0) (hp D N I (u2 J 125 0 v.toInt64) x) := by
  have ho : aOut k' [.ref 0, .int a, .int b, .ref 125] (.int v) (hp D N I J x) = some (hp D N I (u2 J 125 0 v.toInt64) x) := by
    unfold aOut
    dsimp only [List.getLast?]
    simp only [List.getLast, hp_o1]
    rw [if_pos (by decide), if_neg hk, hp_o]
  simp only [aTh, ho]
theorem tho_x {k' : Nat} {As : List Value} {G : Int32 → aH → Prop} : aTh k' As G (.inr ()) (hp D N I J x ++ [aXc]) = G (nI 1) (hp D N I J (x + 1)) := by
  rw [hp_x]
  rfl
/-- a pair of calls that may throw -/
def opT (ko : aKo) (d kf k' kr : Nat) (R : Option Value → Int64 → Prop) (As : List Value) (D : Nat → Nat) (N : Nat → Nat → Nat) (I : Nat → Nat → Int32) (J : Nat → Nat → Int64) (x t : Nat) : Prop := aWp ko d kf (aP.1 (aP.2.1 kf).1) (aEnt (aP.2.1 kf).2.2.1 (.ref 0 :: As)) [] (hp D N I J x) (aTh k' (.ref 0 :: (As ++ [.ref 125])) (fun z σ1 => aMm ko d kr (.ref 86 :: As) σ1 (fun w σ2 => ∃ (v : Int64) (N' : Nat → Nat → Nat) (I' : Nat → Nat → Int32) (J' : Nat → Nat → Int64) (x' : Nat), σ2 = hp D N' I' J' x' ∧ inv D N' I' J' t ∧ x' ≤ x + 1 ∧ z = nI (N' 86 0) ∧ N' 86 0 ≤ 1 ∧ (N' 86 0 = 0 → J' 125 0 = v) ∧ R w v)))
def rwL (w : Option Value) (v : Int64) : Prop := w = some (.long v)
def rwI (w : Option Value) (v : Int64) : Prop := ∃ u : Int32, w = some (.int u) ∧ v = u.toInt64
theorem in_m1 (a : Int32) : ¬ (lN 0 ≤ a.toInt64 ∧ a.toInt64 ≤ Int32.toInt64 (-1)) := by
  rintro ⟨h1, h2⟩
  rw [← nI_l (by decide), wide_le] at h1
  rw [wide_le] at h2
  rw [Int32.le_iff_toInt_le] at h1 h2
  have e : (nI 0).toInt = 0 := nI_toInt (by decide)
  have e2 : (-1 : Int32).toInt = -1 := rfl
  omega
theorem inv_out (h : inv D N I J t) {v : Nat} {w : Int64} : inv D (u2 N 86 0 v) I (u2 J 125 0 w) (t + 300) := ⟨invB_c h.1 (by omega) (sN_u sN_r rfl) sI_r (sJ_u sJ_r rfl), td_same h.2 (u2_ab (by decide)) (u2_aq (by decide)) (fun q => u2_ab (by decide)) (fun q => u2_ab (by decide))⟩
theorem inv_thr (h : inv D N I J t) {v : Nat} : inv D (u2 N 86 0 v) I J (t + 300) := ⟨invB_c h.1 (by omega) (sN_u sN_r rfl) sI_r sJ_r, td_same h.2 (u2_ab (by decide)) (u2_aq (by decide)) (fun q => rfl) (fun q => rfl)⟩
theorem o_row {a : Int32} (h : inv D N I J t) : opT ko d 227 143 107 rwL [.int a] D N I J x (t + 300) := by
  have e3 := h.2.1
  have h36 := h.2.2.1
  have hthr : (¬ (lN 0 ≤ a.toInt64 ∧ a.toInt64 ≤ (nI (N 86 1) - nI 1).toInt64)) → ∀ x', x' ≤ x + 1 → aMm ko d 107 [.ref 86, .int a] (hp D N I J x') (fun w σ2 => ∃ (v : Int64) (N' : Nat → Nat → Nat) (I' : Nat → Nat → Int32) (J' : Nat → Nat → Int64) (x' : Nat), σ2 = hp D N' I' J' x' ∧ inv D N' I' J' (t + 300) ∧ x' ≤ x + 1 ∧ nI 1 = nI (N' 86 0) ∧ N' 86 0 ≤ 1 ∧ (N' 86 0 = 0 → J' 125 0 = v) ∧ rwL w v) := by
    intro hin x' hx'
    have e1 : N 86 1 = 0 ∨ 1 ≤ N 86 1 := by omega
    have hfin : ∃ (v : Int64) (N' : Nat → Nat → Nat) (I' : Nat → Nat → Int32) (J' : Nat → Nat → Int64) (x'' : Nat), hp D (u2 N 86 0 1) I J x' = hp D N' I' J' x'' ∧ inv D N' I' J' (t + 300) ∧ x'' ≤ x + 1 ∧ nI 1 = nI (N' 86 0) ∧ N' 86 0 ≤ 1 ∧ (N' 86 0 = 0 → J' 125 0 = v) ∧ rwL (some (.long (lN 0))) v := ⟨lN 0, _, _, _, _, rfl, inv_thr h, hx', by rw [u2_same], by rw [u2_same]; decide, (fun z => by rw [u2_same] at z; cases z), rfl⟩
    rw [me_107]
    rcases e1 with e1 | e1
    · rw [e1] at hin
      have hin' : ¬ (lN 0 ≤ a.toInt64 ∧ a.toInt64 ≤ Int32.toInt64 (-1)) := hin
      simp (disch := (first | omega | exact aCat_8 (by with_unfolding_all rfl) | exact rk_lt (by with_unfolding_all rfl) | exact aCat_16 (by with_unfolding_all rfl) | exact rk_eq (by with_unfolding_all rfl) | assumption | exact b2n_lt _ | exact id_b (by with_unfolding_all rfl) | (simp (disch := omega) only [u2_same, u2_ab, u2_aq]; done) | (simp (disch := omega) only [u2_same, u2_ab, u2_aq]; omega) | fail)) only [al_6848, wp_aloadr_0, wp_aloadk_0, wk_0, hp_86_0, wp_iload_1, wp_i2l, wl_0, hg_86_1, wk_1, wp_isub, wc_4, t_4, lN_le, wz_ne_t, wz_ne_f, wb_ne_t, wb_ne_f, wm_ne_1, wm_ne_2, wp_lreturn, al_6849, hg_86_2, ha_87l, ha_87s, nl_i, nl_r, nl_k, nl_j, nl_l, nI_add, pk_mul, pk_sub, tl_s, tl_n, aL_inl, u2_same, u2_ab, u2_aq, nI_l, lN_i, Nat.add_zero, Nat.zero_add, Nat.zero_le, true_and, and_true, b2n_10, b2n_T, b2n_F, b2n_0, Decidable.not_not, not_true_eq_false, not_false_eq_true, Nat.reduceAdd, Nat.reduceMul, Nat.reduceSub, e1, b2n_f hin']
      exact hfin
    · rw [pk_sub e1, nI_l (by omega)] at hin
      simp (disch := (first | omega | exact aCat_8 (by with_unfolding_all rfl) | exact rk_lt (by with_unfolding_all rfl) | exact aCat_16 (by with_unfolding_all rfl) | exact rk_eq (by with_unfolding_all rfl) | assumption | exact b2n_lt _ | exact id_b (by with_unfolding_all rfl) | (simp (disch := omega) only [u2_same, u2_ab, u2_aq]; done) | (simp (disch := omega) only [u2_same, u2_ab, u2_aq]; omega) | fail)) only [al_6848, wp_aloadr_0, wp_aloadk_0, wk_0, hp_86_0, wp_iload_1, wp_i2l, wl_0, hg_86_1, wk_1, wp_isub, wc_4, t_4, lN_le, wz_ne_t, wz_ne_f, wb_ne_t, wb_ne_f, wm_ne_1, wm_ne_2, wp_lreturn, al_6849, hg_86_2, ha_87l, ha_87s, nl_i, nl_r, nl_k, nl_j, nl_l, nI_add, pk_mul, pk_sub, tl_s, tl_n, aL_inl, u2_same, u2_ab, u2_aq, nI_l, lN_i, Nat.add_zero, Nat.zero_add, Nat.zero_le, true_and, and_true, b2n_10, b2n_T, b2n_F, b2n_0, Decidable.not_not, not_true_eq_false, not_false_eq_true, Nat.reduceAdd, Nat.reduceMul, Nat.reduceSub, b2n_f hin]
      exact hfin
  show aWp ko d 227 (aP.1 (Int.toNat 14528)) [.ref 0, .int a] [] (hp D N I J x) (aTh 143 [.ref 0, .int a, .ref 125] _)
  by_cases hpos : 1 ≤ N 86 1
  · rcases rng3 a 0 (b := N 86 1 - 1) (by decide) (by omega) with ⟨i, _, hi, rfl⟩ | hbad
    · have hJ := h.2.2.2 i (by omega)
      simp (disch := (first | omega | exact aCat_8 (by with_unfolding_all rfl) | exact rk_lt (by with_unfolding_all rfl) | exact aCat_16 (by with_unfolding_all rfl) | exact rk_eq (by with_unfolding_all rfl) | assumption | exact b2n_lt _ | exact id_b (by with_unfolding_all rfl) | (simp (disch := omega) only [u2_same, u2_ab, u2_aq]; done) | (simp (disch := omega) only [u2_same, u2_ab, u2_aq]; omega) | fail)) only [al_14528, wp_iload_1, wz_lt_t, wz_lt_f, wm_lt_1, wm_lt_2, wp_aloadr_0, wp_aloadk_0, hg_0_1, hg_3_1, wn_lt_t, wn_lt_f, wp_jsr, al_14529, al_14530, hg_3_0, ha_4l, ha_4s, wp_lreturn, nl_i, nl_r, nl_k, nl_j, nl_l, nI_add, pk_mul, pk_sub, tl_s, tl_n, aL_inl, u2_same, u2_ab, u2_aq, nI_l, lN_i, Nat.add_zero, Nat.zero_add, Nat.zero_le, true_and, and_true, b2n_10, b2n_T, b2n_F, b2n_0, Decidable.not_not, not_true_eq_false, not_false_eq_true, Nat.reduceAdd, Nat.reduceMul, Nat.reduceSub, e3, tho_l]
      rw [me_107]
      have hin : lN 0 ≤ lN i ∧ lN i ≤ lN (N 86 1 - 1) := ⟨(lN_le (by decide) (by omega)).mpr (Nat.zero_le _), (lN_le (by omega) (by omega)).mpr hi⟩
      simp (disch := (first | omega | exact aCat_8 (by with_unfolding_all rfl) | exact rk_lt (by with_unfolding_all rfl) | exact aCat_16 (by with_unfolding_all rfl) | exact rk_eq (by with_unfolding_all rfl) | assumption | exact b2n_lt _ | exact id_b (by with_unfolding_all rfl) | (simp (disch := omega) only [u2_same, u2_ab, u2_aq]; done) | (simp (disch := omega) only [u2_same, u2_ab, u2_aq]; omega) | fail)) only [al_6848, wp_aloadr_0, wp_aloadk_0, wk_0, hp_86_0, wp_iload_1, wp_i2l, wl_0, hg_86_1, wk_1, wp_isub, wc_4, t_4, lN_le, wz_ne_t, wz_ne_f, wb_ne_t, wb_ne_f, wm_ne_1, wm_ne_2, wp_lreturn, al_6849, hg_86_2, ha_87l, ha_87s, nl_i, nl_r, nl_k, nl_j, nl_l, nI_add, pk_mul, pk_sub, tl_s, tl_n, aL_inl, u2_same, u2_ab, u2_aq, nI_l, lN_i, Nat.add_zero, Nat.zero_add, Nat.zero_le, true_and, and_true, b2n_10, b2n_T, b2n_F, b2n_0, Decidable.not_not, not_true_eq_false, not_false_eq_true, Nat.reduceAdd, Nat.reduceMul, Nat.reduceSub, b2n_t hi]
      exact ⟨J 87 i, _, _, _, x, rfl, inv_out h, by omega, by rw [u2_same], by rw [u2_same]; decide, fun _ => by rw [u2_same]; exact hJ, rfl⟩
    · have hin := in_f (a := 0) (b := N 86 1 - 1) (by decide) (by omega) hbad
      have hx := hthr (by rw [pk_sub hpos, nI_l (by omega)]; exact hin) (x + 1) (Nat.le_refl _)
      rcases hbad with hb | ⟨hb1, hb2⟩
      · have hb' : a < 0 := hb
        simp (disch := (first | omega | exact aCat_8 (by with_unfolding_all rfl) | exact rk_lt (by with_unfolding_all rfl) | exact aCat_16 (by with_unfolding_all rfl) | exact rk_eq (by with_unfolding_all rfl) | assumption | exact b2n_lt _ | exact id_b (by with_unfolding_all rfl) | (simp (disch := omega) only [u2_same, u2_ab, u2_aq]; done) | (simp (disch := omega) only [u2_same, u2_ab, u2_aq]; omega) | fail)) only [al_14528, wp_iload_1, wz_lt_t, wz_lt_f, wm_lt_1, wm_lt_2, wp_aloadr_0, wp_aloadk_0, hg_0_1, hg_3_1, wn_lt_t, wn_lt_f, wp_jsr, al_14529, al_14530, hg_3_0, ha_4l, ha_4s, wp_lreturn, nl_i, nl_r, nl_k, nl_j, nl_l, nI_add, pk_mul, pk_sub, tl_s, tl_n, aL_inl, u2_same, u2_ab, u2_aq, nI_l, lN_i, Nat.add_zero, Nat.zero_add, Nat.zero_le, true_and, and_true, b2n_10, b2n_T, b2n_F, b2n_0, Decidable.not_not, not_true_eq_false, not_false_eq_true, Nat.reduceAdd, Nat.reduceMul, Nat.reduceSub, e3, wy_lt_t hb', wp_athrow]
        rw [tho_x]
        exact hx
      · have hb' : ¬ a < 0 := hb1
        have hb3 : ¬ a < nI (N 86 1) := by
          rw [Int32.lt_iff_toInt_lt, nI_toInt (by omega)] at hb2 ⊢
          omega
        simp (disch := (first | omega | exact aCat_8 (by with_unfolding_all rfl) | exact rk_lt (by with_unfolding_all rfl) | exact aCat_16 (by with_unfolding_all rfl) | exact rk_eq (by with_unfolding_all rfl) | assumption | exact b2n_lt _ | exact id_b (by with_unfolding_all rfl) | (simp (disch := omega) only [u2_same, u2_ab, u2_aq]; done) | (simp (disch := omega) only [u2_same, u2_ab, u2_aq]; omega) | fail)) only [al_14528, wp_iload_1, wz_lt_t, wz_lt_f, wm_lt_1, wm_lt_2, wp_aloadr_0, wp_aloadk_0, hg_0_1, hg_3_1, wn_lt_t, wn_lt_f, wp_jsr, al_14529, al_14530, hg_3_0, ha_4l, ha_4s, wp_lreturn, nl_i, nl_r, nl_k, nl_j, nl_l, nI_add, pk_mul, pk_sub, tl_s, tl_n, aL_inl, u2_same, u2_ab, u2_aq, nI_l, lN_i, Nat.add_zero, Nat.zero_add, Nat.zero_le, true_and, and_true, b2n_10, b2n_T, b2n_F, b2n_0, Decidable.not_not, not_true_eq_false, not_false_eq_true, Nat.reduceAdd, Nat.reduceMul, Nat.reduceSub, e3, wy_lt_f hb', wx_lt_f hb3, wp_athrow]
        rw [tho_x]
        exact hx
  · have e0 : N 86 1 = 0 := by omega
    have hx := hthr (by rw [e0]; exact in_m1 a) (x + 1) (Nat.le_refl _)
    by_cases hb' : a < 0
    · simp (disch := (first | omega | exact aCat_8 (by with_unfolding_all rfl) | exact rk_lt (by with_unfolding_all rfl) | exact aCat_16 (by with_unfolding_all rfl) | exact rk_eq (by with_unfolding_all rfl) | assumption | exact b2n_lt _ | exact id_b (by with_unfolding_all rfl) | (simp (disch := omega) only [u2_same, u2_ab, u2_aq]; done) | (simp (disch := omega) only [u2_same, u2_ab, u2_aq]; omega) | fail)) only [al_14528, wp_iload_1, wz_lt_t, wz_lt_f, wm_lt_1, wm_lt_2, wp_aloadr_0, wp_aloadk_0, hg_0_1, hg_3_1, wn_lt_t, wn_lt_f, wp_jsr, al_14529, al_14530, hg_3_0, ha_4l, ha_4s, wp_lreturn, nl_i, nl_r, nl_k, nl_j, nl_l, nI_add, pk_mul, pk_sub, tl_s, tl_n, aL_inl, u2_same, u2_ab, u2_aq, nI_l, lN_i, Nat.add_zero, Nat.zero_add, Nat.zero_le, true_and, and_true, b2n_10, b2n_T, b2n_F, b2n_0, Decidable.not_not, not_true_eq_false, not_false_eq_true, Nat.reduceAdd, Nat.reduceMul, Nat.reduceSub, e3, wy_lt_t hb', wp_athrow]
      rw [tho_x]
      exact hx
    · have hb3 : ¬ a < nI 0 := hb'
      simp (disch := (first | omega | exact aCat_8 (by with_unfolding_all rfl) | exact rk_lt (by with_unfolding_all rfl) | exact aCat_16 (by with_unfolding_all rfl) | exact rk_eq (by with_unfolding_all rfl) | assumption | exact b2n_lt _ | exact id_b (by with_unfolding_all rfl) | (simp (disch := omega) only [u2_same, u2_ab, u2_aq]; done) | (simp (disch := omega) only [u2_same, u2_ab, u2_aq]; omega) | fail)) only [al_14528, wp_iload_1, wz_lt_t, wz_lt_f, wm_lt_1, wm_lt_2, wp_aloadr_0, wp_aloadk_0, hg_0_1, hg_3_1, wn_lt_t, wn_lt_f, wp_jsr, al_14529, al_14530, hg_3_0, ha_4l, ha_4s, wp_lreturn, nl_i, nl_r, nl_k, nl_j, nl_l, nI_add, pk_mul, pk_sub, tl_s, tl_n, aL_inl, u2_same, u2_ab, u2_aq, nI_l, lN_i, Nat.add_zero, Nat.zero_add, Nat.zero_le, true_and, and_true, b2n_10, b2n_T, b2n_F, b2n_0, Decidable.not_not, not_true_eq_false, not_false_eq_true, Nat.reduceAdd, Nat.reduceMul, Nat.reduceSub, e3, e0, wy_lt_f hb', wx_lt_f hb3, wp_athrow]
      rw [tho_x]
      exact hx
end T1
