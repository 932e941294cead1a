/-! timetable: the reference searches a way. From wip/whole/src. -/
/-- ships, depths, tides taken, as the reference has them -/
def rfO (N : Nat → Nat → Nat) (I : Nat → Nat → Int32) (dep dr : Nat → Nat) (n K : Nat) (U : Nat → Bool) : Prop := (∀ q, q < n → N 108 q = dep q ∧ dep q ≤ 9) ∧ (∀ i, i < K → I 107 i = nI (dr i) ∧ dr i ≤ 9) ∧ ∀ q, q < n → N 111 q = b2n (U q = true)
/-- who was asked, who comes when -/
def mtO (N : Nat → Nat → Nat) (I : Nat → Nat → Int32) (V : Nat → Bool) (o : Nat → Option Nat) (n K : Nat) : Prop := (∀ q, q < n → N 110 q = b2n (V q = true)) ∧ (∀ q, q < n → I 109 q = oI (o q)) ∧ ∀ q i, q < n → o q = some i → i < K
def fr110 (N' N : Nat → Nat → Nat) : Prop := ∀ b q, b ≠ 110 → N' b q = N b q
def fr109 (I' I : Nat → Nat → Int32) : Prop := ∀ b q, b ≠ 109 → I' b q = I b q
def unV (n : Nat) (V : Nat → Bool) : Nat := sumR (fun q => b2n (V q = false)) n
theorem un_up {n q : Nat} {V : Nat → Bool} (hq : q < n) (hV : V q = false) : unV n (upB V q) + 1 = unV n V := by
  have := sumR_pt (f := fun p => b2n (upB V q p = false)) (g := fun p => b2n (V p = false)) n hq (fun p hp1 => b2n_iff (by
    unfold upB
    rw [decide_eq_false hp1, Bool.or_false]))
  have e1 : b2n (upB V q q = false) = 0 := b2n_f (fun y => by
    unfold upB at y
    simp at y)
  have e2 : b2n (V q = false) = 1 := b2n_t hV
  unfold unV
  omega
theorem un_mono {n : Nat} {V V' : Nat → Bool} (h : ∀ q, V q = true → V' q = true) : unV n V' ≤ unV n V := sumR_le n (fun q _ => b2n_mono (fun y => by
  cases hz : V q with
  | false => rfl
  | true => rw [h q hz] at y; cases y))
theorem upB_t {V : Nat → Bool} {q p : Nat} (h : V p = true) : upB V q p = true := by unfold upB; rw [h]; rfl
theorem upB_s {V : Nat → Bool} {q : Nat} : upB V q q = true := by unfold upB; simp
theorem upB_n {V : Nat → Bool} {q p : Nat} (h : p ≠ q) : upB V q p = V p := by unfold upB; simp [h]
section KA
variable {ko : aKo} {d k : Nat} {is : List Instr} {ls st : List Value} {σ : aH} {D : Nat → Nat} {N : Nat → Nat → Nat} {I : Nat → Nat → Int32} {J : Nat → Nat → Int64} {x t : Nat} {Q : Option Value → aH → Prop} {P : (Option Value ⊕ Unit) → aH → Prop}
/-- what a search promises -/
def c78 (ko : aKo) (D : Nat → Nat) (J : Nat → Nat → Int64) (x : Nat) (dep dr : Nat → Nat) (n K : Nat) (U : Nat → Bool) (e g : Nat) : Prop := ∀ (s : Nat) (N : Nat → Nat → Nat) (I : Nat → Nat → Int32) (V : Nat → Bool) (o : Nat → Option Nat) (Q : Option Value → aH → Prop), s < K → rfO N I dep dr n K U → mtO N I V o n K → vdO dep dr n U V o → ¬ imO n V o s → unV n V ≤ g →
    (∀ (N' : Nat → Nat → Nat) (I' : Nat → Nat → Int32) (V' : Nat → Bool) (o' : Nat → Option Nat), fr110 N' N → fr109 I' I → mtO N' I' V' o' n K → agO dep dr n U V o s o' → Q (some (.int (nI 1))) (hp D N' I' J x)) →
    (∀ (N' : Nat → Nat → Nat) (V' : Nat → Bool), fr110 N' N → mtO N' I V' o n K → clO dep dr n U V o V' → (∀ q, q < n → eD dep dr U s q → V' q = true) → Q (some (.int (nI 0))) (hp D N' I J x)) → aMm ko e 78 [.ref 86, .int (nI s), .int (nI n)] (hp D N I J x) Q
theorem rf_f {N' : Nat → Nat → Nat} {I' : Nat → Nat → Int32} {dep dr : Nat → Nat} {n K : Nat} {U : Nat → Bool} (h : rfO N I dep dr n K U) (h1 : fr110 N' N) (h2 : fr109 I' I) : rfO N' I' dep dr n K U := ⟨fun q hq => ⟨(h1 108 q (by decide)).trans (h.1 q hq).1, (h.1 q hq).2⟩, fun i hi => ⟨(h2 107 i (by decide)).trans (h.2.1 i hi).1, (h.2.1 i hi).2⟩, fun q hq => (h1 111 q (by decide)).trans (h.2.2 q hq)⟩
theorem l_78 {dep dr : Nat → Nat} {n K s g : Nat} {U V : Nat → Bool} {o : Nat → Option Nat} {N0 : Nat → Nat → Nat} (hn : n ≤ 20) (hK : K ≤ 8) (hs : s < K) (hrf : rfO N0 I dep dr n K U) (hv : vdO dep dr n U V o) (him : ¬ imO n V o s) (hrec : ∀ g', g = g' + 1 → c78 ko D J x dep dr n K U (d + g') g')
    (hY : ∀ (N' : Nat → Nat → Nat) (I' : Nat → Nat → Int32) (V' : Nat → Bool) (o' : Nat → Option Nat), fr110 N' N0 → fr109 I' I → mtO N' I' V' o' n K → agO dep dr n U V o s o' → Q (some (.int (nI 1))) (hp D N' I' J x))
    (hNo : ∀ (N' : Nat → Nat → Nat) (V' : Nat → Bool), fr110 N' N0 → mtO N' I V' o n K → clO dep dr n U V o V' → (∀ q, q < n → eD dep dr U s q → V' q = true) → Q (some (.int (nI 0))) (hp D N' I J x)) :
    ∀ (j q : Nat) (N : Nat → Nat → Nat) (W : Nat → Bool), q + j = n → fr110 N N0 → mtO N I W o n K → clO dep dr n U V o W → (∀ p, p < q → eD dep dr U s p → W p = true) → unV n W ≤ g → aWp ko (d + g) 78 (aP.1 (Int.toNat 4993)) [.ref 86, .int (nI s), .int (nI n), .int (nI q)] [] (hp D N I J x) (aL Q) := by
  intro j
  induction j with
  | zero =>
    intro q N W hq hfr hm hC hS hu
    have e : q = n := by omega
    subst e
    have hx := hNo N W hfr hm hC hS
    rw [al_4993]
    simp (disch := (first | omega | exact aCat_8 (by with_unfolding_all rfl) | exact rk_lt (by with_unfolding_all rfl) | exact aCat_16 (by with_unfolding_all rfl) | exact rk_eq (by with_unfolding_all rfl) | assumption | exact b2n_lt _ | exact id_b (by with_unfolding_all rfl) | (simp (disch := omega) only [u2_same, u2_ab, u2_aq]; done) | (simp (disch := omega) only [u2_same, u2_ab, u2_aq]; omega) | fail)) only [al_4992, wk_0, wp_istore_3, wp_jsr, wp_iload_3, wp_iload_2, wn_ge_t, wn_ge_f, wp_aloadr_0, wp_aloadk_0, hg_86_42, ha_111l, ha_111s, wz_ne_t, wz_ne_f, wb_ne_t, wb_ne_f, wm_ne_1, wm_ne_2, hg_86_41, ha_110l, ha_110s, hg_86_39, ha_108l, ha_108s, hg_86_38, ha_107l, ha_107s, wp_iload_1, wn_lt_t, wn_lt_f, wk_1, hg_86_40, ha_109l, ha_109s, wz_lt_t, wz_lt_f, wm_lt_1, wm_lt_2, wc_78, wz_eq_t, wz_eq_f, wb_eq_t, wb_eq_f, wm_eq_1, wm_eq_2, al_4994, wp_freturn0, wp_freturn1, wp_freturnb, al_4995, wp_iinc_3_1, wp_goto, al_4996, nl_i, nl_r, nl_k, nl_j, nl_l, nI_add, pk_mul, pk_sub, tl_s, tl_n, aL_inl, u2_same, u2_ab, u2_aq, nI_l, lN_i, Nat.add_zero, Nat.zero_add, Nat.zero_le, true_and, and_true, b2n_10, b2n_T, b2n_F, b2n_0, Decidable.not_not, not_true_eq_false, not_false_eq_true, Nat.reduceAdd, Nat.reduceMul, Nat.reduceSub]
    exact hx
  | succ j ih =>
    intro q N W hq hfr hm hC hS hu
    have hrf' := rf_f (I' := I) hrf hfr (fun _ _ _ => rfl)
    obtain ⟨r1, r2, r3⟩ := id hrf'
    obtain ⟨m1, m2, m3⟩ := id hm
    obtain ⟨ed, ed9⟩ := r1 q (by omega)
    obtain ⟨es, es9⟩ := r2 s hs
    have eu := r3 q (by omega)
    have ev := m1 q (by omega)
    have eo := m2 q (by omega)
    have hskip : (eD dep dr U s q → W q = true) → aWp ko (d + g) 78 (aP.1 (Int.toNat 4993)) [.ref 86, .int (nI s), .int (nI n), .int (nI (q + 1))] [] (hp D N I J x) (aL Q) := fun hh => ih (q + 1) N W (by omega) hfr hm hC (fun p hp1 he => by
      by_cases z : p = q
      · subst z
        exact hh he
      · exact hS p (by omega) he) hu
    rw [al_4993]
    cases hU : U q with
    | true =>
      rw [hU, b2n_t rfl] at eu
      have hx := hskip (fun y => by have := y.1; rw [hU] at this; cases this)
      simp (disch := (first | omega | exact aCat_8 (by with_unfolding_all rfl) | exact rk_lt (by with_unfolding_all rfl) | exact aCat_16 (by with_unfolding_all rfl) | exact rk_eq (by with_unfolding_all rfl) | assumption | exact b2n_lt _ | exact id_b (by with_unfolding_all rfl) | (simp (disch := omega) only [u2_same, u2_ab, u2_aq]; done) | (simp (disch := omega) only [u2_same, u2_ab, u2_aq]; omega) | fail)) only [al_4992, wk_0, wp_istore_3, wp_jsr, wp_iload_3, wp_iload_2, wn_ge_t, wn_ge_f, wp_aloadr_0, wp_aloadk_0, hg_86_42, ha_111l, ha_111s, wz_ne_t, wz_ne_f, wb_ne_t, wb_ne_f, wm_ne_1, wm_ne_2, hg_86_41, ha_110l, ha_110s, hg_86_39, ha_108l, ha_108s, hg_86_38, ha_107l, ha_107s, wp_iload_1, wn_lt_t, wn_lt_f, wk_1, hg_86_40, ha_109l, ha_109s, wz_lt_t, wz_lt_f, wm_lt_1, wm_lt_2, wc_78, wz_eq_t, wz_eq_f, wb_eq_t, wb_eq_f, wm_eq_1, wm_eq_2, al_4994, wp_freturn0, wp_freturn1, wp_freturnb, al_4995, wp_iinc_3_1, wp_goto, al_4996, nl_i, nl_r, nl_k, nl_j, nl_l, nI_add, pk_mul, pk_sub, tl_s, tl_n, aL_inl, u2_same, u2_ab, u2_aq, nI_l, lN_i, Nat.add_zero, Nat.zero_add, Nat.zero_le, true_and, and_true, b2n_10, b2n_T, b2n_F, b2n_0, Decidable.not_not, not_true_eq_false, not_false_eq_true, Nat.reduceAdd, Nat.reduceMul, Nat.reduceSub, eu]
      exact hx
    | false =>
      have eu' : N 111 q = 0 := by rw [eu, hU]; exact b2n_f (by decide)
      cases hW : W q with
      | true =>
        rw [hW, b2n_t rfl] at ev
        have hx := hskip (fun _ => hW)
        simp (disch := (first | omega | exact aCat_8 (by with_unfolding_all rfl) | exact rk_lt (by with_unfolding_all rfl) | exact aCat_16 (by with_unfolding_all rfl) | exact rk_eq (by with_unfolding_all rfl) | assumption | exact b2n_lt _ | exact id_b (by with_unfolding_all rfl) | (simp (disch := omega) only [u2_same, u2_ab, u2_aq]; done) | (simp (disch := omega) only [u2_same, u2_ab, u2_aq]; omega) | fail)) only [al_4992, wk_0, wp_istore_3, wp_jsr, wp_iload_3, wp_iload_2, wn_ge_t, wn_ge_f, wp_aloadr_0, wp_aloadk_0, hg_86_42, ha_111l, ha_111s, wz_ne_t, wz_ne_f, wb_ne_t, wb_ne_f, wm_ne_1, wm_ne_2, hg_86_41, ha_110l, ha_110s, hg_86_39, ha_108l, ha_108s, hg_86_38, ha_107l, ha_107s, wp_iload_1, wn_lt_t, wn_lt_f, wk_1, hg_86_40, ha_109l, ha_109s, wz_lt_t, wz_lt_f, wm_lt_1, wm_lt_2, wc_78, wz_eq_t, wz_eq_f, wb_eq_t, wb_eq_f, wm_eq_1, wm_eq_2, al_4994, wp_freturn0, wp_freturn1, wp_freturnb, al_4995, wp_iinc_3_1, wp_goto, al_4996, nl_i, nl_r, nl_k, nl_j, nl_l, nI_add, pk_mul, pk_sub, tl_s, tl_n, aL_inl, u2_same, u2_ab, u2_aq, nI_l, lN_i, Nat.add_zero, Nat.zero_add, Nat.zero_le, true_and, and_true, b2n_10, b2n_T, b2n_F, b2n_0, Decidable.not_not, not_true_eq_false, not_false_eq_true, Nat.reduceAdd, Nat.reduceMul, Nat.reduceSub, eu', ev]
        exact hx
      | false =>
        have ev' : N 110 q = 0 := by rw [ev, hW]; exact b2n_f (by decide)
        by_cases hd : dr s ≤ dep q
        · -- asked now
          have hVq : V q = false := by
            cases hz : V q with
            | false => rfl
            | true => rw [hC.1 q hz] at hW; cases hW
          have he : eD dep dr U s q := ⟨hU, hd⟩
          have hfr2 : fr110 (u2 N 110 q 1) N0 := fun b p z => by rw [u2_ab z]; exact hfr b p z
          have hm2 : mtO (u2 N 110 q 1) I (upB W q) o n K := ⟨fun p hp1 => by
            rw [u2_rd]
            split
            · rename_i y
              rw [y.2, upB_s]
              rfl
            · rename_i y
              have hpq : p ≠ q := fun w => y ⟨rfl, w⟩
              rw [upB_n hpq]
              exact m1 p hp1, m2, m3⟩
          cases ho : o q with
          | none =>
            rw [ho, oI_n] at eo
            have hx := hY (u2 N 110 q 1) (u2 I 109 q (nI s)) (upB W q) (upO o q s) hfr2 (fun b p z => u2_ab z) ⟨hm2.1, fun p hp1 => by
              rw [u2_rd]
              split
              · rename_i y
                rw [y.2, upO_s]
                rfl
              · rename_i y
                have hpq : p ≠ q := fun w => y ⟨rfl, w⟩
                rw [upO_n hpq]
                exact m2 p hp1, fun p i hp1 hp2 => by
              by_cases z : p = q
              · subst z
                rw [upO_s] at hp2
                cases hp2
                exact hs
              · rw [upO_n z] at hp2
                exact m3 p i hp1 hp2⟩ (ag_free hv him (by omega) hVq he ho)
            simp (disch := (first | omega | exact aCat_8 (by with_unfolding_all rfl) | exact rk_lt (by with_unfolding_all rfl) | exact aCat_16 (by with_unfolding_all rfl) | exact rk_eq (by with_unfolding_all rfl) | assumption | exact b2n_lt _ | exact id_b (by with_unfolding_all rfl) | (simp (disch := omega) only [u2_same, u2_ab, u2_aq]; done) | (simp (disch := omega) only [u2_same, u2_ab, u2_aq]; omega) | fail)) only [al_4992, wk_0, wp_istore_3, wp_jsr, wp_iload_3, wp_iload_2, wn_ge_t, wn_ge_f, wp_aloadr_0, wp_aloadk_0, hg_86_42, ha_111l, ha_111s, wz_ne_t, wz_ne_f, wb_ne_t, wb_ne_f, wm_ne_1, wm_ne_2, hg_86_41, ha_110l, ha_110s, hg_86_39, ha_108l, ha_108s, hg_86_38, ha_107l, ha_107s, wp_iload_1, wn_lt_t, wn_lt_f, wk_1, hg_86_40, ha_109l, ha_109s, wz_lt_t, wz_lt_f, wm_lt_1, wm_lt_2, wc_78, wz_eq_t, wz_eq_f, wb_eq_t, wb_eq_f, wm_eq_1, wm_eq_2, al_4994, wp_freturn0, wp_freturn1, wp_freturnb, al_4995, wp_iinc_3_1, wp_goto, al_4996, nl_i, nl_r, nl_k, nl_j, nl_l, nI_add, pk_mul, pk_sub, tl_s, tl_n, aL_inl, u2_same, u2_ab, u2_aq, nI_l, lN_i, Nat.add_zero, Nat.zero_add, Nat.zero_le, true_and, and_true, b2n_10, b2n_T, b2n_F, b2n_0, Decidable.not_not, not_true_eq_false, not_false_eq_true, Nat.reduceAdd, Nat.reduceMul, Nat.reduceSub, eu', ev', ed, es, eo, qe_n1, qe_m1, qn_n1, qn_m1, qe_n2, qe_m2, qn_n2, qn_m2]
            exact hx
          | some i =>
            rw [ho, oI_s] at eo
            have hiK := m3 q i (by omega) ho
            have hun := un_up (n := n) (V := W) (q := q) (by omega) hW
            obtain ⟨g', rfl⟩ : ∃ g', g = g' + 1 := ⟨g - 1, by omega⟩
            have hVV : ∀ p, V p = true → upB W q p = true := fun p hz => upB_t (hC.1 p hz)
            have hV0 : ∀ p, upB W q p = false → V p = false := fun p h => by
              cases hz : V p with
              | false => rfl
              | true => rw [hVV p hz] at h; cases h
            have hv1 : vdO dep dr n U (upB W q) o := ⟨fun p i h1 h2 h3 => hv.1 p i h1 (hV0 p h2) h3, fun p r i h1 h2 h3 h4 => hv.2 p r i h1 h2 (hV0 p h3) (hV0 r h4)⟩
            have him1 : ¬ imO n (upB W q) o i := by
              rintro ⟨p, b1, b2, b3⟩
              have : p = q := hv.2 p q i b1 (by omega) (hV0 p b2) hVq b3 ho
              subst this
              rw [upB_s] at b2
              cases b2
            rw [← Nat.add_assoc] at ih hskip ⊢
            simp (disch := (first | omega | exact aCat_8 (by with_unfolding_all rfl) | exact rk_lt (by with_unfolding_all rfl) | exact aCat_16 (by with_unfolding_all rfl) | exact rk_eq (by with_unfolding_all rfl) | assumption | exact b2n_lt _ | exact id_b (by with_unfolding_all rfl) | (simp (disch := omega) only [u2_same, u2_ab, u2_aq]; done) | (simp (disch := omega) only [u2_same, u2_ab, u2_aq]; omega) | fail)) only [al_4992, wk_0, wp_istore_3, wp_jsr, wp_iload_3, wp_iload_2, wn_ge_t, wn_ge_f, wp_aloadr_0, wp_aloadk_0, hg_86_42, ha_111l, ha_111s, wz_ne_t, wz_ne_f, wb_ne_t, wb_ne_f, wm_ne_1, wm_ne_2, hg_86_41, ha_110l, ha_110s, hg_86_39, ha_108l, ha_108s, hg_86_38, ha_107l, ha_107s, wp_iload_1, wn_lt_t, wn_lt_f, wk_1, hg_86_40, ha_109l, ha_109s, wz_lt_t, wz_lt_f, wm_lt_1, wm_lt_2, wc_78, wz_eq_t, wz_eq_f, wb_eq_t, wb_eq_f, wm_eq_1, wm_eq_2, al_4994, wp_freturn0, wp_freturn1, wp_freturnb, al_4995, wp_iinc_3_1, wp_goto, al_4996, nl_i, nl_r, nl_k, nl_j, nl_l, nI_add, pk_mul, pk_sub, tl_s, tl_n, aL_inl, u2_same, u2_ab, u2_aq, nI_l, lN_i, Nat.add_zero, Nat.zero_add, Nat.zero_le, true_and, and_true, b2n_10, b2n_T, b2n_F, b2n_0, Decidable.not_not, not_true_eq_false, not_false_eq_true, Nat.reduceAdd, Nat.reduceMul, Nat.reduceSub, eu', ev', ed, es, eo, wr_78]
            refine hrec g' rfl i (u2 N 110 q 1) I (upB W q) o _ hiK (rf_f hrf hfr2 (fun _ _ _ => rfl)) hm2 hv1 him1 (by omega) ?_ ?_
            · intro N1 I1 V1 o1 f1 f2 hm3 hA
              have hA2 := ag_way hv him (by omega) hVq upB_s hVV he ho hA
              have hx := hY N1 (u2 I1 109 q (nI s)) V1 (upO o1 q s) (fun b p z => (f1 b p z).trans (hfr2 b p z)) (fun b p z => by rw [u2_ab z]; exact f2 b p z) ⟨hm3.1, fun p hp1 => by
                rw [u2_rd]
                split
                · rename_i y
                  rw [y.2, upO_s]
                  rfl
                · rename_i y
                  have hpq : p ≠ q := fun w => y ⟨rfl, w⟩
                  rw [upO_n hpq]
                  exact hm3.2.1 p hp1, fun p i hp1 hp2 => by
                by_cases z : p = q
                · subst z
                  rw [upO_s] at hp2
                  cases hp2
                  exact hs
                · rw [upO_n z] at hp2
                  exact hm3.2.2 p i hp1 hp2⟩ hA2
              simp (disch := (first | omega | exact aCat_8 (by with_unfolding_all rfl) | exact rk_lt (by with_unfolding_all rfl) | exact aCat_16 (by with_unfolding_all rfl) | exact rk_eq (by with_unfolding_all rfl) | assumption | exact b2n_lt _ | exact id_b (by with_unfolding_all rfl) | (simp (disch := omega) only [u2_same, u2_ab, u2_aq]; done) | (simp (disch := omega) only [u2_same, u2_ab, u2_aq]; omega) | fail)) only [al_4992, wk_0, wp_istore_3, wp_jsr, wp_iload_3, wp_iload_2, wn_ge_t, wn_ge_f, wp_aloadr_0, wp_aloadk_0, hg_86_42, ha_111l, ha_111s, wz_ne_t, wz_ne_f, wb_ne_t, wb_ne_f, wm_ne_1, wm_ne_2, hg_86_41, ha_110l, ha_110s, hg_86_39, ha_108l, ha_108s, hg_86_38, ha_107l, ha_107s, wp_iload_1, wn_lt_t, wn_lt_f, wk_1, hg_86_40, ha_109l, ha_109s, wz_lt_t, wz_lt_f, wm_lt_1, wm_lt_2, wc_78, wz_eq_t, wz_eq_f, wb_eq_t, wb_eq_f, wm_eq_1, wm_eq_2, al_4994, wp_freturn0, wp_freturn1, wp_freturnb, al_4995, wp_iinc_3_1, wp_goto, al_4996, nl_i, nl_r, nl_k, nl_j, nl_l, nI_add, pk_mul, pk_sub, tl_s, tl_n, aL_inl, u2_same, u2_ab, u2_aq, nI_l, lN_i, Nat.add_zero, Nat.zero_add, Nat.zero_le, true_and, and_true, b2n_10, b2n_T, b2n_F, b2n_0, Decidable.not_not, not_true_eq_false, not_false_eq_true, Nat.reduceAdd, Nat.reduceMul, Nat.reduceSub]
              exact hx
            · intro N1 V1 f1 hm3 hC1 hS1
              have hx := ih (q + 1) N1 V1 (by omega) (fun b p z => (f1 b p z).trans (hfr2 b p z)) hm3 ⟨fun p hz => hC1.1 p (hVV p hz), fun p b1 b2 b3 => ?_⟩ (fun p hp1 he1 => ?_) (by
                have := un_mono (n := n) hC1.1
                omega)
              · simp (disch := (first | omega | exact aCat_8 (by with_unfolding_all rfl) | exact rk_lt (by with_unfolding_all rfl) | exact aCat_16 (by with_unfolding_all rfl) | exact rk_eq (by with_unfolding_all rfl) | assumption | exact b2n_lt _ | exact id_b (by with_unfolding_all rfl) | (simp (disch := omega) only [u2_same, u2_ab, u2_aq]; done) | (simp (disch := omega) only [u2_same, u2_ab, u2_aq]; omega) | fail)) only [al_4992, wk_0, wp_istore_3, wp_jsr, wp_iload_3, wp_iload_2, wn_ge_t, wn_ge_f, wp_aloadr_0, wp_aloadk_0, hg_86_42, ha_111l, ha_111s, wz_ne_t, wz_ne_f, wb_ne_t, wb_ne_f, wm_ne_1, wm_ne_2, hg_86_41, ha_110l, ha_110s, hg_86_39, ha_108l, ha_108s, hg_86_38, ha_107l, ha_107s, wp_iload_1, wn_lt_t, wn_lt_f, wk_1, hg_86_40, ha_109l, ha_109s, wz_lt_t, wz_lt_f, wm_lt_1, wm_lt_2, wc_78, wz_eq_t, wz_eq_f, wb_eq_t, wb_eq_f, wm_eq_1, wm_eq_2, al_4994, wp_freturn0, wp_freturn1, wp_freturnb, al_4995, wp_iinc_3_1, wp_goto, al_4996, nl_i, nl_r, nl_k, nl_j, nl_l, nI_add, pk_mul, pk_sub, tl_s, tl_n, aL_inl, u2_same, u2_ab, u2_aq, nI_l, lN_i, Nat.add_zero, Nat.zero_add, Nat.zero_le, true_and, and_true, b2n_10, b2n_T, b2n_F, b2n_0, Decidable.not_not, not_true_eq_false, not_false_eq_true, Nat.reduceAdd, Nat.reduceMul, Nat.reduceSub]
                exact hx
              · by_cases z : p = q
                · subst z
                  exact ⟨i, ho, hS1⟩
                · cases hz : W p with
                  | true =>
                    obtain ⟨i', c1, c2⟩ := hC.2 p b1 b2 hz
                    exact ⟨i', c1, fun r r1 r2 => hC1.1 r (upB_t (c2 r r1 r2))⟩
                  | false => exact hC1.2 p b1 (by rw [upB_n z]; exact hz) b3
              · by_cases z : p = q
                · subst z
                  exact hC1.1 p upB_s
                · exact hC1.1 p (upB_t (hS p (by omega) he1))
        · have hx := hskip (fun y => absurd y.2 hd)
          simp (disch := (first | omega | exact aCat_8 (by with_unfolding_all rfl) | exact rk_lt (by with_unfolding_all rfl) | exact aCat_16 (by with_unfolding_all rfl) | exact rk_eq (by with_unfolding_all rfl) | assumption | exact b2n_lt _ | exact id_b (by with_unfolding_all rfl) | (simp (disch := omega) only [u2_same, u2_ab, u2_aq]; done) | (simp (disch := omega) only [u2_same, u2_ab, u2_aq]; omega) | fail)) only [al_4992, wk_0, wp_istore_3, wp_jsr, wp_iload_3, wp_iload_2, wn_ge_t, wn_ge_f, wp_aloadr_0, wp_aloadk_0, hg_86_42, ha_111l, ha_111s, wz_ne_t, wz_ne_f, wb_ne_t, wb_ne_f, wm_ne_1, wm_ne_2, hg_86_41, ha_110l, ha_110s, hg_86_39, ha_108l, ha_108s, hg_86_38, ha_107l, ha_107s, wp_iload_1, wn_lt_t, wn_lt_f, wk_1, hg_86_40, ha_109l, ha_109s, wz_lt_t, wz_lt_f, wm_lt_1, wm_lt_2, wc_78, wz_eq_t, wz_eq_f, wb_eq_t, wb_eq_f, wm_eq_1, wm_eq_2, al_4994, wp_freturn0, wp_freturn1, wp_freturnb, al_4995, wp_iinc_3_1, wp_goto, al_4996, nl_i, nl_r, nl_k, nl_j, nl_l, nI_add, pk_mul, pk_sub, tl_s, tl_n, aL_inl, u2_same, u2_ab, u2_aq, nI_l, lN_i, Nat.add_zero, Nat.zero_add, Nat.zero_le, true_and, and_true, b2n_10, b2n_T, b2n_F, b2n_0, Decidable.not_not, not_true_eq_false, not_false_eq_true, Nat.reduceAdd, Nat.reduceMul, Nat.reduceSub, eu', ev', ed, es]
          exact hx
theorem t_78 {dep dr : Nat → Nat} {n K : Nat} {U : Nat → Bool} (hn : n ≤ 20) (hK : K ≤ 8) : ∀ g, c78 ko D J x dep dr n K U (d + g) g := by
  intro g
  induction g with
  | zero =>
    intro s N I V o Q hs hrf hm hv him hu hY hNo
    rw [me_78]
    simp (disch := (first | omega | exact aCat_8 (by with_unfolding_all rfl) | exact rk_lt (by with_unfolding_all rfl) | exact aCat_16 (by with_unfolding_all rfl) | exact rk_eq (by with_unfolding_all rfl) | assumption | exact b2n_lt _ | exact id_b (by with_unfolding_all rfl) | (simp (disch := omega) only [u2_same, u2_ab, u2_aq]; done) | (simp (disch := omega) only [u2_same, u2_ab, u2_aq]; omega) | fail)) only [al_4992, wk_0, wp_istore_3, wp_jsr, wp_iload_3, wp_iload_2, wn_ge_t, wn_ge_f, wp_aloadr_0, wp_aloadk_0, hg_86_42, ha_111l, ha_111s, wz_ne_t, wz_ne_f, wb_ne_t, wb_ne_f, wm_ne_1, wm_ne_2, hg_86_41, ha_110l, ha_110s, hg_86_39, ha_108l, ha_108s, hg_86_38, ha_107l, ha_107s, wp_iload_1, wn_lt_t, wn_lt_f, wk_1, hg_86_40, ha_109l, ha_109s, wz_lt_t, wz_lt_f, wm_lt_1, wm_lt_2, wc_78, wz_eq_t, wz_eq_f, wb_eq_t, wb_eq_f, wm_eq_1, wm_eq_2, al_4994, wp_freturn0, wp_freturn1, wp_freturnb, al_4995, wp_iinc_3_1, wp_goto, al_4996, nl_i, nl_r, nl_k, nl_j, nl_l, nI_add, pk_mul, pk_sub, tl_s, tl_n, aL_inl, u2_same, u2_ab, u2_aq, nI_l, lN_i, Nat.add_zero, Nat.zero_add, Nat.zero_le, true_and, and_true, b2n_10, b2n_T, b2n_F, b2n_0, Decidable.not_not, not_true_eq_false, not_false_eq_true, Nat.reduceAdd, Nat.reduceMul, Nat.reduceSub]
    exact l_78 (g := 0) hn hK hs hrf hv him (fun g' hg => by omega) hY hNo n 0 N V (by omega) (fun _ _ _ => rfl) hm ⟨fun _ h => h, fun q _ h1 h2 => by rw [h1] at h2; cases h2⟩ (fun p hp1 => absurd hp1 (Nat.not_lt_zero p)) hu
  | succ g ih =>
    intro s N I V o Q hs hrf hm hv him hu hY hNo
    rw [me_78]
    simp (disch := (first | omega | exact aCat_8 (by with_unfolding_all rfl) | exact rk_lt (by with_unfolding_all rfl) | exact aCat_16 (by with_unfolding_all rfl) | exact rk_eq (by with_unfolding_all rfl) | assumption | exact b2n_lt _ | exact id_b (by with_unfolding_all rfl) | (simp (disch := omega) only [u2_same, u2_ab, u2_aq]; done) | (simp (disch := omega) only [u2_same, u2_ab, u2_aq]; omega) | fail)) only [al_4992, wk_0, wp_istore_3, wp_jsr, wp_iload_3, wp_iload_2, wn_ge_t, wn_ge_f, wp_aloadr_0, wp_aloadk_0, hg_86_42, ha_111l, ha_111s, wz_ne_t, wz_ne_f, wb_ne_t, wb_ne_f, wm_ne_1, wm_ne_2, hg_86_41, ha_110l, ha_110s, hg_86_39, ha_108l, ha_108s, hg_86_38, ha_107l, ha_107s, wp_iload_1, wn_lt_t, wn_lt_f, wk_1, hg_86_40, ha_109l, ha_109s, wz_lt_t, wz_lt_f, wm_lt_1, wm_lt_2, wc_78, wz_eq_t, wz_eq_f, wb_eq_t, wb_eq_f, wm_eq_1, wm_eq_2, al_4994, wp_freturn0, wp_freturn1, wp_freturnb, al_4995, wp_iinc_3_1, wp_goto, al_4996, nl_i, nl_r, nl_k, nl_j, nl_l, nI_add, pk_mul, pk_sub, tl_s, tl_n, aL_inl, u2_same, u2_ab, u2_aq, nI_l, lN_i, Nat.add_zero, Nat.zero_add, Nat.zero_le, true_and, and_true, b2n_10, b2n_T, b2n_F, b2n_0, Decidable.not_not, not_true_eq_false, not_false_eq_true, Nat.reduceAdd, Nat.reduceMul, Nat.reduceSub]
    exact l_78 (g := g + 1) hn hK hs hrf hv him (fun g' hg => by
      have : g' = g := by omega
      subst this
      exact ih) hY hNo n 0 N V (by omega) (fun _ _ _ => rfl) hm ⟨fun _ h => h, fun q _ h1 h2 => by rw [h1] at h2; cases h2⟩ (fun p hp1 => absurd hp1 (Nat.not_lt_zero p)) hu
end KA
