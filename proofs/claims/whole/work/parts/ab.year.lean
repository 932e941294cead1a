/-! year: a year's text read. From wip/whole/src. -/
/-- how many digits an act wants -/
def lenA (c : Nat) : Nat := if c = 99 ∨ c = 104 then 3 else if c = 110 ∨ c = 115 then 1 else if c = 119 then 2 else 0
theorem lenA_le {c : Nat} : lenA c ≤ 3 := by unfold lenA; split <;> (try split) <;> (try split) <;> omega
/-- the j-th digit of an act at p, as it must be -/
def okD (T : Nat → Nat) (e p j : Nat) : Bool := decide (p + j < e) && (isD (T (p + j)) && (decide (¬ (lenA (T p) = 3 ∧ j = 3)) || decide (49 ≤ T (p + j))))
/-- the first wrong place among the first j digits of an act -/
def badA (T : Nat → Nat) (e p : Nat) : Nat → Option Nat
  | 0 => none
  | j + 1 => match badA T e p j with
    | some w => some w
    | none => if okD T e p (j + 1) = true then none else some (p + (j + 1))
/-- the first wrong place, from an act at p -/
def yrW (T : Nat → Nat) (e : Nat) : Nat → Nat → Option Nat
  | 0, _ => none
  | f + 1, p => if e ≤ p then none else if lenA (T p) = 0 then some p else (match badA T e p (lenA (T p)) with
    | some w => some w
    | none => yrW T e f (p + 1 + lenA (T p)))
theorem bad_n {T : Nat → Nat} {e p : Nat} : ∀ n, badA T e p n = none → ∀ j, 1 ≤ j → j ≤ n → okD T e p j = true := by
  intro n
  induction n with
  | zero => intro _ j h1 h2; omega
  | succ n ih =>
    intro h j h1 h2
    rw [badA] at h
    cases hq : badA T e p n with
    | some w => rw [hq] at h; cases h
    | none =>
      rw [hq] at h
      have h' : (if okD T e p (n + 1) = true then none else some (p + (n + 1))) = none := h
      by_cases z : okD T e p (n + 1) = true
      · by_cases e1 : j = n + 1
        · rw [e1]; exact z
        · exact ih hq j h1 (by omega)
      · rw [if_neg z] at h'; cases h'
theorem bad_s {T : Nat → Nat} {e p : Nat} : ∀ n j, 1 ≤ j → j ≤ n → okD T e p j = false → (∀ i, 1 ≤ i → i < j → okD T e p i = true) → badA T e p n = some (p + j) := by
  intro n
  induction n with
  | zero => intro j h1 h2; omega
  | succ n ih =>
    intro j h1 h2 hf hall
    rw [badA]
    by_cases z : j = n + 1
    · subst z
      have hn : badA T e p n = none := by
        have : ∀ m, m ≤ n → badA T e p m = none := by
          intro m
          induction m with
          | zero => intro _; rfl
          | succ m ihm =>
            intro hm
            rw [badA, ihm (by omega)]
            exact if_pos (hall (m + 1) (by omega) (by omega))
        exact this n (Nat.le_refl _)
      rw [hn]
      exact if_neg (by rw [hf]; decide)
    · rw [ih j h1 (by omega) hf hall]
theorem bad_ok {T : Nat → Nat} {e p : Nat} : ∀ n, (∀ i, 1 ≤ i → i ≤ n → okD T e p i = true) → badA T e p n = none := by
  intro n
  induction n with
  | zero => intro _; rfl
  | succ n ih =>
    intro h
    rw [badA, ih (fun i h1 h2 => h i h1 (by omega))]
    exact if_pos (h (n + 1) (by omega) (by omega))
section YR
variable {ko : aKo} {d k : Nat} {is : List Instr} {ls st : List Value} {σ : aH} {D : Nat → Nat} {N : Nat → Nat → Nat} {I : Nat → Nat → Int32} {J : Nat → Nat → Int64} {x t : Nat} {Q : Option Value → aH → Prop} {P : (Option Value ⊕ Unit) → aH → Prop}
theorem wp_lsw {dl : Int} {ps : Array (Int × Int)} {L : Int} {y : Int32} (h : Op.lookupswitch.offset ps.toList dl y.toInt = L) : aWp ko d k (.lookupswitch dl ps :: is) ls (.int y :: st) σ P = aWp ko d k (aP.1 L.toNat) ls st σ P := wp_of (fun _ => aEv_go (by rw [← h]; rfl))
theorem sw_173 : ∀ c, c < 256 → Op.lookupswitch.offset (#[((99 : Int), (11075 : Int)), ((104), 11075), ((110), 11073), ((115), 11073), ((119), 11074)]).toList 11076 (nI c).toInt = if c = 99 ∨ c = 104 then 11075 else if c = 110 ∨ c = 115 then 11073 else if c = 119 then 11074 else 11076 := by decide +kernel
theorem t_173 {c : Nat} (hc : c < 256) : aMm ko d 173 [.int (nI c)] σ Q = Q (some (.int (nI (lenA c)))) σ := by
  have hs := sw_173 c hc
  unfold lenA
  rw [me_173, al_11072]
  simp only [wp_iload_0]
  by_cases h1 : c = 99 ∨ c = 104
  · rw [if_pos h1] at hs ⊢
    rw [wp_lsw hs]
    simp (disch := (first | omega | exact aCat_8 (by with_unfolding_all rfl) | exact rk_lt (by with_unfolding_all rfl) | exact aCat_16 (by with_unfolding_all rfl) | exact rk_eq (by with_unfolding_all rfl) | assumption | exact b2n_lt _ | exact id_b (by with_unfolding_all rfl) | (simp (disch := omega) only [u2_same, u2_ab, u2_aq]; done) | (simp (disch := omega) only [u2_same, u2_ab, u2_aq]; omega) | fail)) only [al_11072, wp_iload_0, al_11073, wk_1, wp_ireturn, al_11074, wk_2, al_11075, wk_3, al_11076, wk_0, nl_i, nl_r, nl_k, nl_j, nl_l, nI_add, pk_mul, pk_sub, tl_s, tl_n, aL_inl, u2_same, u2_ab, u2_aq, nI_l, lN_i, Nat.add_zero, Nat.zero_add, Nat.zero_le, true_and, and_true, b2n_10, b2n_T, b2n_F, b2n_0, Decidable.not_not, not_true_eq_false, not_false_eq_true, Nat.reduceAdd, Nat.reduceMul, Nat.reduceSub]
  · rw [if_neg h1] at hs ⊢
    by_cases h2 : c = 110 ∨ c = 115
    · rw [if_pos h2] at hs ⊢
      rw [wp_lsw hs]
      simp (disch := (first | omega | exact aCat_8 (by with_unfolding_all rfl) | exact rk_lt (by with_unfolding_all rfl) | exact aCat_16 (by with_unfolding_all rfl) | exact rk_eq (by with_unfolding_all rfl) | assumption | exact b2n_lt _ | exact id_b (by with_unfolding_all rfl) | (simp (disch := omega) only [u2_same, u2_ab, u2_aq]; done) | (simp (disch := omega) only [u2_same, u2_ab, u2_aq]; omega) | fail)) only [al_11072, wp_iload_0, al_11073, wk_1, wp_ireturn, al_11074, wk_2, al_11075, wk_3, al_11076, wk_0, nl_i, nl_r, nl_k, nl_j, nl_l, nI_add, pk_mul, pk_sub, tl_s, tl_n, aL_inl, u2_same, u2_ab, u2_aq, nI_l, lN_i, Nat.add_zero, Nat.zero_add, Nat.zero_le, true_and, and_true, b2n_10, b2n_T, b2n_F, b2n_0, Decidable.not_not, not_true_eq_false, not_false_eq_true, Nat.reduceAdd, Nat.reduceMul, Nat.reduceSub]
    · rw [if_neg h2] at hs ⊢
      by_cases h3 : c = 119
      · rw [if_pos h3] at hs ⊢
        rw [wp_lsw hs]
        simp (disch := (first | omega | exact aCat_8 (by with_unfolding_all rfl) | exact rk_lt (by with_unfolding_all rfl) | exact aCat_16 (by with_unfolding_all rfl) | exact rk_eq (by with_unfolding_all rfl) | assumption | exact b2n_lt _ | exact id_b (by with_unfolding_all rfl) | (simp (disch := omega) only [u2_same, u2_ab, u2_aq]; done) | (simp (disch := omega) only [u2_same, u2_ab, u2_aq]; omega) | fail)) only [al_11072, wp_iload_0, al_11073, wk_1, wp_ireturn, al_11074, wk_2, al_11075, wk_3, al_11076, wk_0, nl_i, nl_r, nl_k, nl_j, nl_l, nI_add, pk_mul, pk_sub, tl_s, tl_n, aL_inl, u2_same, u2_ab, u2_aq, nI_l, lN_i, Nat.add_zero, Nat.zero_add, Nat.zero_le, true_and, and_true, b2n_10, b2n_T, b2n_F, b2n_0, Decidable.not_not, not_true_eq_false, not_false_eq_true, Nat.reduceAdd, Nat.reduceMul, Nat.reduceSub]
      · rw [if_neg h3] at hs ⊢
        rw [wp_lsw hs]
        simp (disch := (first | omega | exact aCat_8 (by with_unfolding_all rfl) | exact rk_lt (by with_unfolding_all rfl) | exact aCat_16 (by with_unfolding_all rfl) | exact rk_eq (by with_unfolding_all rfl) | assumption | exact b2n_lt _ | exact id_b (by with_unfolding_all rfl) | (simp (disch := omega) only [u2_same, u2_ab, u2_aq]; done) | (simp (disch := omega) only [u2_same, u2_ab, u2_aq]; omega) | fail)) only [al_11072, wp_iload_0, al_11073, wk_1, wp_ireturn, al_11074, wk_2, al_11075, wk_3, al_11076, wk_0, nl_i, nl_r, nl_k, nl_j, nl_l, nI_add, pk_mul, pk_sub, tl_s, tl_n, aL_inl, u2_same, u2_ab, u2_aq, nI_l, lN_i, Nat.add_zero, Nat.zero_add, Nat.zero_le, true_and, and_true, b2n_10, b2n_T, b2n_F, b2n_0, Decidable.not_not, not_true_eq_false, not_false_eq_true, Nat.reduceAdd, Nat.reduceMul, Nat.reduceSub]
/-- what the class says of a year -/
def yrA' (n : Nat) (o : Option Nat) : Int32 := match o with
  | none => if 60 < n then nI 60 else -1
  | some w => nI w
theorem dg_th {c th : Nat} (hc : c < 256) (hth : th ≤ 1) : nI th ≤ dgI c ↔ isD c = true ∧ 48 + th ≤ c := by
  unfold dgI
  by_cases z : isD c = true
  · have := isD_iff.mp z
    rw [if_pos z, Int32.le_iff_toInt_le, nI_toInt (by omega), nI_toInt (by omega)]
    constructor
    · intro h; exact ⟨z, by omega⟩
    · intro h; omega
  · rw [if_neg z]
    constructor
    · intro h
      have := lt_m1 th (by omega)
      exact absurd h (Int32.not_le.mpr this)
    · intro h; exact absurd h.1 z
theorem l_172d {n e p : Nat} {v : Int32} (h : invB D N I J t) (hn : N 86 11 = n) (he : e = min n 60) (hp1 : p < e) (hl : 0 < lenA (N 91 p))
    (hnext : ∀ w5 : Value, (∀ j, 1 ≤ j → j ≤ lenA (N 91 p) → okD (N 91) e p j = true) → aWp ko d 172 (aP.1 (Int.toNat 11009)) [.ref 0, .int (nI e), .int (nI (N 91 p)), .int (nI 0), .int (nI (p + 1 + lenA (N 91 p))), w5] [] (hp D N I J x) (aL Q) = Q (some (.int v)) (hp D N I J x))
    (hbad : ∀ j, 1 ≤ j → j ≤ lenA (N 91 p) → okD (N 91) e p j = false → (∀ i, 1 ≤ i → i < j → okD (N 91) e p i = true) → v = nI (p + j)) :
    ∀ (r j : Nat) (w5 : Value), j + r = lenA (N 91 p) + 1 → 1 ≤ j → (∀ i, 1 ≤ i → i < j → okD (N 91) e p i = true) → aWp ko d 172 (aP.1 (Int.toNat 11009)) [.ref 0, .int (nI e), .int (nI (N 91 p)), .int (nI (lenA (N 91 p) + 1 - j)), .int (nI (p + j)), w5] [] (hp D N I J x) (aL Q) = Q (some (.int v)) (hp D N I J x) := by
  obtain ⟨t1, t2, t3⟩ := h.2.1
  obtain ⟨b1, b2⟩ := tx_N h
  have hl3 := lenA_le (c := N 91 p)
  have hcp := (t3 p (by omega)).2
  have hpe : p + 1 ≤ e := hp1
  intro r
  induction r with
  | zero =>
    intro j w5 hj h1 hall
    have ej : j = lenA (N 91 p) + 1 := by omega
    subst ej
    have hx := hnext w5 (fun i a1 a2 => hall i a1 (by omega))
    rw [Nat.sub_self, show p + (lenA (N 91 p) + 1) = p + 1 + lenA (N 91 p) by omega]
    exact hx
  | succ r ih =>
    intro j w5 hj h1 hall
    have hle : lenA (N 91 p) + 1 - j ≤ 3 := by omega
    have hpos : 0 < lenA (N 91 p) + 1 - j := by omega
    have e173 := fun Q => t_173 (ko := ko) (d := d) (σ := hp D N I J x) (Q := Q) hcp
    rw [al_11009]
    by_cases hge : e ≤ p + j
    · have hf : okD (N 91) e p j = false := by
        unfold okD
        have : ¬ p + j < e := by omega
        simp [this]
      have hv := hbad j h1 (by omega) hf hall
      have hpj : p + j = e := by
        by_cases z : j = 1
        · omega
        · have := hall (j - 1) (by omega) (by omega)
          unfold okD at this
          have := of_decide_eq_true (Bool.and_eq_true _ _ |>.mp this).1
          omega
      rw [hv, hpj]
      by_cases hn60 : 60 < n
      · have e60 : e = 60 := by omega
        subst e60
        simp (disch := (first | omega | exact aCat_8 (by with_unfolding_all rfl) | exact rk_lt (by with_unfolding_all rfl) | exact aCat_16 (by with_unfolding_all rfl) | exact rk_eq (by with_unfolding_all rfl) | assumption | exact b2n_lt _ | exact id_b (by with_unfolding_all rfl) | (simp (disch := omega) only [u2_same, u2_ab, u2_aq]; done) | (simp (disch := omega) only [u2_same, u2_ab, u2_aq]; omega) | fail)) only [al_11008, wp_aloadr_0, wp_aloadk_0, hg_0_0, hg_1_1, wk_60, wp_min, wp_istore_1, wk_32, wp_istore_2, wk_0, wp_istore_3, wp_istore_4, wp_jsr, wp_iload_4, wp_iload_1, wn_ge_t, wn_ge_f, wp_iload_3, wz_ne_t, wz_ne_f, wb_ne_t, wb_ne_f, wm_ne_1, wm_ne_2, wc_288, wp_iload_2, wc_173, wp_ireturn, al_11010, wk_1, wn_ne_t, wn_ne_f, wk_3, wp_goto, al_11011, al_11012, wp_istore_5, wc_287, wp_iload_5, al_11013, wp_idec_3_1, al_11014, wp_iinc_4_1, al_11015, wn_le_t, wn_le_f, al_11016, wz_le_t, wz_le_f, wm_le_1, wm_le_2, al_11017, wk_m1, al_11018, nl_i, nl_r, nl_k, nl_j, nl_l, nI_add, pk_mul, pk_sub, tl_s, tl_n, aL_inl, u2_same, u2_ab, u2_aq, nI_l, lN_i, Nat.add_zero, Nat.zero_add, Nat.zero_le, true_and, and_true, b2n_10, b2n_T, b2n_F, b2n_0, Decidable.not_not, not_true_eq_false, not_false_eq_true, Nat.reduceAdd, Nat.reduceMul, Nat.reduceSub, t1, hn]
      · simp (disch := (first | omega | exact aCat_8 (by with_unfolding_all rfl) | exact rk_lt (by with_unfolding_all rfl) | exact aCat_16 (by with_unfolding_all rfl) | exact rk_eq (by with_unfolding_all rfl) | assumption | exact b2n_lt _ | exact id_b (by with_unfolding_all rfl) | (simp (disch := omega) only [u2_same, u2_ab, u2_aq]; done) | (simp (disch := omega) only [u2_same, u2_ab, u2_aq]; omega) | fail)) only [al_11008, wp_aloadr_0, wp_aloadk_0, hg_0_0, hg_1_1, wk_60, wp_min, wp_istore_1, wk_32, wp_istore_2, wk_0, wp_istore_3, wp_istore_4, wp_jsr, wp_iload_4, wp_iload_1, wn_ge_t, wn_ge_f, wp_iload_3, wz_ne_t, wz_ne_f, wb_ne_t, wb_ne_f, wm_ne_1, wm_ne_2, wc_288, wp_iload_2, wc_173, wp_ireturn, al_11010, wk_1, wn_ne_t, wn_ne_f, wk_3, wp_goto, al_11011, al_11012, wp_istore_5, wc_287, wp_iload_5, al_11013, wp_idec_3_1, al_11014, wp_iinc_4_1, al_11015, wn_le_t, wn_le_f, al_11016, wz_le_t, wz_le_f, wm_le_1, wm_le_2, al_11017, wk_m1, al_11018, nl_i, nl_r, nl_k, nl_j, nl_l, nI_add, pk_mul, pk_sub, tl_s, tl_n, aL_inl, u2_same, u2_ab, u2_aq, nI_l, lN_i, Nat.add_zero, Nat.zero_add, Nat.zero_le, true_and, and_true, b2n_10, b2n_T, b2n_F, b2n_0, Decidable.not_not, not_true_eq_false, not_false_eq_true, Nat.reduceAdd, Nat.reduceMul, Nat.reduceSub, t1, hn]
    · have hlt : p + j < e := by omega
      have ht := fun Q => t_287 (ko := ko) (d := d) (D := D) (N := N) (I := I) (J := J) (x := x) (Q := Q) (i := p + j) (by omega) b1 b2
      have ec : txC N (p + j) = N 91 (p + j) := txC_e h (by omega)
      rw [ec] at ht
      have hc := (t3 (p + j) (by omega)).2
      have ih1 := fun w5 => ih (j + 1) w5 (by omega) (by omega)
      rw [show lenA (N 91 p) + 1 - (j + 1) = lenA (N 91 p) + 1 - j - 1 by omega, show p + (j + 1) = p + j + 1 by omega] at ih1
      have hth : ∀ th, th ≤ 1 → (th = 1 ↔ (lenA (N 91 p) = 3 ∧ j = 3)) → (nI th ≤ dgI (N 91 (p + j)) ↔ okD (N 91) e p j = true) := by
        intro th hth1 hiff
        rw [dg_th hc hth1]
        unfold okD
        by_cases z : lenA (N 91 p) = 3 ∧ j = 3
        · have : th = 1 := hiff.mpr z
          subst this
          rw [show decide (¬ (lenA (N 91 p) = 3 ∧ j = 3)) = false from decide_eq_false (not_not_intro z)]
          simp only [Bool.false_or, Bool.and_eq_true, decide_eq_true_eq]
          constructor
          · rintro ⟨a1, a2⟩; exact ⟨hlt, a1, by omega⟩
          · rintro ⟨_, a1, a2⟩; exact ⟨a1, by omega⟩
        · have : th = 0 := by
            have : ¬ th = 1 := fun y => z (hiff.mp y)
            omega
          subst this
          have z' : decide (¬ (lenA (N 91 p) = 3 ∧ j = 3)) = true := decide_eq_true z
          rw [z']
          simp only [Bool.true_or, Bool.and_true, Bool.and_eq_true, decide_eq_true_eq]
          constructor
          · rintro ⟨a1, a2⟩; exact ⟨hlt, a1⟩
          · rintro ⟨_, a1⟩
            have := isD_iff.mp a1
            exact ⟨a1, by omega⟩
      have hfin : ∀ th, th ≤ 1 → (th = 1 ↔ (lenA (N 91 p) = 3 ∧ j = 3)) → aWp ko d 172 (aP.1 (Int.toNat 11012)) [.ref 0, .int (nI e), .int (nI (N 91 p)), .int (nI (lenA (N 91 p) + 1 - j)), .int (nI (p + j)), w5] [.int (nI th)] (hp D N I J x) (aL Q) = Q (some (.int v)) (hp D N I J x) := by
        intro th hth1 hiff
        have hb := hth th hth1 hiff
        rw [al_11012]
        by_cases z : okD (N 91) e p j = true
        · have hge' := hb.mpr z
          simp (disch := (first | omega | exact aCat_8 (by with_unfolding_all rfl) | exact rk_lt (by with_unfolding_all rfl) | exact aCat_16 (by with_unfolding_all rfl) | exact rk_eq (by with_unfolding_all rfl) | assumption | exact b2n_lt _ | exact id_b (by with_unfolding_all rfl) | (simp (disch := omega) only [u2_same, u2_ab, u2_aq]; done) | (simp (disch := omega) only [u2_same, u2_ab, u2_aq]; omega) | fail)) only [al_11008, wp_aloadr_0, wp_aloadk_0, hg_0_0, hg_1_1, wk_60, wp_min, wp_istore_1, wk_32, wp_istore_2, wk_0, wp_istore_3, wp_istore_4, wp_jsr, wp_iload_4, wp_iload_1, wn_ge_t, wn_ge_f, wp_iload_3, wz_ne_t, wz_ne_f, wb_ne_t, wb_ne_f, wm_ne_1, wm_ne_2, wc_288, wp_iload_2, wc_173, wp_ireturn, al_11010, wk_1, wn_ne_t, wn_ne_f, wk_3, wp_goto, al_11011, al_11012, wp_istore_5, wc_287, wp_iload_5, al_11013, wp_idec_3_1, al_11014, wp_iinc_4_1, al_11015, wn_le_t, wn_le_f, al_11016, wz_le_t, wz_le_f, wm_le_1, wm_le_2, al_11017, wk_m1, al_11018, nl_i, nl_r, nl_k, nl_j, nl_l, nI_add, pk_mul, pk_sub, tl_s, tl_n, aL_inl, u2_same, u2_ab, u2_aq, nI_l, lN_i, Nat.add_zero, Nat.zero_add, Nat.zero_le, true_and, and_true, b2n_10, b2n_T, b2n_F, b2n_0, Decidable.not_not, not_true_eq_false, not_false_eq_true, Nat.reduceAdd, Nat.reduceMul, Nat.reduceSub, ht, wx_ge_t hge']
          exact ih1 _ (fun i a1 a2 => by
            by_cases y : i = j
            · rw [y]; exact z
            · exact hall i a1 (by omega))
        · have hf : okD (N 91) e p j = false := by simpa using z
          have hng : ¬ nI th ≤ dgI (N 91 (p + j)) := fun y => z (hb.mp y)
          have hv := hbad j h1 (by omega) hf hall
          rw [hv]
          simp (disch := (first | omega | exact aCat_8 (by with_unfolding_all rfl) | exact rk_lt (by with_unfolding_all rfl) | exact aCat_16 (by with_unfolding_all rfl) | exact rk_eq (by with_unfolding_all rfl) | assumption | exact b2n_lt _ | exact id_b (by with_unfolding_all rfl) | (simp (disch := omega) only [u2_same, u2_ab, u2_aq]; done) | (simp (disch := omega) only [u2_same, u2_ab, u2_aq]; omega) | fail)) only [al_11008, wp_aloadr_0, wp_aloadk_0, hg_0_0, hg_1_1, wk_60, wp_min, wp_istore_1, wk_32, wp_istore_2, wk_0, wp_istore_3, wp_istore_4, wp_jsr, wp_iload_4, wp_iload_1, wn_ge_t, wn_ge_f, wp_iload_3, wz_ne_t, wz_ne_f, wb_ne_t, wb_ne_f, wm_ne_1, wm_ne_2, wc_288, wp_iload_2, wc_173, wp_ireturn, al_11010, wk_1, wn_ne_t, wn_ne_f, wk_3, wp_goto, al_11011, al_11012, wp_istore_5, wc_287, wp_iload_5, al_11013, wp_idec_3_1, al_11014, wp_iinc_4_1, al_11015, wn_le_t, wn_le_f, al_11016, wz_le_t, wz_le_f, wm_le_1, wm_le_2, al_11017, wk_m1, al_11018, nl_i, nl_r, nl_k, nl_j, nl_l, nI_add, pk_mul, pk_sub, tl_s, tl_n, aL_inl, u2_same, u2_ab, u2_aq, nI_l, lN_i, Nat.add_zero, Nat.zero_add, Nat.zero_le, true_and, and_true, b2n_10, b2n_T, b2n_F, b2n_0, Decidable.not_not, not_true_eq_false, not_false_eq_true, Nat.reduceAdd, Nat.reduceMul, Nat.reduceSub, ht, wx_ge_f hng]
      by_cases c1 : lenA (N 91 p) + 1 - j = 1
      · by_cases c2 : lenA (N 91 p) = 3
        · have hx := hfin 1 (by decide) ⟨fun _ => ⟨c2, by omega⟩, fun _ => rfl⟩
          have e173' := e173
          rw [c2] at e173'
          rw [c1] at hx
          simp (disch := (first | omega | exact aCat_8 (by with_unfolding_all rfl) | exact rk_lt (by with_unfolding_all rfl) | exact aCat_16 (by with_unfolding_all rfl) | exact rk_eq (by with_unfolding_all rfl) | assumption | exact b2n_lt _ | exact id_b (by with_unfolding_all rfl) | (simp (disch := omega) only [u2_same, u2_ab, u2_aq]; done) | (simp (disch := omega) only [u2_same, u2_ab, u2_aq]; omega) | fail)) only [al_11008, wp_aloadr_0, wp_aloadk_0, hg_0_0, hg_1_1, wk_60, wp_min, wp_istore_1, wk_32, wp_istore_2, wk_0, wp_istore_3, wp_istore_4, wp_jsr, wp_iload_4, wp_iload_1, wn_ge_t, wn_ge_f, wp_iload_3, wz_ne_t, wz_ne_f, wb_ne_t, wb_ne_f, wm_ne_1, wm_ne_2, wc_288, wp_iload_2, wc_173, wp_ireturn, al_11010, wk_1, wn_ne_t, wn_ne_f, wk_3, wp_goto, al_11011, wp_istore_5, wc_287, wp_iload_5, al_11013, wp_idec_3_1, al_11014, wp_iinc_4_1, al_11015, wn_le_t, wn_le_f, al_11016, wz_le_t, wz_le_f, wm_le_1, wm_le_2, al_11017, wk_m1, al_11018, nl_i, nl_r, nl_k, nl_j, nl_l, nI_add, pk_mul, pk_sub, tl_s, tl_n, aL_inl, u2_same, u2_ab, u2_aq, nI_l, lN_i, Nat.add_zero, Nat.zero_add, Nat.zero_le, true_and, and_true, b2n_10, b2n_T, b2n_F, b2n_0, Decidable.not_not, not_true_eq_false, not_false_eq_true, Nat.reduceAdd, Nat.reduceMul, Nat.reduceSub, e173', c1]
          exact hx
        · have hx := hfin 0 (by decide) ⟨fun y => by omega, fun y => absurd y.1 c2⟩
          rw [c1] at hx
          simp (disch := (first | omega | exact aCat_8 (by with_unfolding_all rfl) | exact rk_lt (by with_unfolding_all rfl) | exact aCat_16 (by with_unfolding_all rfl) | exact rk_eq (by with_unfolding_all rfl) | assumption | exact b2n_lt _ | exact id_b (by with_unfolding_all rfl) | (simp (disch := omega) only [u2_same, u2_ab, u2_aq]; done) | (simp (disch := omega) only [u2_same, u2_ab, u2_aq]; omega) | fail)) only [al_11008, wp_aloadr_0, wp_aloadk_0, hg_0_0, hg_1_1, wk_60, wp_min, wp_istore_1, wk_32, wp_istore_2, wk_0, wp_istore_3, wp_istore_4, wp_jsr, wp_iload_4, wp_iload_1, wn_ge_t, wn_ge_f, wp_iload_3, wz_ne_t, wz_ne_f, wb_ne_t, wb_ne_f, wm_ne_1, wm_ne_2, wc_288, wp_iload_2, wc_173, wp_ireturn, al_11010, wk_1, wn_ne_t, wn_ne_f, wk_3, wp_goto, al_11011, wp_istore_5, wc_287, wp_iload_5, al_11013, wp_idec_3_1, al_11014, wp_iinc_4_1, al_11015, wn_le_t, wn_le_f, al_11016, wz_le_t, wz_le_f, wm_le_1, wm_le_2, al_11017, wk_m1, al_11018, nl_i, nl_r, nl_k, nl_j, nl_l, nI_add, pk_mul, pk_sub, tl_s, tl_n, aL_inl, u2_same, u2_ab, u2_aq, nI_l, lN_i, Nat.add_zero, Nat.zero_add, Nat.zero_le, true_and, and_true, b2n_10, b2n_T, b2n_F, b2n_0, Decidable.not_not, not_true_eq_false, not_false_eq_true, Nat.reduceAdd, Nat.reduceMul, Nat.reduceSub, e173, c1]
          exact hx
      · have hx := hfin 0 (by decide) ⟨fun y => by omega, fun y => by omega⟩
        simp (disch := (first | omega | exact aCat_8 (by with_unfolding_all rfl) | exact rk_lt (by with_unfolding_all rfl) | exact aCat_16 (by with_unfolding_all rfl) | exact rk_eq (by with_unfolding_all rfl) | assumption | exact b2n_lt _ | exact id_b (by with_unfolding_all rfl) | (simp (disch := omega) only [u2_same, u2_ab, u2_aq]; done) | (simp (disch := omega) only [u2_same, u2_ab, u2_aq]; omega) | fail)) only [al_11008, wp_aloadr_0, wp_aloadk_0, hg_0_0, hg_1_1, wk_60, wp_min, wp_istore_1, wk_32, wp_istore_2, wk_0, wp_istore_3, wp_istore_4, wp_jsr, wp_iload_4, wp_iload_1, wn_ge_t, wn_ge_f, wp_iload_3, wz_ne_t, wz_ne_f, wb_ne_t, wb_ne_f, wm_ne_1, wm_ne_2, wc_288, wp_iload_2, wc_173, wp_ireturn, al_11010, wk_1, wn_ne_t, wn_ne_f, wk_3, wp_goto, al_11011, wp_istore_5, wc_287, wp_iload_5, al_11013, wp_idec_3_1, al_11014, wp_iinc_4_1, al_11015, wn_le_t, wn_le_f, al_11016, wz_le_t, wz_le_f, wm_le_1, wm_le_2, al_11017, wk_m1, al_11018, nl_i, nl_r, nl_k, nl_j, nl_l, nI_add, pk_mul, pk_sub, tl_s, tl_n, aL_inl, u2_same, u2_ab, u2_aq, nI_l, lN_i, Nat.add_zero, Nat.zero_add, Nat.zero_le, true_and, and_true, b2n_10, b2n_T, b2n_F, b2n_0, Decidable.not_not, not_true_eq_false, not_false_eq_true, Nat.reduceAdd, Nat.reduceMul, Nat.reduceSub]
        exact hx
theorem l_172 {n e : Nat} (h : invB D N I J t) (hn : N 86 11 = n) (he : e = min n 60) :
    ∀ (f p : Nat) (s5 : Int32) (w5 : Value), e - p < f → p ≤ e → aWp ko d 172 (aP.1 (Int.toNat 11009)) [.ref 0, .int (nI e), .int s5, .int (nI 0), .int (nI p), w5] [] (hp D N I J x) (aL Q) = Q (some (.int (yrA' n (yrW (N 91) e f p)))) (hp D N I J x) := by
  obtain ⟨t1, t2, t3⟩ := h.2.1
  obtain ⟨b1, b2⟩ := tx_N h
  intro f
  induction f with
  | zero => intro p s5 w5 hf; omega
  | succ f ih =>
    intro p s5 w5 hf hpe
    rw [yrW]
    by_cases hge : e ≤ p
    · rw [if_pos hge]
      have ep : p = e := by omega
      subst ep
      unfold yrA'
      rw [al_11009]
      by_cases hn60 : 60 < n
      · have e60 : p = 60 := by omega
        subst e60
        rw [if_pos hn60]
        simp (disch := (first | omega | exact aCat_8 (by with_unfolding_all rfl) | exact rk_lt (by with_unfolding_all rfl) | exact aCat_16 (by with_unfolding_all rfl) | exact rk_eq (by with_unfolding_all rfl) | assumption | exact b2n_lt _ | exact id_b (by with_unfolding_all rfl) | (simp (disch := omega) only [u2_same, u2_ab, u2_aq]; done) | (simp (disch := omega) only [u2_same, u2_ab, u2_aq]; omega) | fail)) only [al_11008, wp_aloadr_0, wp_aloadk_0, hg_0_0, hg_1_1, wk_60, wp_min, wp_istore_1, wk_32, wp_istore_2, wk_0, wp_istore_3, wp_istore_4, wp_jsr, wp_iload_4, wp_iload_1, wn_ge_t, wn_ge_f, wp_iload_3, wz_ne_t, wz_ne_f, wb_ne_t, wb_ne_f, wm_ne_1, wm_ne_2, wc_288, wp_iload_2, wc_173, wp_ireturn, al_11010, wk_1, wn_ne_t, wn_ne_f, wk_3, wp_goto, al_11011, al_11012, wp_istore_5, wc_287, wp_iload_5, al_11013, wp_idec_3_1, al_11014, wp_iinc_4_1, al_11015, wn_le_t, wn_le_f, al_11016, wz_le_t, wz_le_f, wm_le_1, wm_le_2, al_11017, wk_m1, al_11018, nl_i, nl_r, nl_k, nl_j, nl_l, nI_add, pk_mul, pk_sub, tl_s, tl_n, aL_inl, u2_same, u2_ab, u2_aq, nI_l, lN_i, Nat.add_zero, Nat.zero_add, Nat.zero_le, true_and, and_true, b2n_10, b2n_T, b2n_F, b2n_0, Decidable.not_not, not_true_eq_false, not_false_eq_true, Nat.reduceAdd, Nat.reduceMul, Nat.reduceSub, t1, hn]
      · rw [if_neg hn60]
        simp (disch := (first | omega | exact aCat_8 (by with_unfolding_all rfl) | exact rk_lt (by with_unfolding_all rfl) | exact aCat_16 (by with_unfolding_all rfl) | exact rk_eq (by with_unfolding_all rfl) | assumption | exact b2n_lt _ | exact id_b (by with_unfolding_all rfl) | (simp (disch := omega) only [u2_same, u2_ab, u2_aq]; done) | (simp (disch := omega) only [u2_same, u2_ab, u2_aq]; omega) | fail)) only [al_11008, wp_aloadr_0, wp_aloadk_0, hg_0_0, hg_1_1, wk_60, wp_min, wp_istore_1, wk_32, wp_istore_2, wk_0, wp_istore_3, wp_istore_4, wp_jsr, wp_iload_4, wp_iload_1, wn_ge_t, wn_ge_f, wp_iload_3, wz_ne_t, wz_ne_f, wb_ne_t, wb_ne_f, wm_ne_1, wm_ne_2, wc_288, wp_iload_2, wc_173, wp_ireturn, al_11010, wk_1, wn_ne_t, wn_ne_f, wk_3, wp_goto, al_11011, al_11012, wp_istore_5, wc_287, wp_iload_5, al_11013, wp_idec_3_1, al_11014, wp_iinc_4_1, al_11015, wn_le_t, wn_le_f, al_11016, wz_le_t, wz_le_f, wm_le_1, wm_le_2, al_11017, wk_m1, al_11018, nl_i, nl_r, nl_k, nl_j, nl_l, nI_add, pk_mul, pk_sub, tl_s, tl_n, aL_inl, u2_same, u2_ab, u2_aq, nI_l, lN_i, Nat.add_zero, Nat.zero_add, Nat.zero_le, true_and, and_true, b2n_10, b2n_T, b2n_F, b2n_0, Decidable.not_not, not_true_eq_false, not_false_eq_true, Nat.reduceAdd, Nat.reduceMul, Nat.reduceSub, t1, hn]
    · rw [if_neg hge]
      have hlt : p < e := by omega
      have ht := fun Q => t_288 (ko := ko) (d := d) (D := D) (N := N) (I := I) (J := J) (x := x) (Q := Q) (i := p) (by omega) b1 b2
      have ec : txC N p = N 91 p := txC_e h (by omega)
      rw [ec] at ht
      have hc := (t3 p (by omega)).2
      have e173 := fun Q => t_173 (ko := ko) (d := d) (σ := hp D N I J x) (Q := Q) hc
      have hl3 := lenA_le (c := N 91 p)
      by_cases hl0 : lenA (N 91 p) = 0
      · rw [if_pos hl0]
        rw [hl0] at e173
        unfold yrA'
        rw [al_11009]
        simp (disch := (first | omega | exact aCat_8 (by with_unfolding_all rfl) | exact rk_lt (by with_unfolding_all rfl) | exact aCat_16 (by with_unfolding_all rfl) | exact rk_eq (by with_unfolding_all rfl) | assumption | exact b2n_lt _ | exact id_b (by with_unfolding_all rfl) | (simp (disch := omega) only [u2_same, u2_ab, u2_aq]; done) | (simp (disch := omega) only [u2_same, u2_ab, u2_aq]; omega) | fail)) only [al_11008, wp_aloadr_0, wp_aloadk_0, hg_0_0, hg_1_1, wk_60, wp_min, wp_istore_1, wk_32, wp_istore_2, wk_0, wp_istore_3, wp_istore_4, wp_jsr, wp_iload_4, wp_iload_1, wn_ge_t, wn_ge_f, wp_iload_3, wz_ne_t, wz_ne_f, wb_ne_t, wb_ne_f, wm_ne_1, wm_ne_2, wc_288, wp_iload_2, wc_173, wp_ireturn, al_11010, wk_1, wn_ne_t, wn_ne_f, wk_3, wp_goto, al_11011, al_11012, wp_istore_5, wc_287, wp_iload_5, al_11013, wp_idec_3_1, al_11014, wp_iinc_4_1, al_11015, wn_le_t, wn_le_f, al_11016, wz_le_t, wz_le_f, wm_le_1, wm_le_2, al_11017, wk_m1, al_11018, nl_i, nl_r, nl_k, nl_j, nl_l, nI_add, pk_mul, pk_sub, tl_s, tl_n, aL_inl, u2_same, u2_ab, u2_aq, nI_l, lN_i, Nat.add_zero, Nat.zero_add, Nat.zero_le, true_and, and_true, b2n_10, b2n_T, b2n_F, b2n_0, Decidable.not_not, not_true_eq_false, not_false_eq_true, Nat.reduceAdd, Nat.reduceMul, Nat.reduceSub, ht, e173]
      · rw [if_neg hl0]
        have hx := fun v hnext hbad w5 => l_172d (ko := ko) (d := d) (x := x) (Q := Q) (n := n) (e := e) (p := p) (v := v) h hn he hlt (by omega) hnext hbad (lenA (N 91 p)) 1 w5 (by omega) (Nat.le_refl _) (fun i a1 a2 => by omega)
        rw [Nat.add_sub_cancel] at hx
        cases hq : badA (N 91) e p (lenA (N 91 p)) with
        | none =>
          have hall := bad_n _ hq
          have hlast := hall (lenA (N 91 p)) (by omega) (Nat.le_refl _)
          have hle : p + lenA (N 91 p) < e := by
            unfold okD at hlast
            exact of_decide_eq_true (Bool.and_eq_true _ _ |>.mp hlast).1
          have hy := fun w5 => hx (yrA' n (yrW (N 91) e f (p + 1 + lenA (N 91 p)))) (fun w5 _ => ih (p + 1 + lenA (N 91 p)) (nI (N 91 p)) w5 (by omega) (by omega)) (fun j h1 h2 hf _ => by rw [hall j h1 h2] at hf; cases hf) w5
          rw [al_11009]
          simp (disch := (first | omega | exact aCat_8 (by with_unfolding_all rfl) | exact rk_lt (by with_unfolding_all rfl) | exact aCat_16 (by with_unfolding_all rfl) | exact rk_eq (by with_unfolding_all rfl) | assumption | exact b2n_lt _ | exact id_b (by with_unfolding_all rfl) | (simp (disch := omega) only [u2_same, u2_ab, u2_aq]; done) | (simp (disch := omega) only [u2_same, u2_ab, u2_aq]; omega) | fail)) only [al_11008, wp_aloadr_0, wp_aloadk_0, hg_0_0, hg_1_1, wk_60, wp_min, wp_istore_1, wk_32, wp_istore_2, wk_0, wp_istore_3, wp_istore_4, wp_jsr, wp_iload_4, wp_iload_1, wn_ge_t, wn_ge_f, wp_iload_3, wz_ne_t, wz_ne_f, wb_ne_t, wb_ne_f, wm_ne_1, wm_ne_2, wc_288, wp_iload_2, wc_173, wp_ireturn, al_11010, wk_1, wn_ne_t, wn_ne_f, wk_3, wp_goto, al_11011, al_11012, wp_istore_5, wc_287, wp_iload_5, al_11013, wp_idec_3_1, al_11014, wp_iinc_4_1, al_11015, wn_le_t, wn_le_f, al_11016, wz_le_t, wz_le_f, wm_le_1, wm_le_2, al_11017, wk_m1, al_11018, nl_i, nl_r, nl_k, nl_j, nl_l, nI_add, pk_mul, pk_sub, tl_s, tl_n, aL_inl, u2_same, u2_ab, u2_aq, nI_l, lN_i, Nat.add_zero, Nat.zero_add, Nat.zero_le, true_and, and_true, b2n_10, b2n_T, b2n_F, b2n_0, Decidable.not_not, not_true_eq_false, not_false_eq_true, Nat.reduceAdd, Nat.reduceMul, Nat.reduceSub, ht, e173]
          exact hy _
        | some w =>
          have hy := fun w5 => hx (nI w) (fun w5 hall => by
            rw [bad_ok _ hall] at hq
            cases hq) (fun j h1 h2 hf hall => by
            rw [bad_s _ j h1 h2 hf hall] at hq
            cases hq
            rfl) w5
          rw [al_11009]
          simp (disch := (first | omega | exact aCat_8 (by with_unfolding_all rfl) | exact rk_lt (by with_unfolding_all rfl) | exact aCat_16 (by with_unfolding_all rfl) | exact rk_eq (by with_unfolding_all rfl) | assumption | exact b2n_lt _ | exact id_b (by with_unfolding_all rfl) | (simp (disch := omega) only [u2_same, u2_ab, u2_aq]; done) | (simp (disch := omega) only [u2_same, u2_ab, u2_aq]; omega) | fail)) only [al_11008, wp_aloadr_0, wp_aloadk_0, hg_0_0, hg_1_1, wk_60, wp_min, wp_istore_1, wk_32, wp_istore_2, wk_0, wp_istore_3, wp_istore_4, wp_jsr, wp_iload_4, wp_iload_1, wn_ge_t, wn_ge_f, wp_iload_3, wz_ne_t, wz_ne_f, wb_ne_t, wb_ne_f, wm_ne_1, wm_ne_2, wc_288, wp_iload_2, wc_173, wp_ireturn, al_11010, wk_1, wn_ne_t, wn_ne_f, wk_3, wp_goto, al_11011, al_11012, wp_istore_5, wc_287, wp_iload_5, al_11013, wp_idec_3_1, al_11014, wp_iinc_4_1, al_11015, wn_le_t, wn_le_f, al_11016, wz_le_t, wz_le_f, wm_le_1, wm_le_2, al_11017, wk_m1, al_11018, nl_i, nl_r, nl_k, nl_j, nl_l, nI_add, pk_mul, pk_sub, tl_s, tl_n, aL_inl, u2_same, u2_ab, u2_aq, nI_l, lN_i, Nat.add_zero, Nat.zero_add, Nat.zero_le, true_and, and_true, b2n_10, b2n_T, b2n_F, b2n_0, Decidable.not_not, not_true_eq_false, not_false_eq_true, Nat.reduceAdd, Nat.reduceMul, Nat.reduceSub, ht, e173]
          exact hy _
theorem t_172 (h : invB D N I J t) : aMm ko d 172 [.ref 0] (hp D N I J x) Q = Q (some (.int (yrA' (N 86 11) (yrW (N 91) (min (N 86 11) 60) 61 0)))) (hp D N I J x) := by
  have t1 := h.2.1.1
  have t2 := h.2.1.2.1
  have hx := fun w5 => l_172 (ko := ko) (d := d) (x := x) (Q := Q) h rfl rfl 61 0 (nI 32) w5 (by omega) (Nat.zero_le _)
  rw [me_172]
  simp (disch := (first | omega | exact aCat_8 (by with_unfolding_all rfl) | exact rk_lt (by with_unfolding_all rfl) | exact aCat_16 (by with_unfolding_all rfl) | exact rk_eq (by with_unfolding_all rfl) | assumption | exact b2n_lt _ | exact id_b (by with_unfolding_all rfl) | (simp (disch := omega) only [u2_same, u2_ab, u2_aq]; done) | (simp (disch := omega) only [u2_same, u2_ab, u2_aq]; omega) | fail)) only [al_11008, wp_aloadr_0, wp_aloadk_0, hg_0_0, hg_1_1, wk_60, wp_min, wp_istore_1, wk_32, wp_istore_2, wk_0, wp_istore_3, wp_istore_4, wp_jsr, wp_iload_4, wp_iload_1, wn_ge_t, wn_ge_f, wp_iload_3, wz_ne_t, wz_ne_f, wb_ne_t, wb_ne_f, wm_ne_1, wm_ne_2, wc_288, wp_iload_2, wc_173, wp_ireturn, al_11010, wk_1, wn_ne_t, wn_ne_f, wk_3, wp_goto, al_11011, al_11012, wp_istore_5, wc_287, wp_iload_5, al_11013, wp_idec_3_1, al_11014, wp_iinc_4_1, al_11015, wn_le_t, wn_le_f, al_11016, wz_le_t, wz_le_f, wm_le_1, wm_le_2, al_11017, wk_m1, al_11018, nl_i, nl_r, nl_k, nl_j, nl_l, nI_add, pk_mul, pk_sub, tl_s, tl_n, aL_inl, u2_same, u2_ab, u2_aq, nI_l, lN_i, Nat.add_zero, Nat.zero_add, Nat.zero_le, true_and, and_true, b2n_10, b2n_T, b2n_F, b2n_0, Decidable.not_not, not_true_eq_false, not_false_eq_true, Nat.reduceAdd, Nat.reduceMul, Nat.reduceSub, t1]
  exact hx _
end YR
