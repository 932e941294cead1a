/-! fits: a source at each column. From wip/whole/src. -/
/-- the course after i tides, had the source been at c -/
def fcS (D : Nat → Nat) (N : Nat → Nat → Nat) (c i : Nat) : Nat × (Nat → Nat) × Bool := crsS D N (itS D N (upn (N 89) 108 c) i)
def fcO (D : Nat → Nat) (N : Nat → Nat → Nat) (c i f : Nat) : Bool := onP (fcS D N c i).1 (fcS D N c i).2.1 f
def senB (D : Nat → Nat) (N : Nat → Nat → Nat) (c j : Nat) : Bool := decide (b2n (fcO D N c (N 114 j) (N 115 j) = true) = N 116 j)
def asnT (D : Nat → Nat) (N : Nat → Nat → Nat) (c : Nat) : Nat → Bool
  | 0 => true
  | j + 1 => asnT D N c j && senB D N c j
def asn (D : Nat → Nat) (N : Nat → Nat → Nat) (c : Nat) : Bool := asnT D N c (N 86 46)
def fitN (D : Nat → Nat) (N : Nat → Nat → Nat) : Nat → Nat
  | 0 => 0
  | c + 1 => fitN D N c + (if asn D N c = true then 2 ^ c else 0)
theorem fit_lt {D : Nat → Nat} {N : Nat → Nat → Nat} : ∀ c, fitN D N c < 2 ^ c
  | 0 => by show 0 < 1; decide
  | c + 1 => by
    have := fit_lt (D := D) (N := N) c
    rw [fitN, Nat.pow_succ]
    split <;> omega
theorem fit_or : ∀ c, c < 6 → ∀ a, a < 2 ^ c → nI a ||| nI 1 <<< (nI c &&& 31) = nI (a + 2 ^ c) := by decide +kernel
theorem asn_all {D : Nat → Nat} {N : Nat → Nat → Nat} {c : Nat} : ∀ n, asnT D N c n = true ↔ ∀ j, j < n → senB D N c j = true
  | 0 => ⟨fun _ j hj => absurd hj (Nat.not_lt_zero j), fun _ => rfl⟩
  | n + 1 => by
    rw [asnT, Bool.and_eq_true, asn_all n]
    constructor
    · rintro ⟨h1, h2⟩ j hj
      by_cases e : j = n
      · rw [e]; exact h2
      · exact h1 j (by omega)
    · intro h
      exact ⟨fun j hj => h j (by omega), h n (by omega)⟩
/-- all that was seen in the first i tides is so -/
def okO (T : Nat → Nat) (s : Nat → Bool) (n i : Nat) : Bool := (List.range n).all (fun j => !(decide (T j < i)) || s j)
def okI (T : Nat → Nat) (s : Nat → Bool) (n i j : Nat) : Bool := okO T s n i && (List.range j).all (fun k => !(decide (T k = i)) || s k)
theorem okI_0 {T : Nat → Nat} {s : Nat → Bool} {n i : Nat} : okI T s n i 0 = okO T s n i := by simp [okI]
theorem okI_s {T : Nat → Nat} {s : Nat → Bool} {n i j : Nat} : okI T s n i (j + 1) = (okI T s n i j && (!(decide (T j = i)) || s j)) := by
  unfold okI
  rw [List.range_succ, List.all_append, Bool.and_assoc]
  simp
theorem okI_e {T : Nat → Nat} {s : Nat → Bool} {n i : Nat} : okI T s n i n = okO T s n (i + 1) := by
  rw [Bool.eq_iff_iff]
  unfold okI okO
  simp only [Bool.and_eq_true, List.all_eq_true, List.mem_range, Bool.or_eq_true, Bool.not_eq_true', decide_eq_false_iff_not]
  constructor
  · rintro ⟨h1, h2⟩ j hj
    by_cases z : s j = true
    · exact Or.inr z
    · refine Or.inl ?_
      rcases h1 j hj with a | a
      · rcases h2 j hj with b | b
        · omega
        · exact absurd b z
      · exact absurd a z
  · intro h
    refine ⟨fun j hj => ?_, fun j hj => ?_⟩
    · rcases h j hj with a | a
      · exact Or.inl (by omega)
      · exact Or.inr a
    · rcases h j hj with a | a
      · exact Or.inl (by omega)
      · exact Or.inr a
theorem okO_0 {T : Nat → Nat} {s : Nat → Bool} {n : Nat} : okO T s n 0 = true := by
  unfold okO
  simp
theorem okO_e {D : Nat → Nat} {N : Nat → Nat → Nat} {c n : Nat} (h : ∀ k, k < n → N 114 k ≤ 20) : okO (N 114) (senB D N c) n 21 = asnT D N c n := by
  rw [Bool.eq_iff_iff, asn_all]
  unfold okO
  simp only [List.all_eq_true, List.mem_range, Bool.or_eq_true, Bool.not_eq_true', decide_eq_false_iff_not]
  constructor
  · intro a j hj
    rcases a j hj with b | b
    · have := h j hj
      omega
    · exact b
  · intro a j hj
    exact Or.inr (a j hj)
/-- only scratch of the class has changed, and no row was told -/
def rsO (N0 N : Nat → Nat → Nat) (I0 I : Nat → Nat → Int32) (J0 J : Nat → Nat → Int64) : Prop := sN N N0 ∧ sI I I0 ∧ sJ J J0 ∧ tdSC N N0 J J0 ∧ tdSR N N0 J J0
section F1
variable {ko : aKo} {d k : Nat} {is : List Instr} {ls st : List Value} {σ : aH} {D : Nat → Nat} {N : Nat → Nat → Nat} {I : Nat → Nat → Int32} {J : Nat → Nat → Int64} {x t : Nat} {Q : Option Value → aH → Prop} {P : (Option Value ⊕ Unit) → aH → Prop}
theorem rs_r : rsO N N I I J J := ⟨sN_r, sI_r, sJ_r, ⟨rfl, fun _ => rfl⟩, ⟨rfl, fun _ => rfl⟩⟩
theorem rs_t {A B C : Nat → Nat → Nat} {A' B' C' : Nat → Nat → Int32} {A2 B2 C2 : Nat → Nat → Int64} (h : rsO A B A' B' A2 B2) (h2 : rsO B C B' C' B2 C2) : rsO A C A' C' A2 C2 := ⟨sN_t h2.1 h.1, sI_t h2.2.1 h.2.1, sJ_t h2.2.2.1 h.2.2.1, ⟨h2.2.2.2.1.1.trans h.2.2.2.1.1, fun q => (h2.2.2.2.1.2 q).trans (h.2.2.2.1.2 q)⟩, ⟨h2.2.2.2.2.1.trans h.2.2.2.2.1, fun q => (h2.2.2.2.2.2 q).trans (h.2.2.2.2.2 q)⟩⟩
theorem dr_rs {N0 : Nat → Nat → Nat} {I0 : Nat → Nat → Int32} {J0 : Nat → Nat → Int64} {S : Nat → Nat} (h : drO D N0 N I0 I J0 J S) : rsO N0 N I0 I J0 J := h.2.2.2
/-- a dream from a later memory is a dream from the first -/
theorem dr_base {N0 M : Nat → Nat → Nat} {I0 K : Nat → Nat → Int32} {J0 L : Nat → Nat → Int64} {S : Nat → Nat} (hr : rsO N0 N I0 I J0 J) (h : drO D N M I K J L S) : drO D N0 M I0 K J0 L S := by
  obtain ⟨h1, h2, h3, h4⟩ := h
  have e93 : N 93 = N0 93 := by funext q; exact hr.1 93 q rfl
  have e18 : N 86 18 = N0 86 18 := hr.1 86 18 rfl
  rw [e93, e18] at h1
  have e91 : N 9 1 = N0 9 1 := hr.1 9 1 rfl
  have esk : skC N = skC N0 := by
    unfold skC
    funext q
    rw [e91, hr.1 10 _ rfl]
  exact ⟨h1, h2.trans esk, h3.trans e91, rs_t hr h4⟩
theorem dr_n {N0 : Nat → Nat → Nat} {I0 : Nat → Nat → Int32} {J0 : Nat → Nat → Int64} (h : invB D N0 I0 J0 t) (hr : rsO N0 N I0 I J0 J) : drO D N0 (cpS N 24 20) I0 I J0 (cpJ J 24 20) (N0 89) := by
  have h1 := invB_c h (Nat.le_refl t) hr.1 hr.2.1 hr.2.2.1
  have := dr_base hr (dr_0 h1)
  rw [sN_89 hr.1] at this
  exact this
/-- a tide of the dream, with its course -/
theorem dr_h {N0 : Nat → Nat → Nat} {I0 : Nat → Nat → Int32} {J0 : Nat → Nat → Int64} {u : Nat} {S : Nat → Nat} (h : invB D N0 I0 J0 t) (hS : rwG D u S) (hu : u + 1 < 1000000000) (hD : drO D N0 N I0 I J0 J S)
    (hQ : ∀ (N' : Nat → Nat → Nat) (I' : Nat → Nat → Int32) (J' : Nat → Nat → Int64), drO D N0 N' I0 I' J0 J' (itS D N0 S 1) → clC (D 1) N' I' J' (crsS D N0 S) → (∀ q, J' 77 q = J 77 q) → Q (some (.int (nI (cmS D N0 S 1)))) (hp D N' I' J' x)) :
    aMm ko d 254 [.ref 26, .ref 24, .ref 11, .int (nI 1)] (hp D N I J x) Q := by
  obtain ⟨hA, hsk, h91, hN, hI, hJ, hC, hR⟩ := hD
  refine t_254 (s := 24) (ru := 11) rfl rfl hA (by rw [h.1.2.1, h.1.2.2.1]; exact hS.2.1) (by rw [h91]; exact inv_s1 h) (by rw [h91]; exact inv_s2 h) (by decide) (by have := hS.2.2.1; omega) ?_
  intro N' I' J' hA' hN' hI' hJ' hc'
  have hc := hc' (by decide)
  have e3 : crsG (D 2) (D 3) (N0 93) (N0 86 18) (skC N) (itG (D 2) (D 3) (N0 93) (N0 86 18) (skC N) S (1 - 1)) = crsS D N0 S := by
    rw [hsk]
    show crsG _ _ _ _ _ S = _
    rw [inv_G h]
  rw [e3, h.1.2.2.1] at hc
  rw [hsk, inv_it h] at hA'
  rw [hsk, inv_cm h]
  obtain ⟨f1, f2⟩ := pN_sk (s := 24) rfl hN'
  refine hQ N' I' J' ⟨hA', f1.trans hsk, f2.trans h91, sN_t (pN_s hN') hN, sI_t (fI_s hI') hI, sJ_t (pJ_s hJ') hJ, ⟨?_, ?_⟩, ⟨?_, ?_⟩⟩ hc (fun q => hJ' 77 q (by decide) (by omega) (by decide))
  · rw [hN' 3 1 (by decide) (by omega) (by decide) (by decide)]; exact hC.1
  · intro q
    rw [hJ' 4 q (by decide) (by omega) (by decide)]; exact hC.2 q
  · rw [hN' 86 1 (by decide) (by omega) (by decide) (by decide)]; exact hR.1
  · intro q
    rw [hJ' 87 q (by decide) (by omega) (by decide)]; exact hR.2 q
theorem dr_77 {N0 : Nat → Nat → Nat} {I0 : Nat → Nat → Int32} {J0 J' : Nat → Nat → Int64} {S : Nat → Nat} (hD : drO D N0 N I0 I J0 J S) (h2 : ∀ b q, b ≠ 77 → J' b q = J b q) : drO D N0 N I0 I J0 J' S := by
  obtain ⟨⟨a1, a2, a3, a4, a5⟩, hsk, h91, hN, hI, hJ, hC, hR⟩ := hD
  exact ⟨⟨ldO_f a1 (fun q => ⟨rfl, rfl⟩) (fun _ => rfl) (fun q => h2 5 q (by decide)), clS_c a2 (fun _ => rfl) (fun _ => rfl) (fun q => h2 24 q (by decide)), a3, a4, a5⟩, hsk, h91, hN, hI, fun b q z => (h2 b q (by rintro rfl; cases z)).trans (hJ b q z), ⟨hC.1, fun q => (h2 4 q (by decide)).trans (hC.2 q)⟩, ⟨hR.1, fun q => (h2 87 q (by decide)).trans (hR.2 q)⟩⟩
theorem cl_col {S : Nat → Nat} {c : Nat} (h : clS N J 24 S) : clS (u2 N 24 3 c) J 24 (upn S 108 c) := by
  have e : ∀ q, q ≠ 108 → upn S 108 c q = S q := fun q hq => by rw [upn, if_neg hq]
  refine ⟨fun f hf => ?_, fun f hf => ?_, ?_, ?_, ?_⟩
  · rw [u2_ab (by decide), e f (by omega)]; exact h.1 f hf
  · by_cases z : f < 36
    · rw [e (36 + f) (by omega), e (72 + f) (by omega)]; exact h.2.1 f hf
    · have := h.2.1 f hf
      simp only [z, decide_false, Bool.false_and] at this ⊢
      exact this
  · rw [u2_same]; simp [upn]
  · rw [u2_aq (by decide), e _ (by decide)]; exact h.2.2.2.1
  · rw [u2_aq (by decide), e _ (by decide)]; exact h.2.2.2.2
theorem col_G (h : invB D N I J t) {c : Nat} (hc : c < D 1) : rwG D t (upn (N 89) 108 c) := by
  obtain ⟨a1, a2, a3, _⟩ := h.2.2.2.2.1
  have hr := rw_src a1 a2 hc
  refine ⟨hr.1, hr.2, by rw [upn, if_neg (by omega)]; exact a3.1, ?_⟩
  rw [sumR_congr 36 (g := fun q => N 89 (36 + q)) (fun q hq => by rw [upn, if_neg (by omega)])]
  exact a3.2
theorem col_it (h : invB D N I J t) {c i : Nat} (hc : c < D 1) (hi : i ≤ 30) (ht : t + 300 < 1000000000) : rwG D (t + i) (itS D N (upn (N 89) 108 c) i) := rwG_it h (col_G h hc) (by omega)
theorem it_add1 {S : Nat → Nat} {i : Nat} : itS D N (itS D N S i) 1 = itS D N S (i + 1) := rfl
theorem t_201 {c i : Nat} (hc : c ≤ 6) (hi : i ≤ 21) : aMm ko d 201 [.int (nI c), .int (nI i)] σ Q = Q (some (.int (nI (c * 21 + i)))) σ := by
  rw [me_201]
  simp (disch := (first | omega | exact aCat_8 (by with_unfolding_all rfl) | exact rk_lt (by with_unfolding_all rfl) | exact aCat_16 (by with_unfolding_all rfl) | exact rk_eq (by with_unfolding_all rfl) | assumption | exact b2n_lt _ | exact id_b (by with_unfolding_all rfl) | (simp (disch := omega) only [u2_same, u2_ab, u2_aq]; done) | (simp (disch := omega) only [u2_same, u2_ab, u2_aq]; omega) | fail)) only [al_12864, wp_iload_0, wk_21, wp_imul, wp_iload_1, wp_iadd, wp_ireturn, nl_i, nl_r, nl_k, nl_j, nl_l, nI_add, pk_mul, pk_sub, tl_s, tl_n, aL_inl, u2_same, u2_ab, u2_aq, nI_l, lN_i, Nat.add_zero, Nat.zero_add, Nat.zero_le, true_and, and_true, b2n_10, b2n_T, b2n_F, b2n_0, Decidable.not_not, not_true_eq_false, not_false_eq_true, Nat.reduceAdd, Nat.reduceMul, Nat.reduceSub]
/-- what the class has drawn up to place m: n tides a column -/
def drwn (D : Nat → Nat) (N0 : Nat → Nat → Nat) (J : Nat → Nat → Int64) (n c i : Nat) : Prop := ∀ a b, b < n → (a < c ∨ (a = c ∧ b < i)) → ∀ f, f < 64 → tb (J 77 (a * 21 + b)) f = fcO D N0 a b f
theorem l_200i {N0 : Nat → Nat → Nat} {I0 : Nat → Nat → Int32} {J0 : Nat → Nat → Int64} {v a : Int32} {c n : Nat} (h : invB D N0 I0 J0 t) (ht : t + 300 < 1000000000) (hc : c < D 1) (hn : n ≤ 21) (hv : ∀ i, i < 22 → (v < nI i ↔ n ≤ i))
    (hK : ∀ (N : Nat → Nat → Nat) (I : Nat → Nat → Int32) (J : Nat → Nat → Int64), rsO N0 N I0 I J0 J → drwn D N0 J n (c + 1) 0 → aWp ko d 200 (aP.1 (Int.toNat 12803)) [.ref 0, .int v, .int a, .int (nI c), .int (nI n)] [] (hp D N I J x) (aL Q)) :
    ∀ (j i : Nat) (N : Nat → Nat → Nat) (I : Nat → Nat → Int32) (J : Nat → Nat → Int64), i + j = n → drO D N0 N I0 I J0 J (itS D N0 (upn (N0 89) 108 c) i) → drwn D N0 J n c i → aWp ko d 200 (aP.1 (Int.toNat 12802)) [.ref 0, .int v, .int a, .int (nI c), .int (nI i)] [] (hp D N I J x) (aL Q) := by
  have hd6 := h.1.1.2.2.2
  intro j
  induction j with
  | zero =>
    intro i N I J hj hD hw
    have e : i = n := by omega
    subst e
    have hlt := (hv i (by omega)).mpr (Nat.le_refl i)
    rw [al_12802]
    simp (disch := (first | omega | exact aCat_8 (by with_unfolding_all rfl) | exact rk_lt (by with_unfolding_all rfl) | exact aCat_16 (by with_unfolding_all rfl) | exact rk_eq (by with_unfolding_all rfl) | assumption | exact b2n_lt _ | exact id_b (by with_unfolding_all rfl) | (simp (disch := omega) only [u2_same, u2_ab, u2_aq]; done) | (simp (disch := omega) only [u2_same, u2_ab, u2_aq]; omega) | fail)) only [al_12800, wk_0, wp_istore_2, wp_istore_3, wp_jsr, wp_iload_3, wp_aloadr_0, wp_aloadk_0, hg_0_2, hg_5_1, wn_ge_t, wn_ge_f, hg_0_9, hg_0_7, hp_20_3, hp_22_3, hp_24_3, wp_istore_4, wp_iload_4, wp_iload_1, wn_gt_t, wn_gt_f, wk_20, hg_0_10, hg_0_4, wk_1, wc_254, wp_pop, hg_0_17, ha_77l, ha_77s, wc_201, hg_26_10, wp_iinc_4_1, wp_goto, wc_202, wz_eq_t, wz_eq_f, wb_eq_t, wb_eq_f, wm_eq_1, wm_eq_2, wp_iload_2, wp_ishl, wp_ior, al_12804, wp_iinc_3_1, al_12805, wp_ireturn, nl_i, nl_r, nl_k, nl_j, nl_l, nI_add, pk_mul, pk_sub, tl_s, tl_n, aL_inl, u2_same, u2_ab, u2_aq, nI_l, lN_i, Nat.add_zero, Nat.zero_add, Nat.zero_le, true_and, and_true, b2n_10, b2n_T, b2n_F, b2n_0, Decidable.not_not, not_true_eq_false, not_false_eq_true, Nat.reduceAdd, Nat.reduceMul, Nat.reduceSub, wx_gt_t hlt]
    refine hK N I J (dr_rs hD) ?_
    intro a b hb hab
    refine hw a b hb ?_
    omega
  | succ j ih =>
    intro i N I J hj hD hw
    have hge : ¬ v < nI i := fun z => by have := (hv i (by omega)).mp z; omega
    rw [al_12802]
    simp (disch := (first | omega | exact aCat_8 (by with_unfolding_all rfl) | exact rk_lt (by with_unfolding_all rfl) | exact aCat_16 (by with_unfolding_all rfl) | exact rk_eq (by with_unfolding_all rfl) | assumption | exact b2n_lt _ | exact id_b (by with_unfolding_all rfl) | (simp (disch := omega) only [u2_same, u2_ab, u2_aq]; done) | (simp (disch := omega) only [u2_same, u2_ab, u2_aq]; omega) | fail)) only [al_12800, wk_0, wp_istore_2, wp_istore_3, wp_jsr, wp_iload_3, wp_aloadr_0, wp_aloadk_0, hg_0_2, hg_5_1, wn_ge_t, wn_ge_f, hg_0_9, hg_0_7, hp_20_3, hp_22_3, hp_24_3, wp_istore_4, wp_iload_4, wp_iload_1, wn_gt_t, wn_gt_f, wk_20, hg_0_10, hg_0_4, wk_1, wc_254, wp_pop, hg_0_17, ha_77l, ha_77s, wc_201, hg_26_10, wp_iinc_4_1, wp_goto, wc_202, wz_eq_t, wz_eq_f, wb_eq_t, wb_eq_f, wm_eq_1, wm_eq_2, wp_iload_2, wp_ishl, wp_ior, al_12804, wp_iinc_3_1, al_12805, wp_ireturn, nl_i, nl_r, nl_k, nl_j, nl_l, nI_add, pk_mul, pk_sub, tl_s, tl_n, aL_inl, u2_same, u2_ab, u2_aq, nI_l, lN_i, Nat.add_zero, Nat.zero_add, Nat.zero_le, true_and, and_true, b2n_10, b2n_T, b2n_F, b2n_0, Decidable.not_not, not_true_eq_false, not_false_eq_true, Nat.reduceAdd, Nat.reduceMul, Nat.reduceSub, wx_gt_f hge]
    refine dr_h h (col_it h hc (by omega) ht) (by omega) hD ?_
    intro N' I' J' hD' hc' h77
    simp (disch := (first | omega | exact aCat_8 (by with_unfolding_all rfl) | exact rk_lt (by with_unfolding_all rfl) | exact aCat_16 (by with_unfolding_all rfl) | exact rk_eq (by with_unfolding_all rfl) | assumption | exact b2n_lt _ | exact id_b (by with_unfolding_all rfl) | (simp (disch := omega) only [u2_same, u2_ab, u2_aq]; done) | (simp (disch := omega) only [u2_same, u2_ab, u2_aq]; omega) | fail)) only [al_12800, wk_0, wp_istore_2, wp_istore_3, wp_jsr, wp_iload_3, wp_aloadr_0, wp_aloadk_0, hg_0_2, hg_5_1, wn_ge_t, wn_ge_f, hg_0_9, hg_0_7, hp_20_3, hp_22_3, hp_24_3, wp_istore_4, wp_iload_4, wp_iload_1, wn_gt_t, wn_gt_f, wk_20, hg_0_10, hg_0_4, wk_1, wc_254, wp_pop, hg_0_17, ha_77l, ha_77s, wc_201, hg_26_10, wp_iinc_4_1, wp_goto, al_12803, wc_202, wz_eq_t, wz_eq_f, wb_eq_t, wb_eq_f, wm_eq_1, wm_eq_2, wp_iload_2, wp_ishl, wp_ior, al_12804, wp_iinc_3_1, al_12805, wp_ireturn, nl_i, nl_r, nl_k, nl_j, nl_l, nI_add, pk_mul, pk_sub, tl_s, tl_n, aL_inl, u2_same, u2_ab, u2_aq, nI_l, lN_i, Nat.add_zero, Nat.zero_add, Nat.zero_le, true_and, and_true, b2n_10, b2n_T, b2n_F, b2n_0, Decidable.not_not, not_true_eq_false, not_false_eq_true, Nat.reduceAdd, Nat.reduceMul, Nat.reduceSub, t_201 (show c ≤ 6 by omega) (show i ≤ 21 by omega)]
    refine ih (i + 1) N' I' _ (by omega) (dr_77 hD' (fun b q z => u2_ab z)) ?_
    intro a b hb hab f hf
    by_cases e : a = c ∧ b = i
    · rw [e.1, e.2, u2_same]
      exact hc'.2.2.1 f hf
    · have hne : a * 21 + b ≠ c * 21 + i := by omega
      rw [u2_aq hne, h77]
      exact hw a b hb (by omega) f hf
end F1
