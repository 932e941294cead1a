/-! rules: the class reads. From wip/whole/src. -/
/-- the class's reader stands so -/
def rdC (N : Nat → Nat → Nat) (I : Nat → Nat → Int32) (s : rdS) : Prop := N 17 2 = s.1.length ∧ stk (I 18) enc s.1 ∧ N 17 3 = s.2.1.length ∧ stk (I 19) enc s.2.1 ∧ N 17 4 = s.2.2.1 ∧ N 17 5 = s.2.2.2.1 ∧ N 17 6 = b2n (s.2.2.2.2 = true)
def fr17 (N' N : Nat → Nat → Nat) : Prop := ∀ b q, b ≠ 17 → N' b q = N b q
def fr18 (I' I : Nat → Nat → Int32) : Prop := ∀ b q, b ≠ 18 → b ≠ 19 → I' b q = I b q
theorem fr17_t {A B C : Nat → Nat → Nat} (h : fr17 A B) (h2 : fr17 B C) : fr17 A C := fun b q z => (h b q z).trans (h2 b q z)
theorem fr18_t {A B C : Nat → Nat → Int32} (h : fr18 A B) (h2 : fr18 B C) : fr18 A C := fun b q z y => (h b q z y).trans (h2 b q z y)
theorem fr17_u {N : Nat → Nat → Nat} {j v : Nat} : fr17 (u2 N 17 j v) N := fun b q z => u2_ab z
theorem fr18_8 {I : Nat → Nat → Int32} {j : Nat} {v : Int32} : fr18 (u2 I 18 j v) I := fun b q z _ => u2_ab z
theorem fr18_9 {I : Nat → Nat → Int32} {j : Nat} {v : Int32} : fr18 (u2 I 19 j v) I := fun b q _ z => u2_ab z
theorem fr18_r {I : Nat → Nat → Int32} : fr18 I I := fun _ _ _ _ => rfl
/-- the constant row of steps -/
def koF (ko : aKo) : Prop := (ko 1).1 = .int ∧ (ko 1).2.1 = 7 ∧ ∀ k, k < 7 → (ko 1).2.2 k = enc (c0 k)
theorem enc_t {i : Nat} (h : i ≤ 1006) : enc i = nI i := by
  unfold enc
  rw [if_neg (by omega), if_neg (by omega), if_neg (by omega), if_neg (by omega), if_neg (by omega), if_neg (by omega), if_neg (by omega), if_neg (by omega)]
section RB
variable {ko : aKo} {d k : Nat} {is : List Instr} {ls st : List Value} {σ : aH} {D : Nat → Nat} {N : Nat → Nat → Nat} {I : Nat → Nat → Int32} {J : Nat → Nat → Int64} {x t : Nat} {Q : Option Value → aH → Prop} {P : (Option Value ⊕ Unit) → aH → Prop}
theorem rd_o {o w : List Nat} {ne dg c : Nat} {wa : Bool} (h : rdC N I (o, w, ne, dg, wa)) {v : Int32} (hv : v = enc c) : rdC (u2 N 17 2 (o.length + 1)) (u2 I 18 o.length v) (c :: o, w, ne, dg, wa) := by
  obtain ⟨h1, h2, h3, h4, h5, h6, h7⟩ := h
  refine ⟨u2_same _ _ _ _, ⟨by rw [u2_same]; exact hv, stk_f (fun q hq => u2_aq (by omega)) h2⟩, (u2_aq (by decide)).trans h3, ?_, (u2_aq (by decide)).trans h5, (u2_aq (by decide)).trans h6, (u2_aq (by decide)).trans h7⟩
  rw [u2_nb (by decide)]
  exact h4
theorem rd_w {o w : List Nat} {ne dg c : Nat} {wa : Bool} (h : rdC N I (o, w, ne, dg, wa)) {v : Int32} (hv : v = enc c) : rdC (u2 N 17 3 (w.length + 1)) (u2 I 19 w.length v) (o, c :: w, ne, dg, wa) := by
  obtain ⟨h1, h2, h3, h4, h5, h6, h7⟩ := h
  refine ⟨(u2_aq (by decide)).trans h1, ?_, u2_same _ _ _ _, ⟨by rw [u2_same]; exact hv, stk_f (fun q hq => u2_aq (by omega)) h4⟩, (u2_aq (by decide)).trans h5, (u2_aq (by decide)).trans h6, (u2_aq (by decide)).trans h7⟩
  rw [u2_nb (by decide)]
  exact h2
theorem rd_p {o w : List Nat} {ne dg j : Nat} {wa : Bool} (h : rdC N I (o, j :: w, ne, dg, wa)) : rdC (u2 N 17 3 w.length) I (o, w, ne, dg, wa) := by
  obtain ⟨h1, h2, h3, h4, h5, h6, h7⟩ := h
  exact ⟨(u2_aq (by decide)).trans h1, h2, u2_same _ _ _ _, h4.2, (u2_aq (by decide)).trans h5, (u2_aq (by decide)).trans h6, (u2_aq (by decide)).trans h7⟩
theorem rd_n {o w : List Nat} {ne dg ne' : Nat} {wa : Bool} (h : rdC N I (o, w, ne, dg, wa)) : rdC (u2 N 17 4 ne') I (o, w, ne', dg, wa) := by
  obtain ⟨h1, h2, h3, h4, h5, h6, h7⟩ := h
  exact ⟨(u2_aq (by decide)).trans h1, h2, (u2_aq (by decide)).trans h3, h4, u2_same _ _ _ _, (u2_aq (by decide)).trans h6, (u2_aq (by decide)).trans h7⟩
theorem rd_d {o w : List Nat} {ne dg dg' : Nat} {wa : Bool} (h : rdC N I (o, w, ne, dg, wa)) : rdC (u2 N 17 5 dg') I (o, w, ne, dg', wa) := by
  obtain ⟨h1, h2, h3, h4, h5, h6, h7⟩ := h
  exact ⟨(u2_aq (by decide)).trans h1, h2, (u2_aq (by decide)).trans h3, h4, (u2_aq (by decide)).trans h5, u2_same _ _ _ _, (u2_aq (by decide)).trans h7⟩
theorem rd_a {o w : List Nat} {ne dg v : Nat} {wa wb : Bool} (h : rdC N I (o, w, ne, dg, wa)) (hv : v = b2n (wb = true)) : rdC (u2 N 17 6 v) I (o, w, ne, dg, wb) := by
  obtain ⟨h1, h2, h3, h4, h5, h6, h7⟩ := h
  exact ⟨(u2_aq (by decide)).trans h1, h2, (u2_aq (by decide)).trans h3, h4, (u2_aq (by decide)).trans h5, (u2_aq (by decide)).trans h6, (u2_same _ _ _ _).trans hv⟩
theorem t_273 {n : Nat} {v : Int32} (h2 : N 17 2 = n) (hn : n < 40) : aMm ko d 273 [.ref 17, .int v] (hp D N I J x) Q = Q none (hp D (u2 N 17 2 (n + 1)) (u2 I 18 n v) J x) := by
  rw [me_273]
  simp (disch := (first | omega | exact aCat_8 (by with_unfolding_all rfl) | exact rk_lt (by with_unfolding_all rfl) | exact aCat_16 (by with_unfolding_all rfl) | exact rk_eq (by with_unfolding_all rfl) | assumption | exact b2n_lt _ | exact id_b (by with_unfolding_all rfl) | (simp (disch := omega) only [u2_same, u2_ab, u2_aq]; done) | (simp (disch := omega) only [u2_same, u2_ab, u2_aq]; omega) | fail)) only [al_17472, wp_aloadr_0, wp_aloadk_0, hg_17_2, wk_40, wn_ge_t, wn_ge_f, hg_17_0, ha_18l, ha_18s, wp_iload_1, wp_dupi, wp_dupr, wk_1, wp_iadd, hp_17_2, wp_jsr, al_17473, wp_return, nl_i, nl_r, nl_k, nl_j, nl_l, nI_add, pk_mul, pk_sub, tl_s, tl_n, aL_inl, u2_same, u2_ab, u2_aq, nI_l, lN_i, Nat.add_zero, Nat.zero_add, Nat.zero_le, true_and, and_true, b2n_10, b2n_T, b2n_F, b2n_0, Decidable.not_not, not_true_eq_false, not_false_eq_true, Nat.reduceAdd, Nat.reduceMul, Nat.reduceSub, h2]
theorem t_275 {n : Nat} {v : Int32} (h2 : N 17 3 = n) (hn : n < 40) : aMm ko d 275 [.ref 17, .int v] (hp D N I J x) Q = Q none (hp D (u2 N 17 3 (n + 1)) (u2 I 19 n v) J x) := by
  rw [me_275]
  simp (disch := (first | omega | exact aCat_8 (by with_unfolding_all rfl) | exact rk_lt (by with_unfolding_all rfl) | exact aCat_16 (by with_unfolding_all rfl) | exact rk_eq (by with_unfolding_all rfl) | assumption | exact b2n_lt _ | exact id_b (by with_unfolding_all rfl) | (simp (disch := omega) only [u2_same, u2_ab, u2_aq]; done) | (simp (disch := omega) only [u2_same, u2_ab, u2_aq]; omega) | fail)) only [al_17600, wp_aloadr_0, wp_aloadk_0, hg_17_3, wk_40, wn_ge_t, wn_ge_f, hg_17_1, ha_19l, ha_19s, wp_iload_1, wp_dupi, wp_dupr, wk_1, wp_iadd, hp_17_3, wp_jsr, al_17601, wp_return, nl_i, nl_r, nl_k, nl_j, nl_l, nI_add, pk_mul, pk_sub, tl_s, tl_n, aL_inl, u2_same, u2_ab, u2_aq, nI_l, lN_i, Nat.add_zero, Nat.zero_add, Nat.zero_le, true_and, and_true, b2n_10, b2n_T, b2n_F, b2n_0, Decidable.not_not, not_true_eq_false, not_false_eq_true, Nat.reduceAdd, Nat.reduceMul, Nat.reduceSub, h2]
theorem t_278 {j : Nat} (hj : jok j) : aMm ko d 278 [.int (enc j)] σ Q = Q (some (.int (nI (bnd j)))) σ := by
  rw [me_278]
  have h9 : j = 0 ∨ j = 3000 ∨ j = 2000 ∨ j = 2001 ∨ j = 2002 ∨ j = 2003 ∨ j = 2004 ∨ j = 2005 ∨ j = 2006 := by
    unfold jok at hj
    omega
  rcases h9 with rfl | rfl | rfl | rfl | rfl | rfl | rfl | rfl | rfl
  · simp (disch := (first | omega | exact aCat_8 (by with_unfolding_all rfl) | exact rk_lt (by with_unfolding_all rfl) | exact aCat_16 (by with_unfolding_all rfl) | exact rk_eq (by with_unfolding_all rfl) | assumption | exact b2n_lt _ | exact id_b (by with_unfolding_all rfl) | (simp (disch := omega) only [u2_same, u2_ab, u2_aq]; done) | (simp (disch := omega) only [u2_same, u2_ab, u2_aq]; omega) | fail)) only [al_17792, wp_iload_0, al_17793, wk_0, wp_ireturn, al_17794, wk_4, al_17795, wk_3, al_17796, wk_2, al_17797, wk_1, nl_i, nl_r, nl_k, nl_j, nl_l, nI_add, pk_mul, pk_sub, tl_s, tl_n, aL_inl, u2_same, u2_ab, u2_aq, nI_l, lN_i, Nat.add_zero, Nat.zero_add, Nat.zero_le, true_and, and_true, b2n_10, b2n_T, b2n_F, b2n_0, Decidable.not_not, not_true_eq_false, not_false_eq_true, Nat.reduceAdd, Nat.reduceMul, Nat.reduceSub]
    rw [wp_tsw (L := 17793) (by decide)]
    simp (disch := (first | omega | exact aCat_8 (by with_unfolding_all rfl) | exact rk_lt (by with_unfolding_all rfl) | exact aCat_16 (by with_unfolding_all rfl) | exact rk_eq (by with_unfolding_all rfl) | assumption | exact b2n_lt _ | exact id_b (by with_unfolding_all rfl) | (simp (disch := omega) only [u2_same, u2_ab, u2_aq]; done) | (simp (disch := omega) only [u2_same, u2_ab, u2_aq]; omega) | fail)) only [al_17792, wp_iload_0, al_17793, wk_0, wp_ireturn, al_17794, wk_4, al_17795, wk_3, al_17796, wk_2, al_17797, wk_1, nl_i, nl_r, nl_k, nl_j, nl_l, nI_add, pk_mul, pk_sub, tl_s, tl_n, aL_inl, u2_same, u2_ab, u2_aq, nI_l, lN_i, Nat.add_zero, Nat.zero_add, Nat.zero_le, true_and, and_true, b2n_10, b2n_T, b2n_F, b2n_0, Decidable.not_not, not_true_eq_false, not_false_eq_true, Nat.reduceAdd, Nat.reduceMul, Nat.reduceSub]
    rfl
  · simp (disch := (first | omega | exact aCat_8 (by with_unfolding_all rfl) | exact rk_lt (by with_unfolding_all rfl) | exact aCat_16 (by with_unfolding_all rfl) | exact rk_eq (by with_unfolding_all rfl) | assumption | exact b2n_lt _ | exact id_b (by with_unfolding_all rfl) | (simp (disch := omega) only [u2_same, u2_ab, u2_aq]; done) | (simp (disch := omega) only [u2_same, u2_ab, u2_aq]; omega) | fail)) only [al_17792, wp_iload_0, al_17793, wk_0, wp_ireturn, al_17794, wk_4, al_17795, wk_3, al_17796, wk_2, al_17797, wk_1, nl_i, nl_r, nl_k, nl_j, nl_l, nI_add, pk_mul, pk_sub, tl_s, tl_n, aL_inl, u2_same, u2_ab, u2_aq, nI_l, lN_i, Nat.add_zero, Nat.zero_add, Nat.zero_le, true_and, and_true, b2n_10, b2n_T, b2n_F, b2n_0, Decidable.not_not, not_true_eq_false, not_false_eq_true, Nat.reduceAdd, Nat.reduceMul, Nat.reduceSub]
    rw [wp_tsw (L := 17794) (by decide)]
    simp (disch := (first | omega | exact aCat_8 (by with_unfolding_all rfl) | exact rk_lt (by with_unfolding_all rfl) | exact aCat_16 (by with_unfolding_all rfl) | exact rk_eq (by with_unfolding_all rfl) | assumption | exact b2n_lt _ | exact id_b (by with_unfolding_all rfl) | (simp (disch := omega) only [u2_same, u2_ab, u2_aq]; done) | (simp (disch := omega) only [u2_same, u2_ab, u2_aq]; omega) | fail)) only [al_17792, wp_iload_0, al_17793, wk_0, wp_ireturn, al_17794, wk_4, al_17795, wk_3, al_17796, wk_2, al_17797, wk_1, nl_i, nl_r, nl_k, nl_j, nl_l, nI_add, pk_mul, pk_sub, tl_s, tl_n, aL_inl, u2_same, u2_ab, u2_aq, nI_l, lN_i, Nat.add_zero, Nat.zero_add, Nat.zero_le, true_and, and_true, b2n_10, b2n_T, b2n_F, b2n_0, Decidable.not_not, not_true_eq_false, not_false_eq_true, Nat.reduceAdd, Nat.reduceMul, Nat.reduceSub]
    rfl
  · simp (disch := (first | omega | exact aCat_8 (by with_unfolding_all rfl) | exact rk_lt (by with_unfolding_all rfl) | exact aCat_16 (by with_unfolding_all rfl) | exact rk_eq (by with_unfolding_all rfl) | assumption | exact b2n_lt _ | exact id_b (by with_unfolding_all rfl) | (simp (disch := omega) only [u2_same, u2_ab, u2_aq]; done) | (simp (disch := omega) only [u2_same, u2_ab, u2_aq]; omega) | fail)) only [al_17792, wp_iload_0, al_17793, wk_0, wp_ireturn, al_17794, wk_4, al_17795, wk_3, al_17796, wk_2, al_17797, wk_1, nl_i, nl_r, nl_k, nl_j, nl_l, nI_add, pk_mul, pk_sub, tl_s, tl_n, aL_inl, u2_same, u2_ab, u2_aq, nI_l, lN_i, Nat.add_zero, Nat.zero_add, Nat.zero_le, true_and, and_true, b2n_10, b2n_T, b2n_F, b2n_0, Decidable.not_not, not_true_eq_false, not_false_eq_true, Nat.reduceAdd, Nat.reduceMul, Nat.reduceSub]
    rw [wp_tsw (L := 17797) (by decide)]
    simp (disch := (first | omega | exact aCat_8 (by with_unfolding_all rfl) | exact rk_lt (by with_unfolding_all rfl) | exact aCat_16 (by with_unfolding_all rfl) | exact rk_eq (by with_unfolding_all rfl) | assumption | exact b2n_lt _ | exact id_b (by with_unfolding_all rfl) | (simp (disch := omega) only [u2_same, u2_ab, u2_aq]; done) | (simp (disch := omega) only [u2_same, u2_ab, u2_aq]; omega) | fail)) only [al_17792, wp_iload_0, al_17793, wk_0, wp_ireturn, al_17794, wk_4, al_17795, wk_3, al_17796, wk_2, al_17797, wk_1, nl_i, nl_r, nl_k, nl_j, nl_l, nI_add, pk_mul, pk_sub, tl_s, tl_n, aL_inl, u2_same, u2_ab, u2_aq, nI_l, lN_i, Nat.add_zero, Nat.zero_add, Nat.zero_le, true_and, and_true, b2n_10, b2n_T, b2n_F, b2n_0, Decidable.not_not, not_true_eq_false, not_false_eq_true, Nat.reduceAdd, Nat.reduceMul, Nat.reduceSub]
    rfl
  · simp (disch := (first | omega | exact aCat_8 (by with_unfolding_all rfl) | exact rk_lt (by with_unfolding_all rfl) | exact aCat_16 (by with_unfolding_all rfl) | exact rk_eq (by with_unfolding_all rfl) | assumption | exact b2n_lt _ | exact id_b (by with_unfolding_all rfl) | (simp (disch := omega) only [u2_same, u2_ab, u2_aq]; done) | (simp (disch := omega) only [u2_same, u2_ab, u2_aq]; omega) | fail)) only [al_17792, wp_iload_0, al_17793, wk_0, wp_ireturn, al_17794, wk_4, al_17795, wk_3, al_17796, wk_2, al_17797, wk_1, nl_i, nl_r, nl_k, nl_j, nl_l, nI_add, pk_mul, pk_sub, tl_s, tl_n, aL_inl, u2_same, u2_ab, u2_aq, nI_l, lN_i, Nat.add_zero, Nat.zero_add, Nat.zero_le, true_and, and_true, b2n_10, b2n_T, b2n_F, b2n_0, Decidable.not_not, not_true_eq_false, not_false_eq_true, Nat.reduceAdd, Nat.reduceMul, Nat.reduceSub]
    rw [wp_tsw (L := 17797) (by decide)]
    simp (disch := (first | omega | exact aCat_8 (by with_unfolding_all rfl) | exact rk_lt (by with_unfolding_all rfl) | exact aCat_16 (by with_unfolding_all rfl) | exact rk_eq (by with_unfolding_all rfl) | assumption | exact b2n_lt _ | exact id_b (by with_unfolding_all rfl) | (simp (disch := omega) only [u2_same, u2_ab, u2_aq]; done) | (simp (disch := omega) only [u2_same, u2_ab, u2_aq]; omega) | fail)) only [al_17792, wp_iload_0, al_17793, wk_0, wp_ireturn, al_17794, wk_4, al_17795, wk_3, al_17796, wk_2, al_17797, wk_1, nl_i, nl_r, nl_k, nl_j, nl_l, nI_add, pk_mul, pk_sub, tl_s, tl_n, aL_inl, u2_same, u2_ab, u2_aq, nI_l, lN_i, Nat.add_zero, Nat.zero_add, Nat.zero_le, true_and, and_true, b2n_10, b2n_T, b2n_F, b2n_0, Decidable.not_not, not_true_eq_false, not_false_eq_true, Nat.reduceAdd, Nat.reduceMul, Nat.reduceSub]
    rfl
  · simp (disch := (first | omega | exact aCat_8 (by with_unfolding_all rfl) | exact rk_lt (by with_unfolding_all rfl) | exact aCat_16 (by with_unfolding_all rfl) | exact rk_eq (by with_unfolding_all rfl) | assumption | exact b2n_lt _ | exact id_b (by with_unfolding_all rfl) | (simp (disch := omega) only [u2_same, u2_ab, u2_aq]; done) | (simp (disch := omega) only [u2_same, u2_ab, u2_aq]; omega) | fail)) only [al_17792, wp_iload_0, al_17793, wk_0, wp_ireturn, al_17794, wk_4, al_17795, wk_3, al_17796, wk_2, al_17797, wk_1, nl_i, nl_r, nl_k, nl_j, nl_l, nI_add, pk_mul, pk_sub, tl_s, tl_n, aL_inl, u2_same, u2_ab, u2_aq, nI_l, lN_i, Nat.add_zero, Nat.zero_add, Nat.zero_le, true_and, and_true, b2n_10, b2n_T, b2n_F, b2n_0, Decidable.not_not, not_true_eq_false, not_false_eq_true, Nat.reduceAdd, Nat.reduceMul, Nat.reduceSub]
    rw [wp_tsw (L := 17797) (by decide)]
    simp (disch := (first | omega | exact aCat_8 (by with_unfolding_all rfl) | exact rk_lt (by with_unfolding_all rfl) | exact aCat_16 (by with_unfolding_all rfl) | exact rk_eq (by with_unfolding_all rfl) | assumption | exact b2n_lt _ | exact id_b (by with_unfolding_all rfl) | (simp (disch := omega) only [u2_same, u2_ab, u2_aq]; done) | (simp (disch := omega) only [u2_same, u2_ab, u2_aq]; omega) | fail)) only [al_17792, wp_iload_0, al_17793, wk_0, wp_ireturn, al_17794, wk_4, al_17795, wk_3, al_17796, wk_2, al_17797, wk_1, nl_i, nl_r, nl_k, nl_j, nl_l, nI_add, pk_mul, pk_sub, tl_s, tl_n, aL_inl, u2_same, u2_ab, u2_aq, nI_l, lN_i, Nat.add_zero, Nat.zero_add, Nat.zero_le, true_and, and_true, b2n_10, b2n_T, b2n_F, b2n_0, Decidable.not_not, not_true_eq_false, not_false_eq_true, Nat.reduceAdd, Nat.reduceMul, Nat.reduceSub]
    rfl
  · simp (disch := (first | omega | exact aCat_8 (by with_unfolding_all rfl) | exact rk_lt (by with_unfolding_all rfl) | exact aCat_16 (by with_unfolding_all rfl) | exact rk_eq (by with_unfolding_all rfl) | assumption | exact b2n_lt _ | exact id_b (by with_unfolding_all rfl) | (simp (disch := omega) only [u2_same, u2_ab, u2_aq]; done) | (simp (disch := omega) only [u2_same, u2_ab, u2_aq]; omega) | fail)) only [al_17792, wp_iload_0, al_17793, wk_0, wp_ireturn, al_17794, wk_4, al_17795, wk_3, al_17796, wk_2, al_17797, wk_1, nl_i, nl_r, nl_k, nl_j, nl_l, nI_add, pk_mul, pk_sub, tl_s, tl_n, aL_inl, u2_same, u2_ab, u2_aq, nI_l, lN_i, Nat.add_zero, Nat.zero_add, Nat.zero_le, true_and, and_true, b2n_10, b2n_T, b2n_F, b2n_0, Decidable.not_not, not_true_eq_false, not_false_eq_true, Nat.reduceAdd, Nat.reduceMul, Nat.reduceSub]
    rw [wp_tsw (L := 17796) (by decide)]
    simp (disch := (first | omega | exact aCat_8 (by with_unfolding_all rfl) | exact rk_lt (by with_unfolding_all rfl) | exact aCat_16 (by with_unfolding_all rfl) | exact rk_eq (by with_unfolding_all rfl) | assumption | exact b2n_lt _ | exact id_b (by with_unfolding_all rfl) | (simp (disch := omega) only [u2_same, u2_ab, u2_aq]; done) | (simp (disch := omega) only [u2_same, u2_ab, u2_aq]; omega) | fail)) only [al_17792, wp_iload_0, al_17793, wk_0, wp_ireturn, al_17794, wk_4, al_17795, wk_3, al_17796, wk_2, al_17797, wk_1, nl_i, nl_r, nl_k, nl_j, nl_l, nI_add, pk_mul, pk_sub, tl_s, tl_n, aL_inl, u2_same, u2_ab, u2_aq, nI_l, lN_i, Nat.add_zero, Nat.zero_add, Nat.zero_le, true_and, and_true, b2n_10, b2n_T, b2n_F, b2n_0, Decidable.not_not, not_true_eq_false, not_false_eq_true, Nat.reduceAdd, Nat.reduceMul, Nat.reduceSub]
    rfl
  · simp (disch := (first | omega | exact aCat_8 (by with_unfolding_all rfl) | exact rk_lt (by with_unfolding_all rfl) | exact aCat_16 (by with_unfolding_all rfl) | exact rk_eq (by with_unfolding_all rfl) | assumption | exact b2n_lt _ | exact id_b (by with_unfolding_all rfl) | (simp (disch := omega) only [u2_same, u2_ab, u2_aq]; done) | (simp (disch := omega) only [u2_same, u2_ab, u2_aq]; omega) | fail)) only [al_17792, wp_iload_0, al_17793, wk_0, wp_ireturn, al_17794, wk_4, al_17795, wk_3, al_17796, wk_2, al_17797, wk_1, nl_i, nl_r, nl_k, nl_j, nl_l, nI_add, pk_mul, pk_sub, tl_s, tl_n, aL_inl, u2_same, u2_ab, u2_aq, nI_l, lN_i, Nat.add_zero, Nat.zero_add, Nat.zero_le, true_and, and_true, b2n_10, b2n_T, b2n_F, b2n_0, Decidable.not_not, not_true_eq_false, not_false_eq_true, Nat.reduceAdd, Nat.reduceMul, Nat.reduceSub]
    rw [wp_tsw (L := 17796) (by decide)]
    simp (disch := (first | omega | exact aCat_8 (by with_unfolding_all rfl) | exact rk_lt (by with_unfolding_all rfl) | exact aCat_16 (by with_unfolding_all rfl) | exact rk_eq (by with_unfolding_all rfl) | assumption | exact b2n_lt _ | exact id_b (by with_unfolding_all rfl) | (simp (disch := omega) only [u2_same, u2_ab, u2_aq]; done) | (simp (disch := omega) only [u2_same, u2_ab, u2_aq]; omega) | fail)) only [al_17792, wp_iload_0, al_17793, wk_0, wp_ireturn, al_17794, wk_4, al_17795, wk_3, al_17796, wk_2, al_17797, wk_1, nl_i, nl_r, nl_k, nl_j, nl_l, nI_add, pk_mul, pk_sub, tl_s, tl_n, aL_inl, u2_same, u2_ab, u2_aq, nI_l, lN_i, Nat.add_zero, Nat.zero_add, Nat.zero_le, true_and, and_true, b2n_10, b2n_T, b2n_F, b2n_0, Decidable.not_not, not_true_eq_false, not_false_eq_true, Nat.reduceAdd, Nat.reduceMul, Nat.reduceSub]
    rfl
  · simp (disch := (first | omega | exact aCat_8 (by with_unfolding_all rfl) | exact rk_lt (by with_unfolding_all rfl) | exact aCat_16 (by with_unfolding_all rfl) | exact rk_eq (by with_unfolding_all rfl) | assumption | exact b2n_lt _ | exact id_b (by with_unfolding_all rfl) | (simp (disch := omega) only [u2_same, u2_ab, u2_aq]; done) | (simp (disch := omega) only [u2_same, u2_ab, u2_aq]; omega) | fail)) only [al_17792, wp_iload_0, al_17793, wk_0, wp_ireturn, al_17794, wk_4, al_17795, wk_3, al_17796, wk_2, al_17797, wk_1, nl_i, nl_r, nl_k, nl_j, nl_l, nI_add, pk_mul, pk_sub, tl_s, tl_n, aL_inl, u2_same, u2_ab, u2_aq, nI_l, lN_i, Nat.add_zero, Nat.zero_add, Nat.zero_le, true_and, and_true, b2n_10, b2n_T, b2n_F, b2n_0, Decidable.not_not, not_true_eq_false, not_false_eq_true, Nat.reduceAdd, Nat.reduceMul, Nat.reduceSub]
    rw [wp_tsw (L := 17795) (by decide)]
    simp (disch := (first | omega | exact aCat_8 (by with_unfolding_all rfl) | exact rk_lt (by with_unfolding_all rfl) | exact aCat_16 (by with_unfolding_all rfl) | exact rk_eq (by with_unfolding_all rfl) | assumption | exact b2n_lt _ | exact id_b (by with_unfolding_all rfl) | (simp (disch := omega) only [u2_same, u2_ab, u2_aq]; done) | (simp (disch := omega) only [u2_same, u2_ab, u2_aq]; omega) | fail)) only [al_17792, wp_iload_0, al_17793, wk_0, wp_ireturn, al_17794, wk_4, al_17795, wk_3, al_17796, wk_2, al_17797, wk_1, nl_i, nl_r, nl_k, nl_j, nl_l, nI_add, pk_mul, pk_sub, tl_s, tl_n, aL_inl, u2_same, u2_ab, u2_aq, nI_l, lN_i, Nat.add_zero, Nat.zero_add, Nat.zero_le, true_and, and_true, b2n_10, b2n_T, b2n_F, b2n_0, Decidable.not_not, not_true_eq_false, not_false_eq_true, Nat.reduceAdd, Nat.reduceMul, Nat.reduceSub]
    rfl
  · simp (disch := (first | omega | exact aCat_8 (by with_unfolding_all rfl) | exact rk_lt (by with_unfolding_all rfl) | exact aCat_16 (by with_unfolding_all rfl) | exact rk_eq (by with_unfolding_all rfl) | assumption | exact b2n_lt _ | exact id_b (by with_unfolding_all rfl) | (simp (disch := omega) only [u2_same, u2_ab, u2_aq]; done) | (simp (disch := omega) only [u2_same, u2_ab, u2_aq]; omega) | fail)) only [al_17792, wp_iload_0, al_17793, wk_0, wp_ireturn, al_17794, wk_4, al_17795, wk_3, al_17796, wk_2, al_17797, wk_1, nl_i, nl_r, nl_k, nl_j, nl_l, nI_add, pk_mul, pk_sub, tl_s, tl_n, aL_inl, u2_same, u2_ab, u2_aq, nI_l, lN_i, Nat.add_zero, Nat.zero_add, Nat.zero_le, true_and, and_true, b2n_10, b2n_T, b2n_F, b2n_0, Decidable.not_not, not_true_eq_false, not_false_eq_true, Nat.reduceAdd, Nat.reduceMul, Nat.reduceSub]
    rw [wp_tsw (L := 17795) (by decide)]
    simp (disch := (first | omega | exact aCat_8 (by with_unfolding_all rfl) | exact rk_lt (by with_unfolding_all rfl) | exact aCat_16 (by with_unfolding_all rfl) | exact rk_eq (by with_unfolding_all rfl) | assumption | exact b2n_lt _ | exact id_b (by with_unfolding_all rfl) | (simp (disch := omega) only [u2_same, u2_ab, u2_aq]; done) | (simp (disch := omega) only [u2_same, u2_ab, u2_aq]; omega) | fail)) only [al_17792, wp_iload_0, al_17793, wk_0, wp_ireturn, al_17794, wk_4, al_17795, wk_3, al_17796, wk_2, al_17797, wk_1, nl_i, nl_r, nl_k, nl_j, nl_l, nI_add, pk_mul, pk_sub, tl_s, tl_n, aL_inl, u2_same, u2_ab, u2_aq, nI_l, lN_i, Nat.add_zero, Nat.zero_add, Nat.zero_le, true_and, and_true, b2n_10, b2n_T, b2n_F, b2n_0, Decidable.not_not, not_true_eq_false, not_false_eq_true, Nat.reduceAdd, Nat.reduceMul, Nat.reduceSub]
    rfl
def jnI (c : Nat) : Int32 := match jn c with
  | none => 1
  | some j => enc j
theorem t_279n {c : Nat} (hc : c < 256) (h : jn c = none) : aMm ko d 279 [.int (nI c)] σ Q = Q (some (.int (nI 1))) σ := by
  have hL : (if (nI c).toInt < 42 ∨ 62 < (nI c).toInt then (17864 : Int) else (#[17857, 17859, 17864, 17860, 17864, 17858, 17864, 17864, 17864, 17864, 17864, 17864, 17864, 17864, 17864, 17864, 17864, 17864, 17861, 17863, 17862] : Array Int).toList.getD ((nI c).toInt - 42).toNat 17864) = 17864 := by
    rw [nI_toInt (by omega)]
    by_cases z : c < 42 ∨ 62 < c
    · rw [if_pos (by omega)]
    · rw [if_neg (by omega)]
      have h9 : c = 42 ∨ c = 43 ∨ c = 44 ∨ c = 45 ∨ c = 46 ∨ c = 47 ∨ c = 48 ∨ c = 49 ∨ c = 50 ∨ c = 51 ∨ c = 52 ∨ c = 53 ∨ c = 54 ∨ c = 55 ∨ c = 56 ∨ c = 57 ∨ c = 58 ∨ c = 59 ∨ c = 60 ∨ c = 61 ∨ c = 62 := by omega
      rcases h9 with rfl | rfl | rfl | rfl | rfl | rfl | rfl | rfl | rfl | rfl | rfl | rfl | rfl | rfl | rfl | rfl | rfl | rfl | rfl | rfl | rfl <;> first | (cases h; done) | rfl
  rw [me_279]
  simp (disch := (first | omega | exact aCat_8 (by with_unfolding_all rfl) | exact rk_lt (by with_unfolding_all rfl) | exact aCat_16 (by with_unfolding_all rfl) | exact rk_eq (by with_unfolding_all rfl) | assumption | exact b2n_lt _ | exact id_b (by with_unfolding_all rfl) | (simp (disch := omega) only [u2_same, u2_ab, u2_aq]; done) | (simp (disch := omega) only [u2_same, u2_ab, u2_aq]; omega) | fail)) only [al_17856, wp_iload_0, al_17857, wk_m2, wp_ireturn, al_17858, wk_m3, al_17859, wk_m4, al_17860, wk_m5, al_17861, wk_m6, al_17862, wk_m7, al_17863, wk_m8, al_17864, wk_1, nl_i, nl_r, nl_k, nl_j, nl_l, nI_add, pk_mul, pk_sub, tl_s, tl_n, aL_inl, u2_same, u2_ab, u2_aq, nI_l, lN_i, Nat.add_zero, Nat.zero_add, Nat.zero_le, true_and, and_true, b2n_10, b2n_T, b2n_F, b2n_0, Decidable.not_not, not_true_eq_false, not_false_eq_true, Nat.reduceAdd, Nat.reduceMul, Nat.reduceSub]
  rw [wp_tsw hL]
  simp (disch := (first | omega | exact aCat_8 (by with_unfolding_all rfl) | exact rk_lt (by with_unfolding_all rfl) | exact aCat_16 (by with_unfolding_all rfl) | exact rk_eq (by with_unfolding_all rfl) | assumption | exact b2n_lt _ | exact id_b (by with_unfolding_all rfl) | (simp (disch := omega) only [u2_same, u2_ab, u2_aq]; done) | (simp (disch := omega) only [u2_same, u2_ab, u2_aq]; omega) | fail)) only [al_17856, wp_iload_0, al_17857, wk_m2, wp_ireturn, al_17858, wk_m3, al_17859, wk_m4, al_17860, wk_m5, al_17861, wk_m6, al_17862, wk_m7, al_17863, wk_m8, al_17864, wk_1, nl_i, nl_r, nl_k, nl_j, nl_l, nI_add, pk_mul, pk_sub, tl_s, tl_n, aL_inl, u2_same, u2_ab, u2_aq, nI_l, lN_i, Nat.add_zero, Nat.zero_add, Nat.zero_le, true_and, and_true, b2n_10, b2n_T, b2n_F, b2n_0, Decidable.not_not, not_true_eq_false, not_false_eq_true, Nat.reduceAdd, Nat.reduceMul, Nat.reduceSub]
theorem t_279 {c j : Nat} (h : jn c = some j) : aMm ko d 279 [.int (nI c)] σ Q = Q (some (.int (enc j))) σ := by
  rw [me_279]
  rcases jn_cs h with ⟨rfl, rfl⟩ | ⟨rfl, rfl⟩ | ⟨rfl, rfl⟩ | ⟨rfl, rfl⟩ | ⟨rfl, rfl⟩ | ⟨rfl, rfl⟩ | ⟨rfl, rfl⟩
  · simp (disch := (first | omega | exact aCat_8 (by with_unfolding_all rfl) | exact rk_lt (by with_unfolding_all rfl) | exact aCat_16 (by with_unfolding_all rfl) | exact rk_eq (by with_unfolding_all rfl) | assumption | exact b2n_lt _ | exact id_b (by with_unfolding_all rfl) | (simp (disch := omega) only [u2_same, u2_ab, u2_aq]; done) | (simp (disch := omega) only [u2_same, u2_ab, u2_aq]; omega) | fail)) only [al_17856, wp_iload_0, al_17857, wk_m2, wp_ireturn, al_17858, wk_m3, al_17859, wk_m4, al_17860, wk_m5, al_17861, wk_m6, al_17862, wk_m7, al_17863, wk_m8, al_17864, wk_1, nl_i, nl_r, nl_k, nl_j, nl_l, nI_add, pk_mul, pk_sub, tl_s, tl_n, aL_inl, u2_same, u2_ab, u2_aq, nI_l, lN_i, Nat.add_zero, Nat.zero_add, Nat.zero_le, true_and, and_true, b2n_10, b2n_T, b2n_F, b2n_0, Decidable.not_not, not_true_eq_false, not_false_eq_true, Nat.reduceAdd, Nat.reduceMul, Nat.reduceSub]
    rw [wp_tsw (L := 17857) (by decide)]
    simp (disch := (first | omega | exact aCat_8 (by with_unfolding_all rfl) | exact rk_lt (by with_unfolding_all rfl) | exact aCat_16 (by with_unfolding_all rfl) | exact rk_eq (by with_unfolding_all rfl) | assumption | exact b2n_lt _ | exact id_b (by with_unfolding_all rfl) | (simp (disch := omega) only [u2_same, u2_ab, u2_aq]; done) | (simp (disch := omega) only [u2_same, u2_ab, u2_aq]; omega) | fail)) only [al_17856, wp_iload_0, al_17857, wk_m2, wp_ireturn, al_17858, wk_m3, al_17859, wk_m4, al_17860, wk_m5, al_17861, wk_m6, al_17862, wk_m7, al_17863, wk_m8, al_17864, wk_1, nl_i, nl_r, nl_k, nl_j, nl_l, nI_add, pk_mul, pk_sub, tl_s, tl_n, aL_inl, u2_same, u2_ab, u2_aq, nI_l, lN_i, Nat.add_zero, Nat.zero_add, Nat.zero_le, true_and, and_true, b2n_10, b2n_T, b2n_F, b2n_0, Decidable.not_not, not_true_eq_false, not_false_eq_true, Nat.reduceAdd, Nat.reduceMul, Nat.reduceSub]
    rfl
  · simp (disch := (first | omega | exact aCat_8 (by with_unfolding_all rfl) | exact rk_lt (by with_unfolding_all rfl) | exact aCat_16 (by with_unfolding_all rfl) | exact rk_eq (by with_unfolding_all rfl) | assumption | exact b2n_lt _ | exact id_b (by with_unfolding_all rfl) | (simp (disch := omega) only [u2_same, u2_ab, u2_aq]; done) | (simp (disch := omega) only [u2_same, u2_ab, u2_aq]; omega) | fail)) only [al_17856, wp_iload_0, al_17857, wk_m2, wp_ireturn, al_17858, wk_m3, al_17859, wk_m4, al_17860, wk_m5, al_17861, wk_m6, al_17862, wk_m7, al_17863, wk_m8, al_17864, wk_1, nl_i, nl_r, nl_k, nl_j, nl_l, nI_add, pk_mul, pk_sub, tl_s, tl_n, aL_inl, u2_same, u2_ab, u2_aq, nI_l, lN_i, Nat.add_zero, Nat.zero_add, Nat.zero_le, true_and, and_true, b2n_10, b2n_T, b2n_F, b2n_0, Decidable.not_not, not_true_eq_false, not_false_eq_true, Nat.reduceAdd, Nat.reduceMul, Nat.reduceSub]
    rw [wp_tsw (L := 17858) (by decide)]
    simp (disch := (first | omega | exact aCat_8 (by with_unfolding_all rfl) | exact rk_lt (by with_unfolding_all rfl) | exact aCat_16 (by with_unfolding_all rfl) | exact rk_eq (by with_unfolding_all rfl) | assumption | exact b2n_lt _ | exact id_b (by with_unfolding_all rfl) | (simp (disch := omega) only [u2_same, u2_ab, u2_aq]; done) | (simp (disch := omega) only [u2_same, u2_ab, u2_aq]; omega) | fail)) only [al_17856, wp_iload_0, al_17857, wk_m2, wp_ireturn, al_17858, wk_m3, al_17859, wk_m4, al_17860, wk_m5, al_17861, wk_m6, al_17862, wk_m7, al_17863, wk_m8, al_17864, wk_1, nl_i, nl_r, nl_k, nl_j, nl_l, nI_add, pk_mul, pk_sub, tl_s, tl_n, aL_inl, u2_same, u2_ab, u2_aq, nI_l, lN_i, Nat.add_zero, Nat.zero_add, Nat.zero_le, true_and, and_true, b2n_10, b2n_T, b2n_F, b2n_0, Decidable.not_not, not_true_eq_false, not_false_eq_true, Nat.reduceAdd, Nat.reduceMul, Nat.reduceSub]
    rfl
  · simp (disch := (first | omega | exact aCat_8 (by with_unfolding_all rfl) | exact rk_lt (by with_unfolding_all rfl) | exact aCat_16 (by with_unfolding_all rfl) | exact rk_eq (by with_unfolding_all rfl) | assumption | exact b2n_lt _ | exact id_b (by with_unfolding_all rfl) | (simp (disch := omega) only [u2_same, u2_ab, u2_aq]; done) | (simp (disch := omega) only [u2_same, u2_ab, u2_aq]; omega) | fail)) only [al_17856, wp_iload_0, al_17857, wk_m2, wp_ireturn, al_17858, wk_m3, al_17859, wk_m4, al_17860, wk_m5, al_17861, wk_m6, al_17862, wk_m7, al_17863, wk_m8, al_17864, wk_1, nl_i, nl_r, nl_k, nl_j, nl_l, nI_add, pk_mul, pk_sub, tl_s, tl_n, aL_inl, u2_same, u2_ab, u2_aq, nI_l, lN_i, Nat.add_zero, Nat.zero_add, Nat.zero_le, true_and, and_true, b2n_10, b2n_T, b2n_F, b2n_0, Decidable.not_not, not_true_eq_false, not_false_eq_true, Nat.reduceAdd, Nat.reduceMul, Nat.reduceSub]
    rw [wp_tsw (L := 17859) (by decide)]
    simp (disch := (first | omega | exact aCat_8 (by with_unfolding_all rfl) | exact rk_lt (by with_unfolding_all rfl) | exact aCat_16 (by with_unfolding_all rfl) | exact rk_eq (by with_unfolding_all rfl) | assumption | exact b2n_lt _ | exact id_b (by with_unfolding_all rfl) | (simp (disch := omega) only [u2_same, u2_ab, u2_aq]; done) | (simp (disch := omega) only [u2_same, u2_ab, u2_aq]; omega) | fail)) only [al_17856, wp_iload_0, al_17857, wk_m2, wp_ireturn, al_17858, wk_m3, al_17859, wk_m4, al_17860, wk_m5, al_17861, wk_m6, al_17862, wk_m7, al_17863, wk_m8, al_17864, wk_1, nl_i, nl_r, nl_k, nl_j, nl_l, nI_add, pk_mul, pk_sub, tl_s, tl_n, aL_inl, u2_same, u2_ab, u2_aq, nI_l, lN_i, Nat.add_zero, Nat.zero_add, Nat.zero_le, true_and, and_true, b2n_10, b2n_T, b2n_F, b2n_0, Decidable.not_not, not_true_eq_false, not_false_eq_true, Nat.reduceAdd, Nat.reduceMul, Nat.reduceSub]
    rfl
  · simp (disch := (first | omega | exact aCat_8 (by with_unfolding_all rfl) | exact rk_lt (by with_unfolding_all rfl) | exact aCat_16 (by with_unfolding_all rfl) | exact rk_eq (by with_unfolding_all rfl) | assumption | exact b2n_lt _ | exact id_b (by with_unfolding_all rfl) | (simp (disch := omega) only [u2_same, u2_ab, u2_aq]; done) | (simp (disch := omega) only [u2_same, u2_ab, u2_aq]; omega) | fail)) only [al_17856, wp_iload_0, al_17857, wk_m2, wp_ireturn, al_17858, wk_m3, al_17859, wk_m4, al_17860, wk_m5, al_17861, wk_m6, al_17862, wk_m7, al_17863, wk_m8, al_17864, wk_1, nl_i, nl_r, nl_k, nl_j, nl_l, nI_add, pk_mul, pk_sub, tl_s, tl_n, aL_inl, u2_same, u2_ab, u2_aq, nI_l, lN_i, Nat.add_zero, Nat.zero_add, Nat.zero_le, true_and, and_true, b2n_10, b2n_T, b2n_F, b2n_0, Decidable.not_not, not_true_eq_false, not_false_eq_true, Nat.reduceAdd, Nat.reduceMul, Nat.reduceSub]
    rw [wp_tsw (L := 17860) (by decide)]
    simp (disch := (first | omega | exact aCat_8 (by with_unfolding_all rfl) | exact rk_lt (by with_unfolding_all rfl) | exact aCat_16 (by with_unfolding_all rfl) | exact rk_eq (by with_unfolding_all rfl) | assumption | exact b2n_lt _ | exact id_b (by with_unfolding_all rfl) | (simp (disch := omega) only [u2_same, u2_ab, u2_aq]; done) | (simp (disch := omega) only [u2_same, u2_ab, u2_aq]; omega) | fail)) only [al_17856, wp_iload_0, al_17857, wk_m2, wp_ireturn, al_17858, wk_m3, al_17859, wk_m4, al_17860, wk_m5, al_17861, wk_m6, al_17862, wk_m7, al_17863, wk_m8, al_17864, wk_1, nl_i, nl_r, nl_k, nl_j, nl_l, nI_add, pk_mul, pk_sub, tl_s, tl_n, aL_inl, u2_same, u2_ab, u2_aq, nI_l, lN_i, Nat.add_zero, Nat.zero_add, Nat.zero_le, true_and, and_true, b2n_10, b2n_T, b2n_F, b2n_0, Decidable.not_not, not_true_eq_false, not_false_eq_true, Nat.reduceAdd, Nat.reduceMul, Nat.reduceSub]
    rfl
  · simp (disch := (first | omega | exact aCat_8 (by with_unfolding_all rfl) | exact rk_lt (by with_unfolding_all rfl) | exact aCat_16 (by with_unfolding_all rfl) | exact rk_eq (by with_unfolding_all rfl) | assumption | exact b2n_lt _ | exact id_b (by with_unfolding_all rfl) | (simp (disch := omega) only [u2_same, u2_ab, u2_aq]; done) | (simp (disch := omega) only [u2_same, u2_ab, u2_aq]; omega) | fail)) only [al_17856, wp_iload_0, al_17857, wk_m2, wp_ireturn, al_17858, wk_m3, al_17859, wk_m4, al_17860, wk_m5, al_17861, wk_m6, al_17862, wk_m7, al_17863, wk_m8, al_17864, wk_1, nl_i, nl_r, nl_k, nl_j, nl_l, nI_add, pk_mul, pk_sub, tl_s, tl_n, aL_inl, u2_same, u2_ab, u2_aq, nI_l, lN_i, Nat.add_zero, Nat.zero_add, Nat.zero_le, true_and, and_true, b2n_10, b2n_T, b2n_F, b2n_0, Decidable.not_not, not_true_eq_false, not_false_eq_true, Nat.reduceAdd, Nat.reduceMul, Nat.reduceSub]
    rw [wp_tsw (L := 17861) (by decide)]
    simp (disch := (first | omega | exact aCat_8 (by with_unfolding_all rfl) | exact rk_lt (by with_unfolding_all rfl) | exact aCat_16 (by with_unfolding_all rfl) | exact rk_eq (by with_unfolding_all rfl) | assumption | exact b2n_lt _ | exact id_b (by with_unfolding_all rfl) | (simp (disch := omega) only [u2_same, u2_ab, u2_aq]; done) | (simp (disch := omega) only [u2_same, u2_ab, u2_aq]; omega) | fail)) only [al_17856, wp_iload_0, al_17857, wk_m2, wp_ireturn, al_17858, wk_m3, al_17859, wk_m4, al_17860, wk_m5, al_17861, wk_m6, al_17862, wk_m7, al_17863, wk_m8, al_17864, wk_1, nl_i, nl_r, nl_k, nl_j, nl_l, nI_add, pk_mul, pk_sub, tl_s, tl_n, aL_inl, u2_same, u2_ab, u2_aq, nI_l, lN_i, Nat.add_zero, Nat.zero_add, Nat.zero_le, true_and, and_true, b2n_10, b2n_T, b2n_F, b2n_0, Decidable.not_not, not_true_eq_false, not_false_eq_true, Nat.reduceAdd, Nat.reduceMul, Nat.reduceSub]
    rfl
  · simp (disch := (first | omega | exact aCat_8 (by with_unfolding_all rfl) | exact rk_lt (by with_unfolding_all rfl) | exact aCat_16 (by with_unfolding_all rfl) | exact rk_eq (by with_unfolding_all rfl) | assumption | exact b2n_lt _ | exact id_b (by with_unfolding_all rfl) | (simp (disch := omega) only [u2_same, u2_ab, u2_aq]; done) | (simp (disch := omega) only [u2_same, u2_ab, u2_aq]; omega) | fail)) only [al_17856, wp_iload_0, al_17857, wk_m2, wp_ireturn, al_17858, wk_m3, al_17859, wk_m4, al_17860, wk_m5, al_17861, wk_m6, al_17862, wk_m7, al_17863, wk_m8, al_17864, wk_1, nl_i, nl_r, nl_k, nl_j, nl_l, nI_add, pk_mul, pk_sub, tl_s, tl_n, aL_inl, u2_same, u2_ab, u2_aq, nI_l, lN_i, Nat.add_zero, Nat.zero_add, Nat.zero_le, true_and, and_true, b2n_10, b2n_T, b2n_F, b2n_0, Decidable.not_not, not_true_eq_false, not_false_eq_true, Nat.reduceAdd, Nat.reduceMul, Nat.reduceSub]
    rw [wp_tsw (L := 17862) (by decide)]
    simp (disch := (first | omega | exact aCat_8 (by with_unfolding_all rfl) | exact rk_lt (by with_unfolding_all rfl) | exact aCat_16 (by with_unfolding_all rfl) | exact rk_eq (by with_unfolding_all rfl) | assumption | exact b2n_lt _ | exact id_b (by with_unfolding_all rfl) | (simp (disch := omega) only [u2_same, u2_ab, u2_aq]; done) | (simp (disch := omega) only [u2_same, u2_ab, u2_aq]; omega) | fail)) only [al_17856, wp_iload_0, al_17857, wk_m2, wp_ireturn, al_17858, wk_m3, al_17859, wk_m4, al_17860, wk_m5, al_17861, wk_m6, al_17862, wk_m7, al_17863, wk_m8, al_17864, wk_1, nl_i, nl_r, nl_k, nl_j, nl_l, nI_add, pk_mul, pk_sub, tl_s, tl_n, aL_inl, u2_same, u2_ab, u2_aq, nI_l, lN_i, Nat.add_zero, Nat.zero_add, Nat.zero_le, true_and, and_true, b2n_10, b2n_T, b2n_F, b2n_0, Decidable.not_not, not_true_eq_false, not_false_eq_true, Nat.reduceAdd, Nat.reduceMul, Nat.reduceSub]
    rfl
  · simp (disch := (first | omega | exact aCat_8 (by with_unfolding_all rfl) | exact rk_lt (by with_unfolding_all rfl) | exact aCat_16 (by with_unfolding_all rfl) | exact rk_eq (by with_unfolding_all rfl) | assumption | exact b2n_lt _ | exact id_b (by with_unfolding_all rfl) | (simp (disch := omega) only [u2_same, u2_ab, u2_aq]; done) | (simp (disch := omega) only [u2_same, u2_ab, u2_aq]; omega) | fail)) only [al_17856, wp_iload_0, al_17857, wk_m2, wp_ireturn, al_17858, wk_m3, al_17859, wk_m4, al_17860, wk_m5, al_17861, wk_m6, al_17862, wk_m7, al_17863, wk_m8, al_17864, wk_1, nl_i, nl_r, nl_k, nl_j, nl_l, nI_add, pk_mul, pk_sub, tl_s, tl_n, aL_inl, u2_same, u2_ab, u2_aq, nI_l, lN_i, Nat.add_zero, Nat.zero_add, Nat.zero_le, true_and, and_true, b2n_10, b2n_T, b2n_F, b2n_0, Decidable.not_not, not_true_eq_false, not_false_eq_true, Nat.reduceAdd, Nat.reduceMul, Nat.reduceSub]
    rw [wp_tsw (L := 17863) (by decide)]
    simp (disch := (first | omega | exact aCat_8 (by with_unfolding_all rfl) | exact rk_lt (by with_unfolding_all rfl) | exact aCat_16 (by with_unfolding_all rfl) | exact rk_eq (by with_unfolding_all rfl) | assumption | exact b2n_lt _ | exact id_b (by with_unfolding_all rfl) | (simp (disch := omega) only [u2_same, u2_ab, u2_aq]; done) | (simp (disch := omega) only [u2_same, u2_ab, u2_aq]; omega) | fail)) only [al_17856, wp_iload_0, al_17857, wk_m2, wp_ireturn, al_17858, wk_m3, al_17859, wk_m4, al_17860, wk_m5, al_17861, wk_m6, al_17862, wk_m7, al_17863, wk_m8, al_17864, wk_1, nl_i, nl_r, nl_k, nl_j, nl_l, nI_add, pk_mul, pk_sub, tl_s, tl_n, aL_inl, u2_same, u2_ab, u2_aq, nI_l, lN_i, Nat.add_zero, Nat.zero_add, Nat.zero_le, true_and, and_true, b2n_10, b2n_T, b2n_F, b2n_0, Decidable.not_not, not_true_eq_false, not_false_eq_true, Nat.reduceAdd, Nat.reduceMul, Nat.reduceSub]
    rfl
theorem wp_dec_m {a0 a1 : Value} {l : List Value} : aWp ko d k (.iinc 2 (-1) :: is) (a0 :: a1 :: .int (nI 0) :: l) st σ P = aWp ko d k is (a0 :: aNl a1 :: .int (-1) :: l) st σ P := wp_of (fun _ => ev_iinc)
theorem l_277 {b ne dg : Nat} {wa : Bool} {N0 : Nat → Nat → Nat} {I0 : Nat → Nat → Int32} (hb : b ≤ 4) (Q : Option Value → aH → Prop) : ∀ (w o : List Nat) (N : Nat → Nat → Nat) (I : Nat → Nat → Int32), rdC N I (o, w, ne, dg, wa) → o.length + w.length ≤ 40 → (∀ j, j ∈ w → jok j) → fr17 N N0 → fr18 I I0 →
    (∀ (N' : Nat → Nat → Nat) (I' : Nat → Nat → Int32), rdC N' I' (rpO b o w, rpW b w, ne, dg, wa) → fr17 N' N0 → fr18 I' I0 → Q none (hp D N' I' J x)) →
    aWp ko d 277 (aP.1 (Int.toNat 17729)) [.ref 17, .int (nI b), .int (tI w.length)] [] (hp D N I J x) (aL Q) := by
  intro w
  induction w with
  | nil =>
    intro o N I h hl hj f1 f2 hQ
    have hx := hQ N I h f1 f2
    rw [al_17729]
    show aWp ko d 277 _ [.ref 17, .int (nI b), .int (-1)] [] _ _
    simp (disch := (first | omega | exact aCat_8 (by with_unfolding_all rfl) | exact rk_lt (by with_unfolding_all rfl) | exact aCat_16 (by with_unfolding_all rfl) | exact rk_eq (by with_unfolding_all rfl) | assumption | exact b2n_lt _ | exact id_b (by with_unfolding_all rfl) | (simp (disch := omega) only [u2_same, u2_ab, u2_aq]; done) | (simp (disch := omega) only [u2_same, u2_ab, u2_aq]; omega) | fail)) only [al_17728, wp_aloadr_0, wp_aloadk_0, hg_17_3, wk_1, wp_isub, wp_istore_2, wp_jsr, wp_iload_2, wz_lt_t, wz_lt_f, wm_lt_1, wm_lt_2, hg_17_1, ha_19l, ha_19s, wc_278, wp_iload_1, wn_lt_t, wn_lt_f, wc_273, hp_17_3, wp_idec_2_1, wp_goto, al_17730, wp_return, nl_i, nl_r, nl_k, nl_j, nl_l, nI_add, pk_mul, pk_sub, tl_s, tl_n, aL_inl, u2_same, u2_ab, u2_aq, nI_l, lN_i, Nat.add_zero, Nat.zero_add, Nat.zero_le, true_and, and_true, b2n_10, b2n_T, b2n_F, b2n_0, Decidable.not_not, not_true_eq_false, not_false_eq_true, Nat.reduceAdd, Nat.reduceMul, Nat.reduceSub]
    exact hx
  | cons j w ih =>
    intro o N I h hl hj f1 f2 hQ
    have hlc : (j :: w).length = w.length + 1 := rfl
    rw [hlc] at hl
    obtain ⟨h1, h2, h3, h4, h5, h6, h7⟩ := id h
    have hjk := hj j (List.mem_cons_self ..)
    have e19 : I 19 w.length = enc j := h4.1
    have ht := fun Q => t_278 (ko := ko) (d := d) (σ := hp D N I J x) (Q := Q) hjk
    have hb4 : bnd j ≤ 4 := by
      unfold bnd
      split
      · omega
      · split
        · omega
        · split
          · omega
          · split <;> omega
    rw [hlc, tI_s, al_17729]
    by_cases z : b ≤ bnd j
    · have hx := ih (j :: o) (u2 (u2 N 17 2 (o.length + 1)) 17 3 w.length) (u2 I 18 o.length (enc j)) (rd_p (rd_o h rfl)) (by rw [List.length_cons]; omega) (fun i hi => hj i (List.mem_cons_of_mem _ hi)) (fr17_t fr17_u (fr17_t fr17_u f1)) (fr18_t fr18_8 f2) (by
        intro N' I' g1 g2 g3
        refine hQ N' I' ?_ g2 g3
        unfold rpO rpW
        rw [if_pos z, if_pos z]
        exact g1)
      have t273 := fun Q => t_273 (ko := ko) (d := d) (D := D) (N := N) (I := I) (J := J) (x := x) (Q := Q) (v := enc j) h1 (show o.length < 40 by omega)
      cases hw : w.length with
      | zero =>
        rw [hw] at hx e19
        rw [tI_0] at hx
        simp (disch := (first | omega | exact aCat_8 (by with_unfolding_all rfl) | exact rk_lt (by with_unfolding_all rfl) | exact aCat_16 (by with_unfolding_all rfl) | exact rk_eq (by with_unfolding_all rfl) | assumption | exact b2n_lt _ | exact id_b (by with_unfolding_all rfl) | (simp (disch := omega) only [u2_same, u2_ab, u2_aq]; done) | (simp (disch := omega) only [u2_same, u2_ab, u2_aq]; omega) | fail)) only [al_17728, wp_aloadr_0, wp_aloadk_0, hg_17_3, wk_1, wp_isub, wp_istore_2, wp_jsr, wp_iload_2, wz_lt_t, wz_lt_f, wm_lt_1, wm_lt_2, hg_17_1, ha_19l, ha_19s, wc_278, wp_iload_1, wn_lt_t, wn_lt_f, wc_273, hp_17_3, wp_idec_2_1, wp_goto, al_17730, wp_return, nl_i, nl_r, nl_k, nl_j, nl_l, nI_add, pk_mul, pk_sub, tl_s, tl_n, aL_inl, u2_same, u2_ab, u2_aq, nI_l, lN_i, Nat.add_zero, Nat.zero_add, Nat.zero_le, true_and, and_true, b2n_10, b2n_T, b2n_F, b2n_0, Decidable.not_not, not_true_eq_false, not_false_eq_true, Nat.reduceAdd, Nat.reduceMul, Nat.reduceSub, ht, e19, t273, wp_dec_m]
        exact hx
      | succ m =>
        rw [hw] at hx e19
        rw [tI_s] at hx
        simp (disch := (first | omega | exact aCat_8 (by with_unfolding_all rfl) | exact rk_lt (by with_unfolding_all rfl) | exact aCat_16 (by with_unfolding_all rfl) | exact rk_eq (by with_unfolding_all rfl) | assumption | exact b2n_lt _ | exact id_b (by with_unfolding_all rfl) | (simp (disch := omega) only [u2_same, u2_ab, u2_aq]; done) | (simp (disch := omega) only [u2_same, u2_ab, u2_aq]; omega) | fail)) only [al_17728, wp_aloadr_0, wp_aloadk_0, hg_17_3, wk_1, wp_isub, wp_istore_2, wp_jsr, wp_iload_2, wz_lt_t, wz_lt_f, wm_lt_1, wm_lt_2, hg_17_1, ha_19l, ha_19s, wc_278, wp_iload_1, wn_lt_t, wn_lt_f, wc_273, hp_17_3, wp_idec_2_1, wp_goto, al_17730, wp_return, nl_i, nl_r, nl_k, nl_j, nl_l, nI_add, pk_mul, pk_sub, tl_s, tl_n, aL_inl, u2_same, u2_ab, u2_aq, nI_l, lN_i, Nat.add_zero, Nat.zero_add, Nat.zero_le, true_and, and_true, b2n_10, b2n_T, b2n_F, b2n_0, Decidable.not_not, not_true_eq_false, not_false_eq_true, Nat.reduceAdd, Nat.reduceMul, Nat.reduceSub, ht, e19, t273, Nat.add_sub_cancel]
        exact hx
    · have hx := hQ N I (by
        unfold rpO rpW
        rw [if_neg z, if_neg z]
        exact h) f1 f2
      simp (disch := (first | omega | exact aCat_8 (by with_unfolding_all rfl) | exact rk_lt (by with_unfolding_all rfl) | exact aCat_16 (by with_unfolding_all rfl) | exact rk_eq (by with_unfolding_all rfl) | assumption | exact b2n_lt _ | exact id_b (by with_unfolding_all rfl) | (simp (disch := omega) only [u2_same, u2_ab, u2_aq]; done) | (simp (disch := omega) only [u2_same, u2_ab, u2_aq]; omega) | fail)) only [al_17728, wp_aloadr_0, wp_aloadk_0, hg_17_3, wk_1, wp_isub, wp_istore_2, wp_jsr, wp_iload_2, wz_lt_t, wz_lt_f, wm_lt_1, wm_lt_2, hg_17_1, ha_19l, ha_19s, wc_278, wp_iload_1, wn_lt_t, wn_lt_f, wc_273, hp_17_3, wp_idec_2_1, wp_goto, al_17730, wp_return, nl_i, nl_r, nl_k, nl_j, nl_l, nI_add, pk_mul, pk_sub, tl_s, tl_n, aL_inl, u2_same, u2_ab, u2_aq, nI_l, lN_i, Nat.add_zero, Nat.zero_add, Nat.zero_le, true_and, and_true, b2n_10, b2n_T, b2n_F, b2n_0, Decidable.not_not, not_true_eq_false, not_false_eq_true, Nat.reduceAdd, Nat.reduceMul, Nat.reduceSub, ht, e19]
      exact hx
theorem t_277 {b ne dg : Nat} {wa : Bool} {o w : List Nat} (hb : b ≤ 4) (h : rdC N I (o, w, ne, dg, wa)) (hl : o.length + w.length ≤ 40) (hj : ∀ j, j ∈ w → jok j)
    (hQ : ∀ (N' : Nat → Nat → Nat) (I' : Nat → Nat → Int32), rdC N' I' (rpO b o w, rpW b w, ne, dg, wa) → fr17 N' N → fr18 I' I → Q none (hp D N' I' J x)) : aMm ko d 277 [.ref 17, .int (nI b)] (hp D N I J x) Q := by
  have hx := l_277 (ko := ko) (d := d) (D := D) (J := J) (x := x) hb Q w o N I h hl hj (fun _ _ _ => rfl) fr18_r hQ
  have h3 : N 17 3 = w.length := h.2.2.1
  rw [me_277]
  cases hw : w.length with
  | zero =>
    rw [hw, tI_0] at hx
    rw [hw] at h3
    have e1 : nI 0 - nI 1 = (-1 : Int32) := by decide
    simp (disch := (first | omega | exact aCat_8 (by with_unfolding_all rfl) | exact rk_lt (by with_unfolding_all rfl) | exact aCat_16 (by with_unfolding_all rfl) | exact rk_eq (by with_unfolding_all rfl) | assumption | exact b2n_lt _ | exact id_b (by with_unfolding_all rfl) | (simp (disch := omega) only [u2_same, u2_ab, u2_aq]; done) | (simp (disch := omega) only [u2_same, u2_ab, u2_aq]; omega) | fail)) only [al_17728, wp_aloadr_0, wp_aloadk_0, hg_17_3, wk_1, wp_isub, wp_istore_2, wp_jsr, wp_iload_2, wz_lt_t, wz_lt_f, wm_lt_1, wm_lt_2, hg_17_1, ha_19l, ha_19s, wc_278, wp_iload_1, wn_lt_t, wn_lt_f, wc_273, hp_17_3, wp_idec_2_1, wp_goto, al_17730, wp_return, nl_i, nl_r, nl_k, nl_j, nl_l, nI_add, pk_mul, pk_sub, tl_s, tl_n, aL_inl, u2_same, u2_ab, u2_aq, nI_l, lN_i, Nat.add_zero, Nat.zero_add, Nat.zero_le, true_and, and_true, b2n_10, b2n_T, b2n_F, b2n_0, Decidable.not_not, not_true_eq_false, not_false_eq_true, Nat.reduceAdd, Nat.reduceMul, Nat.reduceSub, h3, e1]
    exact hx
  | succ m =>
    rw [hw, tI_s] at hx
    rw [hw] at h3
    simp (disch := (first | omega | exact aCat_8 (by with_unfolding_all rfl) | exact rk_lt (by with_unfolding_all rfl) | exact aCat_16 (by with_unfolding_all rfl) | exact rk_eq (by with_unfolding_all rfl) | assumption | exact b2n_lt _ | exact id_b (by with_unfolding_all rfl) | (simp (disch := omega) only [u2_same, u2_ab, u2_aq]; done) | (simp (disch := omega) only [u2_same, u2_ab, u2_aq]; omega) | fail)) only [al_17728, wp_aloadr_0, wp_aloadk_0, hg_17_3, wk_1, wp_isub, wp_istore_2, wp_jsr, wp_iload_2, wz_lt_t, wz_lt_f, wm_lt_1, wm_lt_2, hg_17_1, ha_19l, ha_19s, wc_278, wp_iload_1, wn_lt_t, wn_lt_f, wc_273, hp_17_3, wp_idec_2_1, wp_goto, al_17730, wp_return, nl_i, nl_r, nl_k, nl_j, nl_l, nI_add, pk_mul, pk_sub, tl_s, tl_n, aL_inl, u2_same, u2_ab, u2_aq, nI_l, lN_i, Nat.add_zero, Nat.zero_add, Nat.zero_le, true_and, and_true, b2n_10, b2n_T, b2n_F, b2n_0, Decidable.not_not, not_true_eq_false, not_false_eq_true, Nat.reduceAdd, Nat.reduceMul, Nat.reduceSub, h3, Nat.add_sub_cancel]
    exact hx
/-- indexOf of a text that is a constant -/
theorem aIx_n {f : Nat → Int32} {c : Int32} : ∀ {n i : Nat}, (∀ m, i ≤ m → m < i + n → ¬ f m = c) → aIx f c n i = -1 := by
  intro n
  induction n with
  | zero => intro i _; rfl
  | succ n ih =>
    intro i h
    rw [aIx, if_neg (h i (by omega) (by omega))]
    exact ih (fun m h1 h2 => h m (by omega) (by omega))
theorem aIx_y {f : Nat → Int32} {c : Int32} {a : Nat} (ha : f a = c) : ∀ {n i : Nat}, i ≤ a → a < i + n → (∀ m, i ≤ m → m < a → ¬ f m = c) → aIx f c n i = nI a := by
  intro n
  induction n with
  | zero => intro i h1 h2 _; omega
  | succ n ih =>
    intro i h1 h2 h
    rw [aIx]
    by_cases e : i = a
    · subst e
      rw [if_pos ha]
    · rw [if_neg (h i (by omega) (by omega))]
      exact ih (by omega) (by omega) (fun m g1 g2 => h m (by omega) g2)
theorem wp_sidx {i : Nat} {c : Int32} (hk : koT ko) (h2 : 2 ≤ i) (h7 : i ≤ 7) (hc : aCat (.int c :: .retAddr i :: st) ≤ 16) : aWp ko d k (.invokedynamic 4 :: is) ls (.int c :: .retAddr i :: st) σ P = aWp ko d k is ls (.int (aIx (ko i).2.2 c (chT i).length 0) :: st) σ P := wp_of (fun _ => aEv_go (by
  obtain ⟨a1, a2, _⟩ := hk i h2 h7
  simp only [aDo, aEnd, aJump, aStep, if_pos hc, aPrim, a1, a2, if_true]))
theorem ix_th {c i : Nat} (hk : koT ko) (h : thg c = some i) : aIx (ko 2).2.2 (nI c) (chT 2).length 0 = nI i := by
  obtain ⟨_, _, a3⟩ := hk 2 (by decide) (by decide)
  have key : ∀ m, m < 7 → (ko 2).2.2 m = nI ((chT 2).getD m 0) := a3
  have h6 := (th_D h).2.2.2
  refine aIx_y ?_ (Nat.zero_le _) (by show i < 0 + 7; omega) ?_
  · rw [key i (by omega)]
    rcases th_cs h with ⟨rfl, rfl⟩ | ⟨rfl, rfl⟩ | ⟨rfl, rfl⟩ | ⟨rfl, rfl⟩ | ⟨rfl, rfl⟩ | ⟨rfl, rfl⟩ | ⟨rfl, rfl⟩ <;> rfl
  · intro m _ hm
    rw [key m (by omega)]
    have hm6 : m = 0 ∨ m = 1 ∨ m = 2 ∨ m = 3 ∨ m = 4 ∨ m = 5 := by omega
    rcases th_cs h with ⟨rfl, rfl⟩ | ⟨rfl, rfl⟩ | ⟨rfl, rfl⟩ | ⟨rfl, rfl⟩ | ⟨rfl, rfl⟩ | ⟨rfl, rfl⟩ | ⟨rfl, rfl⟩ <;> rcases hm6 with rfl | rfl | rfl | rfl | rfl | rfl <;> first | omega | decide
theorem th_n {c m : Nat} (h : thg c = none) (hm : m < 7) : ¬ (chT 2).getD m 0 = c := by
  have hm6 : m = 0 ∨ m = 1 ∨ m = 2 ∨ m = 3 ∨ m = 4 ∨ m = 5 ∨ m = 6 := by omega
  intro e
  rcases hm6 with rfl | rfl | rfl | rfl | rfl | rfl | rfl <;> (subst e; cases h)
theorem ix_no {c : Nat} (hk : koT ko) (hc : c < 256) (h : thg c = none) : aIx (ko 2).2.2 (nI c) (chT 2).length 0 = -1 := by
  obtain ⟨_, _, a3⟩ := hk 2 (by decide) (by decide)
  have key : ∀ m, m < 7 → (ko 2).2.2 m = nI ((chT 2).getD m 0) := a3
  refine aIx_n ?_
  intro m _ hm
  have hm' : m < 7 := by
    have : m < 0 + 7 := hm
    omega
  rw [key m hm']
  intro e
  have h1 : (chT 2).getD m 0 < 256 := ch_256 m hm'
  exact th_n h hm' ((nI_eq (by omega) (by omega)).mp e)
end RB
