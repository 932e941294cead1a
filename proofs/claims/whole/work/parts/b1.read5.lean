/-! rules: the reference reads. From wip/whole/src. -/
def tpl (b : Nat) (w : List Nat) : Prop := match w with
  | [] => True
  | j :: _ => bnd j < b
theorem tpl_m {a b : Nat} {w : List Nat} (h : tpl a w) (hab : a ≤ b) : tpl b w := by
  cases w with
  | nil => trivial
  | cons j w => exact Nat.lt_of_lt_of_le (show bnd j < a from h) hab
theorem rp_P {b : Nat} : ∀ {P w o : List Nat}, (∀ j, j ∈ P → b ≤ bnd j) → tpl b w → rpO b o (P ++ w) = revA P o ∧ rpW b (P ++ w) = w := by
  intro P
  induction P with
  | nil =>
    intro w o _ ht
    cases w with
    | nil => exact ⟨rfl, rfl⟩
    | cons j w =>
      have h1 : ¬ b ≤ bnd j := by
        have : bnd j < b := ht
        omega
      rw [List.nil_append]
      unfold rpO rpW revA
      rw [if_neg h1, if_neg h1]
      exact ⟨rfl, rfl⟩
  | cons j P ih =>
    intro w o h ht
    rw [List.cons_append]
    unfold rpO rpW revA
    rw [if_pos (h j (List.mem_cons_self ..)), if_pos (h j (List.mem_cons_self ..))]
    exact ih (fun i hi => h i (List.mem_cons_of_mem _ hi)) ht
theorem revA_c : ∀ {P o : List Nat} {j : Nat}, revA (P ++ [j]) o = j :: revA P o := by
  intro P
  induction P with
  | nil => intro o j; rfl
  | cons i P ih =>
    intro o j
    rw [List.cons_append, revA, revA]
    exact ih
/-- a sign at which a reading of rank r must end -/
def blk (T : Nat → Nat) (to r pos : Nat) (s : rdS) : Prop := pos = to ∨ stp s (T pos) = none ∨ T pos = 41 ∨ ∃ j, jn (T pos) = some j ∧ bnd j ≤ r
theorem blk_3 {T : Nat → Nat} {to pos : Nat} {o w : List Nat} {ne dg : Nat} (h : pos < to → isD (T pos) = true → dg = 0 ∨ 3 ≤ dg) (hp1 : pos ≤ to) : blk T to 3 pos (o, w, ne, dg, false) := by
  by_cases z : pos = to
  · exact Or.inl z
  · cases hD : isD (T pos) with
    | true => exact Or.inr (Or.inl (stp_d0 hD (h (by omega) hD)))
    | false =>
      by_cases z1 : T pos = 41
      · exact Or.inr (Or.inr (Or.inl z1))
      · cases hj : jn (T pos) with
        | none => exact Or.inr (Or.inl (stp_jn hD z1 hj))
        | some j => exact Or.inr (Or.inr (Or.inr ⟨j, hj, (jn_b hj).2.1⟩))
def ofR (r : Nat) : Nat := if r = 0 then 0 else if r = 1 then 3 else 5
theorem op_y {r a : Nat} (hr : r ≤ 2) (ha : a < (chT (4 + r)).length) : jn ((chT (4 + r)).getD a 0) = some (2000 + a + ofR r) ∧ bnd (2000 + a + ofR r) = r + 1 := by
  have h3 : r = 0 ∨ r = 1 ∨ r = 2 := by omega
  rcases h3 with rfl | rfl | rfl
  · have ha : a < 3 := ha
    have h3 : a = 0 ∨ a = 1 ∨ a = 2 := by omega
    rcases h3 with rfl | rfl | rfl <;> decide
  · have ha : a < 2 := ha
    have h3 : a = 0 ∨ a = 1 := by omega
    rcases h3 with rfl | rfl <;> decide
  · have ha : a < 2 := ha
    have h3 : a = 0 ∨ a = 1 := by omega
    rcases h3 with rfl | rfl <;> decide
theorem op_n {r c j : Nat} (hr : r ≤ 2) (h : ∀ a, a < (chT (4 + r)).length → ¬ (chT (4 + r)).getD a 0 = c) (hj : jn c = some j) : bnd j ≠ r + 1 := by
  have h3 : r = 0 ∨ r = 1 ∨ r = 2 := by omega
  rcases h3 with rfl | rfl | rfl
  · have n0 := h 0 (by decide)
    have n1 := h 1 (by decide)
    have n2 := h 2 (by decide)
    rcases jn_cs hj with ⟨rfl, rfl⟩ | ⟨rfl, rfl⟩ | ⟨rfl, rfl⟩ | ⟨rfl, rfl⟩ | ⟨rfl, rfl⟩ | ⟨rfl, rfl⟩ | ⟨rfl, rfl⟩ <;> first | decide | exact absurd rfl n0 | exact absurd rfl n1 | exact absurd rfl n2
  · have n0 := h 0 (by decide)
    have n1 := h 1 (by decide)
    rcases jn_cs hj with ⟨rfl, rfl⟩ | ⟨rfl, rfl⟩ | ⟨rfl, rfl⟩ | ⟨rfl, rfl⟩ | ⟨rfl, rfl⟩ | ⟨rfl, rfl⟩ | ⟨rfl, rfl⟩ <;> first | decide | exact absurd rfl n0 | exact absurd rfl n1
  · have n0 := h 0 (by decide)
    have n1 := h 1 (by decide)
    rcases jn_cs hj with ⟨rfl, rfl⟩ | ⟨rfl, rfl⟩ | ⟨rfl, rfl⟩ | ⟨rfl, rfl⟩ | ⟨rfl, rfl⟩ | ⟨rfl, rfl⟩ | ⟨rfl, rfl⟩ <;> first | decide | exact absurd rfl n0 | exact absurd rfl n1
theorem th_y3 {a : Nat} (ha : a < (chT 3).length) : thg ((chT 3).getD a 0) = some a := by
  have ha : a < 7 := ha
  have h7 : a = 0 ∨ a = 1 ∨ a = 2 ∨ a = 3 ∨ a = 4 ∨ a = 5 ∨ a = 6 := by omega
  rcases h7 with rfl | rfl | rfl | rfl | rfl | rfl | rfl <;> rfl
theorem th_n3 {c : Nat} (h : ∀ a, a < (chT 3).length → ¬ (chT 3).getD a 0 = c) : thg c = none := by
  cases ht : thg c with
  | none => rfl
  | some i =>
    exfalso
    rcases th_cs ht with ⟨rfl, rfl⟩ | ⟨rfl, rfl⟩ | ⟨rfl, rfl⟩ | ⟨rfl, rfl⟩ | ⟨rfl, rfl⟩ | ⟨rfl, rfl⟩ | ⟨rfl, rfl⟩
    · exact h 0 (by decide) rfl
    · exact h 1 (by decide) rfl
    · exact h 2 (by decide) rfl
    · exact h 3 (by decide) rfl
    · exact h 4 (by decide) rfl
    · exact h 5 (by decide) rfl
    · exact h 6 (by decide) rfl
/-- the reference in the middle of a rule: frame; what it has written -/
def rsF (N0 N : Nat → Nat → Nat) (to pos : Nat) : Prop := N 86 13 = to ∧ N 86 12 = pos ∧ N 86 11 = 0 ∧ ∀ b q, b ≠ 94 → ¬ (b = 86 ∧ (q = 0 ∨ q = 11 ∨ q = 12 ∨ q = 13 ∨ q = 14 ∨ q = 19)) → N b q = N0 b q
def rsL (N0 N : Nat → Nat → Nat) (to pos : Nat) (R : List Nat) (ne : Nat) : Prop := rsF N0 N to pos ∧ N 86 14 = ne ∧ N 86 19 = R.length ∧ stk (N 94) (fun c => c) R
section RE
variable {N0 N N' : Nat → Nat → Nat} {to pos ne : Nat} {R : List Nat}
theorem rs_fr {p : Nat} (h : rsL N0 N to pos R ne) (hf : ∀ b q, ¬ (b = 86 ∧ q = 12) → N' b q = N b q) (h12 : N' 86 12 = p) : rsL N0 N' to p R ne := by
  obtain ⟨⟨x1, x2, x3, x4⟩, x5, x6, x7⟩ := h
  exact ⟨⟨(hf 86 13 (by omega)).trans x1, h12, (hf 86 11 (by omega)).trans x3, fun b q z y => (hf b q (by omega)).trans (x4 b q z y)⟩, (hf 86 14 (by omega)).trans x5, (hf 86 19 (by omega)).trans x6, stk_f (fun q _ => hf 94 q (by omega)) x7⟩
theorem rs_at {p : Nat} (h : rsL N0 N to pos R ne) : rsL N0 (u2 N 86 12 p) to p R ne := rs_fr h (fun b q z => by rw [u2_rd, if_neg z]) (u2_same _ _ _ _)
theorem rs_c {c : Nat} (h : rsL N0 N to pos R ne) : rsL N0 (u2 (u2 N 94 R.length c) 86 19 (R.length + 1)) to pos (c :: R) ne := by
  obtain ⟨⟨x1, x2, x3, x4⟩, x5, x6, x7⟩ := h
  refine ⟨⟨?_, ?_, ?_, ?_⟩, ?_, u2_same _ _ _ _, ?_, ?_⟩
  · rw [u2_aq (by decide), u2_ab (by decide)]; exact x1
  · rw [u2_aq (by decide), u2_ab (by decide)]; exact x2
  · rw [u2_aq (by decide), u2_ab (by decide)]; exact x3
  · intro b q z y
    rw [u2_rd, if_neg (by omega), u2_ab z]
    exact x4 b q z y
  · rw [u2_aq (by decide), u2_ab (by decide)]; exact x5
  · rw [u2_ab (by decide), u2_same]
  · exact stk_f (fun q hq => by rw [u2_ab (by decide), u2_aq (by omega)]) x7
theorem rs_n {m : Nat} (h : rsL N0 N to pos R ne) : rsL N0 (u2 N 86 14 m) to pos R m := by
  obtain ⟨⟨x1, x2, x3, x4⟩, x5, x6, x7⟩ := h
  refine ⟨⟨?_, ?_, ?_, ?_⟩, u2_same _ _ _ _, ?_, ?_⟩
  · rw [u2_aq (by decide)]; exact x1
  · rw [u2_aq (by decide)]; exact x2
  · rw [u2_aq (by decide)]; exact x3
  · intro b q z y
    rw [u2_rd, if_neg (by omega)]
    exact x4 b q z y
  · rw [u2_aq (by decide)]; exact x6
  · exact stk_f (fun q hq => u2_ab (by decide)) x7
theorem rf_c {n c : Nat} (h : rsF N0 N to pos) : rsF N0 (u2 (u2 N 94 n c) 86 19 (n + 1)) to pos := by
  obtain ⟨x1, x2, x3, x4⟩ := h
  refine ⟨?_, ?_, ?_, ?_⟩
  · rw [u2_aq (by decide), u2_ab (by decide)]; exact x1
  · rw [u2_aq (by decide), u2_ab (by decide)]; exact x2
  · rw [u2_aq (by decide), u2_ab (by decide)]; exact x3
  · intro b q z y
    rw [u2_rd, if_neg (by omega), u2_ab z]
    exact x4 b q z y
end RE
section RF
variable {ko : aKo} {d k : Nat} {is : List Instr} {ls st : List Value} {σ : aH} {D : Nat → Nat} {N : Nat → Nat → Nat} {I : Nat → Nat → Int32} {J : Nat → Nat → Int64} {x t : Nat} {Q : Option Value → aH → Prop} {P : (Option Value ⊕ Unit) → aH → Prop}
theorem u2_idN {j : Nat} {v : Nat} {a : Nat} (h : N a j = v) : u2 N a j v = N := by
  funext b q
  rw [u2_rd]
  split
  · rename_i z
    rw [z.1, z.2, h]
  · rfl
theorem t_16y {pos to c : Nat} (h13 : N 86 13 = to) (h12 : N 86 12 = pos) (hto : to ≤ 80) (hp1 : pos < to) (hc : N 91 pos = c) (h256 : c < 256) : aMm ko d 16 [.ref 86, .int (nI c)] (hp D N I J x) Q = Q (some (.int (nI 1))) (hp D (u2 N 86 12 (pos + 1)) I J x) := by
  rw [me_16]
  simp (disch := (first | omega | exact aCat_8 (by with_unfolding_all rfl) | exact rk_lt (by with_unfolding_all rfl) | exact aCat_16 (by with_unfolding_all rfl) | exact rk_eq (by with_unfolding_all rfl) | assumption | exact b2n_lt _ | exact id_b (by with_unfolding_all rfl) | (simp (disch := omega) only [u2_same, u2_ab, u2_aq]; done) | (simp (disch := omega) only [u2_same, u2_ab, u2_aq]; omega) | fail)) only [al_1024, wp_aloadr_0, wp_aloadk_0, hg_86_12, hg_86_13, wn_ge_t, wn_ge_f, hg_86_10, ha_91l, ha_91s, wp_iload_1, wn_ne_t, wn_ne_f, wk_1, wp_goto, al_1025, wk_0, wp_jsr, al_1026, wp_istore_2, wp_dupi, wp_dupr, wp_iload_2, wc_17, t_17, wp_iadd, hp_86_12, wp_freturn0, wp_freturn1, wp_freturnb, nl_i, nl_r, nl_k, nl_j, nl_l, nI_add, pk_mul, pk_sub, tl_s, tl_n, aL_inl, u2_same, u2_ab, u2_aq, nI_l, lN_i, Nat.add_zero, Nat.zero_add, Nat.zero_le, true_and, and_true, b2n_10, b2n_T, b2n_F, b2n_0, Decidable.not_not, not_true_eq_false, not_false_eq_true, Nat.reduceAdd, Nat.reduceMul, Nat.reduceSub, h13, h12, hc]
theorem t_16n {pos to c : Nat} (h13 : N 86 13 = to) (h12 : N 86 12 = pos) (hto : to ≤ 80) (hp1 : pos ≤ to) (hb : pos < to → N 91 pos < 256) (h256 : c < 256) (hc : pos < to → ¬ N 91 pos = c) : aMm ko d 16 [.ref 86, .int (nI c)] (hp D N I J x) Q = Q (some (.int (nI 0))) (hp D N I J x) := by
  have hid := u2_idN (N := N) h12
  rw [me_16]
  by_cases z : pos < to
  · have h1 := hb z
    have h2 := hc z
    simp (disch := (first | omega | exact aCat_8 (by with_unfolding_all rfl) | exact rk_lt (by with_unfolding_all rfl) | exact aCat_16 (by with_unfolding_all rfl) | exact rk_eq (by with_unfolding_all rfl) | assumption | exact b2n_lt _ | exact id_b (by with_unfolding_all rfl) | (simp (disch := omega) only [u2_same, u2_ab, u2_aq]; done) | (simp (disch := omega) only [u2_same, u2_ab, u2_aq]; omega) | fail)) only [al_1024, wp_aloadr_0, wp_aloadk_0, hg_86_12, hg_86_13, wn_ge_t, wn_ge_f, hg_86_10, ha_91l, ha_91s, wp_iload_1, wn_ne_t, wn_ne_f, wk_1, wp_goto, al_1025, wk_0, wp_jsr, al_1026, wp_istore_2, wp_dupi, wp_dupr, wp_iload_2, wc_17, t_17, wp_iadd, hp_86_12, wp_freturn0, wp_freturn1, wp_freturnb, nl_i, nl_r, nl_k, nl_j, nl_l, nI_add, pk_mul, pk_sub, tl_s, tl_n, aL_inl, u2_same, u2_ab, u2_aq, nI_l, lN_i, Nat.add_zero, Nat.zero_add, Nat.zero_le, true_and, and_true, b2n_10, b2n_T, b2n_F, b2n_0, Decidable.not_not, not_true_eq_false, not_false_eq_true, Nat.reduceAdd, Nat.reduceMul, Nat.reduceSub, h13, h12]
    rw [hid]
  · simp (disch := (first | omega | exact aCat_8 (by with_unfolding_all rfl) | exact rk_lt (by with_unfolding_all rfl) | exact aCat_16 (by with_unfolding_all rfl) | exact rk_eq (by with_unfolding_all rfl) | assumption | exact b2n_lt _ | exact id_b (by with_unfolding_all rfl) | (simp (disch := omega) only [u2_same, u2_ab, u2_aq]; done) | (simp (disch := omega) only [u2_same, u2_ab, u2_aq]; omega) | fail)) only [al_1024, wp_aloadr_0, wp_aloadk_0, hg_86_12, hg_86_13, wn_ge_t, wn_ge_f, hg_86_10, ha_91l, ha_91s, wp_iload_1, wn_ne_t, wn_ne_f, wk_1, wp_goto, al_1025, wk_0, wp_jsr, al_1026, wp_istore_2, wp_dupi, wp_dupr, wp_iload_2, wc_17, t_17, wp_iadd, hp_86_12, wp_freturn0, wp_freturn1, wp_freturnb, nl_i, nl_r, nl_k, nl_j, nl_l, nI_add, pk_mul, pk_sub, tl_s, tl_n, aL_inl, u2_same, u2_ab, u2_aq, nI_l, lN_i, Nat.add_zero, Nat.zero_add, Nat.zero_le, true_and, and_true, b2n_10, b2n_T, b2n_F, b2n_0, Decidable.not_not, not_true_eq_false, not_false_eq_true, Nat.reduceAdd, Nat.reduceMul, Nat.reduceSub, h13, h12]
    rw [hid]
theorem t_18 {n c : Nat} (h19 : N 86 19 = n) (hn : n < 80) : aMm ko d 18 [.ref 86, .int (nI c)] (hp D N I J x) Q = Q none (hp D (u2 (u2 N 94 n c) 86 19 (n + 1)) I J x) := by
  rw [me_18]
  simp (disch := (first | omega | exact aCat_8 (by with_unfolding_all rfl) | exact rk_lt (by with_unfolding_all rfl) | exact aCat_16 (by with_unfolding_all rfl) | exact rk_eq (by with_unfolding_all rfl) | assumption | exact b2n_lt _ | exact id_b (by with_unfolding_all rfl) | (simp (disch := omega) only [u2_same, u2_ab, u2_aq]; done) | (simp (disch := omega) only [u2_same, u2_ab, u2_aq]; omega) | fail)) only [al_1152, wp_aloadr_0, wp_aloadk_0, hg_86_17, ha_94l, ha_94s, hg_86_19, wp_iload_1, wp_dupi, wp_dupr, wk_1, wp_iadd, hp_86_19, wp_return, nl_i, nl_r, nl_k, nl_j, nl_l, nI_add, pk_mul, pk_sub, tl_s, tl_n, aL_inl, u2_same, u2_ab, u2_aq, nI_l, lN_i, Nat.add_zero, Nat.zero_add, Nat.zero_le, true_and, and_true, b2n_10, b2n_T, b2n_F, b2n_0, Decidable.not_not, not_true_eq_false, not_false_eq_true, Nat.reduceAdd, Nat.reduceMul, Nat.reduceSub, h19]
theorem l_8s {m v c p to : Nat} (h13 : N 86 13 = to) (h12 : N 86 12 = p) (hto : to ≤ 80) (hp1 : p < to) (hc : N 91 p = c) (hd : isD c = true) (hm : m < 3) (hv : v < 1000) : aWp ko d 8 (aP.1 (Int.toNat 514)) [.ref 86, .int (nI 3), .int (nI v), .int (nI m)] [] (hp D N I J x) (aL Q) = aWp ko d 8 (aP.1 (Int.toNat 514)) [.ref 86, .int (nI 3), .int (nI (10 * v + c - 48)), .int (nI (m + 1))] [] (hp D (u2 N 86 12 (p + 1)) I J x) (aL Q) := by
  have hd1 := isD_iff.mp hd
  have h9 := fun Q => t_9 (ko := ko) (d := d) (D := D) (N := N) (I := I) (J := J) (x := x) (Q := Q) (c := c) h13 h12 hto (by omega) (fun _ => ⟨hc, by omega⟩)
  rw [b2n_t ⟨hp1, hd⟩] at h9
  conv => lhs; rw [al_514]
  simp (disch := (first | omega | exact aCat_8 (by with_unfolding_all rfl) | exact rk_lt (by with_unfolding_all rfl) | exact aCat_16 (by with_unfolding_all rfl) | exact rk_eq (by with_unfolding_all rfl) | assumption | exact b2n_lt _ | exact id_b (by with_unfolding_all rfl) | (simp (disch := omega) only [u2_same, u2_ab, u2_aq]; done) | (simp (disch := omega) only [u2_same, u2_ab, u2_aq]; omega) | fail)) only [al_512, wp_aloadr_0, wp_aloadk_0, wc_9, wz_ne_t, wz_ne_f, wb_ne_t, wb_ne_f, wm_ne_1, wm_ne_2, wk_m1, wp_ireturn, al_513, wk_0, wp_istore_2, wp_istore_3, wp_jsr, wp_iload_3, wp_iload_1, wn_ge_t, wn_ge_f, wz_eq_t, wz_eq_f, wb_eq_t, wb_eq_f, wm_eq_1, wm_eq_2, wk_10, wp_iload_2, wp_imul, hg_86_10, ha_91l, ha_91s, hg_86_12, wp_iadd, wk_48, wp_isub, wp_dupi, wp_dupr, wk_1, hp_86_12, wp_iinc_3_1, wp_goto, al_515, nl_i, nl_r, nl_k, nl_j, nl_l, nI_add, pk_mul, pk_sub, tl_s, tl_n, aL_inl, u2_same, u2_ab, u2_aq, nI_l, lN_i, Nat.add_zero, Nat.zero_add, Nat.zero_le, true_and, and_true, b2n_10, b2n_T, b2n_F, b2n_0, Decidable.not_not, not_true_eq_false, not_false_eq_true, Nat.reduceAdd, Nat.reduceMul, Nat.reduceSub, h9, h12, hc]
theorem l_8e {m v p to : Nat} (h13 : N 86 13 = to) (h12 : N 86 12 = p) (hto : to ≤ 80) (hp1 : p ≤ to) (hb : p < to → N 91 p < 256) (hm : m ≤ 3) (hv : v < 1000) (he : m = 3 ∨ p = to ∨ isD (N 91 p) = false) : aWp ko d 8 (aP.1 (Int.toNat 514)) [.ref 86, .int (nI 3), .int (nI v), .int (nI m)] [] (hp D N I J x) (aL Q) = Q (some (.int (nI v))) (hp D N I J x) := by
  rw [al_514]
  by_cases z : m = 3
  · subst z
    simp (disch := (first | omega | exact aCat_8 (by with_unfolding_all rfl) | exact rk_lt (by with_unfolding_all rfl) | exact aCat_16 (by with_unfolding_all rfl) | exact rk_eq (by with_unfolding_all rfl) | assumption | exact b2n_lt _ | exact id_b (by with_unfolding_all rfl) | (simp (disch := omega) only [u2_same, u2_ab, u2_aq]; done) | (simp (disch := omega) only [u2_same, u2_ab, u2_aq]; omega) | fail)) only [al_512, wp_aloadr_0, wp_aloadk_0, wc_9, wz_ne_t, wz_ne_f, wb_ne_t, wb_ne_f, wm_ne_1, wm_ne_2, wk_m1, wp_ireturn, al_513, wk_0, wp_istore_2, wp_istore_3, wp_jsr, wp_iload_3, wp_iload_1, wn_ge_t, wn_ge_f, wz_eq_t, wz_eq_f, wb_eq_t, wb_eq_f, wm_eq_1, wm_eq_2, wk_10, wp_iload_2, wp_imul, hg_86_10, ha_91l, ha_91s, hg_86_12, wp_iadd, wk_48, wp_isub, wp_dupi, wp_dupr, wk_1, hp_86_12, wp_iinc_3_1, wp_goto, al_515, nl_i, nl_r, nl_k, nl_j, nl_l, nI_add, pk_mul, pk_sub, tl_s, tl_n, aL_inl, u2_same, u2_ab, u2_aq, nI_l, lN_i, Nat.add_zero, Nat.zero_add, Nat.zero_le, true_and, and_true, b2n_10, b2n_T, b2n_F, b2n_0, Decidable.not_not, not_true_eq_false, not_false_eq_true, Nat.reduceAdd, Nat.reduceMul, Nat.reduceSub]
  · have h9 := fun Q => t_9 (ko := ko) (d := d) (D := D) (N := N) (I := I) (J := J) (x := x) (Q := Q) (c := N 91 p) h13 h12 hto hp1 (fun y => ⟨rfl, hb y⟩)
    rw [b2n_f (by
      rintro ⟨y1, y2⟩
      rcases he with he | he | he
      · exact z he
      · omega
      · rw [he] at y2; cases y2)] at h9
    simp (disch := (first | omega | exact aCat_8 (by with_unfolding_all rfl) | exact rk_lt (by with_unfolding_all rfl) | exact aCat_16 (by with_unfolding_all rfl) | exact rk_eq (by with_unfolding_all rfl) | assumption | exact b2n_lt _ | exact id_b (by with_unfolding_all rfl) | (simp (disch := omega) only [u2_same, u2_ab, u2_aq]; done) | (simp (disch := omega) only [u2_same, u2_ab, u2_aq]; omega) | fail)) only [al_512, wp_aloadr_0, wp_aloadk_0, wc_9, wz_ne_t, wz_ne_f, wb_ne_t, wb_ne_f, wm_ne_1, wm_ne_2, wk_m1, wp_ireturn, al_513, wk_0, wp_istore_2, wp_istore_3, wp_jsr, wp_iload_3, wp_iload_1, wn_ge_t, wn_ge_f, wz_eq_t, wz_eq_f, wb_eq_t, wb_eq_f, wm_eq_1, wm_eq_2, wk_10, wp_iload_2, wp_imul, hg_86_10, ha_91l, ha_91s, hg_86_12, wp_iadd, wk_48, wp_isub, wp_dupi, wp_dupr, wk_1, hp_86_12, wp_iinc_3_1, wp_goto, al_515, nl_i, nl_r, nl_k, nl_j, nl_l, nI_add, pk_mul, pk_sub, tl_s, tl_n, aL_inl, u2_same, u2_ab, u2_aq, nI_l, lN_i, Nat.add_zero, Nat.zero_add, Nat.zero_le, true_and, and_true, b2n_10, b2n_T, b2n_F, b2n_0, Decidable.not_not, not_true_eq_false, not_false_eq_true, Nat.reduceAdd, Nat.reduceMul, Nat.reduceSub, h9]
theorem t_8c {N0 : Nat → Nat → Nat} {to pos ne : Nat} {R ro w : List Nat} (hs : rsL N0 N to pos R ne) (hto : to ≤ 40) (hp1 : pos < to) (hb : ∀ i, i < to → N0 91 i < 256) (hD : isD (N0 91 pos) = true)
    (hQ : ∀ (m v : Nat) (N' : Nat → Nat → Nat), 1 ≤ m → m ≤ 3 → pos + m ≤ to → v < 1000 → rch (N0 91) (ro, w, ne, 0, true) pos (v :: ro, w, ne, m, false) (pos + m) → (pos + m < to → isD (N0 91 (pos + m)) = true → m = 0 ∨ 3 ≤ m) → rsL N0 N' to (pos + m) R ne → Q (some (.int (nI v))) (hp D N' I J x)) : aMm ko d 8 [.ref 86, .int (nI 3)] (hp D N I J x) Q := by
  have e91 : ∀ (N : Nat → Nat → Nat) (p : Nat), rsL N0 N to p R ne → ∀ q, N 91 q = N0 91 q := fun N p h q => h.1.2.2.2 91 q (by decide) (by omega)
  have hd := isD_iff.mp hD
  have h9 := fun Q => t_9 (ko := ko) (d := d) (D := D) (N := N) (I := I) (J := J) (x := x) (Q := Q) (c := N0 91 pos) hs.1.1 hs.1.2.1 (by omega) (by omega) (fun _ => ⟨e91 N pos hs pos, by omega⟩)
  rw [b2n_t ⟨hp1, hD⟩] at h9
  rw [me_8]
  simp (disch := (first | omega | exact aCat_8 (by with_unfolding_all rfl) | exact rk_lt (by with_unfolding_all rfl) | exact aCat_16 (by with_unfolding_all rfl) | exact rk_eq (by with_unfolding_all rfl) | assumption | exact b2n_lt _ | exact id_b (by with_unfolding_all rfl) | (simp (disch := omega) only [u2_same, u2_ab, u2_aq]; done) | (simp (disch := omega) only [u2_same, u2_ab, u2_aq]; omega) | fail)) only [al_512, wp_aloadr_0, wp_aloadk_0, wc_9, wz_ne_t, wz_ne_f, wb_ne_t, wb_ne_f, wm_ne_1, wm_ne_2, wk_m1, wp_ireturn, al_513, wk_0, wp_istore_2, wp_istore_3, wp_jsr, wp_iload_3, wp_iload_1, wn_ge_t, wn_ge_f, wz_eq_t, wz_eq_f, wb_eq_t, wb_eq_f, wm_eq_1, wm_eq_2, wk_10, wp_iload_2, wp_imul, hg_86_10, ha_91l, ha_91s, hg_86_12, wp_iadd, wk_48, wp_isub, wp_dupi, wp_dupr, wk_1, hp_86_12, wp_iinc_3_1, wp_goto, al_515, nl_i, nl_r, nl_k, nl_j, nl_l, nI_add, pk_mul, pk_sub, tl_s, tl_n, aL_inl, u2_same, u2_ab, u2_aq, nI_l, lN_i, Nat.add_zero, Nat.zero_add, Nat.zero_le, true_and, and_true, b2n_10, b2n_T, b2n_F, b2n_0, Decidable.not_not, not_true_eq_false, not_false_eq_true, Nat.reduceAdd, Nat.reduceMul, Nat.reduceSub, h9]
  rw [l_8s (m := 0) (v := 0) (c := N0 91 pos) hs.1.1 hs.1.2.1 (by omega) hp1 (e91 N pos hs pos) hD (by decide) (by decide)]
  have s1 := rs_at (p := pos + 1) hs
  have r1 : rch (N0 91) (ro, w, ne, 0, true) pos ((N0 91 pos - 48) :: ro, w, ne, 1, false) (pos + 1) := rch_1 (stp_d1 hD)
  have v1 : 10 * 0 + N0 91 pos - 48 = N0 91 pos - 48 := by omega
  rw [v1]
  by_cases z1 : pos + 1 < to ∧ isD (N0 91 (pos + 1)) = true
  · have hd1 := isD_iff.mp z1.2
    rw [l_8s (m := 0 + 1) (v := N0 91 pos - 48) (c := N0 91 (pos + 1)) s1.1.1 s1.1.2.1 (by omega) z1.1 (e91 _ _ s1 _) z1.2 (by decide) (by omega)]
    have s2 := rs_at (p := pos + 1 + 1) s1
    have r2 := rch_t r1 (rch_1 (stp_d2 (w := w) (ne := ne) (o := ro) (a := N0 91 pos - 48) z1.2 (show 0 < 1 by decide) (by decide)))
    have v2 : 10 * (N0 91 pos - 48) + N0 91 (pos + 1) - 48 = (N0 91 pos - 48) * 10 + (N0 91 (pos + 1) - 48) := by omega
    rw [v2]
    by_cases z2 : pos + 1 + 1 < to ∧ isD (N0 91 (pos + 1 + 1)) = true
    · have hd2 := isD_iff.mp z2.2
      rw [l_8s (m := 0 + 1 + 1) (v := (N0 91 pos - 48) * 10 + (N0 91 (pos + 1) - 48)) (c := N0 91 (pos + 1 + 1)) s2.1.1 s2.1.2.1 (by omega) z2.1 (e91 _ _ s2 _) z2.2 (by decide) (by omega)]
      have s3 := rs_at (p := pos + 1 + 1 + 1) s2
      have r3 := rch_t r2 (rch_1 (stp_d2 (w := w) (ne := ne) (o := ro) (a := (N0 91 pos - 48) * 10 + (N0 91 (pos + 1) - 48)) z2.2 (show 0 < 1 + 1 by decide) (by decide)))
      have v3 : 10 * ((N0 91 pos - 48) * 10 + (N0 91 (pos + 1) - 48)) + N0 91 (pos + 1 + 1) - 48 = ((N0 91 pos - 48) * 10 + (N0 91 (pos + 1) - 48)) * 10 + (N0 91 (pos + 1 + 1) - 48) := by omega
      rw [v3, l_8e (p := pos + 1 + 1 + 1) s3.1.1 s3.1.2.1 (by omega) (by omega) (fun y => by rw [e91 _ _ s3]; exact hb _ y) (by decide) (by omega) (Or.inl rfl)]
      exact hQ 3 _ _ (by decide) (by decide) (by omega) (by omega) r3 (fun _ _ => Or.inr (Nat.le_refl _)) s3
    · rw [l_8e (p := pos + 1 + 1) s2.1.1 s2.1.2.1 (by omega) (by omega) (fun y => by rw [e91 _ _ s2]; exact hb _ y) (by decide) (by omega) (Or.inr (by
        by_cases y : pos + 1 + 1 = to
        · exact Or.inl y
        · refine Or.inr ?_
          rw [e91 _ _ s2]
          cases hz : isD (N0 91 (pos + 1 + 1)) with
          | false => rfl
          | true => exact absurd ⟨by omega, hz⟩ z2))]
      exact hQ 2 _ _ (by decide) (by decide) (by omega) (by omega) r2 (fun y1 y2 => absurd ⟨y1, y2⟩ z2) s2
  · rw [l_8e (p := pos + 1) s1.1.1 s1.1.2.1 (by omega) (by omega) (fun y => by rw [e91 _ _ s1]; exact hb _ y) (by decide) (by omega) (Or.inr (by
      by_cases y : pos + 1 = to
      · exact Or.inl y
      · refine Or.inr ?_
        rw [e91 _ _ s1]
        cases hz : isD (N0 91 (pos + 1)) with
        | false => rfl
        | true => exact absurd ⟨by omega, hz⟩ z1))]
    exact hQ 1 _ _ (by decide) (by decide) (by omega) (by omega) r1 (fun y1 y2 => absurd ⟨y1, y2⟩ z1) s1
end RF
