/-! arms: the reference's search through the water. From wip/whole/src. -/
section M2
variable {ko : aKo} {d k : Nat} {is : List Instr} {ls st : List Value} {σ : aH} {D : Nat → Nat} {N : Nat → Nat → Nat} {I : Nat → Nat → Int32} {J : Nat → Nat → Int64} {x t : Nat} {Q : Option Value → aH → Prop} {P : (Option Value ⊕ Unit) → aH → Prop}
theorem l_83a {N0 M : Nat → Nat → Nat} {m : Nat} {w5 w6 w7 : Value} (hd : dmO D) (hm : m < 2 ^ 36) (hw : rwO (D 1) (N0 89)) (e89 : M 89 = N0 89)
    (hK : ∀ N : Nat → Nat → Nat, (∀ b q, b ≠ 98 → N b q = M b q) → (∀ g, g < D 0 * D 1 → N 98 g = b2n (amO D N0 m g = false)) → aWp ko d 83 (aP.1 (Int.toNat 5317)) [.ref 86, .long (lN m), aJk, .int (nI (N0 89 108)), .int (nI (D 0 * D 1)), w5, w6, w7] [] (hp D N I J x) (aL Q)) :
    ∀ (j i : Nat) (N : Nat → Nat → Nat), i + j = D 0 * D 1 → (∀ b q, b ≠ 98 → N b q = M b q) → (∀ g, g < i → N 98 g = b2n (amO D N0 m g = false)) → aWp ko d 83 (aP.1 (Int.toNat 5313)) [.ref 86, .long (lN m), aJk, .int (nI (N0 89 108)), .int (nI i), w5, w6, w7] [] (hp D N I J x) (aL Q) := by
  have hF := dm_F hd
  have h36 : (2 : Nat) ^ 36 < 2 ^ 64 := by decide
  intro j
  induction j with
  | zero =>
    intro i N hj hN hv
    have e : i = D 0 * D 1 := by omega
    subst e
    rw [al_5313]
    simp (disch := (first | omega | exact aCat_8 (by with_unfolding_all rfl) | exact rk_lt (by with_unfolding_all rfl) | exact aCat_16 (by with_unfolding_all rfl) | exact rk_eq (by with_unfolding_all rfl) | assumption | exact b2n_lt _ | exact id_b (by with_unfolding_all rfl) | (simp (disch := omega) only [u2_same, u2_ab, u2_aq]; done) | (simp (disch := omega) only [u2_same, u2_ab, u2_aq]; omega) | fail)) only [al_5312, wp_aloadr_0, wp_aloadk_0, hg_86_8, ha_89l, ha_89s, wk_108, wp_istore_3, wk_0, wp_istore_4, wp_jsr, wp_iload_4, wc_10, t_10, wn_ge_t, wn_ge_f, hg_86_23, ha_98l, ha_98s, wc_26, wz_ne_t, wz_ne_f, wb_ne_t, wb_ne_f, wm_ne_1, wm_ne_2, wp_lload_1, wc_84, t_84, wz_eq_t, wz_eq_f, wb_eq_t, wb_eq_f, wm_eq_1, wm_eq_2, al_5314, wk_1, wp_goto, al_5315, al_5316, wp_iinc_4_1, wp_iload_3, wp_freturn0, wp_freturn1, wp_freturnb, al_5318, hg_86_44, ha_113l, ha_113s, wp_istore_5, wp_iload_5, wc_28, al_5320, wp_istore_6, wp_iload_6, wk_4, wc_29, wp_istore_7, wp_iload_7, wz_lt_t, wz_lt_f, wm_lt_1, wm_lt_2, al_5322, wp_iinc_6_1, al_5323, wp_iinc_5_1, al_5324, nl_i, nl_r, nl_k, nl_j, nl_l, nI_add, pk_mul, pk_sub, tl_s, tl_n, aL_inl, u2_same, u2_ab, u2_aq, nI_l, lN_i, Nat.add_zero, Nat.zero_add, Nat.zero_le, true_and, and_true, b2n_10, b2n_T, b2n_F, b2n_0, Decidable.not_not, not_true_eq_false, not_false_eq_true, Nat.reduceAdd, Nat.reduceMul, Nat.reduceSub]
    exact hK N hN hv
  | succ j ih =>
    intro i N hj hN hv
    have hi : i < D 0 * D 1 := by omega
    have e89N : N 89 = N0 89 := by
      rw [← e89]
      funext q
      exact hN 89 q (by decide)
    obtain ⟨r1, r2, r3⟩ := hw.1 i (by omega)
    have ht := fun Q => t_26 (ko := ko) (d := d) (D := D) (N := N) (I := I) (J := J) (x := x) (Q := Q) (r := 89) (f := i) (Or.inl rfl) (by omega) (by rw [e89N]; exact r2)
    rw [e89N] at ht
    have etb : tb (lN m) i = m.testBit i := tb_nat (by omega)
    have hfin : ∀ v, v = b2n (amO D N0 m i = false) → (∀ b q, b ≠ 98 → u2 N 98 i v b q = M b q) ∧ ∀ g, g < i + 1 → u2 N 98 i v 98 g = b2n (amO D N0 m g = false) := by
      intro v hvv
      refine ⟨fun b q z => by rw [u2_ab z]; exact hN b q z, fun f hf => ?_⟩
      by_cases e : f = i
      · rw [e, u2_same]; exact hvv
      · rw [u2_aq e]; exact hv f (by omega)
    rw [al_5313]
    by_cases z1 : N0 89 (36 + i) = 1
    · obtain ⟨f1, f2⟩ := hfin 1 (by
        rw [b2n_t]
        unfold amO wlS
        simp [z1])
      simp (disch := (first | omega | exact aCat_8 (by with_unfolding_all rfl) | exact rk_lt (by with_unfolding_all rfl) | exact aCat_16 (by with_unfolding_all rfl) | exact rk_eq (by with_unfolding_all rfl) | assumption | exact b2n_lt _ | exact id_b (by with_unfolding_all rfl) | (simp (disch := omega) only [u2_same, u2_ab, u2_aq]; done) | (simp (disch := omega) only [u2_same, u2_ab, u2_aq]; omega) | fail)) only [al_5312, wp_aloadr_0, wp_aloadk_0, hg_86_8, ha_89l, ha_89s, wk_108, wp_istore_3, wk_0, wp_istore_4, wp_jsr, wp_iload_4, wc_10, t_10, wn_ge_t, wn_ge_f, hg_86_23, ha_98l, ha_98s, wc_26, wz_ne_t, wz_ne_f, wb_ne_t, wb_ne_f, wm_ne_1, wm_ne_2, wp_lload_1, wc_84, t_84, wz_eq_t, wz_eq_f, wb_eq_t, wb_eq_f, wm_eq_1, wm_eq_2, al_5314, wk_1, wp_goto, al_5315, al_5316, wp_iinc_4_1, wp_iload_3, wp_freturn0, wp_freturn1, wp_freturnb, al_5318, hg_86_44, ha_113l, ha_113s, wp_istore_5, wp_iload_5, wc_28, al_5320, wp_istore_6, wp_iload_6, wk_4, wc_29, wp_istore_7, wp_iload_7, wz_lt_t, wz_lt_f, wm_lt_1, wm_lt_2, al_5322, wp_iinc_6_1, al_5323, wp_iinc_5_1, al_5324, nl_i, nl_r, nl_k, nl_j, nl_l, nI_add, pk_mul, pk_sub, tl_s, tl_n, aL_inl, u2_same, u2_ab, u2_aq, nI_l, lN_i, Nat.add_zero, Nat.zero_add, Nat.zero_le, true_and, and_true, b2n_10, b2n_T, b2n_F, b2n_0, Decidable.not_not, not_true_eq_false, not_false_eq_true, Nat.reduceAdd, Nat.reduceMul, Nat.reduceSub, ht, b2n_t z1]
      exact ih (i + 1) _ (by omega) f1 f2
    · by_cases z2 : m.testBit i = true
      · obtain ⟨f1, f2⟩ := hfin 1 (by
          rw [b2n_t]
          unfold amO
          simp [z2])
        have zz : tb (lN m) i = true := by rw [etb]; exact z2
        simp (disch := (first | omega | exact aCat_8 (by with_unfolding_all rfl) | exact rk_lt (by with_unfolding_all rfl) | exact aCat_16 (by with_unfolding_all rfl) | exact rk_eq (by with_unfolding_all rfl) | assumption | exact b2n_lt _ | exact id_b (by with_unfolding_all rfl) | (simp (disch := omega) only [u2_same, u2_ab, u2_aq]; done) | (simp (disch := omega) only [u2_same, u2_ab, u2_aq]; omega) | fail)) only [al_5312, wp_aloadr_0, wp_aloadk_0, hg_86_8, ha_89l, ha_89s, wk_108, wp_istore_3, wk_0, wp_istore_4, wp_jsr, wp_iload_4, wc_10, t_10, wn_ge_t, wn_ge_f, hg_86_23, ha_98l, ha_98s, wc_26, wz_ne_t, wz_ne_f, wb_ne_t, wb_ne_f, wm_ne_1, wm_ne_2, wp_lload_1, wc_84, t_84, wz_eq_t, wz_eq_f, wb_eq_t, wb_eq_f, wm_eq_1, wm_eq_2, al_5314, wk_1, wp_goto, al_5315, al_5316, wp_iinc_4_1, wp_iload_3, wp_freturn0, wp_freturn1, wp_freturnb, al_5318, hg_86_44, ha_113l, ha_113s, wp_istore_5, wp_iload_5, wc_28, al_5320, wp_istore_6, wp_iload_6, wk_4, wc_29, wp_istore_7, wp_iload_7, wz_lt_t, wz_lt_f, wm_lt_1, wm_lt_2, al_5322, wp_iinc_6_1, al_5323, wp_iinc_5_1, al_5324, nl_i, nl_r, nl_k, nl_j, nl_l, nI_add, pk_mul, pk_sub, tl_s, tl_n, aL_inl, u2_same, u2_ab, u2_aq, nI_l, lN_i, Nat.add_zero, Nat.zero_add, Nat.zero_le, true_and, and_true, b2n_10, b2n_T, b2n_F, b2n_0, Decidable.not_not, not_true_eq_false, not_false_eq_true, Nat.reduceAdd, Nat.reduceMul, Nat.reduceSub, ht, b2n_f z1, b2n_t zz]
        exact ih (i + 1) _ (by omega) f1 f2
      · obtain ⟨f1, f2⟩ := hfin 0 (by
          rw [b2n_f]
          unfold amO wlS
          simp [z1, z2, hi])
        have zz : ¬ tb (lN m) i = true := by rw [etb]; exact z2
        simp (disch := (first | omega | exact aCat_8 (by with_unfolding_all rfl) | exact rk_lt (by with_unfolding_all rfl) | exact aCat_16 (by with_unfolding_all rfl) | exact rk_eq (by with_unfolding_all rfl) | assumption | exact b2n_lt _ | exact id_b (by with_unfolding_all rfl) | (simp (disch := omega) only [u2_same, u2_ab, u2_aq]; done) | (simp (disch := omega) only [u2_same, u2_ab, u2_aq]; omega) | fail)) only [al_5312, wp_aloadr_0, wp_aloadk_0, hg_86_8, ha_89l, ha_89s, wk_108, wp_istore_3, wk_0, wp_istore_4, wp_jsr, wp_iload_4, wc_10, t_10, wn_ge_t, wn_ge_f, hg_86_23, ha_98l, ha_98s, wc_26, wz_ne_t, wz_ne_f, wb_ne_t, wb_ne_f, wm_ne_1, wm_ne_2, wp_lload_1, wc_84, t_84, wz_eq_t, wz_eq_f, wb_eq_t, wb_eq_f, wm_eq_1, wm_eq_2, al_5314, wk_1, wp_goto, al_5315, al_5316, wp_iinc_4_1, wp_iload_3, wp_freturn0, wp_freturn1, wp_freturnb, al_5318, hg_86_44, ha_113l, ha_113s, wp_istore_5, wp_iload_5, wc_28, al_5320, wp_istore_6, wp_iload_6, wk_4, wc_29, wp_istore_7, wp_iload_7, wz_lt_t, wz_lt_f, wm_lt_1, wm_lt_2, al_5322, wp_iinc_6_1, al_5323, wp_iinc_5_1, al_5324, nl_i, nl_r, nl_k, nl_j, nl_l, nI_add, pk_mul, pk_sub, tl_s, tl_n, aL_inl, u2_same, u2_ab, u2_aq, nI_l, lN_i, Nat.add_zero, Nat.zero_add, Nat.zero_le, true_and, and_true, b2n_10, b2n_T, b2n_F, b2n_0, Decidable.not_not, not_true_eq_false, not_false_eq_true, Nat.reduceAdd, Nat.reduceMul, Nat.reduceSub, ht, b2n_f z1, b2n_f zz]
        exact ih (i + 1) _ (by omega) f1 f2
/-- the queue: n fields, of which the first h are done -/
def quO (D : Nat → Nat) (N0 M N : Nat → Nat → Nat) (m n h : Nat) : Prop := (∀ b q, b ≠ 98 → b ≠ 113 → N b q = M b q) ∧ (0 < n ∧ N 113 0 = N0 89 108) ∧ (∀ e, e < n → N 113 e < D 0 * D 1 ∧ ∃ k, amF D N0 m k (N 113 e) = true) ∧ (∀ a b, a < b → b < n → N 113 a ≠ N 113 b) ∧ (∀ g, g < D 0 * D 1 → N 98 g ≤ 1 ∧ (N 98 g = 1 ↔ (amO D N0 m g = false ∨ ∃ e, e < n ∧ N 113 e = g))) ∧ ∀ e, e < h → ¬ D 0 * D 1 - D 1 ≤ N 113 e ∧ ∀ w y, w < 4 → bsd (D 0) (D 1) (N 113 e) w = some y → N 98 y = 1
theorem qu_le {N0 M : Nat → Nat → Nat} {m n h : Nat} (hq : quO D N0 M N m n h) : n ≤ D 0 * D 1 := pig (D 0 * D 1) n (N 113) (fun k hk => (hq.2.2.1 k hk).1) hq.2.2.2.1
theorem qu_end {N0 M : Nat → Nat → Nat} {m n : Nat} (hd : dmO D) (hq : quO D N0 M N m n n) : amC D N0 m = false := by
  have hC := hd.2.2.1
  obtain ⟨q1, q2, q3, q4, q5, q6⟩ := hq
  have hall : ∀ k g, amF D N0 m k g = true → ∃ e, e < n ∧ N 113 e = g := by
    intro k
    induction k with
    | zero =>
      intro g hg
      have hg' : (amA N0 g && amO D N0 m g) = true := hg
      have : g = N0 89 108 := of_decide_eq_true (Bool.and_eq_true _ _ |>.mp hg').1
      exact ⟨0, q2.1, q2.2.trans this.symm⟩
    | succ k ih =>
      intro g hg
      have hgF := am_in hg
      have hO := fl_open _ hg
      have hg' : (amF D N0 m k g || (amO D N0 m g && besW (D 0) (D 1) (amF D N0 m k) g 4)) = true := hg
      rcases Bool.or_eq_true _ _ |>.mp hg' with h1 | h1
      · exact ih g h1
      · obtain ⟨v, y, a1, a2, a3⟩ := (besW_iff 4).mp (Bool.and_eq_true _ _ |>.mp h1).2
        obtain ⟨e, e1, e2⟩ := ih y a3
        obtain ⟨u, hu, hub⟩ := bsd_sym hC a1 hgF a2
        rw [← e2] at hub
        have h98 := (q6 e e1).2 u g hu hub
        rcases (q5 g hgF).2.mp h98 with h2 | h2
        · rw [hO] at h2; cases h2
        · exact h2
  refine am_fls ?_
  intro g hg
  obtain ⟨e, e1, e2⟩ := hall _ g hg
  rw [← e2]
  exact (q6 e e1).1
theorem l_83w {N0 M : Nat → Nat → Nat} {m h : Nat} (hd : dmO D)
    (hK : ∀ (N : Nat → Nat → Nat) (n : Nat) (w7 : Value), h < n → quO D N0 M N m n (h + 1) → aWp ko d 83 (aP.1 (Int.toNat 5323)) [.ref 86, .long (lN m), aJk, .int (nI (N0 89 108)), .int (nI n), .int (nI h), .int (nI 4), w7] [] (hp D N I J x) (aL Q)) :
    ∀ (j w n : Nat) (N : Nat → Nat → Nat) (w7 : Value), w + j = 4 → h < n → quO D N0 M N m n h → ¬ D 0 * D 1 - D 1 ≤ N 113 h → (∀ v y, v < w → bsd (D 0) (D 1) (N 113 h) v = some y → N 98 y = 1) → aWp ko d 83 (aP.1 (Int.toNat 5321)) [.ref 86, .long (lN m), aJk, .int (nI (N0 89 108)), .int (nI n), .int (nI h), .int (nI w), w7] [] (hp D N I J x) (aL Q) := by
  have hF := dm_F hd
  have hC := hd.2.2.1
  intro j
  induction j with
  | zero =>
    intro w n N w7 hj hn hq hl hv
    have e : w = 4 := by omega
    subst e
    have hx := hK N n w7 hn ⟨hq.1, hq.2.1, hq.2.2.1, hq.2.2.2.1, hq.2.2.2.2.1, fun e he => by
      by_cases z : e = h
      · rw [z]; exact ⟨hl, fun w y hw hb => hv w y hw hb⟩
      · exact hq.2.2.2.2.2 e (by omega)⟩
    rw [al_5321]
    simp (disch := (first | omega | exact aCat_8 (by with_unfolding_all rfl) | exact rk_lt (by with_unfolding_all rfl) | exact aCat_16 (by with_unfolding_all rfl) | exact rk_eq (by with_unfolding_all rfl) | assumption | exact b2n_lt _ | exact id_b (by with_unfolding_all rfl) | (simp (disch := omega) only [u2_same, u2_ab, u2_aq]; done) | (simp (disch := omega) only [u2_same, u2_ab, u2_aq]; omega) | fail)) only [al_5312, wp_aloadr_0, wp_aloadk_0, hg_86_8, ha_89l, ha_89s, wk_108, wp_istore_3, wk_0, wp_istore_4, wp_jsr, wp_iload_4, wc_10, t_10, wn_ge_t, wn_ge_f, hg_86_23, ha_98l, ha_98s, wc_26, wz_ne_t, wz_ne_f, wb_ne_t, wb_ne_f, wm_ne_1, wm_ne_2, wp_lload_1, wc_84, t_84, wz_eq_t, wz_eq_f, wb_eq_t, wb_eq_f, wm_eq_1, wm_eq_2, al_5314, wk_1, wp_goto, al_5315, al_5316, wp_iinc_4_1, al_5317, wp_iload_3, wp_freturn0, wp_freturn1, wp_freturnb, al_5318, hg_86_44, ha_113l, ha_113s, wp_istore_5, wp_iload_5, wc_28, al_5320, wp_istore_6, wp_iload_6, wk_4, wc_29, wp_istore_7, wp_iload_7, wz_lt_t, wz_lt_f, wm_lt_1, wm_lt_2, al_5322, wp_iinc_6_1, wp_iinc_5_1, al_5324, nl_i, nl_r, nl_k, nl_j, nl_l, nI_add, pk_mul, pk_sub, tl_s, tl_n, aL_inl, u2_same, u2_ab, u2_aq, nI_l, lN_i, Nat.add_zero, Nat.zero_add, Nat.zero_le, true_and, and_true, b2n_10, b2n_T, b2n_F, b2n_0, Decidable.not_not, not_true_eq_false, not_false_eq_true, Nat.reduceAdd, Nat.reduceMul, Nat.reduceSub]
    exact hx
  | succ j ih =>
    intro w n N w7 hj hn hq hl hv
    have hnF := qu_le hq
    obtain ⟨c1, kc, hkc⟩ := hq.2.2.1 h hn
    have h29 := fun Q => t_29 (ko := ko) (d := d) (D := D) (N := N) (I := I) (J := J) (x := x) (Q := Q) (f := N 113 h) (w := w) hd.1 hd.2.2.1 hd.2.2.2 hd.2.1 c1 (by omega)
    have hh36 : h < 36 := by omega
    rw [al_5321]
    cases hbs : bsd (D 0) (D 1) (N 113 h) w with
    | none =>
      rw [hbs] at h29
      simp (disch := (first | omega | exact aCat_8 (by with_unfolding_all rfl) | exact rk_lt (by with_unfolding_all rfl) | exact aCat_16 (by with_unfolding_all rfl) | exact rk_eq (by with_unfolding_all rfl) | assumption | exact b2n_lt _ | exact id_b (by with_unfolding_all rfl) | (simp (disch := omega) only [u2_same, u2_ab, u2_aq]; done) | (simp (disch := omega) only [u2_same, u2_ab, u2_aq]; omega) | fail)) only [al_5312, wp_aloadr_0, wp_aloadk_0, hg_86_8, ha_89l, ha_89s, wk_108, wp_istore_3, wk_0, wp_istore_4, wp_jsr, wp_iload_4, wc_10, t_10, wn_ge_t, wn_ge_f, hg_86_23, ha_98l, ha_98s, wc_26, wz_ne_t, wz_ne_f, wb_ne_t, wb_ne_f, wm_ne_1, wm_ne_2, wp_lload_1, wc_84, t_84, wz_eq_t, wz_eq_f, wb_eq_t, wb_eq_f, wm_eq_1, wm_eq_2, al_5314, wk_1, wp_goto, al_5315, al_5316, wp_iinc_4_1, al_5317, wp_iload_3, wp_freturn0, wp_freturn1, wp_freturnb, al_5318, hg_86_44, ha_113l, ha_113s, wp_istore_5, wp_iload_5, wc_28, al_5320, wp_istore_6, wp_iload_6, wk_4, wc_29, wp_istore_7, wp_iload_7, wz_lt_t, wz_lt_f, wm_lt_1, wm_lt_2, al_5322, wp_iinc_6_1, wp_iinc_5_1, al_5324, nl_i, nl_r, nl_k, nl_j, nl_l, nI_add, pk_mul, pk_sub, tl_s, tl_n, aL_inl, u2_same, u2_ab, u2_aq, nI_l, lN_i, Nat.add_zero, Nat.zero_add, Nat.zero_le, true_and, and_true, b2n_10, b2n_T, b2n_F, b2n_0, Decidable.not_not, not_true_eq_false, not_false_eq_true, Nat.reduceAdd, Nat.reduceMul, Nat.reduceSub, h29, oI_n, qe_n1, qe_m1, qn_n1, qn_m1, qe_n2, qe_m2, qn_n2, qn_m2]
      refine ih (w + 1) n N _ (by omega) hn hq hl ?_
      intro v y h1 h2
      by_cases e : v = w
      · rw [e, hbs] at h2; cases h2
      · exact hv v y (by omega) h2
    | some g =>
      rw [hbs] at h29
      have hg : g < D 0 * D 1 := bsd_lt (by omega) c1 hbs
      obtain ⟨g1, g2⟩ := hq.2.2.2.2.1 g hg
      by_cases z : N 98 g = 1
      · simp (disch := (first | omega | exact aCat_8 (by with_unfolding_all rfl) | exact rk_lt (by with_unfolding_all rfl) | exact aCat_16 (by with_unfolding_all rfl) | exact rk_eq (by with_unfolding_all rfl) | assumption | exact b2n_lt _ | exact id_b (by with_unfolding_all rfl) | (simp (disch := omega) only [u2_same, u2_ab, u2_aq]; done) | (simp (disch := omega) only [u2_same, u2_ab, u2_aq]; omega) | fail)) only [al_5312, wp_aloadr_0, wp_aloadk_0, hg_86_8, ha_89l, ha_89s, wk_108, wp_istore_3, wk_0, wp_istore_4, wp_jsr, wp_iload_4, wc_10, t_10, wn_ge_t, wn_ge_f, hg_86_23, ha_98l, ha_98s, wc_26, wz_ne_t, wz_ne_f, wb_ne_t, wb_ne_f, wm_ne_1, wm_ne_2, wp_lload_1, wc_84, t_84, wz_eq_t, wz_eq_f, wb_eq_t, wb_eq_f, wm_eq_1, wm_eq_2, al_5314, wk_1, wp_goto, al_5315, al_5316, wp_iinc_4_1, al_5317, wp_iload_3, wp_freturn0, wp_freturn1, wp_freturnb, al_5318, hg_86_44, ha_113l, ha_113s, wp_istore_5, wp_iload_5, wc_28, al_5320, wp_istore_6, wp_iload_6, wk_4, wc_29, wp_istore_7, wp_iload_7, wz_lt_t, wz_lt_f, wm_lt_1, wm_lt_2, al_5322, wp_iinc_6_1, wp_iinc_5_1, al_5324, nl_i, nl_r, nl_k, nl_j, nl_l, nI_add, pk_mul, pk_sub, tl_s, tl_n, aL_inl, u2_same, u2_ab, u2_aq, nI_l, lN_i, Nat.add_zero, Nat.zero_add, Nat.zero_le, true_and, and_true, b2n_10, b2n_T, b2n_F, b2n_0, Decidable.not_not, not_true_eq_false, not_false_eq_true, Nat.reduceAdd, Nat.reduceMul, Nat.reduceSub, h29, oI_s, z, qe_n1, qe_m1, qn_n1, qn_m1, qe_n2, qe_m2, qn_n2, qn_m2]
        refine ih (w + 1) n N _ (by omega) hn hq hl ?_
        intro v y h1 h2
        by_cases e : v = w
        · rw [e, hbs] at h2; cases h2; exact z
        · exact hv v y (by omega) h2
      · have z0 : N 98 g = 0 := by omega
        have hO : amO D N0 m g = true := by
          cases hq2 : amO D N0 m g with
          | true => rfl
          | false => exact absurd (g2.mpr (Or.inl hq2)) z
        have hnew : ∀ e, e < n → N 113 e ≠ g := fun e he y => z (g2.mpr (Or.inr ⟨e, he, y⟩))
        obtain ⟨u, hu, hub⟩ := bsd_sym hC (show w < 4 by omega) c1 hbs
        have hreach : amF D N0 m (kc + 1) g = true := fl_step hO hu hub hkc
        have hr98 : ∀ b, u2 (u2 N 98 g 1) 113 n g 98 b = if b = g then 1 else N 98 b := by
          intro b
          rw [u2_ab (by decide), u2_rd]
          by_cases y : b = g
          · rw [if_pos ⟨rfl, y⟩, if_pos y]
          · rw [if_neg (fun q => y q.2), if_neg y]
        have hr113 : ∀ e, u2 (u2 N 98 g 1) 113 n g 113 e = if e = n then g else N 113 e := by
          intro e
          rw [u2_rd]
          by_cases y : e = n
          · rw [if_pos ⟨rfl, y⟩, if_pos y]
          · rw [if_neg (fun q => y q.2), if_neg y, u2_ab (by decide)]
        have hq2 : quO D N0 M (u2 (u2 N 98 g 1) 113 n g) m (n + 1) h := by
          refine ⟨fun b q y1 y2 => by rw [u2_ab y2, u2_ab y1]; exact hq.1 b q y1 y2, ⟨by omega, ?_⟩, ?_, ?_, ?_, ?_⟩
          · rw [hr113, if_neg (by have := hq.2.1.1; omega)]; exact hq.2.1.2
          · intro e he
            rw [hr113]
            by_cases y : e = n
            · rw [if_pos y]; exact ⟨hg, kc + 1, hreach⟩
            · rw [if_neg y]; exact hq.2.2.1 e (by omega)
          · intro a b hab hb
            rw [hr113, hr113, if_neg (by omega)]
            by_cases y : b = n
            · rw [if_pos y]; exact hnew a (by omega)
            · rw [if_neg y]; exact hq.2.2.2.1 a b hab (by omega)
          · intro y hy
            rw [hr98]
            obtain ⟨y1, y2⟩ := hq.2.2.2.2.1 y hy
            by_cases e : y = g
            · rw [if_pos e]
              refine ⟨Nat.le_refl _, ⟨fun _ => Or.inr ⟨n, by omega, by rw [hr113, if_pos rfl]; exact e.symm⟩, fun _ => rfl⟩⟩
            · rw [if_neg e]
              refine ⟨y1, y2.trans ⟨?_, ?_⟩⟩
              · rintro (a | ⟨b, b1, b2⟩)
                · exact Or.inl a
                · exact Or.inr ⟨b, by omega, by rw [hr113, if_neg (by omega)]; exact b2⟩
              · rintro (a | ⟨b, b1, b2⟩)
                · exact Or.inl a
                · rw [hr113] at b2
                  by_cases c : b = n
                  · rw [if_pos c] at b2; exact absurd b2.symm e
                  · rw [if_neg c] at b2; exact Or.inr ⟨b, by omega, b2⟩
          · intro e he
            rw [hr113, if_neg (by omega)]
            refine ⟨(hq.2.2.2.2.2 e he).1, fun w y hw hb => ?_⟩
            rw [hr98]
            by_cases c : y = g
            · rw [if_pos c]
            · rw [if_neg c]; exact (hq.2.2.2.2.2 e he).2 w y hw hb
        have hn36 := qu_le hq2
        simp (disch := (first | omega | exact aCat_8 (by with_unfolding_all rfl) | exact rk_lt (by with_unfolding_all rfl) | exact aCat_16 (by with_unfolding_all rfl) | exact rk_eq (by with_unfolding_all rfl) | assumption | exact b2n_lt _ | exact id_b (by with_unfolding_all rfl) | (simp (disch := omega) only [u2_same, u2_ab, u2_aq]; done) | (simp (disch := omega) only [u2_same, u2_ab, u2_aq]; omega) | fail)) only [al_5312, wp_aloadr_0, wp_aloadk_0, hg_86_8, ha_89l, ha_89s, wk_108, wp_istore_3, wk_0, wp_istore_4, wp_jsr, wp_iload_4, wc_10, t_10, wn_ge_t, wn_ge_f, hg_86_23, ha_98l, ha_98s, wc_26, wz_ne_t, wz_ne_f, wb_ne_t, wb_ne_f, wm_ne_1, wm_ne_2, wp_lload_1, wc_84, t_84, wz_eq_t, wz_eq_f, wb_eq_t, wb_eq_f, wm_eq_1, wm_eq_2, al_5314, wk_1, wp_goto, al_5315, al_5316, wp_iinc_4_1, al_5317, wp_iload_3, wp_freturn0, wp_freturn1, wp_freturnb, al_5318, hg_86_44, ha_113l, ha_113s, wp_istore_5, wp_iload_5, wc_28, al_5320, wp_istore_6, wp_iload_6, wk_4, wc_29, wp_istore_7, wp_iload_7, wz_lt_t, wz_lt_f, wm_lt_1, wm_lt_2, al_5322, wp_iinc_6_1, wp_iinc_5_1, al_5324, nl_i, nl_r, nl_k, nl_j, nl_l, nI_add, pk_mul, pk_sub, tl_s, tl_n, aL_inl, u2_same, u2_ab, u2_aq, nI_l, lN_i, Nat.add_zero, Nat.zero_add, Nat.zero_le, true_and, and_true, b2n_10, b2n_T, b2n_F, b2n_0, Decidable.not_not, not_true_eq_false, not_false_eq_true, Nat.reduceAdd, Nat.reduceMul, Nat.reduceSub, h29, oI_s, z0, qe_n1, qe_m1, qn_n1, qn_m1, qe_n2, qe_m2, qn_n2, qn_m2]
        refine ih (w + 1) (n + 1) _ _ (by omega) (by omega) hq2 (by rw [hr113, if_neg (by omega)]; exact hl) ?_
        intro v y h1 h2
        rw [hr113, if_neg (by omega)] at h2
        rw [hr98]
        by_cases e : v = w
        · rw [e, hbs] at h2; cases h2; rw [if_pos rfl]
        · by_cases c : y = g
          · rw [if_pos c]
          · rw [if_neg c]; exact hv v y (by omega) h2
theorem l_83 {N0 M : Nat → Nat → Nat} {m : Nat} (hd : dmO D)
    (hQ : ∀ N : Nat → Nat → Nat, (∀ b q, b ≠ 98 → b ≠ 113 → N b q = M b q) → Q (some (.int (nI (b2n (amC D N0 m = true))))) (hp D N I J x)) :
    ∀ (j h n : Nat) (N : Nat → Nat → Nat) (w6 w7 : Value), h + j = D 0 * D 1 → h ≤ n → quO D N0 M N m n h → aWp ko d 83 (aP.1 (Int.toNat 5319)) [.ref 86, .long (lN m), aJk, .int (nI (N0 89 108)), .int (nI n), .int (nI h), w6, w7] [] (hp D N I J x) (aL Q) := by
  have hF := dm_F hd
  intro j
  induction j with
  | zero =>
    intro h n N w6 w7 hj hn hq
    have hnF := qu_le hq
    have e : h = n := by omega
    subst e
    have hf := qu_end hd hq
    have hx := hQ N hq.1
    rw [hf, b2n_f (by decide)] at hx
    rw [al_5319]
    simp (disch := (first | omega | exact aCat_8 (by with_unfolding_all rfl) | exact rk_lt (by with_unfolding_all rfl) | exact aCat_16 (by with_unfolding_all rfl) | exact rk_eq (by with_unfolding_all rfl) | assumption | exact b2n_lt _ | exact id_b (by with_unfolding_all rfl) | (simp (disch := omega) only [u2_same, u2_ab, u2_aq]; done) | (simp (disch := omega) only [u2_same, u2_ab, u2_aq]; omega) | fail)) only [al_5312, wp_aloadr_0, wp_aloadk_0, hg_86_8, ha_89l, ha_89s, wk_108, wp_istore_3, wk_0, wp_istore_4, wp_jsr, wp_iload_4, wc_10, t_10, wn_ge_t, wn_ge_f, hg_86_23, ha_98l, ha_98s, wc_26, wz_ne_t, wz_ne_f, wb_ne_t, wb_ne_f, wm_ne_1, wm_ne_2, wp_lload_1, wc_84, t_84, wz_eq_t, wz_eq_f, wb_eq_t, wb_eq_f, wm_eq_1, wm_eq_2, al_5314, wk_1, wp_goto, al_5315, al_5316, wp_iinc_4_1, al_5317, wp_iload_3, wp_freturn0, wp_freturn1, wp_freturnb, al_5318, hg_86_44, ha_113l, ha_113s, wp_istore_5, wp_iload_5, wc_28, al_5320, wp_istore_6, wp_iload_6, wk_4, wc_29, wp_istore_7, wp_iload_7, wz_lt_t, wz_lt_f, wm_lt_1, wm_lt_2, al_5322, wp_iinc_6_1, al_5323, wp_iinc_5_1, al_5324, nl_i, nl_r, nl_k, nl_j, nl_l, nI_add, pk_mul, pk_sub, tl_s, tl_n, aL_inl, u2_same, u2_ab, u2_aq, nI_l, lN_i, Nat.add_zero, Nat.zero_add, Nat.zero_le, true_and, and_true, b2n_10, b2n_T, b2n_F, b2n_0, Decidable.not_not, not_true_eq_false, not_false_eq_true, Nat.reduceAdd, Nat.reduceMul, Nat.reduceSub]
    exact hx
  | succ j ih =>
    intro h n N w6 w7 hj hn hq
    have hnF := qu_le hq
    by_cases z : h = n
    · subst z
      have hf := qu_end hd hq
      have hx := hQ N hq.1
      rw [hf, b2n_f (by decide)] at hx
      rw [al_5319]
      simp (disch := (first | omega | exact aCat_8 (by with_unfolding_all rfl) | exact rk_lt (by with_unfolding_all rfl) | exact aCat_16 (by with_unfolding_all rfl) | exact rk_eq (by with_unfolding_all rfl) | assumption | exact b2n_lt _ | exact id_b (by with_unfolding_all rfl) | (simp (disch := omega) only [u2_same, u2_ab, u2_aq]; done) | (simp (disch := omega) only [u2_same, u2_ab, u2_aq]; omega) | fail)) only [al_5312, wp_aloadr_0, wp_aloadk_0, hg_86_8, ha_89l, ha_89s, wk_108, wp_istore_3, wk_0, wp_istore_4, wp_jsr, wp_iload_4, wc_10, t_10, wn_ge_t, wn_ge_f, hg_86_23, ha_98l, ha_98s, wc_26, wz_ne_t, wz_ne_f, wb_ne_t, wb_ne_f, wm_ne_1, wm_ne_2, wp_lload_1, wc_84, t_84, wz_eq_t, wz_eq_f, wb_eq_t, wb_eq_f, wm_eq_1, wm_eq_2, al_5314, wk_1, wp_goto, al_5315, al_5316, wp_iinc_4_1, al_5317, wp_iload_3, wp_freturn0, wp_freturn1, wp_freturnb, al_5318, hg_86_44, ha_113l, ha_113s, wp_istore_5, wp_iload_5, wc_28, al_5320, wp_istore_6, wp_iload_6, wk_4, wc_29, wp_istore_7, wp_iload_7, wz_lt_t, wz_lt_f, wm_lt_1, wm_lt_2, al_5322, wp_iinc_6_1, al_5323, wp_iinc_5_1, al_5324, nl_i, nl_r, nl_k, nl_j, nl_l, nI_add, pk_mul, pk_sub, tl_s, tl_n, aL_inl, u2_same, u2_ab, u2_aq, nI_l, lN_i, Nat.add_zero, Nat.zero_add, Nat.zero_le, true_and, and_true, b2n_10, b2n_T, b2n_F, b2n_0, Decidable.not_not, not_true_eq_false, not_false_eq_true, Nat.reduceAdd, Nat.reduceMul, Nat.reduceSub]
      exact hx
    · obtain ⟨c1, kc, hkc⟩ := hq.2.2.1 h (by omega)
      have h28 := fun Q => t_28 (ko := ko) (d := d) (D := D) (N := N) (I := I) (J := J) (x := x) (Q := Q) (f := N 113 h) (by omega) hF.2.1 hF.1
      rw [al_5319]
      by_cases y : D 0 * D 1 - D 1 ≤ N 113 h
      · have ht := am_t hd hkc y
        have hx := hQ N hq.1
        rw [b2n_t ht] at hx
        simp (disch := (first | omega | exact aCat_8 (by with_unfolding_all rfl) | exact rk_lt (by with_unfolding_all rfl) | exact aCat_16 (by with_unfolding_all rfl) | exact rk_eq (by with_unfolding_all rfl) | assumption | exact b2n_lt _ | exact id_b (by with_unfolding_all rfl) | (simp (disch := omega) only [u2_same, u2_ab, u2_aq]; done) | (simp (disch := omega) only [u2_same, u2_ab, u2_aq]; omega) | fail)) only [al_5312, wp_aloadr_0, wp_aloadk_0, hg_86_8, ha_89l, ha_89s, wk_108, wp_istore_3, wk_0, wp_istore_4, wp_jsr, wp_iload_4, wc_10, t_10, wn_ge_t, wn_ge_f, hg_86_23, ha_98l, ha_98s, wc_26, wz_ne_t, wz_ne_f, wb_ne_t, wb_ne_f, wm_ne_1, wm_ne_2, wp_lload_1, wc_84, t_84, wz_eq_t, wz_eq_f, wb_eq_t, wb_eq_f, wm_eq_1, wm_eq_2, al_5314, wk_1, wp_goto, al_5315, al_5316, wp_iinc_4_1, al_5317, wp_iload_3, wp_freturn0, wp_freturn1, wp_freturnb, al_5318, hg_86_44, ha_113l, ha_113s, wp_istore_5, wp_iload_5, wc_28, al_5320, wp_istore_6, wp_iload_6, wk_4, wc_29, wp_istore_7, wp_iload_7, wz_lt_t, wz_lt_f, wm_lt_1, wm_lt_2, al_5322, wp_iinc_6_1, al_5323, wp_iinc_5_1, al_5324, nl_i, nl_r, nl_k, nl_j, nl_l, nI_add, pk_mul, pk_sub, tl_s, tl_n, aL_inl, u2_same, u2_ab, u2_aq, nI_l, lN_i, Nat.add_zero, Nat.zero_add, Nat.zero_le, true_and, and_true, b2n_10, b2n_T, b2n_F, b2n_0, Decidable.not_not, not_true_eq_false, not_false_eq_true, Nat.reduceAdd, Nat.reduceMul, Nat.reduceSub, h28, b2n_t y]
        exact hx
      · have hx := fun w7 => l_83w (ko := ko) (d := d) (I := I) (J := J) (x := x) (Q := Q) (N0 := N0) (M := M) (m := m) (h := h) hd (fun N n w7 hn hq => by
          have hnF := qu_le hq
          have := ih (h + 1) n N (.int (nI 4)) w7 (by omega) (by omega) hq
          rw [al_5323]
          simp (disch := (first | omega | exact aCat_8 (by with_unfolding_all rfl) | exact rk_lt (by with_unfolding_all rfl) | exact aCat_16 (by with_unfolding_all rfl) | exact rk_eq (by with_unfolding_all rfl) | assumption | exact b2n_lt _ | exact id_b (by with_unfolding_all rfl) | (simp (disch := omega) only [u2_same, u2_ab, u2_aq]; done) | (simp (disch := omega) only [u2_same, u2_ab, u2_aq]; omega) | fail)) only [al_5312, wp_aloadr_0, wp_aloadk_0, hg_86_8, ha_89l, ha_89s, wk_108, wp_istore_3, wk_0, wp_istore_4, wp_jsr, wp_iload_4, wc_10, t_10, wn_ge_t, wn_ge_f, hg_86_23, ha_98l, ha_98s, wc_26, wz_ne_t, wz_ne_f, wb_ne_t, wb_ne_f, wm_ne_1, wm_ne_2, wp_lload_1, wc_84, t_84, wz_eq_t, wz_eq_f, wb_eq_t, wb_eq_f, wm_eq_1, wm_eq_2, al_5314, wk_1, wp_goto, al_5315, al_5316, wp_iinc_4_1, al_5317, wp_iload_3, wp_freturn0, wp_freturn1, wp_freturnb, al_5318, hg_86_44, ha_113l, ha_113s, wp_istore_5, wp_iload_5, wc_28, al_5320, wp_istore_6, wp_iload_6, wk_4, wc_29, wp_istore_7, wp_iload_7, wz_lt_t, wz_lt_f, wm_lt_1, wm_lt_2, al_5322, wp_iinc_6_1, al_5323, wp_iinc_5_1, al_5324, nl_i, nl_r, nl_k, nl_j, nl_l, nI_add, pk_mul, pk_sub, tl_s, tl_n, aL_inl, u2_same, u2_ab, u2_aq, nI_l, lN_i, Nat.add_zero, Nat.zero_add, Nat.zero_le, true_and, and_true, b2n_10, b2n_T, b2n_F, b2n_0, Decidable.not_not, not_true_eq_false, not_false_eq_true, Nat.reduceAdd, Nat.reduceMul, Nat.reduceSub]
          exact this) 4 0 n N w7 rfl (by omega) hq y (fun v y hv => absurd hv (Nat.not_lt_zero v))
        simp (disch := (first | omega | exact aCat_8 (by with_unfolding_all rfl) | exact rk_lt (by with_unfolding_all rfl) | exact aCat_16 (by with_unfolding_all rfl) | exact rk_eq (by with_unfolding_all rfl) | assumption | exact b2n_lt _ | exact id_b (by with_unfolding_all rfl) | (simp (disch := omega) only [u2_same, u2_ab, u2_aq]; done) | (simp (disch := omega) only [u2_same, u2_ab, u2_aq]; omega) | fail)) only [al_5312, wp_aloadr_0, wp_aloadk_0, hg_86_8, ha_89l, ha_89s, wk_108, wp_istore_3, wk_0, wp_istore_4, wp_jsr, wp_iload_4, wc_10, t_10, wn_ge_t, wn_ge_f, hg_86_23, ha_98l, ha_98s, wc_26, wz_ne_t, wz_ne_f, wb_ne_t, wb_ne_f, wm_ne_1, wm_ne_2, wp_lload_1, wc_84, t_84, wz_eq_t, wz_eq_f, wb_eq_t, wb_eq_f, wm_eq_1, wm_eq_2, al_5314, wk_1, wp_goto, al_5315, al_5316, wp_iinc_4_1, al_5317, wp_iload_3, wp_freturn0, wp_freturn1, wp_freturnb, al_5318, hg_86_44, ha_113l, ha_113s, wp_istore_5, wp_iload_5, wc_28, al_5320, wp_istore_6, wp_iload_6, wk_4, wc_29, wp_istore_7, wp_iload_7, wz_lt_t, wz_lt_f, wm_lt_1, wm_lt_2, al_5322, wp_iinc_6_1, al_5323, wp_iinc_5_1, al_5324, nl_i, nl_r, nl_k, nl_j, nl_l, nI_add, pk_mul, pk_sub, tl_s, tl_n, aL_inl, u2_same, u2_ab, u2_aq, nI_l, lN_i, Nat.add_zero, Nat.zero_add, Nat.zero_le, true_and, and_true, b2n_10, b2n_T, b2n_F, b2n_0, Decidable.not_not, not_true_eq_false, not_false_eq_true, Nat.reduceAdd, Nat.reduceMul, Nat.reduceSub, h28, b2n_f y]
        exact hx _
theorem t_83 {N0 : Nat → Nat → Nat} {m : Nat} (hd : dmO D) (hm : m < 2 ^ 36) (hw : rwO (D 1) (N0 89)) (e89 : N 89 = N0 89)
    (hQ : ∀ N' : Nat → Nat → Nat, (∀ b q, b ≠ 98 → b ≠ 113 → N' b q = N b q) → Q (some (.int (nI (b2n (amC D N0 m = true))))) (hp D N' I J x)) : aMm ko d 83 [.ref 86, .long (lN m)] (hp D N I J x) Q := by
  have hF := dm_F hd
  have hs : N0 89 108 < D 0 * D 1 := by have := hw.2.1; omega
  have e108 : N 89 108 = N0 89 108 := by rw [e89]
  have hx := fun w5 w6 w7 => l_83a (ko := ko) (d := d) (I := I) (J := J) (x := x) (Q := Q) (N0 := N0) (M := N) (m := m) (w5 := w5) (w6 := w6) (w7 := w7) hd hm hw e89 (by
    intro N1 hN1 hv1
    have hv := hv1 _ hs
    rw [al_5317]
    by_cases z : amO D N0 m (N0 89 108) = false
    · rw [b2n_t z] at hv
      have hf : amC D N0 m = false := by
        refine am_fls ?_
        intro g hg
        exfalso
        have hno : ∀ k g, amF D N0 m k g = false := by
          intro k
          induction k with
          | zero =>
            intro g
            show (amA N0 g && amO D N0 m g) = false
            unfold amA
            by_cases y : g = N0 89 108
            · rw [y, z, Bool.and_false]
            · simp [y]
          | succ k ih =>
            intro g
            show (amF D N0 m k g || (amO D N0 m g && besW (D 0) (D 1) (amF D N0 m k) g 4)) = false
            rw [ih g, Bool.false_or]
            cases hq : besW (D 0) (D 1) (amF D N0 m k) g 4 with
            | false => rw [Bool.and_false]
            | true =>
              obtain ⟨_, y, _, _, a3⟩ := (besW_iff 4).mp hq
              rw [ih y] at a3
              cases a3
        rw [hno] at hg
        cases hg
      have hq := hQ N1 (fun b q y1 _ => hN1 b q y1)
      rw [hf, b2n_f (by decide)] at hq
      simp (disch := (first | omega | exact aCat_8 (by with_unfolding_all rfl) | exact rk_lt (by with_unfolding_all rfl) | exact aCat_16 (by with_unfolding_all rfl) | exact rk_eq (by with_unfolding_all rfl) | assumption | exact b2n_lt _ | exact id_b (by with_unfolding_all rfl) | (simp (disch := omega) only [u2_same, u2_ab, u2_aq]; done) | (simp (disch := omega) only [u2_same, u2_ab, u2_aq]; omega) | fail)) only [al_5312, wp_aloadr_0, wp_aloadk_0, hg_86_8, ha_89l, ha_89s, wk_108, wp_istore_3, wk_0, wp_istore_4, wp_jsr, wp_iload_4, wc_10, t_10, wn_ge_t, wn_ge_f, hg_86_23, ha_98l, ha_98s, wc_26, wz_ne_t, wz_ne_f, wb_ne_t, wb_ne_f, wm_ne_1, wm_ne_2, wp_lload_1, wc_84, t_84, wz_eq_t, wz_eq_f, wb_eq_t, wb_eq_f, wm_eq_1, wm_eq_2, al_5314, wk_1, wp_goto, al_5315, al_5316, wp_iinc_4_1, al_5317, wp_iload_3, wp_freturn0, wp_freturn1, wp_freturnb, al_5318, hg_86_44, ha_113l, ha_113s, wp_istore_5, wp_iload_5, wc_28, al_5320, wp_istore_6, wp_iload_6, wk_4, wc_29, wp_istore_7, wp_iload_7, wz_lt_t, wz_lt_f, wm_lt_1, wm_lt_2, al_5322, wp_iinc_6_1, al_5323, wp_iinc_5_1, al_5324, nl_i, nl_r, nl_k, nl_j, nl_l, nI_add, pk_mul, pk_sub, tl_s, tl_n, aL_inl, u2_same, u2_ab, u2_aq, nI_l, lN_i, Nat.add_zero, Nat.zero_add, Nat.zero_le, true_and, and_true, b2n_10, b2n_T, b2n_F, b2n_0, Decidable.not_not, not_true_eq_false, not_false_eq_true, Nat.reduceAdd, Nat.reduceMul, Nat.reduceSub, hv]
      exact hq
    · have zt : amO D N0 m (N0 89 108) = true := by simpa using z
      rw [b2n_f z] at hv
      have hr98 : ∀ b, u2 (u2 N1 113 0 (N0 89 108)) 98 (N0 89 108) 1 98 b = if b = N0 89 108 then 1 else N1 98 b := by
        intro b
        rw [u2_rd]
        by_cases y : b = N0 89 108
        · rw [if_pos ⟨rfl, y⟩, if_pos y]
        · rw [if_neg (fun q => y q.2), if_neg y, u2_ab (by decide)]
      have hr113 : u2 (u2 N1 113 0 (N0 89 108)) 98 (N0 89 108) 1 113 0 = N0 89 108 := by rw [u2_ab (by decide), u2_same]
      have hqu : quO D N0 N (u2 (u2 N1 113 0 (N0 89 108)) 98 (N0 89 108) 1) m 1 0 := by
        refine ⟨fun b q y1 y2 => by rw [u2_ab y1, u2_ab y2]; exact hN1 b q y1, ⟨by decide, hr113⟩, ?_, fun a b h1 h2 => by omega, ?_, fun e he => absurd he (Nat.not_lt_zero e)⟩
        · intro e he
          have : e = 0 := by omega
          subst this
          rw [hr113]
          refine ⟨hs, 0, ?_⟩
          show (amA N0 (N0 89 108) && amO D N0 m (N0 89 108)) = true
          rw [zt]
          unfold amA
          simp
        · intro g hg
          rw [hr98]
          by_cases y : g = N0 89 108
          · rw [if_pos y]
            exact ⟨Nat.le_refl _, ⟨fun _ => Or.inr ⟨0, by decide, by rw [hr113, y]⟩, fun _ => rfl⟩⟩
          · rw [if_neg y, hv1 g hg, b2n_1]
            refine ⟨b2n_le _, ⟨fun a => Or.inl a, ?_⟩⟩
            rintro (a | ⟨e, e1, e2⟩)
            · exact a
            · have : e = 0 := by omega
              subst this
              rw [hr113] at e2
              exact absurd e2.symm y
      have hz := fun w6 w7 => l_83 (ko := ko) (d := d) (I := I) (J := J) (x := x) (Q := Q) (N0 := N0) (M := N) (m := m) hd hQ (D 0 * D 1) 0 1 _ w6 w7 (by omega) (by decide) hqu
      simp (disch := (first | omega | exact aCat_8 (by with_unfolding_all rfl) | exact rk_lt (by with_unfolding_all rfl) | exact aCat_16 (by with_unfolding_all rfl) | exact rk_eq (by with_unfolding_all rfl) | assumption | exact b2n_lt _ | exact id_b (by with_unfolding_all rfl) | (simp (disch := omega) only [u2_same, u2_ab, u2_aq]; done) | (simp (disch := omega) only [u2_same, u2_ab, u2_aq]; omega) | fail)) only [al_5312, wp_aloadr_0, wp_aloadk_0, hg_86_8, ha_89l, ha_89s, wk_108, wp_istore_3, wk_0, wp_istore_4, wp_jsr, wp_iload_4, wc_10, t_10, wn_ge_t, wn_ge_f, hg_86_23, ha_98l, ha_98s, wc_26, wz_ne_t, wz_ne_f, wb_ne_t, wb_ne_f, wm_ne_1, wm_ne_2, wp_lload_1, wc_84, t_84, wz_eq_t, wz_eq_f, wb_eq_t, wb_eq_f, wm_eq_1, wm_eq_2, al_5314, wk_1, wp_goto, al_5315, al_5316, wp_iinc_4_1, al_5317, wp_iload_3, wp_freturn0, wp_freturn1, wp_freturnb, al_5318, hg_86_44, ha_113l, ha_113s, wp_istore_5, wp_iload_5, wc_28, al_5320, wp_istore_6, wp_iload_6, wk_4, wc_29, wp_istore_7, wp_iload_7, wz_lt_t, wz_lt_f, wm_lt_1, wm_lt_2, al_5322, wp_iinc_6_1, al_5323, wp_iinc_5_1, al_5324, nl_i, nl_r, nl_k, nl_j, nl_l, nI_add, pk_mul, pk_sub, tl_s, tl_n, aL_inl, u2_same, u2_ab, u2_aq, nI_l, lN_i, Nat.add_zero, Nat.zero_add, Nat.zero_le, true_and, and_true, b2n_10, b2n_T, b2n_F, b2n_0, Decidable.not_not, not_true_eq_false, not_false_eq_true, Nat.reduceAdd, Nat.reduceMul, Nat.reduceSub, hv]
      exact hz _ _) (D 0 * D 1) 0 N (by omega) (fun _ _ _ => rfl) (fun f hf => absurd hf (Nat.not_lt_zero f))
  rw [me_83]
  simp (disch := (first | omega | exact aCat_8 (by with_unfolding_all rfl) | exact rk_lt (by with_unfolding_all rfl) | exact aCat_16 (by with_unfolding_all rfl) | exact rk_eq (by with_unfolding_all rfl) | assumption | exact b2n_lt _ | exact id_b (by with_unfolding_all rfl) | (simp (disch := omega) only [u2_same, u2_ab, u2_aq]; done) | (simp (disch := omega) only [u2_same, u2_ab, u2_aq]; omega) | fail)) only [al_5312, wp_aloadr_0, wp_aloadk_0, hg_86_8, ha_89l, ha_89s, wk_108, wp_istore_3, wk_0, wp_istore_4, wp_jsr, wp_iload_4, wc_10, t_10, wn_ge_t, wn_ge_f, hg_86_23, ha_98l, ha_98s, wc_26, wz_ne_t, wz_ne_f, wb_ne_t, wb_ne_f, wm_ne_1, wm_ne_2, wp_lload_1, wc_84, t_84, wz_eq_t, wz_eq_f, wb_eq_t, wb_eq_f, wm_eq_1, wm_eq_2, al_5314, wk_1, wp_goto, al_5315, al_5316, wp_iinc_4_1, al_5317, wp_iload_3, wp_freturn0, wp_freturn1, wp_freturnb, al_5318, hg_86_44, ha_113l, ha_113s, wp_istore_5, wp_iload_5, wc_28, al_5320, wp_istore_6, wp_iload_6, wk_4, wc_29, wp_istore_7, wp_iload_7, wz_lt_t, wz_lt_f, wm_lt_1, wm_lt_2, al_5322, wp_iinc_6_1, al_5323, wp_iinc_5_1, al_5324, nl_i, nl_r, nl_k, nl_j, nl_l, nI_add, pk_mul, pk_sub, tl_s, tl_n, aL_inl, u2_same, u2_ab, u2_aq, nI_l, lN_i, Nat.add_zero, Nat.zero_add, Nat.zero_le, true_and, and_true, b2n_10, b2n_T, b2n_F, b2n_0, Decidable.not_not, not_true_eq_false, not_false_eq_true, Nat.reduceAdd, Nat.reduceMul, Nat.reduceSub, e108]
  exact hx _ _ _
end M2
