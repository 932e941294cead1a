/-! way: the class. From wip/whole/src. -/
/-- where a ship of draught p can go -/
def wyO (D : Nat → Nat) (N : Nat → Nat → Nat) (p g : Nat) : Bool := decide (g < D 0 * D 1) && (!wlS (N 89) g && decide (N 89 g ≤ 9 - p))
def wyA (D : Nat → Nat) (g : Nat) : Bool := decide (D 0 * D 1 - D 1 ≤ g)
def wyL (D : Nat → Nat) (N : Nat → Nat → Nat) (p k g : Nat) : Bool := fl (D 0) (D 1) (wyO D N p) (wyA D) k g
/-- the next field of the way -/
def nxB (D : Nat → Nat) (N : Nat → Nat → Nat) (p i cur g : Nat) : Bool := besW (D 0) (D 1) (fun y => y == cur) g 4 && wyL D N p i g
def nxt (D : Nat → Nat) (N : Nat → Nat → Nat) (p i cur : Nat) : Nat := (fsP (nxB D N p i cur) 36).getD 0
def wyQ (D : Nat → Nat) (N : Nat → Nat → Nat) (p k : Nat) : Nat → Nat
  | 0 => N 89 108
  | e + 1 => nxt D N p (k - 1 - e) (wyQ D N p k e)
section Y1
variable {ko : aKo} {d k : Nat} {is : List Instr} {ls st : List Value} {σ : aH} {D : Nat → Nat} {N : Nat → Nat → Nat} {I : Nat → Nat → Int32} {J : Nat → Nat → Int64} {x t : Nat} {Q : Option Value → aH → Prop} {P : (Option Value ⊕ Unit) → aH → Prop}
theorem wy_in {p k g : Nat} (h : wyL D N p k g = true) : g < D 0 * D 1 := by
  have := fl_open k h
  unfold wyO at this
  exact of_decide_eq_true (Bool.and_eq_true _ _ |>.mp this).1
theorem nx_ok {p i cur : Nat} (hd : dmO D) (hc : cur < D 0 * D 1) (h : flF (D 0) (D 1) (wyO D N p) (wyA D) (i + 1) cur) : ∃ a, nxt D N p i cur = a ∧ a < D 0 * D 1 ∧ flF (D 0) (D 1) (wyO D N p) (wyA D) i a ∧ nxB D N p i cur a = true ∧ ∀ b, b < a → nxB D N p i cur b = false := by
  have hF := dm_F hd
  have hC : 2 ≤ D 1 := hd.2.2.1
  obtain ⟨w, y, hw, hb, hy⟩ := fl_pred h
  have hyF : y < D 0 * D 1 := bsd_lt (by omega) hc hb
  obtain ⟨v, hv, hvb⟩ := bsd_sym hC hw hc hb
  have hpy : nxB D N p i cur y = true := by
    unfold nxB wyL
    rw [(besW_iff 4).mpr ⟨v, cur, hv, hvb, by simp⟩, hy.1]
    rfl
  rcases firstOf (fun g => nxB D N p i cur g = true) 36 with ⟨a, ha, hp1, hno⟩ | hno
  · have hno' : ∀ b, b < a → nxB D N p i cur b = false := fun b hb => by simpa using hno b hb
    have hfl : wyL D N p i a = true := (Bool.and_eq_true _ _ |>.mp hp1).2
    obtain ⟨v2, y2, hv2, hb2, hy2⟩ := (besW_iff 4).mp (Bool.and_eq_true _ _ |>.mp hp1).1
    have e2 : y2 = cur := by simpa using hy2
    subst e2
    have haF := wy_in hfl
    obtain ⟨w3, hw3, hb3⟩ := bsd_sym hC hv2 haF hb2
    refine ⟨a, ?_, haF, fl_exact h hw3 hb3 hfl, hp1, hno'⟩
    unfold nxt
    rw [fs_of 36 ha hp1 hno']
    rfl
  · exact absurd hpy (hno y (by omega))
theorem wq_ok {p k : Nat} (hd : dmO D) (hs : N 89 108 < D 0 * D 1) (h : flF (D 0) (D 1) (wyO D N p) (wyA D) k (N 89 108)) : ∀ e, e ≤ k → wyQ D N p k e < D 0 * D 1 ∧ flF (D 0) (D 1) (wyO D N p) (wyA D) (k - e) (wyQ D N p k e) := by
  intro e
  induction e with
  | zero => intro _; exact ⟨hs, h⟩
  | succ e ih =>
    intro he
    obtain ⟨i1, i2⟩ := ih (by omega)
    rw [show k - e = k - 1 - e + 1 by omega] at i2
    obtain ⟨a, h1, h2, h3, _⟩ := nx_ok hd i1 i2
    rw [wyQ, h1, show k - (e + 1) = k - 1 - e by omega]
    exact ⟨h2, h3⟩
theorem tb_sets {s : Int64} {o : Nat → Bool} (hld : ldO D N I J) (h2 : D 2 = D 0) (h3 : D 3 = D 1) (ho : ∀ g, g < 64 → tb s g = o g) (hz : ∀ g, D 0 * D 1 ≤ g → o g = false) {g : Nat} (hg : g < 64) : tb (arJ D J s) g = (decide (g < D 0 * D 1) && besW (D 0) (D 1) o g 4) := by
  have hF := ld_F hld
  have hC := hld.1.2.2.1
  rw [h2, h3] at hF
  rw [h3] at hC
  rw [tb_around hld (fun i hi hge => by rw [ho i hi]; exact hz i (by rw [h2, h3] at hge; exact hge)) hg, h2, h3]
  by_cases z : g < D 0 * D 1
  · congr 1
    rw [Bool.eq_iff_iff, besW_iff, besW_iff]
    constructor
    · rintro ⟨w, y, a1, a2, a3⟩
      have := bsd_lt (by omega) z a2
      rw [ho y (by omega)] at a3
      exact ⟨w, y, a1, a2, a3⟩
    · rintro ⟨w, y, a1, a2, a3⟩
      have := bsd_lt (by omega) z a2
      rw [← ho y (by omega)] at a3
      exact ⟨w, y, a1, a2, a3⟩
  · simp [z]
/-- the layers that the class keeps -/
def wyK (D : Nat → Nat) (N0 : Nat → Nat → Nat) (J : Nat → Nat → Int64) (p k : Nat) : Prop := ∀ i, i < k → ∀ g, g < 64 → tb (J 76 i) g = wyL D N0 p i g
def wyE (i : Nat) : Int32 := if i = 0 then -1 else nI (i - 1)
theorem wp_d6 {a0 a1 a2 a3 a4 a5 : Value} {l : List Value} : aWp ko d k (.iinc 6 (-1) :: is) (a0 :: a1 :: a2 :: a3 :: a4 :: a5 :: .int (nI 0) :: l) st σ P = aWp ko d k is (a0 :: a1 :: a2 :: a3 :: a4 :: aNl a5 :: .int (-1) :: l) st σ P := wp_of (fun _ => ev_iinc.trans rfl)
theorem l_238 {N0 : Nat → Nat → Nat} {I0 : Nat → Nat → Int32} {J0 : Nat → Nat → Int64} {p k : Nat} {w2 w3 : Int32} (h : invB D N0 I0 J0 t) (hk36 : k < 36) (hfk : flF (D 0) (D 1) (wyO D N0 p) (wyA D) k (N0 89 108))
    {N1 : Nat → Nat → Nat} {J1 : Nat → Nat → Int64} (hld : ldO D N1 I J1) (hw : wyK D N0 J1 p k)
    (hQ : ∀ (N : Nat → Nat → Nat) (J : Nat → Nat → Int64), (∀ b q, b ≠ 3 → N b q = N1 b q) → (∀ b q, b ≠ 4 → J b q = J1 b q) → tdC N J (k + 1) (fun e => lN (wyQ D N0 p k e)) → Q none (hp D N I J x)) :
    ∀ (i : Nat) (N : Nat → Nat → Nat) (J : Nat → Nat → Int64), i ≤ k → (∀ b q, b ≠ 3 → N b q = N1 b q) → (∀ b q, b ≠ 4 → J b q = J1 b q) → tdC N J (k - i + 1) (fun e => lN (wyQ D N0 p k e)) → aWp ko d 238 (aP.1 (Int.toNat 15233)) [.ref 73, .ref 5, .int w2, .int w3, .ref 3, .int (nI (wyQ D N0 p k (k - i))), .int (wyE i)] [] (hp D N I J x) (aL Q) := by
  have hF := dm_F h.1.1
  have hs : N0 89 108 < D 0 * D 1 := by have := h.2.2.2.2.1.1.2.1; omega
  have hd6 := h.1.1.2.2.2
  intro i
  induction i with
  | zero =>
    intro N J _ hN hJ ht
    have e : wyE 0 = -1 := rfl
    rw [al_15233, e]
    simp (disch := (first | omega | exact aCat_8 (by with_unfolding_all rfl) | exact rk_lt (by with_unfolding_all rfl) | exact aCat_16 (by with_unfolding_all rfl) | exact rk_eq (by with_unfolding_all rfl) | assumption | exact b2n_lt _ | exact id_b (by with_unfolding_all rfl) | (simp (disch := omega) only [u2_same, u2_ab, u2_aq]; done) | (simp (disch := omega) only [u2_same, u2_ab, u2_aq]; omega) | fail)) only [al_15232, wp_aloadr_4, wp_aloadk_4, wc_292, t_292, wp_iload_2, wp_i2l, wc_293, t_293, wp_istore_5, wp_iload_3, wk_36, wp_min, wk_1, wp_isub, wp_istore_6, wp_jsr, wp_iload_6, wz_lt_t, wz_lt_f, wm_lt_1, wm_lt_2, wp_aloadr_1, wp_aloadk_1, wl_1, wp_iload_5, wp_lshl, wc_243, wp_aloadr_0, wp_aloadk_0, hg_73_2, ha_76l, ha_76s, wp_land, wc_123, wp_idec_6_1, wp_goto, al_15234, wp_return, nl_i, nl_r, nl_k, nl_j, nl_l, nI_add, pk_mul, pk_sub, tl_s, tl_n, aL_inl, u2_same, u2_ab, u2_aq, nI_l, lN_i, Nat.add_zero, Nat.zero_add, Nat.zero_le, true_and, and_true, b2n_10, b2n_T, b2n_F, b2n_0, Decidable.not_not, not_true_eq_false, not_false_eq_true, Nat.reduceAdd, Nat.reduceMul, Nat.reduceSub, qe_n1, qe_m1, qn_n1, qn_m1, qe_n2, qe_m2, qn_n2, qn_m2]
    rw [Nat.sub_zero] at ht
    exact hQ N J hN hJ ht
  | succ i ih =>
    intro N J hi hN hJ ht
    obtain ⟨q1, q2⟩ := wq_ok h.1.1 hs hfk (k - (i + 1)) (by omega)
    rw [show k - (k - (i + 1)) = i + 1 by omega] at q2
    obtain ⟨a, n1, n2, n3, n4, n5⟩ := nx_ok h.1.1 q1 q2
    have ea : wyQ D N0 p k (k - i) = a := by
      rw [show k - i = k - (i + 1) + 1 by omega, wyQ, show k - 1 - (k - (i + 1)) = i by omega]
      exact n1
    have hldN : ldO D N I J := ldO_f hld (fun q => ⟨hN 6 q (by decide), hN 7 q (by decide)⟩) (fun _ => rfl) (fun q => hJ 5 q (by decide))
    have hset : ∀ g, g < 64 → tb (arJ D J (lN 1 <<< (lN (wyQ D N0 p k (k - (i + 1))) &&& 63)) &&& J 76 i) g = (decide (g < D 0 * D 1) && nxB D N0 p i (wyQ D N0 p k (k - (i + 1))) g) := by
      intro g hg
      rw [tb_and, tb_sets (o := fun y => y == wyQ D N0 p k (k - (i + 1))) hldN h.1.2.1 h.1.2.2.1 (fun y hy => by
        rw [tb_p2 (by omega) hy]
        by_cases z : y = wyQ D N0 p k (k - (i + 1)) <;> simp [z]) (fun y hy => by
        have : ¬ y = wyQ D N0 p k (k - (i + 1)) := by omega
        simp [this]) hg, hJ 76 i (by decide), hw i (by omega) g hg, Bool.and_assoc]
      rfl
    have t123 := fun Q => t_123 (ko := ko) (d := d) (σ := hp D N I J x) (Q := Q) (s := arJ D J (lN 1 <<< (lN (wyQ D N0 p k (k - (i + 1))) &&& 63)) &&& J 76 i) (k := a) (by omega) (by rw [hset a (by omega), n4]; simp [n2]) (fun b hb => by rw [hset b (by omega), n5 b hb, Bool.and_false])
    have e31 := ht.1
    have e1 : wyE (i + 1) = nI i := rfl
    have ih1 := fun N J => ih N J (by omega)
    rw [ea] at ih1
    have hi36 : i < 36 := by omega
    have hk36' : k - (i + 1) + 1 < 36 := by omega
    have hfin : tdC (u2 N 3 1 (k - (i + 1) + 1 + 1)) (u2 J 4 (k - (i + 1) + 1) (lN a)) (k - i + 1) (fun e => lN (wyQ D N0 p k e)) := by
      refine ⟨by rw [u2_same]; omega, fun e he => ?_⟩
      by_cases z : e = k - (i + 1) + 1
      · rw [z, u2_same, show k - (i + 1) + 1 = k - i by omega]
        exact congrArg lN ea.symm
      · rw [u2_aq z]
        exact ht.2 e (by omega)
    have ih2 := ih1 (u2 N 3 1 (k - (i + 1) + 1 + 1)) (u2 J 4 (k - (i + 1) + 1) (lN a)) (fun b q z => by rw [u2_ab z]; exact hN b q z) (fun b q z => by rw [u2_ab z]; exact hJ b q z) hfin
    generalize wyQ D N0 p k (k - (i + 1)) = cur at *
    have hcur : cur < 36 := by omega
    have ha36 : a < 36 := by omega
    rw [al_15233, e1]
    by_cases z0 : i = 0
    · subst z0
      have e2 : wyE 0 = -1 := rfl
      rw [e2] at ih2
      simp (disch := (first | omega | exact aCat_8 (by with_unfolding_all rfl) | exact rk_lt (by with_unfolding_all rfl) | exact aCat_16 (by with_unfolding_all rfl) | exact rk_eq (by with_unfolding_all rfl) | assumption | exact b2n_lt _ | exact id_b (by with_unfolding_all rfl) | (simp (disch := omega) only [u2_same, u2_ab, u2_aq]; done) | (simp (disch := omega) only [u2_same, u2_ab, u2_aq]; omega) | fail)) only [al_15232, wp_aloadr_4, wp_aloadk_4, wc_292, t_292, wp_iload_2, wp_i2l, wc_293, t_293, wp_istore_5, wp_iload_3, wk_36, wp_min, wk_1, wp_isub, wp_istore_6, wp_jsr, wp_iload_6, wz_lt_t, wz_lt_f, wm_lt_1, wm_lt_2, wp_aloadr_1, wp_aloadk_1, wl_1, wp_iload_5, wp_lshl, wc_243, wp_aloadr_0, wp_aloadk_0, hg_73_2, ha_76l, ha_76s, wp_land, wc_123, wp_idec_6_1, wp_goto, al_15234, wp_return, nl_i, nl_r, nl_k, nl_j, nl_l, nI_add, pk_mul, pk_sub, tl_s, tl_n, aL_inl, u2_same, u2_ab, u2_aq, nI_l, lN_i, Nat.add_zero, Nat.zero_add, Nat.zero_le, true_and, and_true, b2n_10, b2n_T, b2n_F, b2n_0, Decidable.not_not, not_true_eq_false, not_false_eq_true, Nat.reduceAdd, Nat.reduceMul, Nat.reduceSub, t_243 (show D 3 ≤ 6 by rw [h.1.2.2.1]; exact hd6), t123, e31, wp_d6]
      exact ih2
    · have e2 : wyE i = nI (i - 1) := if_neg z0
      rw [e2] at ih2
      simp (disch := (first | omega | exact aCat_8 (by with_unfolding_all rfl) | exact rk_lt (by with_unfolding_all rfl) | exact aCat_16 (by with_unfolding_all rfl) | exact rk_eq (by with_unfolding_all rfl) | assumption | exact b2n_lt _ | exact id_b (by with_unfolding_all rfl) | (simp (disch := omega) only [u2_same, u2_ab, u2_aq]; done) | (simp (disch := omega) only [u2_same, u2_ab, u2_aq]; omega) | fail)) only [al_15232, wp_aloadr_4, wp_aloadk_4, wc_292, t_292, wp_iload_2, wp_i2l, wc_293, t_293, wp_istore_5, wp_iload_3, wk_36, wp_min, wk_1, wp_isub, wp_istore_6, wp_jsr, wp_iload_6, wz_lt_t, wz_lt_f, wm_lt_1, wm_lt_2, wp_aloadr_1, wp_aloadk_1, wl_1, wp_iload_5, wp_lshl, wc_243, wp_aloadr_0, wp_aloadk_0, hg_73_2, ha_76l, ha_76s, wp_land, wc_123, wp_idec_6_1, wp_goto, al_15234, wp_return, nl_i, nl_r, nl_k, nl_j, nl_l, nI_add, pk_mul, pk_sub, tl_s, tl_n, aL_inl, u2_same, u2_ab, u2_aq, nI_l, lN_i, Nat.add_zero, Nat.zero_add, Nat.zero_le, true_and, and_true, b2n_10, b2n_T, b2n_F, b2n_0, Decidable.not_not, not_true_eq_false, not_false_eq_true, Nat.reduceAdd, Nat.reduceMul, Nat.reduceSub, t_243 (show D 3 ≤ 6 by rw [h.1.2.2.1]; exact hd6), t123, e31]
      exact ih2
end Y1
