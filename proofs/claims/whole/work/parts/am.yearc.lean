/-! year: the pair. From wip/whole/src. -/
theorem yb_le {T : Nat → Nat} {e p w : Nat} (hp1 : p < e) (hyb : yrB T e p = some w) : w ≤ e := by
  unfold yrB at hyb
  by_cases z : lenA (T p) = 0
  · rw [if_pos z] at hyb
    cases hyb
    omega
  · rw [if_neg z] at hyb
    have key : ∀ m w, badA T e p m = some w → w ≤ e := by
      intro m
      induction m with
      | zero => intro w h; cases h
      | succ m ihm =>
        intro w h
        rw [badA] at h
        cases hq : badA T e p m with
        | some w' =>
          rw [hq] at h
          cases h
          exact ihm w hq
        | none =>
          rw [hq] at h
          have h' : (if okD T e p (m + 1) = true then none else some (p + (m + 1))) = some w := h
          split at h'
          · cases h'
          · cases h'
            by_cases m0 : m = 0
            · omega
            · have := bad_n m hq m (by omega) (Nat.le_refl _)
              unfold okD at this
              have := of_decide_eq_true (Bool.and_eq_true _ _ |>.mp this).1
              omega
    exact key _ w hyb
theorem yw_le {T : Nat → Nat} {e w : Nat} : ∀ f p, yrW T e f p = some w → w ≤ e := by
  intro f
  induction f with
  | zero => intro p h; cases h
  | succ f ih =>
    intro p h
    by_cases z : p < e
    · rw [yw_s z] at h
      cases hb : yrB T e p with
      | some w' =>
        rw [hb] at h
        cases h
        exact yb_le z hb
      | none =>
        rw [hb] at h
        exact ih _ h
    · rw [yrW, if_pos (by omega)] at h
      cases h
section ZC
variable {ko : aKo} {d k : Nat} {is : List Instr} {ls st : List Value} {σ : aH} {D : Nat → Nat} {N : Nat → Nat → Nat} {I : Nat → Nat → Int32} {J : Nat → Nat → Int64} {x t : Nat} {Q : Option Value → aH → Prop} {P : (Option Value ⊕ Unit) → aH → Prop}
/-- the text read, the rest of an act as ever -/
theorem act_T {t' : Nat} {S' : Nat → Nat} {N1 N1r N2 N2r : Nat → Nat → Nat} {I1 I2 : Nat → Nat → Int32} {J1 J2 : Nat → Nat → Int64} (h : invB D N I J t) (ht : t ≤ t') (hS' : rwO (D 1) S' ∧ rwZ (D 0 * D 1) S' ∧ (S' 109 ≤ t' ∧ sumR (fun q => S' (36 + q)) 36 ≤ 8)) (hC : actC D N I J S' N1r I1 J1) (hN1 : ∀ b q, ¬ (b = 1 ∧ q = 1) → N1 b q = N1r b q) (h1 : N1 1 1 = 0) (hR : actR N1 I1 J1 S' N2r I2 J2) (hN2 : ∀ b q, ¬ (b = 86 ∧ q = 11) → N2 b q = N2r b q) (h2 : N2 86 11 = 0) : invB D N2 I2 J2 t' := by
  obtain ⟨r1, r2, r3, r4, r5, r6⟩ := hR
  have e26 : N1 86 26 = N1r 86 26 := hN1 86 26 (by omega)
  have e89 : N1 89 = N1r 89 := by funext q; exact hN1 89 q (by omega)
  have e99 : ∀ j, rwAt N1 99 j = rwAt N1r 99 j := fun j => by
    funext q
    unfold rwAt
    rw [hN1 99 _ (by omega)]
  have f99 : ∀ j, rwAt (u2 N2r 1 1 (N1r 1 1)) 99 j = rwAt N2r 99 j := fun j => by
    funext q
    unfold rwAt
    rw [u2_ab (by decide)]
  have hR' : actR N1r I1 J1 S' (u2 N2r 1 1 (N1r 1 1)) I2 J2 := by
    refine ⟨?_, r2, ?_, r4, ?_, ?_⟩
    · intro b q z y
      rw [u2_rd]
      split
      · rename_i w
        rw [w.1, w.2]
      · rename_i w
        rw [r1 b q z y, hN1 b q w]
    · intro b q hb
      rw [u2_rd]
      split
      · rename_i w
        rw [w.1, w.2]
      · rename_i w
        rw [r3 b q hb, hN1 b q w]
    · rw [u2_nb (by decide)]
      exact r5
    · unfold puRr at r6 ⊢
      rw [e26, e89] at r6
      simp only [e99] at r6
      simp only [f99]
      rw [u2_ab (by decide)]
      exact r6
  have hB := act_B h ht hS' hC hR'
  have h21 : N2 1 1 = 0 := by rw [hN2 1 1 (by omega), r3 1 1 (by decide), h1]
  refine invB_p (fun g => g == 1) rfl hB (Nat.le_refl _) ?_ (fun _ _ _ _ => rfl) (fun _ _ _ _ => rfl) (fun _ => ?_) (fun z => by cases z) (fun z => by cases z) (fun z => by cases z) (fun z => by cases z) (fun z => by cases z) (fun z => by cases z) (fun z => by cases z)
  · intro b q z y
    rw [u2_rd, if_neg (by rintro ⟨rfl, rfl⟩; cases y), hN2 b q (by rintro ⟨rfl, rfl⟩; cases y)]
  · unfold iTx
    rw [h2, h21]
    exact ⟨rfl, by decide, fun i hi => absurd hi (Nat.not_lt_zero i)⟩
theorem o_year (hk : koT ko) (h : inv D N I J t) (ht : t + 300 < 1000000000) : opO ko d 171 54 [] D N I J x (t + 300) := by
  obtain ⟨t1, t2, t3⟩ := id h.1.2.1
  show aMm ko d 171 [.ref 0] (hp D N I J x) (fun v σ1 => aMm ko d 54 [.ref 86] σ1 _)
  by_cases hw : N 86 11 ≤ 60 ∧ yrW (N 91) (min (N 86 11) 60) 61 0 = none
  · obtain ⟨hn, hW⟩ := hw
    have em : min (N 86 11) 60 = N 86 11 := by omega
    have hW' := hW
    rw [em] at hW'
    obtain ⟨K, hg, hK⟩ := yw_K (T := N 91) (e := N 86 11) 61 0 (by rw [psA]; omega) (by rw [psA]; omega) (fun i hi => absurd hi (Nat.not_lt_zero i)) (by rw [psA]; exact hW')
    obtain ⟨m, hM⟩ := yrM_ex D N K
    obtain ⟨k1, _⟩ := gd_ps K hg
    have hmK := hM.1
    have hG := yr_G h.1 hg hM ht (by omega) m (Nat.le_refl _)
    refine k_171 h.1 ht hn hg hK hW hM ?_ ?_
    · intro hm N1 N1r I1 J1 hC hN1 h11 htd
      have h86 : ∀ b q, 86 ≤ b → N1 b q = N b q := fun b q hb => (hN1 b q (by omega)).trans (hC.2.2.2.1 b q hb)
      refine r_54a hk h.1 h86 ?_ (fun y => absurd ⟨hn, hW⟩ y)
      intro a N' I' _ hps _ hF h32 hI hac
      have ea : a = K := psA_inj (hps.trans hK.symm)
      subst ea
      refine r_54 h.1 ht hn hg hK hM h86 hF h32 hI hac ?_ (fun y => absurd y (by omega))
      intro _ N2 N2r I2 J2 hR hN2 h211 htd2
      refine ⟨rfl, rfl, D, N2, I2, J2, rfl, act_T h.1 (by omega) ⟨hG.1, hG.2.1, by have := hG.2.2.1; omega, hG.2.2.2⟩ hC hN1 h11 hR hN2 h211, td_O ?_ htd2 (by decide)⟩
      refine ⟨?_, fun i hi => ?_⟩
      · rw [hN2 3 1 (by omega), hR.2.2.1 3 1 (by decide)]
        exact htd.1
      · rw [hR.2.2.2.1 4 i (by decide)]
        exact htd.2 i hi
    · intro hm N1 J1 h11 hN1 hJ1 htd
      have h86 : ∀ b q, 86 ≤ b → N1 b q = N b q := fun b q hb => hN1 b q (by omega) (by omega) (by omega) (by omega)
      refine r_54a hk h.1 h86 ?_ (fun y => absurd ⟨hn, hW⟩ y)
      intro a N' I' _ hps _ hF h32 hI hac
      have ea : a = K := psA_inj (hps.trans hK.symm)
      subst ea
      refine r_54 h.1 ht hn hg hK hM h86 hF h32 hI hac (fun y => absurd y (by omega)) ?_
      intro _ N2 I2 J2 h211 hN2 h299 hI2 hlow htd2
      have hfr : ∀ b q, kpN b q = true → b ≠ 99 → ¬ (b = 86 ∧ q = 11) → ¬ (b = 1 ∧ q = 1) → N2 b q = N b q := fun b q z y1 y2 y3 => (hN2 b q z y1 y2).trans (hN1 b q (by rintro rfl; cases z) (by rintro rfl; cases z) (by rintro rfl; cases z) y3)
      have hJ2 : ∀ b q, b < 86 → b ≠ 22 → b ≠ 4 → J2 b q = J b q := fun b q z y1 y2 => (hlow b q z).2.trans (hJ1 b q y1 y2)
      refine ⟨rfl, rfl, D, N2, I2, J2, rfl, ?_, td_O ⟨by rw [(hlow 3 1 (by decide)).1]; exact htd.1, fun i hi => by rw [(hlow 4 i (by decide)).2]; exact htd.2 i hi⟩ htd2 (by decide)⟩
      refine invB_p (fun g => g == 1 || g == 5) rfl h.1 (by omega) ?_ (fun b q z _ => hI2 b q z) ?_ (fun _ => ?_) (fun z => by cases z) (fun z => by cases z) (fun z => by cases z) (fun _ => ?_) (fun z => by cases z) (fun z => by cases z) (fun z => by cases z)
      · intro b q z y
        exact hfr b q z (by rintro rfl; cases y) (by rintro ⟨rfl, rfl⟩; cases y) (by rintro ⟨rfl, rfl⟩; cases y)
      · intro b q z _
        refine hJ2 b q ?_ (by rintro rfl; cases z) (by rintro rfl; cases z)
        unfold kpJ at z
        simp at z
        omega
      · unfold iTx
        rw [h211, (hlow 1 1 (by decide)).1, h11]
        exact ⟨rfl, by decide, fun i hi => absurd hi (Nat.not_lt_zero i)⟩
      · obtain ⟨u1, u2', u3, u4⟩ := h.1.2.2.2.2.2.1
        have f1 : N2 32 1 = N 32 1 := hfr 32 1 rfl (by decide) (by omega) (by omega)
        have f2 : N2 32 2 = N 32 2 := hfr 32 2 rfl (by decide) (by omega) (by omega)
        have f3 : N2 86 26 = N 86 26 := hfr 86 26 rfl (by decide) (by omega) (by omega)
        unfold iUn
        rw [f1, f2, f3]
        refine ⟨u1, u2', u3, fun j hj => ?_⟩
        have er : rwAt N2 99 j = rwAt N 99 j := by
          funext q
          unfold rwAt
          rw [h299, h86 86 26 (by decide)]
          unfold puT
          split
          · rw [if_neg (by omega), h86 99 _ (by decide)]
          · rfl
        rw [er]
        have hmm := Nat.mod_lt (N 32 1 + 15 - N 86 26 + j) (show 15 > 0 by decide)
        exact iSt_c (u4 j hj) (by omega) (fun q => hfr _ q (kp_st (by omega)) (by omega) (by omega) (by omega)) (fun q => hfr _ q (kp_st (by omega)) (by omega) (by omega) (by omega)) (fun q => hJ2 _ q (by omega) (by omega) (by omega))
  · have t172 := fun Q => t_172 (ko := ko) (d := d) (x := x) (Q := Q) h.1
    have hv : ∃ w, w ≤ 60 ∧ yrA' (N 86 11) (yrW (N 91) (min (N 86 11) 60) 61 0) = nI w := by
      cases ho : yrW (N 91) (min (N 86 11) 60) 61 0 with
      | none =>
        rw [ho] at hw
        exact ⟨60, Nat.le_refl _, by rw [yrA']; exact if_pos (Nat.lt_of_not_le (fun y => hw ⟨y, rfl⟩))⟩
      | some w =>
        have := yw_le _ _ ho
        exact ⟨w, by omega, rfl⟩
    obtain ⟨w, hw60, ev⟩ := hv
    rw [ev] at t172
    rw [me_171]
    simp (disch := (first | omega | exact aCat_8 (by with_unfolding_all rfl) | exact rk_lt (by with_unfolding_all rfl) | exact aCat_16 (by with_unfolding_all rfl) | exact rk_eq (by with_unfolding_all rfl) | assumption | exact b2n_lt _ | exact id_b (by with_unfolding_all rfl) | (simp (disch := omega) only [u2_same, u2_ab, u2_aq]; done) | (simp (disch := omega) only [u2_same, u2_ab, u2_aq]; omega) | fail)) only [al_10944, wp_aloadr_0, wp_aloadk_0, wc_172, wp_istore_1, wp_iload_1, wk_m1, wn_eq_t, wn_eq_f, hg_0_0, wc_289, wp_isub, wp_ireturn, al_10945, hg_0_8, hg_0_7, wk_0, wp_istore_2, wp_istore_3, wp_istore_4, wp_istore_5, wp_jsr, wp_iload_5, wk_60, wn_ge_t, wn_ge_f, wp_iload_4, hg_1_1, wp_iload_3, wz_ne_t, wz_ne_f, wb_ne_t, wb_ne_f, wm_ne_1, wm_ne_2, wc_174, wz_ge_t, wz_ge_f, wm_ge_1, wm_ge_2, wk_1, wp_goto, al_10947, wp_iinc_2_1, al_10948, wc_288, wc_173, wp_iadd, wp_iinc_5_1, al_10949, wp_iload_2, wz_le_t, wz_le_f, wm_le_1, wm_le_2, hg_0_11, wc_251, al_10950, hg_0_1, wc_292, t_292, wp_i2l, wc_293, t_293, hg_20_4, hg_22_4, hg_24_4, nl_i, nl_r, nl_k, nl_j, nl_l, nI_add, pk_mul, pk_sub, tl_s, tl_n, aL_inl, u2_same, u2_ab, u2_aq, nI_l, lN_i, Nat.add_zero, Nat.zero_add, Nat.zero_le, true_and, and_true, b2n_10, b2n_T, b2n_F, b2n_0, Decidable.not_not, not_true_eq_false, not_false_eq_true, Nat.reduceAdd, Nat.reduceMul, Nat.reduceSub, t172, t_289, qe_n1, qe_m1, qn_n1, qn_m1, qe_n2, qe_m2, qn_n2, qn_m2]
    refine r_54a hk h.1 (fun b q hb => u2_ab (by omega)) (fun a _ _ hn hps hgd => ?_) ?_
    · exfalso
      refine hw ⟨hn, ?_⟩
      have em : min (N 86 11) 60 = N 86 11 := by omega
      rw [em]
      have ho := gd_yw hgd hps a 0 61 (by omega) (by rw [psA]; omega)
      rw [psA] at ho
      exact ho
    · intro _ N2 I2 hF hI2
      rw [ev]
      have hfr : ∀ b q, b ≠ 92 → ¬ (b = 86 ∧ (q = 0 ∨ q = 11 ∨ q = 12 ∨ q = 13 ∨ q = 14 ∨ q = 32)) → ¬ (b = 1 ∧ q = 1) → N2 b q = N b q := fun b q y1 y2 y3 => by rw [hF.2 b q y1 y2, u2_rd, if_neg y3]
      refine ⟨rfl, rfl, D, N2, I2, J, rfl, ?_, td_same h.2 (hfr 3 1 (by decide) (by omega) (by omega)) (hfr 86 1 (by decide) (by omega) (by omega)) (fun _ => rfl) (fun _ => rfl)⟩
      refine invB_p (fun g => g == 1) rfl h.1 (by omega) ?_ ?_ (fun _ _ _ _ => rfl) (fun _ => ?_) (fun z => by cases z) (fun z => by cases z) (fun z => by cases z) (fun z => by cases z) (fun z => by cases z) (fun z => by cases z) (fun z => by cases z)
      · intro b q z y
        refine hfr b q (by rintro rfl; cases z) ?_ (by rintro ⟨rfl, rfl⟩; cases y)
        rintro ⟨rfl, rfl | rfl | rfl | rfl | rfl | rfl⟩
        · cases z
        · cases y
        · cases z
        · cases z
        · cases z
        · cases z
      · intro b q z _
        refine hI2 b q ?_
        unfold kpI at z
        simp at z
        omega
      · unfold iTx
        rw [hF.1]
        refine ⟨?_, by decide, fun i hi => absurd hi (Nat.not_lt_zero i)⟩
        rw [hF.2 1 1 (by decide) (by omega), u2_same]
end ZC
