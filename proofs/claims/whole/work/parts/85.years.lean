/-! years. From wip/whole/src. -/
def drw (z : Int32) : Int32 := z * nI 1103515245 + nI 12345
def uSh (z : Int32) : Nat := z.toBitVec.toNat / 65536
theorem uSh_lt {z : Int32} : uSh z < 65536 := by
  unfold uSh
  have := z.toBitVec.isLt
  omega
theorem uSh_eq {z : Int32} : (z.toUInt32 >>> ((nI 16).toUInt32 &&& Int32.toUInt32 31)).toInt32 = nI (uSh z) := by
  apply Int32.toBitVec_inj.mp
  apply BitVec.eq_of_toNat_eq
  show (z.toUInt32 >>> ((nI 16).toUInt32 &&& Int32.toUInt32 31)).toBitVec.toNat = (BitVec.ofNat 32 (uSh z)).toNat
  rw [UInt32.toBitVec_shiftRight]
  show (z.toUInt32.toBitVec >>> (((nI 16).toUInt32 &&& Int32.toUInt32 31).toBitVec % 32).toNat).toNat = _
  have := uSh_lt (z := z)
  rw [s_u 16 (by decide), BitVec.toNat_ushiftRight, Nat.shiftRight_eq_div_pow, BitVec.toNat_ofNat, Nat.mod_eq_of_lt (by omega)]
  rfl
def cutY (S : Nat → Nat) (f n : Nat) : Nat → Nat := if n ≤ S f then upn S f (S f - n) else S
def walY (F : Nat) (S : Nat → Nat) (f : Nat) : Nat → Nat := if S (36 + f) = 0 ∧ sumR (fun q => S (36 + q)) F = 8 then S else upn S (36 + f) (1 - S (36 + f))
/-- one year of chance: row, seed, how many tides came to the sea -/
def yrA (D : Nat → Nat) (N : Nat → Nat → Nat) (p : (Nat → Nat) × Int32 × Nat) : (Nat → Nat) × Int32 × Nat :=
  if uSh (drw p.2.1) % 4 < 2 then (itS D N p.1 1, drw p.2.1, p.2.2 + cmS D N p.1 1)
  else if uSh (drw p.2.1) % 4 = 2 then (cutY p.1 (uSh (drw (drw p.2.1)) % (D 0 * D 1)) (uSh (drw (drw (drw p.2.1))) % 3 + 1), drw (drw (drw p.2.1)), p.2.2)
  else (walY (D 0 * D 1) p.1 (uSh (drw (drw p.2.1)) % (D 0 * D 1)), drw (drw p.2.1), p.2.2)
def yrI (D : Nat → Nat) (N : Nat → Nat → Nat) (S : Nat → Nat) (z : Int32) : Nat → (Nat → Nat) × Int32 × Nat
  | 0 => (S, z, 0)
  | k + 1 => yrA D N (yrI D N S z k)
theorem yrA_t {D : Nat → Nat} {N : Nat → Nat → Nat} {p : (Nat → Nat) × Int32 × Nat} (h : uSh (drw p.2.1) % 4 < 2) : yrA D N p = (itS D N p.1 1, drw p.2.1, p.2.2 + cmS D N p.1 1) := if_pos h
theorem yrA_c {D : Nat → Nat} {N : Nat → Nat → Nat} {p : (Nat → Nat) × Int32 × Nat} (h : uSh (drw p.2.1) % 4 = 2) : yrA D N p = (cutY p.1 (uSh (drw (drw p.2.1)) % (D 0 * D 1)) (uSh (drw (drw (drw p.2.1))) % 3 + 1), drw (drw (drw p.2.1)), p.2.2) := by
  unfold yrA
  rw [if_neg (by omega), if_pos h]
theorem yrA_w {D : Nat → Nat} {N : Nat → Nat → Nat} {p : (Nat → Nat) × Int32 × Nat} (h : ¬ uSh (drw p.2.1) % 4 < 2) (h2 : ¬ uSh (drw p.2.1) % 4 = 2) : yrA D N p = (walY (D 0 * D 1) p.1 (uSh (drw (drw p.2.1)) % (D 0 * D 1)), drw (drw p.2.1), p.2.2) := by
  unfold yrA
  rw [if_neg h, if_neg h2]
/-- a row as it may be, of a land -/
def rwG (D : Nat → Nat) (t : Nat) (S : Nat → Nat) : Prop := rwO (D 1) S ∧ rwZ (D 0 * D 1) S ∧ S 109 ≤ t ∧ sumR (fun q => S (36 + q)) 36 ≤ 8
section Y1
variable {ko : aKo} {d k : Nat} {is : List Instr} {ls st : List Value} {σ : aH} {D : Nat → Nat} {N : Nat → Nat → Nat} {I : Nat → Nat → Int32} {J : Nat → Nat → Int64} {x t : Nat} {Q : Option Value → aH → Prop} {P : (Option Value ⊕ Unit) → aH → Prop}
theorem rwG_it {S : Nat → Nat} (h : invB D N I J t) {u n : Nat} (hS : rwG D u S) (hu : u + n < 1000000000) : rwG D (u + n) (itS D N S n) := by
  obtain ⟨a1, a2, a3, a4⟩ := hS
  refine ⟨itS_O h.1.1 a1 n (by omega), ?_, by rw [itS_t]; omega, ?_⟩
  · have := itG_Z (n := N 86 18) (c := N 93) (sk := skC N) h.1.2.2.2.1 (by rw [h.1.2.2.1]; exact a1) (by rw [h.1.2.1, h.1.2.2.1]; exact a2) n (by omega)
    rw [inv_it h, h.1.2.1, h.1.2.2.1] at this
    exact this
  · rw [sumR_congr 36 (g := fun q => S (36 + q)) (fun q hq => itS_w h.1.1 a1 hq n (by omega))]
    exact a4
theorem rwG_cut {u f n : Nat} {S : Nat → Nat} (hF : D 0 * D 1 ≤ 36) (hf : f < D 0 * D 1) (hS : rwG D u S) : rwG D u (cutY S f n) := by
  unfold cutY
  split
  · obtain ⟨a1, a2, a3, a4⟩ := hS
    have h9 := (a1.1 f (by omega)).1
    have hr := rw_up a1 a2 hf hF (v := S f - n) (by omega)
    exact ⟨hr.1, hr.2, by rw [upn, if_neg (by omega)]; exact a3, w8_up (by omega) a4⟩
  · exact hS
theorem rwG_wal {u f : Nat} {S : Nat → Nat} (hF : D 0 * D 1 ≤ 36) (hf : f < D 0 * D 1) (hS : rwG D u S) : rwG D u (walY (D 0 * D 1) S f) := by
  unfold walY
  split
  · exact hS
  · rename_i hc
    obtain ⟨a1, a2, a3, a4⟩ := hS
    have hr := rw_wall a1 a2 hf hF (v := 1 - S (36 + f)) (by omega)
    have h1 := (a1.1 f (by omega)).2.1
    have hs := w_sum (S := S) (f := f) (v := 1 - S (36 + f)) (n := 36) (by omega)
    have hz : sumR (fun q => S (36 + q)) 36 = sumR (fun q => S (36 + q)) (D 0 * D 1) := sumR_z 36 hF (fun q z1 z2 => (a2 q z1 z2).2.1)
    refine ⟨hr.1, hr.2, by rw [upn, if_neg (by omega)]; exact a3, ?_⟩
    by_cases z : S (36 + f) = 0
    · have : ¬ sumR (fun q => S (36 + q)) (D 0 * D 1) = 8 := fun y => hc ⟨z, y⟩
      omega
    · omega
theorem yr_s1 (h : invB D N I J t) {v k : Nat} {p : (Nat → Nat) × Int32 × Nat} (i1 : rwG D v p.1) (i2 : p.2.2 ≤ k) (hv : v + 1 < 1000000000) : rwG D (v + 1) (itS D N p.1 1) ∧ p.2.2 + cmS D N p.1 1 ≤ k + 1 := ⟨rwG_it h i1 (n := 1) hv, Nat.add_le_add i2 (cmS_le (D := D) (N := N) (S := p.1) 1)⟩
theorem rwG_up {v : Nat} {S : Nat → Nat} (h : rwG D v S) : rwG D (v + 1) S := ⟨h.1, h.2.1, Nat.le_succ_of_le h.2.2.1, h.2.2.2⟩
theorem mod_F (h : invB D N I J t) {z : Nat} : z % (D 0 * D 1) < D 0 * D 1 := Nat.mod_lt _ (by have := dm_F h.1.1; omega)
theorem p3_1 {a : Nat → Nat} {b : Int32} {c : Nat} : (a, b, c).1 = a := rfl
theorem p3_2 {a : Nat → Nat} {b : Int32} {c : Nat} : (a, b, c).2.1 = b := rfl
theorem p3_3 {a : Nat → Nat} {b : Int32} {c : Nat} : (a, b, c).2.2 = c := rfl
theorem yr_st (h : invB D N I J t) {v k : Nat} {p : (Nat → Nat) × Int32 × Nat} (i1 : rwG D v p.1) (i2 : p.2.2 ≤ k) (hv : v + 1 < 1000000000) : rwG D (v + 1) (yrA D N p).1 ∧ (yrA D N p).2.2 ≤ k + 1 := by
  by_cases h1 : uSh (drw p.2.1) % 4 < 2
  · rw [yrA_t h1, p3_1, p3_3]
    exact yr_s1 h i1 i2 hv
  · by_cases h2 : uSh (drw p.2.1) % 4 = 2
    · rw [yrA_c h2, p3_1, p3_3]
      exact ⟨rwG_up (rwG_cut (dm_F h.1.1).1 (mod_F h) i1), Nat.le_succ_of_le i2⟩
    · rw [yrA_w h1 h2, p3_1, p3_3]
      exact ⟨rwG_up (rwG_wal (dm_F h.1.1).1 (mod_F h) i1), Nat.le_succ_of_le i2⟩
theorem yrI_0 {S : Nat → Nat} {z : Int32} : yrI D N S z 0 = (S, z, 0) := rfl
theorem yrI_s {S : Nat → Nat} {z : Int32} {k : Nat} : yrI D N S z (k + 1) = yrA D N (yrI D N S z k) := rfl
theorem yr_ok {S : Nat → Nat} {z : Int32} (h : invB D N I J t) {u : Nat} (hS : rwG D u S) : ∀ k, u + k < 1000000000 → rwG D (u + k) (yrI D N S z k).1 ∧ (yrI D N S z k).2.2 ≤ k := by
  intro k
  induction k with
  | zero =>
    intro _
    rw [yrI_0, p3_1, p3_3]
    exact ⟨hS, Nat.le_refl _⟩
  | succ k ih =>
    intro hk
    obtain ⟨i1, i2⟩ := ih (by omega)
    rw [yrI_s, ← Nat.add_assoc]
    exact yr_st h i1 i2 (by omega)
/-! the class -/
theorem t_219 {z : Int32} : aMm ko d 219 [.int z] σ Q = Q (some (.int (drw z))) σ := by
  unfold drw
  rw [me_219]
  simp (disch := (first | omega | exact aCat_8 (by with_unfolding_all rfl) | exact rk_lt (by with_unfolding_all rfl) | exact aCat_16 (by with_unfolding_all rfl) | exact rk_eq (by with_unfolding_all rfl) | assumption | exact b2n_lt _ | exact id_b (by with_unfolding_all rfl) | (simp (disch := omega) only [u2_same, u2_ab, u2_aq]; done) | (simp (disch := omega) only [u2_same, u2_ab, u2_aq]; omega) | fail)) only [al_14016, wp_iload_0, wk_1103515245, wp_imul, wk_12345, wp_iadd, wp_ireturn, nl_i, nl_r, nl_k, nl_j, nl_l, nI_add, pk_mul, pk_sub, tl_s, tl_n, aL_inl, u2_same, u2_ab, u2_aq, nI_l, lN_i, Nat.add_zero, Nat.zero_add, Nat.zero_le, true_and, and_true, b2n_10, b2n_T, b2n_F, b2n_0, Decidable.not_not, not_true_eq_false, not_false_eq_true, Nat.reduceAdd, Nat.reduceMul, Nat.reduceSub]
theorem t_220 {z : Int32} {m : Nat} (hm : 0 < m) (hm2 : m ≤ 36) : aMm ko d 220 [.int z, .int (nI m)] σ Q = Q (some (.int (nI (uSh z % m)))) σ := by
  have := uSh_lt (z := z)
  rw [me_220]
  simp (disch := (first | omega | exact aCat_8 (by with_unfolding_all rfl) | exact rk_lt (by with_unfolding_all rfl) | exact aCat_16 (by with_unfolding_all rfl) | exact rk_eq (by with_unfolding_all rfl) | assumption | exact b2n_lt _ | exact id_b (by with_unfolding_all rfl) | (simp (disch := omega) only [u2_same, u2_ab, u2_aq]; done) | (simp (disch := omega) only [u2_same, u2_ab, u2_aq]; omega) | fail)) only [al_14080, wp_iload_1, wk_1, wn_ge_t, wn_ge_f, wk_0, wp_goto, al_14081, wp_iload_0, wk_16, wp_iushr, wp_iremn, wp_jsr, al_14082, wp_ireturn, nl_i, nl_r, nl_k, nl_j, nl_l, nI_add, pk_mul, pk_sub, tl_s, tl_n, aL_inl, u2_same, u2_ab, u2_aq, nI_l, lN_i, Nat.add_zero, Nat.zero_add, Nat.zero_le, true_and, and_true, b2n_10, b2n_T, b2n_F, b2n_0, Decidable.not_not, not_true_eq_false, not_false_eq_true, Nat.reduceAdd, Nat.reduceMul, Nat.reduceSub, uSh_eq]
theorem dr_g {N0 : Nat → Nat → Nat} {I0 : Nat → Nat → Int32} {J0 : Nat → Nat → Int64} {u : Nat} {S : Nat → Nat} (h : invB D N0 I0 J0 t) (hS : rwG D u S) (hu : u + 1 < 1000000000) (hD : drO D N0 N I0 I J0 J S)
    (hQ : ∀ (N' : Nat → Nat → Nat) (I' : Nat → Nat → Int32) (J' : Nat → Nat → Int64), drO D N0 N' I0 I' J0 J' (itS D N0 S 1) → Q (some (.int (nI (cmS D N0 S 1)))) (hp D N' I' J' x)) :
    aMm ko d 254 [.ref 26, .ref 24, .ref 11, .int (nI 1)] (hp D N I J x) Q := by
  obtain ⟨hA, hsk, h91, hN, hI, hJ, hC, hR⟩ := hD
  refine t_254 (s := 24) (ru := 11) rfl rfl hA (by rw [h.1.2.1, h.1.2.2.1]; exact hS.2.1) (by rw [h91]; exact inv_s1 h) (by rw [h91]; exact inv_s2 h) (by decide) (by have := hS.2.2.1; omega) ?_
  intro N' I' J' hA' hN' hI' hJ' hc'
  rw [hsk, inv_it h] at hA'
  rw [hsk, inv_cm h]
  obtain ⟨f1, f2⟩ := pN_sk (s := 24) rfl hN'
  refine hQ N' I' J' ⟨hA', f1.trans hsk, f2.trans h91, sN_t (pN_s hN') hN, sI_t (fI_s hI') hI, sJ_t (pJ_s hJ') hJ, ⟨?_, ?_⟩, ⟨?_, ?_⟩⟩
  · rw [hN' 3 1 (by decide) (by omega) (by decide) (by decide)]; exact hC.1
  · intro q
    rw [hJ' 4 q (by decide) (by omega) (by decide)]; exact hC.2 q
  · rw [hN' 86 1 (by decide) (by omega) (by decide) (by decide)]; exact hR.1
  · intro q
    rw [hJ' 87 q (by decide) (by omega) (by decide)]; exact hR.2 q
theorem dr_set {N0 N' : Nat → Nat → Nat} {I0 : Nat → Nat → Int32} {J0 J' : Nat → Nat → Int64} {S S' : Nat → Nat} (hD : drO D N0 N I0 I J0 J S) (hr : rwO (D 3) S') (hc : clS N' J' 24 S') (h1 : ∀ b q, b ≠ 24 → b ≠ 25 → N' b q = N b q) (h2 : ∀ b q, b ≠ 24 → J' b q = J b q) : drO D N0 N' I0 I J0 J' S' := by
  obtain ⟨⟨a1, a2, a3, a4, a5⟩, hsk, h91, hN, hI, hJ, hC, hR⟩ := hD
  have e9 : N' 9 1 = N 9 1 := h1 9 1 (by decide) (by decide)
  refine ⟨⟨ldO_f a1 (fun q => ⟨h1 6 q (by decide) (by decide), h1 7 q (by decide) (by decide)⟩) (fun _ => rfl) (fun q => h2 5 q (by decide)), hc, hr, ⟨(h1 11 2 (by decide) (by decide)).trans a4.1, a4.2⟩, a5⟩, ?_, e9.trans h91, fun b q z => (h1 b q (by rintro rfl; cases z) (by rintro rfl; cases z)).trans (hN b q z), hI, fun b q z => (h2 b q (by rintro rfl; cases z)).trans (hJ b q z), ⟨(h1 3 1 (by decide) (by decide)).trans hC.1, fun q => (h2 4 q (by decide)).trans (hC.2 q)⟩, ⟨(h1 86 1 (by decide) (by decide)).trans hR.1, fun q => (h2 87 q (by decide)).trans (hR.2 q)⟩⟩
  rw [← hsk]
  unfold skC
  funext q
  rw [e9, h1 10 _ (by decide) (by decide)]
/-- a cut in the dream -/
theorem dr_cut {N0 : Nat → Nat → Nat} {I0 : Nat → Nat → Int32} {J0 : Nat → Nat → Int64} {u f n : Nat} {S : Nat → Nat} (h : invB D N0 I0 J0 t) (hS : rwG D u S) (hf : f < D 0 * D 1) (h1 : 1 ≤ n) (h9 : n ≤ 9) (hD : drO D N0 N I0 I J0 J S)
    (hQ : ∀ (v : Int32) (N' : Nat → Nat → Nat), drO D N0 N' I0 I J0 J (cutY S f n) → Q (some (.int v)) (hp D N' I J x)) : aMm ko d 163 [.ref 0, .ref 24, .int (nI f), .int (nI n)] (hp D N I J x) Q := by
  have hF := dm_F h.1.1
  have h4 := inv_d4 h
  have hcl := hD.1.2.1
  have e := hcl.1 f (by omega)
  have hb := (hS.1.1 f (by omega)).1
  have hC := rwG_cut (n := n) hF.1 hf hS
  unfold cutY at hQ hC
  by_cases hlt : S f < n
  · rw [if_neg (by omega)] at hQ
    rw [t_163l (s := 24) rfl (by omega) (by omega) h1 h9 (by rw [e]; exact hlt)]
    exact hQ _ _ hD
  · rw [if_pos (by omega)] at hQ hC
    rw [t_163g (s := 24) rfl (by omega) (by omega) h1 h9 (by rw [e]; omega) (by rw [e]; exact hb), e]
    refine hQ _ _ (dr_set hD (by rw [h.1.2.2.1]; exact hC.1) (cl_up hcl (by omega)) (fun b q z1 z2 => u2_ab z2) (fun _ _ _ => rfl))
/-- a wall turned in the dream -/
theorem dr_wal {N0 : Nat → Nat → Nat} {I0 : Nat → Nat → Int32} {J0 : Nat → Nat → Int64} {u f : Nat} {S : Nat → Nat} (h : invB D N0 I0 J0 t) (hS : rwG D u S) (hf : f < D 0 * D 1) (hD : drO D N0 N I0 I J0 J S)
    (hQ : ∀ (v : Int32) (J' : Nat → Nat → Int64), drO D N0 N I0 I J0 J' (walY (D 0 * D 1) S f) → Q (some (.int v)) (hp D N I J' x)) : aMm ko d 168 [.ref 0, .ref 24, .int (nI f)] (hp D N I J x) Q := by
  have hF := dm_F h.1.1
  have h4 := inv_d4 h
  have hcl := hD.1.2.1
  have h1 := (hS.1.1 f (by omega)).2.1
  have hC := rwG_wal hF.1 hf hS
  have hz : sumR (fun q => S (36 + q)) 36 = sumR (fun q => S (36 + q)) (D 0 * D 1) := sumR_z 36 hF.1 (fun q z1 z2 => (hS.2.1 q z1 z2).2.1)
  have h8 := hS.2.2.2
  unfold walY at hQ hC
  by_cases hc : S (36 + f) = 0 ∧ sumR (fun q => S (36 + q)) (D 0 * D 1) = 8
  · rw [if_pos hc] at hQ
    rw [t_168f (s := 24) (S := S) rfl (by omega) (by omega) hcl hS.1 (by rw [h4]; exact hS.2.1) hc.1 (by rw [h4]; exact hc.2)]
    exact hQ _ _ hD
  · rw [if_neg hc] at hQ hC
    rw [t_168g (s := 24) (S := S) rfl (by omega) (by omega) hcl hS.1 (by rw [h4]; exact hS.2.1) (by
      rw [h4]
      intro z
      have : ¬ sumR (fun q => S (36 + q)) (D 0 * D 1) = 8 := fun y => hc ⟨z, y⟩
      omega)]
    exact hQ _ _ (dr_set hD (by rw [h.1.2.2.1]; exact hC.1) (cl_wall hcl (by omega) h1) (fun _ _ _ _ => rfl) (fun b q z => u2_ab z))
end Y1
