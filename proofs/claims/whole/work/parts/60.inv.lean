/-! WHAT HOLDS BETWEEN CALLS. From wip/whole/src. -/
def iLd (D : Nat → Nat) (N : Nat → Nat → Nat) (I : Nat → Nat → Int32) (J : Nat → Nat → Int64) : Prop := dmO D ∧ D 2 = D 0 ∧ D 3 = D 1 ∧ ldO D N I J
def iTx (N : Nat → Nat → Nat) : Prop := N 1 1 = N 86 11 ∧ N 86 11 ≤ 80 ∧ ∀ i, i < N 86 11 → N 2 i = N 91 i ∧ N 91 i < 256
def iSk (N : Nat → Nat → Nat) : Prop := N 9 1 = N 86 6 ∧ 0 < N 86 6 ∧ N 86 6 ≤ 20 ∧ ∀ i, i < N 86 6 → N 10 i = N 88 i ∧ N 88 i ≤ 9
def iRl (N : Nat → Nat → Nat) (I : Nat → Nat → Int32) : Prop := okc (N 93) (N 86 18) ∧ ruO N I 11 (N 93) (N 86 18)
/-- a state of the class holds a row of the reference -/
def iSt (D : Nat → Nat) (N : Nat → Nat → Nat) (J : Nat → Nat → Int64) (t s : Nat) (S : Nat → Nat) : Prop := rwO (D 1) S ∧ rwZ (D 0 * D 1) S ∧ (S 109 ≤ t ∧ sumR (fun q => S (36 + q)) 36 ≤ 8) ∧ clS N J s S
def rwAt (N : Nat → Nat → Nat) (a j : Nat) : Nat → Nat := fun q => if q < 111 then N a (111 * j + q) else 0
def iUn (D : Nat → Nat) (N : Nat → Nat → Nat) (J : Nat → Nat → Int64) (t : Nat) : Prop := N 32 2 = N 86 26 ∧ N 86 26 ≤ 15 ∧ N 32 1 < 15 ∧ ∀ j, j < N 86 26 → iSt D N J t (34 + 2 * ((N 32 1 + 15 - N 86 26 + j) % 15)) (rwAt N 99 j)
def iKp (D : Nat → Nat) (N : Nat → Nat → Nat) (I : Nat → Nat → Int32) (J : Nat → Nat → Int64) (t : Nat) : Prop := N 86 5 ≤ t ∧ ∃ m, m < 8 ∧ I 0 13 = nI m ∧ ∀ i, i < 3 → N 122 i ≤ 1 ∧ N 123 i ≤ N 86 5 ∧ (m.testBit i = decide (N 122 i = 1 ∧ N 123 i = N 86 5)) ∧ (m.testBit i = true → iSt D N J t (80 + 2 * i) (rwAt N 124 i))
def iSn (D : Nat → Nat) (N : Nat → Nat → Nat) : Prop := N 65 3 = N 86 46 ∧ N 86 46 ≤ 10 ∧ ∀ k, k < N 86 46 → N 66 k = N 114 k ∧ N 67 k = N 115 k ∧ N 68 k = N 116 k ∧ N 114 k ≤ 20 ∧ N 115 k < D 0 * D 1 ∧ N 116 k ≤ 1
def iMk (D : Nat → Nat) (N : Nat → Nat → Nat) : Prop := N 69 3 = N 86 51 ∧ N 86 51 ≤ 10 ∧ ∀ k, k < N 86 51 → N 71 k = N 118 k ∧ N 72 k = N 119 k ∧ N 118 k < D 0 * D 1 - D 1 ∧ N 119 k ≤ 2
def iTd (N : Nat → Nat → Nat) (J : Nat → Nat → Int64) : Prop := N 3 1 = N 86 1 ∧ N 86 1 ≤ 36 ∧ ∀ i, i < N 86 1 → J 4 i = J 87 i
def i90 (N : Nat → Nat → Nat) : Prop := ∀ q, 111 ≤ q → N 90 q = 0
/-- all but the row that was told -/
def invB (D : Nat → Nat) (N : Nat → Nat → Nat) (I : Nat → Nat → Int32) (J : Nat → Nat → Int64) (t : Nat) : Prop := iLd D N I J ∧ iTx N ∧ iSk N ∧ iRl N I ∧ iSt D N J t 20 (N 89) ∧ iUn D N J t ∧ iKp D N I J t ∧ iSn D N ∧ iMk D N ∧ i90 N
def inv (D : Nat → Nat) (N : Nat → Nat → Nat) (I : Nat → Nat → Int32) (J : Nat → Nat → Int64) (t : Nat) : Prop := invB D N I J t ∧ iTd N J
def kpN (b q : Nat) : Bool := (b == 1 && q == 1) || (b == 2 || (b == 6 || (b == 7 || ((b == 9 && q == 1) || (b == 10 || ((b == 11 && q == 2) || (b == 20 || (b == 21 || ((Nat.ble 32 b && Nat.ble b 63) || ((Nat.ble 65 b && Nat.ble b 72) || ((Nat.ble 80 b && Nat.ble b 85) || ((b == 86 && (q == 5 || (q == 6 || (q == 11 || (q == 18 || (q == 26 || (q == 46 || q == 51))))))) || (b == 88 || (b == 89 || (b == 91 || (b == 93 || (b == 99 || ((Nat.ble 114 b && Nat.ble b 116) || (b == 118 || (b == 119 || ((Nat.ble 122 b && Nat.ble b 124) || (b == 90 && Nat.ble 111 q))))))))))))))))))))))
def kpI (b q : Nat) : Bool := (b == 0 && q == 13) || (b == 8 || b == 12)
def kpJ (b : Nat) : Bool := b == 5 || (b == 20 || ((Nat.ble 34 b && Nat.ble b 63) || (Nat.ble 80 b && Nat.ble b 85)))
/-- only what doesn't count between calls has changed -/
def sN (N' N : Nat → Nat → Nat) : Prop := ∀ b q, kpN b q = true → N' b q = N b q
def sI (I' I : Nat → Nat → Int32) : Prop := ∀ b q, kpI b q = true → I' b q = I b q
def sJ (J' J : Nat → Nat → Int64) : Prop := ∀ b q, kpJ b = true → J' b q = J b q
theorem sN_r {N : Nat → Nat → Nat} : sN N N := fun _ _ _ => rfl
theorem sI_r {I : Nat → Nat → Int32} : sI I I := fun _ _ _ => rfl
theorem sJ_r {J : Nat → Nat → Int64} : sJ J J := fun _ _ _ => rfl
theorem sN_t {A B C : Nat → Nat → Nat} (h : sN A B) (h2 : sN B C) : sN A C := fun b q z => (h b q z).trans (h2 b q z)
theorem sI_t {A B C : Nat → Nat → Int32} (h : sI A B) (h2 : sI B C) : sI A C := fun b q z => (h b q z).trans (h2 b q z)
theorem sJ_t {A B C : Nat → Nat → Int64} (h : sJ A B) (h2 : sJ B C) : sJ A C := fun b q z => (h b q z).trans (h2 b q z)
theorem sN_u {N M : Nat → Nat → Nat} {a j v : Nat} (h : sN N M) (hk : kpN a j = false) : sN (u2 N a j v) M := fun b q z => by
  rw [u2_rd, if_neg]
  · exact h b q z
  · rintro ⟨rfl, rfl⟩
    rw [hk] at z
    cases z
theorem sI_u {N M : Nat → Nat → Int32} {a j : Nat} {v : Int32} (h : sI N M) (hk : kpI a j = false) : sI (u2 N a j v) M := fun b q z => by
  rw [u2_rd, if_neg]
  · exact h b q z
  · rintro ⟨rfl, rfl⟩
    rw [hk] at z
    cases z
theorem sJ_u {N M : Nat → Nat → Int64} {a j : Nat} {v : Int64} (h : sJ N M) (hk : kpJ a = false) : sJ (u2 N a j v) M := fun b q z => by
  rw [u2_rd, if_neg]
  · exact h b q z
  · rintro ⟨rfl, rfl⟩
    rw [hk] at z
    cases z
theorem sN_w {N M : Nat → Nat → Nat} {a : Nat} {S : Nat → Nat} (h : sN N M) (hk : ∀ q, kpN a q = false) : sN (setRow N a S) M := fun b q z => by
  rw [setRow_n]
  · exact h b q z
  · rintro rfl
    rw [hk] at z
    cases z
theorem kp_st {s q : Nat} (h : s = 20 ∨ s = 21 ∨ (34 ≤ s ∧ s ≤ 63) ∨ (80 ≤ s ∧ s ≤ 85)) : kpN s q = true := by
  rcases h with rfl | rfl | h | h
  · rfl
  · rfl
  · have h1 : Nat.ble 32 s = true := Nat.ble_eq.mpr (by omega)
    have h2 : Nat.ble s 63 = true := Nat.ble_eq.mpr (by omega)
    simp [kpN, h1, h2]
  · have h1 : Nat.ble 80 s = true := Nat.ble_eq.mpr (by omega)
    have h2 : Nat.ble s 85 = true := Nat.ble_eq.mpr (by omega)
    simp [kpN, h1, h2]
theorem kp_90 {q : Nat} (h : 111 ≤ q) : kpN 90 q = true := Nat.ble_eq.mpr h
theorem kp_sj {s : Nat} (h : s = 20 ∨ (34 ≤ s ∧ s ≤ 63) ∨ (80 ≤ s ∧ s ≤ 85)) : kpJ s = true := by
  rcases h with rfl | h | h
  · rfl
  · have h1 : Nat.ble 34 s = true := Nat.ble_eq.mpr (by omega)
    have h2 : Nat.ble s 63 = true := Nat.ble_eq.mpr (by omega)
    simp [kpJ, h1, h2]
  · have h1 : Nat.ble 80 s = true := Nat.ble_eq.mpr (by omega)
    have h2 : Nat.ble s 85 = true := Nat.ble_eq.mpr (by omega)
    simp [kpJ, h1, h2]
theorem clS_c {N N' : Nat → Nat → Nat} {J J' : Nat → Nat → Int64} {s : Nat} {S : Nat → Nat} (h : clS N J s S) (h1 : ∀ q, N' s q = N s q) (h2 : ∀ q, N' (s + 1) q = N (s + 1) q) (h3 : ∀ q, J' s q = J s q) : clS N' J' s S := by
  refine ⟨fun f hf => (h2 f).trans (h.1 f hf), fun f hf => ?_, (h1 3).trans h.2.2.1, (h1 4).trans h.2.2.2.1, (h1 5).trans h.2.2.2.2⟩
  rw [h3, h3]
  exact h.2.1 f hf
theorem iSt_c {D : Nat → Nat} {N N' : Nat → Nat → Nat} {J J' : Nat → Nat → Int64} {t t' s : Nat} {S : Nat → Nat} (h : iSt D N J t s S) (ht : t ≤ t') (h1 : ∀ q, N' s q = N s q) (h2 : ∀ q, N' (s + 1) q = N (s + 1) q) (h3 : ∀ q, J' s q = J s q) : iSt D N' J' t' s S := ⟨h.1, h.2.1, ⟨Nat.le_trans h.2.2.1.1 ht, h.2.2.1.2⟩, clS_c h.2.2.2 h1 h2 h3⟩
theorem invB_c {D : Nat → Nat} {N N' : Nat → Nat → Nat} {I I' : Nat → Nat → Int32} {J J' : Nat → Nat → Int64} {t t' : Nat} (h : invB D N I J t) (ht : t ≤ t') (hN : sN N' N) (hI : sI I' I) (hJ : sJ J' J) : invB D N' I' J' t' := by
  obtain ⟨a1, a2, a3, a4, a5, a6, a7, a8, a9, a10⟩ := h
  have e89 : N' 89 = N 89 := by funext q; exact hN 89 q rfl
  have e93 : N' 93 = N 93 := by funext q; exact hN 93 q rfl
  have e18 : N' 86 18 = N 86 18 := hN 86 18 rfl
  have e6 : N' 86 6 = N 86 6 := hN 86 6 rfl
  have e11 : N' 86 11 = N 86 11 := hN 86 11 rfl
  have e26 : N' 86 26 = N 86 26 := hN 86 26 rfl
  have e5 : N' 86 5 = N 86 5 := hN 86 5 rfl
  have e46 : N' 86 46 = N 86 46 := hN 86 46 rfl
  have e51 : N' 86 51 = N 86 51 := hN 86 51 rfl
  have e321 : N' 32 1 = N 32 1 := hN 32 1 rfl
  have hst : ∀ s S, (s = 20 ∨ (34 ≤ s ∧ s ≤ 62) ∨ (80 ≤ s ∧ s ≤ 84)) → iSt D N J t s S → iSt D N' J' t' s S := by
    intro s S hs hS
    exact iSt_c hS ht (fun q => hN _ q (kp_st (by omega))) (fun q => hN _ q (kp_st (by omega))) (fun q => hJ _ q (kp_sj (by omega)))
  refine ⟨⟨a1.1, a1.2.1, a1.2.2.1, ?_⟩, ?_, ?_, ?_, ?_, ?_, ?_, ?_, ?_, fun q hq => (hN 90 q (kp_90 hq)).trans (a10 q hq)⟩
  · exact ldO_f a1.2.2.2 (fun q => ⟨hN 6 q rfl, hN 7 q rfl⟩) (fun q => hI 8 q rfl) (fun q => hJ 5 q rfl)
  · unfold iTx
    rw [e11, hN 1 1 rfl]
    refine ⟨a2.1, a2.2.1, fun i hi => ?_⟩
    rw [hN 2 i rfl, hN 91 i rfl]
    exact a2.2.2 i hi
  · unfold iSk
    rw [e6, hN 9 1 rfl]
    refine ⟨a3.1, a3.2.1, a3.2.2.1, fun i hi => ?_⟩
    rw [hN 10 i rfl, hN 88 i rfl]
    exact a3.2.2.2 i hi
  · unfold iRl
    rw [e93, e18]
    refine ⟨a4.1, (hN 11 2 rfl).trans a4.2.1, fun k hk => ?_⟩
    rw [hI (11 + 1) k rfl]
    exact a4.2.2 k hk
  · rw [e89]
    exact hst 20 _ (by omega) a5
  · unfold iUn
    rw [e26, e321, hN 32 2 rfl]
    refine ⟨a6.1, a6.2.1, a6.2.2.1, fun j hj => ?_⟩
    have er : rwAt N' 99 j = rwAt N 99 j := by
      funext q
      unfold rwAt
      rw [hN 99 _ rfl]
    rw [er]
    have := Nat.mod_lt (N 32 1 + 15 - N 86 26 + j) (show 15 > 0 by decide)
    exact hst _ _ (by omega) (a6.2.2.2 j hj)
  · unfold iKp
    rw [e5]
    obtain ⟨b1, m, b2, b3, b4⟩ := a7
    refine ⟨Nat.le_trans b1 ht, m, b2, (hI 0 13 rfl).trans b3, fun i hi => ?_⟩
    have er : rwAt N' 124 i = rwAt N 124 i := by
      funext q
      unfold rwAt
      rw [hN 124 _ rfl]
    rw [er, hN 122 i rfl, hN 123 i rfl]
    obtain ⟨c1, c2, c3, c4⟩ := b4 i hi
    exact ⟨c1, c2, c3, fun z => hst _ _ (by omega) (c4 z)⟩
  · unfold iSn
    rw [e46, hN 65 3 rfl]
    refine ⟨a8.1, a8.2.1, fun k hk => ?_⟩
    rw [hN 66 k rfl, hN 67 k rfl, hN 68 k rfl, hN 114 k rfl, hN 115 k rfl, hN 116 k rfl]
    exact a8.2.2 k hk
  · unfold iMk
    rw [e51, hN 69 3 rfl]
    refine ⟨a9.1, a9.2.1, fun k hk => ?_⟩
    rw [hN 71 k rfl, hN 72 k rfl, hN 118 k rfl, hN 119 k rfl]
    exact a9.2.2 k hk
theorem inv_sk {D : Nat → Nat} {N : Nat → Nat → Nat} {I : Nat → Nat → Int32} {J : Nat → Nat → Int64} {t : Nat} (h : invB D N I J t) : skC N = skR N := by
  obtain ⟨_, _, a3, _⟩ := h
  funext q
  unfold skC skR
  rw [a3.1]
  exact (a3.2.2.2 _ (Nat.mod_lt _ a3.2.1)).1
theorem inv_rl {D : Nat → Nat} {N : Nat → Nat → Nat} {I : Nat → Nat → Int32} {J : Nat → Nat → Int64} {t : Nat} (h : invB D N I J t) : rlO N := ⟨h.2.2.2.1.1, h.2.2.1.2.1, h.2.2.1.2.2.1⟩
theorem inv_rv {D : Nat → Nat} {N : Nat → Nat → Nat} {I : Nat → Nat → Int32} {J : Nat → Nat → Int64} {t : Nat} (h : invB D N I J t) : rvA D N I J 20 11 (N 93) (N 86 18) (N 89) := by
  obtain ⟨a1, a2, a3, a4, a5, _⟩ := h
  refine ⟨a1.2.2.2, a5.2.2.2, ?_, a4.2, a4.1⟩
  rw [a1.2.2.1]
  exact a5.1
/-- a pair of calls, one of the class and one of the reference: both answer, alike, and all that must hold goes on -/
def opO (ko : aKo) (d kc kr : Nat) (As : List Value) (D : Nat → Nat) (N : Nat → Nat → Nat) (I : Nat → Nat → Int32) (J : Nat → Nat → Int64) (x t : Nat) : Prop := aMm ko d kc (.ref 0 :: As) (hp D N I J x) (fun v σ1 => aMm ko d kr (.ref 86 :: As) σ1 (fun w σ2 => v = w ∧ v.isSome = true ∧ ∃ D' N' I' J', σ2 = hp D' N' I' J' x ∧ inv D' N' I' J' t))
theorem fI_s {I' I : Nat → Nat → Int32} (h : fI I' I) : sI I' I := fun b q z => h b q (by rintro rfl; cases z) (by rintro rfl; cases z) (by rintro rfl; cases z) (by rintro rfl; cases z) (by rintro ⟨rfl, _⟩; cases z)
theorem fJ_s {J' J : Nat → Nat → Int64} (h : fJ J' J) : sJ J' J := fun b q z => h b q (by rintro rfl; cases z) (by rintro ⟨rfl, _⟩; cases z)
theorem gN_s {N' N : Nat → Nat → Nat} (h : gN N' N) : sN N' N := fun b q z => h b q (by rintro rfl; cases z) (by rintro ⟨rfl, _⟩; cases z)
theorem fN_s {N' N : Nat → Nat → Nat} (h : fN N' N) : sN N' N := fun b q z => h b q (by rintro rfl; cases z) (by rintro ⟨rfl, _⟩; cases z)
theorem pN_s {N' N : Nat → Nat → Nat} (h : pN 24 N' N) : sN N' N := fun b q z => h b q (by rintro rfl; cases z) (by rintro ⟨rfl, _⟩; cases z) (by rintro rfl; cases z) (by rintro rfl; cases z)
theorem pJ_s {J' J : Nat → Nat → Int64} (h : pJ 24 J' J) : sJ J' J := fun b q z => h b q (by rintro rfl; cases z) (by rintro ⟨rfl, _⟩; cases z) (by rintro rfl; cases z)
theorem rI_s {I' I : Nat → Nat → Int32} (h : ∀ b q, b ≠ 95 → b ≠ 96 → I' b q = I b q) : sI I' I := fun b q z => h b q (by rintro rfl; cases z) (by rintro rfl; cases z)
theorem rN_s {N' N : Nat → Nat → Nat} (h : ∀ b q, frC b q = false → N' b q = N b q) : sN N' N := fun b q z => h b q (by
  unfold frC
  have h1 : b ≠ 97 := by rintro rfl; cases z
  have h2 : b ≠ 98 := by rintro rfl; cases z
  by_cases h3 : b = 86
  · subst h3
    have h4 : q ≠ 24 := by rintro rfl; cases z
    have h5 : q ≠ 25 := by rintro rfl; cases z
    simp [h4, h5]
  · simp [h1, h2, h3])
/-- as sN, sJ, but what the class told stays too: for calls of the reference -/
def kqN (b q : Nat) : Bool := kpN b q || b == 3
def kqJ (b : Nat) : Bool := kpJ b || b == 4
def qN (N' N : Nat → Nat → Nat) : Prop := ∀ b q, kqN b q = true → N' b q = N b q
def qJ (J' J : Nat → Nat → Int64) : Prop := ∀ b q, kqJ b = true → J' b q = J b q
theorem qN_s {N' N : Nat → Nat → Nat} (h : qN N' N) : sN N' N := fun b q z => h b q (by rw [kqN, z]; rfl)
theorem qJ_s {N' N : Nat → Nat → Int64} (h : qJ N' N) : sJ N' N := fun b q z => h b q (by rw [kqJ, z]; rfl)
theorem qN_r {N : Nat → Nat → Nat} : qN N N := fun _ _ _ => rfl
theorem qJ_r {J : Nat → Nat → Int64} : qJ J J := fun _ _ _ => rfl
theorem qN_t {A B C : Nat → Nat → Nat} (h : qN A B) (h2 : qN B C) : qN A C := fun b q z => (h b q z).trans (h2 b q z)
theorem qJ_t {A B C : Nat → Nat → Int64} (h : qJ A B) (h2 : qJ B C) : qJ A C := fun b q z => (h b q z).trans (h2 b q z)
theorem qN_u {N M : Nat → Nat → Nat} {a j v : Nat} (h : qN N M) (hk : kqN a j = false) : qN (u2 N a j v) M := fun b q z => by
  rw [u2_rd, if_neg]
  · exact h b q z
  · rintro ⟨rfl, rfl⟩
    rw [hk] at z
    cases z
theorem qJ_u {N M : Nat → Nat → Int64} {a j : Nat} {v : Int64} (h : qJ N M) (hk : kqJ a = false) : qJ (u2 N a j v) M := fun b q z => by
  rw [u2_rd, if_neg]
  · exact h b q z
  · rintro ⟨rfl, rfl⟩
    rw [hk] at z
    cases z
theorem qN_w {N M : Nat → Nat → Nat} {a : Nat} {S : Nat → Nat} (h : qN N M) (hk : ∀ q, kqN a q = false) : qN (setRow N a S) M := fun b q z => by
  rw [setRow_n]
  · exact h b q z
  · rintro rfl
    rw [hk] at z
    cases z
theorem qN_w90 {N M : Nat → Nat → Nat} {S : Nat → Nat} (h : qN N M) (hS : ∀ q, 111 ≤ q → S q = M 90 q) : qN (setRow N 90 S) M := fun b q z => by
  by_cases e : b = 90
  · subst e
    rw [setRow_s]
    have : Nat.ble 111 q = true := by
      have z' : (Nat.ble 111 q || false) = true := z
      simpa using z'
    exact hS q (Nat.ble_eq.mp this)
  · rw [setRow_n e]
    exact h b q z
theorem rN_q {N' N : Nat → Nat → Nat} (h : ∀ b q, frC b q = false → N' b q = N b q) : qN N' N := fun b q z => h b q (by
  unfold frC
  have h1 : b ≠ 97 := by rintro rfl; cases z
  have h2 : b ≠ 98 := by rintro rfl; cases z
  by_cases h3 : b = 86
  · subst h3
    have h4 : q ≠ 24 := by rintro rfl; cases z
    have h5 : q ≠ 25 := by rintro rfl; cases z
    simp [h4, h5]
  · simp [h1, h2, h3])
theorem rN_q9 {N' N : Nat → Nat → Nat} (h : ∀ b q, frC b q = false → b ≠ 90 → N' b q = N b q) (h9 : ∀ q, 111 ≤ q → N' 90 q = N 90 q) : qN N' N := fun b q z => by
  by_cases e : b = 90
  · subst e
    have : Nat.ble 111 q = true := by
      have z' : (Nat.ble 111 q || false) = true := z
      simpa using z'
    exact h9 q (Nat.ble_eq.mp this)
  · refine h b q ?_ e
    unfold frC
    have h1 : b ≠ 97 := by rintro rfl; cases z
    have h2 : b ≠ 98 := by rintro rfl; cases z
    by_cases h3 : b = 86
    · subst h3
      have h4 : q ≠ 24 := by rintro rfl; cases z
      have h5 : q ≠ 25 := by rintro rfl; cases z
      simp [h4, h5]
    · simp [h1, h2, h3]
theorem inv_s1 {D : Nat → Nat} {N : Nat → Nat → Nat} {I : Nat → Nat → Int32} {J : Nat → Nat → Int64} {t : Nat} (h : invB D N I J t) : 0 < N 9 1 := by rw [h.2.2.1.1]; exact h.2.2.1.2.1
theorem inv_s2 {D : Nat → Nat} {N : Nat → Nat → Nat} {I : Nat → Nat → Int32} {J : Nat → Nat → Int64} {t : Nat} (h : invB D N I J t) : N 9 1 ≤ 20 := by rw [h.2.2.1.1]; exact h.2.2.1.2.2.1
theorem inv_G {D : Nat → Nat} {N : Nat → Nat → Nat} {I : Nat → Nat → Int32} {J : Nat → Nat → Int64} {t : Nat} (h : invB D N I J t) (S : Nat → Nat) : crsG (D 2) (D 3) (N 93) (N 86 18) (skC N) S = crsS D N S := by rw [inv_sk h, h.1.2.1, h.1.2.2.1]; rfl
theorem inv_it {D : Nat → Nat} {N : Nat → Nat → Nat} {I : Nat → Nat → Int32} {J : Nat → Nat → Int64} {t : Nat} (h : invB D N I J t) (S : Nat → Nat) (k : Nat) : itG (D 2) (D 3) (N 93) (N 86 18) (skC N) S k = itS D N S k := by rw [inv_sk h, h.1.2.1, h.1.2.2.1, itS_G]
theorem inv_cm {D : Nat → Nat} {N : Nat → Nat → Nat} {I : Nat → Nat → Int32} {J : Nat → Nat → Int64} {t : Nat} (h : invB D N I J t) (S : Nat → Nat) (k : Nat) : cmG (D 2) (D 3) (N 93) (N 86 18) (skC N) S k = cmS D N S k := by rw [inv_sk h, h.1.2.1, h.1.2.2.1, cmS_G]
theorem sN_sm {N' N : Nat → Nat → Nat} (h : sN N' N) : smR N' N := ⟨by funext q; exact h 93 q rfl, by funext q; exact h 88 q rfl, h 86 18 rfl, h 86 6 rfl⟩
theorem sN_89 {N' N : Nat → Nat → Nat} (h : sN N' N) : N' 89 = N 89 := by funext q; exact h 89 q rfl
