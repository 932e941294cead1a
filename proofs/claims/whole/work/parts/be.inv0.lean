/-! THE START, fourth: the heap of the start is of the loop's form, and the invariant holds there. From wip/whole/src. -/
def d0 : Nat → Nat := fun q => cond (Nat.beq q 4) 4 2
def n0 : Nat → Nat → Nat := fun b q =>
  cond (Nat.beq b 6) (cond (Nat.beq q 2 || Nat.beq q 3) 1 0) (
  cond (Nat.beq b 7) (cond (Nat.beq q 1 || Nat.beq q 3) 1 0) (
  cond (Nat.beq b 9) (cond (Nat.beq q 1) 1 0) (
  cond (Nat.beq b 11) (cond (Nat.beq q 2) 7 0) (
  cond (Nat.beq b 14) (cond (Nat.beq q 2) 7 0) (
  cond (Nat.beq b 26) (cond (Nat.beq q 2) 20 (cond (Nat.beq q 3) 11 0)) (
  cond (Nat.beq b 86) (cond (Nat.beq q 6) 1 0) 0))))))
def i8 : Nat → Int32 := upd (upd (upd (upd (upd (upd (upd (upd (upd (upd (upd (upd (fun _ => 0) 0 (nI 2)) 1 (-1)) 2 (nI 1)) 3 (nI 3)) 4 (nI 0)) 5 (-1)) 6 (-1)) 7 (-1)) 8 (nI 3)) 9 (-1)) 10 (nI 2)) 11 (-1)
def i0 (f : Nat → Int32) : Nat → Nat → Int32 := fun b =>
  cond (Nat.beq b 8) i8 (cond (Nat.beq b 12 || Nat.beq b 15) (va_cpy f (fun _ => 0) 0 0 7) (fun _ => 0))
def j0 : Nat → Nat → Int64 := fun b q => cond (Nat.beq b 5) (cond (Nat.beq q 3) 15 (cond (Nat.beq q 4) 12 (cond (Nat.beq q 5) 5 (cond (Nat.beq q 6) 10 0)))) 0
theorem zz_6 : (upd (upd (upd (upd (fun _ => 0) 0 (nI 0)) 1 (nI 0)) 2 (nI 1)) 3 (nI 1)) = fun q => nI (n0 6 q) := by
  funext q
  match q with
  | 0 => rfl
  | 1 => rfl
  | 2 => rfl
  | 3 => rfl
  | q + 4 => rfl
theorem zz_7 : (upd (upd (upd (upd (fun _ => 0) 0 (nI 0)) 1 (nI 1)) 2 (nI 0)) 3 (nI 1)) = fun q => nI (n0 7 q) := by
  funext q
  match q with
  | 0 => rfl
  | 1 => rfl
  | 2 => rfl
  | 3 => rfl
  | q + 4 => rfl
theorem zz_vn {f : Nat → Option Nat} {j k : Nat} {x : Option Nat} (h : ¬ k = j) : va_up f j x k = f k := if_neg h
theorem zz_33 : (va_up (va_up (va_up (va_up (va_up (va_up (va_up (va_up (va_up (va_up (va_up (va_up (va_up (va_up (va_up (fun _ => none) 0 (some 34)) 1 (some 36)) 2 (some 38)) 3 (some 40)) 4 (some 42)) 5 (some 44)) 6 (some 46)) 7 (some 48)) 8 (some 50)) 9 (some 52)) 10 (some 54)) 11 (some 56)) 12 (some 58)) 13 (some 60)) 14 (some 62)) = fun q => if q < 15 then some (34 + 2 * q) else none := by
  funext q
  match q with
  | 0 => rfl
  | 1 => rfl
  | 2 => rfl
  | 3 => rfl
  | 4 => rfl
  | 5 => rfl
  | 6 => rfl
  | 7 => rfl
  | 8 => rfl
  | 9 => rfl
  | 10 => rfl
  | 11 => rfl
  | 12 => rfl
  | 13 => rfl
  | 14 => rfl
  | q + 15 =>
    rw [if_neg (by omega)]
    rw [zz_vn (by omega), zz_vn (by omega), zz_vn (by omega), zz_vn (by omega), zz_vn (by omega), zz_vn (by omega), zz_vn (by omega), zz_vn (by omega), zz_vn (by omega), zz_vn (by omega), zz_vn (by omega), zz_vn (by omega), zz_vn (by omega), zz_vn (by omega), zz_vn (by omega)]
theorem zz_64 : (va_up (va_up (va_up (fun _ => none) 0 (some 80)) 1 (some 82)) 2 (some 84)) = fun q => if q < 3 then some (80 + 2 * q) else none := by
  funext q
  match q with
  | 0 => rfl
  | 1 => rfl
  | 2 => rfl
  | q + 3 =>
    rw [if_neg (by omega)]
    rw [zz_vn (by omega), zz_vn (by omega), zz_vn (by omega)]
set_option maxRecDepth 8000 in
theorem zz_hp {f : Nat → Int32} : zH f ++ zM = hp d0 n0 (i0 f) j0 0 := by
  unfold zH zM
  rw [zz_6, zz_7, zz_33, zz_64]
  rfl
theorem zz_ld1 : ∀ i, i < 4 → n0 6 i = i / 2 ∧ n0 7 i = i % 2 ∧ ∀ w, w < 3 → i8 (i * 3 + w) = oI (bsd 2 2 i w) := by decide +kernel
theorem zz_ld2 : ∀ i, i < 64 → tb 15 i = decide (i < 4) ∧ tb 12 i = decide (4 - 2 ≤ i ∧ i < 4) ∧ tb 5 i = decide (i < 4 ∧ i % 2 = 0) ∧ tb 10 i = decide (i < 4 ∧ i % 2 + 1 = 2) := by decide +kernel
theorem zz_tb0 : ∀ i, i < 64 → tb 0 i = false := by decide +kernel
theorem zz_iLd {f : Nat → Int32} : iLd d0 n0 (i0 f) j0 := ⟨⟨by decide, by decide, by decide, by decide⟩, rfl, rfl, ⟨by decide, by decide, by decide, by decide⟩, rfl, zz_ld1, zz_ld2⟩
theorem zz_iTx : iTx n0 := ⟨rfl, by decide, fun i h => absurd h (Nat.not_lt_zero i)⟩
theorem zz_iSk : iSk n0 := ⟨rfl, by decide, by decide, fun i _ => ⟨rfl, Nat.zero_le _⟩⟩
theorem zz_iRl {f : Nat → Int32} (hf : ∀ k, k < 7 → f k = enc (c0 k)) : iRl n0 (i0 f) := by
  refine ⟨⟨by decide, fun h => absurd h (by decide), fun k h => absurd h (Nat.not_lt_zero k)⟩, rfl, ?_⟩
  intro k hk
  have hk' : k < 7 := hk
  show va_cpy f (fun _ => 0) 0 0 7 k = enc (c0 k)
  rw [← hf k hk']
  unfold va_cpy
  rw [if_pos (by omega)]
  simp
theorem zz_iSt : iSt d0 n0 j0 0 20 (n0 89) := by
  refine ⟨⟨fun f _ => ⟨Nat.zero_le _, Nat.zero_le _, Nat.zero_le _⟩, by decide, Nat.zero_le _, by decide, fun _ _ => rfl⟩, fun f _ _ => ⟨rfl, rfl, rfl⟩, ⟨Nat.le_refl _, by decide +kernel⟩, fun _ _ => rfl, ?_, rfl, rfl, rfl⟩
  intro f hf
  have e1 : tb (j0 20 1) f = false := zz_tb0 f hf
  have e2 : tb (j0 20 2) f = false := zz_tb0 f hf
  rw [e1, e2]
  have e3 : n0 89 (36 + f) = 0 := rfl
  have e4 : n0 89 (72 + f) = 0 := rfl
  rw [e3, e4]
  simp
theorem zz_iUn : iUn d0 n0 j0 0 := ⟨rfl, by decide, by decide, fun j h => absurd h (Nat.not_lt_zero j)⟩
theorem zz_iKp {f : Nat → Int32} : iKp d0 n0 (i0 f) j0 0 := by
  refine ⟨Nat.le_refl _, 0, by decide, rfl, ?_⟩
  intro i _
  refine ⟨Nat.zero_le _, Nat.zero_le _, ?_, fun h => ?_⟩
  · rw [Nat.zero_testBit]
    rfl
  · rw [Nat.zero_testBit] at h
    cases h
theorem zz_iSn : iSn d0 n0 := ⟨rfl, by decide, fun j h => absurd h (Nat.not_lt_zero j)⟩
theorem zz_iMk : iMk d0 n0 := ⟨rfl, by decide, fun j h => absurd h (Nat.not_lt_zero j)⟩
theorem zz_iTd : iTd n0 j0 := ⟨rfl, by decide, fun j h => absurd h (Nat.not_lt_zero j)⟩
theorem zz_inv {f : Nat → Int32} (hf : ∀ k, k < 7 → f k = enc (c0 k)) : inv d0 n0 (i0 f) j0 0 := ⟨⟨zz_iLd, zz_iTx, zz_iSk, zz_iRl hf, zz_iSt, zz_iUn, zz_iKp, zz_iSn, zz_iMk, fun _ _ => rfl⟩, zz_iTd⟩
/-- THE LAW: whatever the script, it answers 1 -/
theorem w_140 {ko : aKo} {m : Nat} {f : Nat → Int32} (hk : koT ko) (hF : koF ko) (h0 : ko 0 = (.int, m, f)) (hm : m ≤ 2560) : ∃ n σ, aRun aP ko n 100 140 (aP.1 8960) [.retAddr 0, aJk, aJk, aJk, aJk, aJk, aJk, aJk] [] [] = some (.inl (some (.int 1)), σ) ∧ ∃ D N I J x, σ = hp D N I J x ∧ x ≤ 512 := by
  have h1 : ko 1 = (.int, 7, (ko 1).2.2) := by
    obtain ⟨e1, e2, _⟩ := hF
    generalize ko 1 = z at *
    obtain ⟨z1, z2, z3⟩ := z
    dsimp only at e1 e2 ⊢
    rw [e1, e2]
  have h := l_140 (m := m) (f := f) hk hF h0 hm (m / 5) 0 d0 n0 (i0 (ko 1).2.2) j0 0 0 aJk aJk aJk (by omega) (by omega) (zz_inv hF.2.2) (by omega)
  rw [← zz_hp, ← z_140 h1] at h
  obtain ⟨⟨r, σ⟩, ⟨n, hn⟩, hr, D, N, I, J, x, hσ, hx⟩ := h
  dsimp only at hr hσ
  subst hr
  exact ⟨n, σ, hn, D, N, I, J, x, hσ, by omega⟩
