/-! A LOOP THAT WRITES: copies (now into then); goesTo, isDigit. -/
section C4
variable {ko : aKo} {d : Nat} {σ : aH}
theorem oi_111 : Int32.ofInt 111 = nI 111 := rfl
theorem set_same {α : Type} {l : List α} {i : Nat} {a : α} (h : l[i]? = some a) : l.set i a = l := by
  refine List.ext_getElem? fun j => ?_
  rw [List.getElem?_set]
  by_cases e : i = j
  · subst e
    rw [if_pos rfl, if_pos (List.getElem?_eq_some_iff.mp h).1, h]
  · rw [if_neg e]
/-- the first i of g, then f -/
def mixN {α : Type} (g f : Nat → α) (i : Nat) : Nat → α := fun q => if q < i then g q else f q
theorem mixN_0 {α : Type} (g f : Nat → α) : mixN g f 0 = f := by funext q; simp [mixN]
theorem mixN_up (g f : Nat → Int32) (i : Nat) : upd (mixN g f i) i (g i) = mixN g f (i + 1) := by
  funext q
  unfold upd mixN
  by_cases h : q = i
  · subst h; simp
  · simp only [if_neg h]
    by_cases h2 : q < i
    · rw [if_pos h2, if_pos (by omega)]
    · rw [if_neg h2, if_neg (by omega)]
theorem l_copies {m t w : Nat} {fs : List Value} {f g : Nat → Int32} (hm : σ[m]? = some (.inr (0, fs))) (h8 : fs[8]? = some (.ref w)) (h9 : fs[9]? = some (.ref t)) (hw : σ[w]? = some (.inl (.int, 111, .inl g))) (ht : σ[t]? = some (.inl (.int, 111, .inl f))) (hne : t ≠ w) :
    ∀ j i : Nat, i + j = 111 → aEv ko d 60 (aP.1 (Int.toNat 3841)) [.ref m, .int (nI i)] [] (σ.set t (.inl (.int, 111, .inl (mixN g f i)))) (.inl none, σ.set t (.inl (.int, 111, .inl (mixN g f 111)))) := by
  have hlt : t < σ.length := (List.getElem?_eq_some_iff.mp ht).1
  have htm : t ≠ m := by
    intro q
    rw [q, hm] at ht
    cases ht
  intro j
  induction j with
  | zero =>
    intro i hi
    have hi : i = 111 := hi
    subst hi
    rw [al_3841]
    have hc : aCmp .ge (nI 111) (nI 111) = true := by decide
    simp only [ev_iload, ev_iconst, ev_icmp, aI, List.getElem?_cons_zero, List.getElem?_cons_succ, oi_111, hc, if_true, al_3842, ev_return]
  | succ j ih =>
    intro i hi
    have e1 : (σ.set t (.inl (.int, 111, .inl (mixN g f i))))[m]? = some (.inr (0, fs)) := by rw [List.getElem?_set_ne htm]; exact hm
    have e2 : (σ.set t (.inl (.int, 111, .inl (mixN g f i))))[w]? = some (.inl (.int, 111, .inl g)) := by rw [List.getElem?_set_ne hne]; exact hw
    have e3 : (σ.set t (.inl (.int, 111, .inl (mixN g f i))))[t]? = some (.inl (.int, 111, .inl (mixN g f i))) := by rw [List.getElem?_set_self hlt]
    rw [al_3841]
    have hc : aCmp .ge (nI i) (nI 111) = false := decide_eq_false (nI_ge (by omega) (by omega))
    simp only [ev_iload, ev_aload, ev_iconst, ev_icmp, aI, aR, List.getElem?_cons_zero, List.getElem?_cons_succ, oi_111, hc, Bool.false_eq_true, if_false]
    rw [ev_getfield e1 (v := .ref t) h9 rfl]
    simp only [ev_iload, ev_aload, aI, aR, List.getElem?_cons_zero, List.getElem?_cons_succ]
    rw [ev_getfield e1 (v := .ref w) h8 rfl]
    simp only [ev_iload, aI, List.getElem?_cons_zero, List.getElem?_cons_succ]
    rw [ev_iaload e2 (aIn_nI (by omega) (by omega)), ev_iastore e3 (aIn_nI (by omega) (by omega)), nI_clamp (by omega), List.set_set, mixN_up]
    simp only [ev_iinc, ev_goto, aI, st_1, nl_r, List.getElem?_cons_zero, List.getElem?_cons_succ, oi_1, nI_1]
    exact ih (i + 1) (by omega)
theorem c_copies {m t w : Nat} {fs : List Value} {f g : Nat → Int32} (hm : σ[m]? = some (.inr (0, fs))) (h8 : fs[8]? = some (.ref w)) (h9 : fs[9]? = some (.ref t)) (hw : σ[w]? = some (.inl (.int, 111, .inl g))) (ht : σ[t]? = some (.inl (.int, 111, .inl f))) (hne : t ≠ w) : aCal ko d 60 [.ref m] σ none (σ.set t (.inl (.int, 111, .inl (mixN g f 111)))) := by
  unfold aCal
  rw [ae_60]
  show aEv ko d 60 _ [.ref m, aJk] [] σ _
  simp only [ev_iconst]
  rw [ev_istore (Nat.le_of_ble_eq_true rfl)]
  simp only [st_1, nl_r, ev_jsr, oi_0]
  have h0 := l_copies (ko := ko) (d := d) hm h8 h9 hw ht hne 111 0 rfl
  rw [mixN_0, set_same ht] at h0
  exact h0
end C4
