/-! A FIRST LOOP of the reference: sumOf. -/
section C2
variable {ko : aKo} {d : Nat} {σ : aH}
def sumN (f : Nat → Int32) : Nat → Int32
  | 0 => 0
  | n + 1 => sumN f n + f n
theorem aIn_nI {j n : Nat} (h : j < n) (hn : n < 2 ^ 31) : aIn (nI j) n = true := aIn_iff.mpr (vp_in_nI h hn)
theorem l_sumOf {m a n fr F : Nat} {fs : List Value} {rows cols : Int32} {g : Nat → Int32} (h : σ[m]? = some (.inr (0, fs))) (h3 : fs[3]? = some (.int rows)) (h4 : fs[4]? = some (.int cols)) (hF : rows * cols = nI F) (ha : σ[a]? = some (.inl (.int, n, .inl g))) (hn : fr + F ≤ n) (hn2 : n ≤ 10000) :
    ∀ j i : Nat, i + j = F → aEv ko d 36 (aP.1 (Int.toNat 2305)) [.ref m, .ref a, .int (nI fr), .int (sumN (fun q => g (fr + q)) i), .int (nI i)] [] σ (.inl (some (.int (sumN (fun q => g (fr + q)) F))), σ) := by
  intro j
  induction j with
  | zero =>
    intro i hi
    have hi : i = F := hi
    subst hi
    rw [al_2305]
    simp only [ev_iload, ev_aload, aI, aR, List.getElem?_cons_zero, List.getElem?_cons_succ]
    refine (aEv_cal (As := [.ref m]) (c_fields h h3 h4) rfl rfl (aRecv_of h) (Nat.le_of_ble_eq_true rfl) (Nat.le_of_ble_eq_true rfl) (Nat.le_of_ble_eq_true rfl) rfl).mpr ?_
    have hc : aCmp .ge (nI i) (rows * cols) = true := by rw [hF]; exact decide_eq_true (nI_le (Nat.le_refl _) (by omega))
    simp only [Option.toList, List.cons_append, List.nil_append, ev_icmp, hc, if_true, al_2306, ev_iload, aI, List.getElem?_cons_zero, List.getElem?_cons_succ, ev_ireturn]
  | succ j ih =>
    intro i hi
    rw [al_2305]
    simp only [ev_iload, ev_aload, aI, aR, List.getElem?_cons_zero, List.getElem?_cons_succ]
    refine (aEv_cal (As := [.ref m]) (c_fields h h3 h4) rfl rfl (aRecv_of h) (Nat.le_of_ble_eq_true rfl) (Nat.le_of_ble_eq_true rfl) (Nat.le_of_ble_eq_true rfl) rfl).mpr ?_
    have hc : aCmp .ge (nI i) (rows * cols) = false := by rw [hF]; exact decide_eq_false (nI_ge (by omega) (by omega))
    simp only [Option.toList, List.cons_append, List.nil_append, ev_icmp, hc, Bool.false_eq_true, if_false, ev_iload, ev_aload, aI, aR, List.getElem?_cons_zero, List.getElem?_cons_succ, ev_iadd, nI_add]
    rw [ev_iaload ha (aIn_nI (by omega) (by omega)), nI_clamp (by omega)]
    simp only [ev_iadd]
    rw [ev_istore (Nat.le_of_ble_eq_true rfl)]
    simp only [st_3, st_4, nl_i, ev_iinc, ev_goto, aI, List.getElem?_cons_zero, List.getElem?_cons_succ, oi_1, nI_1]
    exact ih (i + 1) (by omega)
theorem c_sumOf {m a n fr F : Nat} {fs : List Value} {rows cols : Int32} {g : Nat → Int32} (h : σ[m]? = some (.inr (0, fs))) (h3 : fs[3]? = some (.int rows)) (h4 : fs[4]? = some (.int cols)) (hF : rows * cols = nI F) (ha : σ[a]? = some (.inl (.int, n, .inl g))) (hn : fr + F ≤ n) (hn2 : n ≤ 10000) : aCal ko d 36 [.ref m, .ref a, .int (nI fr)] σ (some (.int (sumN (fun q => g (fr + q)) F))) σ := by
  unfold aCal
  rw [ae_36]
  show aEv ko d 36 _ [.ref m, .ref a, .int (nI fr), aJk, aJk] [] σ _
  simp only [ev_iconst]
  rw [ev_istore (Nat.le_of_ble_eq_true rfl)]
  simp only [ev_iconst]
  rw [ev_istore (Nat.le_of_ble_eq_true rfl)]
  simp only [st_3, st_4, nl_i, ev_jsr, oi_0]
  exact l_sumOf h h3 h4 hF ha hn hn2 F 0 (by omega)
end C2
