/-! LEAVES of the reference: flag, hasWall, isLast, enters, thrown, refuse. -/
section C3
variable {ko : aKo} {d : Nat} {σ : aH}
theorem oi_36 : Int32.ofInt 36 = 36 := rfl
theorem b2i_01 (b : Prop) [Decidable b] : b2i b = 0 ∨ b2i b = 1 := by unfold b2i; split <;> simp
theorem c_flag (x : Int32) : aCal ko d 17 [.int x] σ (some (.int (b2i (¬ x = 0)))) σ := by
  unfold aCal
  rw [ae_17]
  show aEv ko d 17 _ [.int x] [] σ _
  simp only [al_1089, al_1090, ev_iload, ev_ifCond, ev_iconst, ev_goto, ev_jsr, ev_ireturn, aI, aCmp, decide_eq_true_eq, List.getElem?_cons_zero, oi_0, oi_1]
  unfold b2i
  by_cases h : x = 0
  · rw [if_pos h, if_neg (fun q => q h)]
  · rw [if_neg h, if_pos h]
theorem c_hasWall {a n f : Nat} {g : Nat → Int32} (ha : σ[a]? = some (.inl (.int, n, .inl g))) (hn : 36 + f < n) (hn2 : n ≤ 10000) : aCal ko d 26 [.ref a, .int (nI f)] σ (some (.int (b2i (g (36 + f) = 1)))) σ := by
  unfold aCal
  rw [ae_26]
  show aEv ko d 26 _ [.ref a, .int (nI f)] [] σ _
  have e36 : (36 : Int32) = nI 36 := rfl
  simp only [ev_aload, ev_iload, ev_iconst, ev_iadd, aI, aR, List.getElem?_cons_zero, List.getElem?_cons_succ, oi_36, e36, nI_add]
  rw [ev_iaload ha (aIn_nI hn (by omega)), nI_clamp (by omega)]
  simp only [al_1665, al_1666, ev_iconst, ev_icmp, ev_goto, ev_jsr, aCmp, decide_eq_true_eq, oi_0, oi_1]
  unfold b2i
  by_cases h : g (36 + f) = 1
  · rw [if_neg (fun q => q h), if_pos h, ev_freturn (Or.inr rfl)]
  · rw [if_pos h, if_neg h, ev_freturn (Or.inl rfl)]
theorem c_isLast {m : Nat} {fs : List Value} {rows cols f : Int32} (h : σ[m]? = some (.inr (0, fs))) (h3 : fs[3]? = some (.int rows)) (h4 : fs[4]? = some (.int cols)) : aCal ko d 28 [.ref m, .int f] σ (some (.int (b2i (¬ f < rows * cols - cols)))) σ := by
  unfold aCal
  rw [ae_28]
  show aEv ko d 28 _ [.ref m, .int f] [] σ _
  simp only [ev_iload, ev_aload, aI, aR, List.getElem?_cons_zero, List.getElem?_cons_succ]
  refine (aEv_cal (As := [.ref m]) (c_fields h h3 h4) rfl rfl (aRecv_of h) (Nat.le_of_ble_eq_true rfl) (Nat.le_of_ble_eq_true rfl) (Nat.le_of_ble_eq_true rfl) rfl).mpr ?_
  simp only [Option.toList, List.cons_append, List.nil_append, ev_aload, aR, List.getElem?_cons_zero]
  rw [ev_getfield h (v := .int cols) h4 rfl]
  simp only [al_1793, al_1794, ev_isub, ev_iconst, ev_icmp, ev_goto, ev_jsr, aCmp, decide_eq_true_eq, oi_0, oi_1]
  unfold b2i
  by_cases hc : f < rows * cols - cols
  · rw [if_pos hc, if_neg (fun q => q hc), ev_freturn (Or.inl rfl)]
  · rw [if_neg hc, if_pos hc, ev_freturn (Or.inr rfl)]
theorem c_enters {m w n t : Nat} {fs : List Value} {g : Nat → Int64} {v : Int64} (h : σ[m]? = some (.inr (0, fs))) (h1 : fs[1]? = some (.int (nI t))) (h2 : fs[2]? = some (.ref w)) (ha : σ[w]? = some (.inl (.long, n, .inr (.inl g)))) (ht : t < n) (hn : n ≤ 10000) : aCal ko d 43 [.ref m, .long v] σ none ((σ.set w (.inl (.long, n, .inr (.inl (vp_updL g t v))))).set m (.inr (0, fs.set 1 (.int (nI (t + 1)))))) := by
  have hne : w ≠ m := by
    intro q
    rw [q, h] at ha
    cases ha
  have hl : 1 < fs.length := (List.getElem?_eq_some_iff.mp h1).1
  unfold aCal
  rw [ae_43]
  show aEv ko d 43 _ [.ref m, .long v, aJk] [] σ _
  simp only [ev_aload, aR, List.getElem?_cons_zero]
  rw [ev_getfield h (v := .ref w) h2 rfl]
  simp only [ev_aload, aR, List.getElem?_cons_zero]
  rw [ev_getfield h (v := .int (nI t)) h1 rfl]
  simp only [ev_lload, aJ, List.getElem?_cons_zero, List.getElem?_cons_succ]
  rw [ev_lastore ha (aIn_nI ht (by omega)), nI_clamp (by omega)]
  have h' : (σ.set w (.inl (.long, n, .inr (.inl (vp_updL g t v)))))[m]? = some (.inr (0, fs)) := by rw [List.getElem?_set_ne hne]; exact h
  simp only [ev_aload, aR, List.getElem?_cons_zero, ev_dupr]
  rw [ev_getfield h' (v := .int (nI t)) h1 rfl]
  simp only [ev_iconst, ev_iadd, oi_1, nI_1]
  rw [ev_putfield h' ⟨rfl, hl, rfl⟩]
  simp only [ev_return]
theorem c_thrown {m : Nat} {fs : List Value} {t : Int32} (h : σ[m]? = some (.inr (0, fs))) (h0 : fs[0]? = some (.int t)) : aCal ko d 1 [.ref m] σ (some (.int t)) σ := by
  unfold aCal
  rw [ae_1]
  show aEv ko d 1 _ [.ref m] [] σ _
  simp only [ev_aload, aR, List.getElem?_cons_zero]
  rw [ev_getfield h (v := .int t) h0 rfl]
  simp only [ev_ireturn]
theorem c_refuse {m : Nat} {fs : List Value} (h : σ[m]? = some (.inr (0, fs))) (hl : 0 < fs.length) : aCal ko d 24 [.ref m] σ (some (.int 0)) (σ.set m (.inr (0, fs.set 0 (.int 1)))) := by
  unfold aCal
  rw [ae_24]
  show aEv ko d 24 _ [.ref m] [] σ _
  simp only [ev_aload, ev_iconst, aR, List.getElem?_cons_zero, oi_0, oi_1]
  rw [ev_putfield h ⟨rfl, hl, rfl⟩]
  simp only [ev_iconst, ev_ireturn, oi_0]
end C3
