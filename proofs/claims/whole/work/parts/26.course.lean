/-! goesTo, isDigit, forceOn of the reference. -/
section C5
variable {ko : aKo} {d : Nat} {σ : aH}
theorem c_goesTo {m p0 o0 f L n1 n2 : Nat} {fs : List Value} {cr on : Nat → Int32} (hm : σ[m]? = some (.inr (0, fs))) (h22 : fs[22]? = some (.ref p0)) (h23 : fs[23]? = some (.ref o0)) (h24 : fs[24]? = some (.int (nI L))) (hp : σ[p0]? = some (.inl (.int, n1, .inl cr))) (ho : σ[o0]? = some (.inl (.boolean, n2, .inl on))) (hL : L < n1) (hf : f < n2) (hn1 : n1 ≤ 10000) (hn2 : n2 ≤ 10000) :
    aCal ko d 27 [.ref m, .int (nI f)] σ none (((σ.set p0 (.inl (.int, n1, .inl (upd cr L (nI f))))).set m (.inr (0, fs.set 24 (.int (nI (L + 1)))))).set o0 (.inl (.boolean, n2, .inl (upd on f 1)))) := by
  have q1 : p0 ≠ m := by
    intro q
    rw [q, hm] at hp
    cases hp
  have q2 : o0 ≠ m := by
    intro q
    rw [q, hm] at ho
    cases ho
  have q3 : p0 ≠ o0 := by
    intro q
    rw [q, ho] at hp
    cases hp
  have hml : m < σ.length := (List.getElem?_eq_some_iff.mp hm).1
  have hl : 24 < fs.length := (List.getElem?_eq_some_iff.mp h24).1
  unfold aCal
  rw [ae_27]
  show aEv ko d 27 _ [.ref m, .int (nI f)] [] σ _
  simp only [ev_aload, aR, List.getElem?_cons_zero]
  rw [ev_getfield hm (v := .ref p0) h22 rfl]
  simp only [ev_aload, aR, List.getElem?_cons_zero]
  rw [ev_getfield hm (v := .int (nI L)) h24 rfl]
  simp only [ev_iload, aI, List.getElem?_cons_zero, List.getElem?_cons_succ]
  rw [ev_iastore hp (aIn_nI hL (by omega)), nI_clamp (by omega)]
  have e1 : (σ.set p0 (.inl (.int, n1, .inl (upd cr L (nI f)))))[m]? = some (.inr (0, fs)) := by rw [List.getElem?_set_ne q1]; exact hm
  simp only [ev_aload, aR, List.getElem?_cons_zero, ev_dupr]
  rw [ev_getfield e1 (v := .int (nI L)) h24 rfl]
  simp only [ev_iconst, ev_iadd, oi_1, nI_1]
  rw [ev_putfield e1 ⟨rfl, hl, rfl⟩]
  have e2 : ((σ.set p0 (.inl (.int, n1, .inl (upd cr L (nI f))))).set m (.inr (0, fs.set 24 (.int (nI (L + 1))))))[m]? = some (.inr (0, fs.set 24 (.int (nI (L + 1))))) := by rw [List.getElem?_set_self (by rw [List.length_set]; exact hml)]
  have e3 : ((σ.set p0 (.inl (.int, n1, .inl (upd cr L (nI f))))).set m (.inr (0, fs.set 24 (.int (nI (L + 1))))))[o0]? = some (.inl (.boolean, n2, .inl on)) := by rw [List.getElem?_set_ne (Ne.symm q2), List.getElem?_set_ne q3]; exact ho
  simp only [ev_aload, aR, List.getElem?_cons_zero]
  rw [ev_getfield e2 (v := .ref o0) (by rw [List.getElem?_set_ne (by decide)]; exact h23) rfl]
  simp only [ev_iload, ev_iconst, aI, List.getElem?_cons_zero, List.getElem?_cons_succ, oi_1]
  rw [ev_bastore e3 (aIn_nI hf (by omega)), nI_clamp (by omega)]
  simp only [ev_return]
  rfl
theorem c_forceOn {m s0 n : Nat} {fs : List Value} {sky : Nat → Int32} {t k : Nat} (hm : σ[m]? = some (.inr (0, fs))) (h6 : fs[6]? = some (.int (nI k))) (h7 : fs[7]? = some (.ref s0)) (hs : σ[s0]? = some (.inl (.int, n, .inl sky))) (hk : 0 < k) (hk2 : k ≤ n) (hn : n ≤ 10000) (ht : t < 2 ^ 30) (hr : nI t - nI t / nI k * nI k = nI (t % k)) : aCal ko d 31 [.ref m, .int (nI t)] σ (some (.int (sky (t % k)))) σ := by
  unfold aCal
  rw [ae_31]
  show aEv ko d 31 _ [.ref m, .int (nI t)] [] σ _
  simp only [ev_aload, aR, List.getElem?_cons_zero]
  rw [ev_getfield hm (v := .ref s0) h7 rfl]
  simp only [ev_iload, ev_aload, aI, aR, List.getElem?_cons_zero, List.getElem?_cons_succ]
  rw [ev_getfield hm (v := .int (nI k)) h6 rfl, ev_irem (nI_ne0 hk (by omega)), hr]
  have hlt : t % k < n := Nat.lt_of_lt_of_le (Nat.mod_lt _ hk) hk2
  rw [ev_iaload hs (aIn_nI hlt (by omega)), nI_clamp (by omega)]
  simp only [ev_ireturn]
end C5
