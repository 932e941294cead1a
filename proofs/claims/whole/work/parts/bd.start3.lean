/-! THE START, third: the class, and the law up to its loop. From wip/whole/src. -/
def zH (f : Nat → Int32) : aH := [
  .inr (1, [.ref 1, .ref 3, .ref 5, .ref 9, .ref 11, .ref 14, .ref 17, .ref 20, .ref 22, .ref 24, .ref 26, .ref 32, .ref 64, .int 0, .ref 65, .ref 69, .ref 73, .ref 77, .ref 78, .ref 79]),
  .inr (11, [.ref 2, .int 0]),
  aNew (newarray.typeOf .char) 80,
  .inr (12, [.ref 4, .int 0]),
  aNew (newarray.typeOf .long) 36,
  .inr (4, [.int (nI 2), .int (nI 2), .int (nI 4), .long 15, .long 12, .long 5, .long 10, .ref 6, .ref 7, .ref 8]),
  .inl (.int, 36, .inl (upd (upd (upd (upd (fun _ => 0) 0 (nI 0)) 1 (nI 0)) 2 (nI 1)) 3 (nI 1))),
  .inl (.int, 36, .inl (upd (upd (upd (upd (fun _ => 0) 0 (nI 0)) 1 (nI 1)) 2 (nI 0)) 3 (nI 1))),
  .inl (.int, 108, .inl (upd (upd (upd (upd (upd (upd (upd (upd (upd (upd (upd (upd (fun _ => 0) 0 (nI 2)) 1 (-1)) 2 (nI 1)) 3 (nI 3)) 4 (nI 0)) 5 (-1)) 6 (-1)) 7 (-1)) 8 (nI 3)) 9 (-1)) 10 (nI 2)) 11 (-1))),
  .inr (2, [.ref 10, .int (nI 1)]),
  aNew (newarray.typeOf .int) 20,
  .inr (8, [.ref 12, .ref 13, .int (nI 7)]),
  .inl (.int, 40, .inl (va_cpy f (fun _ => 0) 0 0 7)),
  aNew (newarray.typeOf .int) 40,
  .inr (8, [.ref 15, .ref 16, .int (nI 7)]),
  .inl (.int, 40, .inl (va_cpy f (fun _ => 0) 0 0 7)),
  aNew (newarray.typeOf .int) 40,
  .inr (9, [.ref 18, .ref 19, .int 0, .int 0, .int 0, .int 0, .int 0]),
  aNew (newarray.typeOf .int) 40,
  aNew (newarray.typeOf .int) 40,
  .inr (10, [.ref 21, .long 0, .long 0, .int 0, .int 0, .int 0]),
  aNew (newarray.typeOf .int) 36,
  .inr (10, [.ref 23, .long 0, .long 0, .int 0, .int 0, .int 0]),
  aNew (newarray.typeOf .int) 36,
  .inr (10, [.ref 25, .long 0, .long 0, .int 0, .int 0, .int 0]),
  aNew (newarray.typeOf .int) 36,
  .inr (7, [.ref 5, .ref 9, .ref 20, .ref 11, .ref 27, .ref 28, .ref 29, .int 0, .ref 30, .int 0, .long 0, .int 0, .int 0, .ref 31, .int 0]),
  aNew (newarray.typeOf .int) 7,
  aNew (newarray.typeOf .int) 72,
  aNew (newarray.typeOf .long) 2,
  aNew (newarray.typeOf .int) 36,
  aNew (newarray.typeOf .int) 36,
  .inr (6, [.ref 33, .int 0, .int 0]),
  .inl (.object "RiverThinksAgain$State", 15, .inr (.inr (.inr (.inr (va_up (va_up (va_up (va_up (va_up (va_up (va_up (va_up (va_up (va_up (va_up (va_up (va_up (va_up (va_up (fun _ => none) 0 (some 34)) 1 (some 36)) 2 (some 38)) 3 (some 40)) 4 (some 42)) 5 (some 44)) 6 (some 46)) 7 (some 48)) 8 (some 50)) 9 (some 52)) 10 (some 54)) 11 (some 56)) 12 (some 58)) 13 (some 60)) 14 (some 62)))))),
  .inr (10, [.ref 35, .long 0, .long 0, .int 0, .int 0, .int 0]),
  aNew (newarray.typeOf .int) 36,
  .inr (10, [.ref 37, .long 0, .long 0, .int 0, .int 0, .int 0]),
  aNew (newarray.typeOf .int) 36,
  .inr (10, [.ref 39, .long 0, .long 0, .int 0, .int 0, .int 0]),
  aNew (newarray.typeOf .int) 36,
  .inr (10, [.ref 41, .long 0, .long 0, .int 0, .int 0, .int 0]),
  aNew (newarray.typeOf .int) 36,
  .inr (10, [.ref 43, .long 0, .long 0, .int 0, .int 0, .int 0]),
  aNew (newarray.typeOf .int) 36,
  .inr (10, [.ref 45, .long 0, .long 0, .int 0, .int 0, .int 0]),
  aNew (newarray.typeOf .int) 36,
  .inr (10, [.ref 47, .long 0, .long 0, .int 0, .int 0, .int 0]),
  aNew (newarray.typeOf .int) 36,
  .inr (10, [.ref 49, .long 0, .long 0, .int 0, .int 0, .int 0]),
  aNew (newarray.typeOf .int) 36,
  .inr (10, [.ref 51, .long 0, .long 0, .int 0, .int 0, .int 0]),
  aNew (newarray.typeOf .int) 36,
  .inr (10, [.ref 53, .long 0, .long 0, .int 0, .int 0, .int 0]),
  aNew (newarray.typeOf .int) 36,
  .inr (10, [.ref 55, .long 0, .long 0, .int 0, .int 0, .int 0]),
  aNew (newarray.typeOf .int) 36,
  .inr (10, [.ref 57, .long 0, .long 0, .int 0, .int 0, .int 0]),
  aNew (newarray.typeOf .int) 36,
  .inr (10, [.ref 59, .long 0, .long 0, .int 0, .int 0, .int 0]),
  aNew (newarray.typeOf .int) 36,
  .inr (10, [.ref 61, .long 0, .long 0, .int 0, .int 0, .int 0]),
  aNew (newarray.typeOf .int) 36,
  .inr (10, [.ref 63, .long 0, .long 0, .int 0, .int 0, .int 0]),
  aNew (newarray.typeOf .int) 36,
  .inl (.object "RiverThinksAgain$State", 3, .inr (.inr (.inr (.inr (va_up (va_up (va_up (fun _ => none) 0 (some 80)) 1 (some 82)) 2 (some 84)))))),
  .inr (5, [.ref 66, .ref 67, .ref 68, .int 0]),
  aNew (newarray.typeOf .int) 10,
  aNew (newarray.typeOf .int) 10,
  aNew (newarray.typeOf .int) 10,
  .inr (5, [.ref 70, .ref 71, .ref 72, .int 0]),
  aNew (newarray.typeOf .int) 10,
  aNew (newarray.typeOf .int) 10,
  aNew (newarray.typeOf .int) 10,
  .inr (3, [.ref 74, .ref 75, .ref 76, .int 0, .int 0]),
  aNew (newarray.typeOf .int) 8,
  aNew (newarray.typeOf .int) 20,
  aNew (newarray.typeOf .long) 36,
  aNew (newarray.typeOf .long) 126,
  aNew (newarray.typeOf .int) 61,
  aNew (newarray.typeOf .long) 13,
  .inr (10, [.ref 81, .long 0, .long 0, .int 0, .int 0, .int 0]),
  aNew (newarray.typeOf .int) 36,
  .inr (10, [.ref 83, .long 0, .long 0, .int 0, .int 0, .int 0]),
  aNew (newarray.typeOf .int) 36,
  .inr (10, [.ref 85, .long 0, .long 0, .int 0, .int 0, .int 0]),
  aNew (newarray.typeOf .int) 36]
def zM : aH := [
  .inr (0, [.int 0, .int 0, .ref 87, .int (nI 2), .int (nI 2), .int 0, .int (nI 1), .ref 88, .ref 89, .ref 90, .ref 91, .int 0, .int 0, .int 0, .int 0, .ref 92, .ref 93, .ref 94, .int 0, .int 0, .ref 95, .ref 96, .ref 97, .ref 98, .int 0, .int 0, .int 0, .ref 99, .ref 100, .ref 101, .ref 102, .ref 103, .int 0, .ref 104, .int 0, .ref 105, .ref 106, .int 0, .ref 107, .ref 108, .ref 109, .ref 110, .ref 111, .ref 112, .ref 113, .long 0, .int 0, .ref 114, .ref 115, .ref 116, .ref 117, .int 0, .ref 118, .ref 119, .ref 120, .ref 121, .int 0, .ref 122, .ref 123, .ref 124]),
  aNew (newarray.typeOf .long) 40,
  aNew (newarray.typeOf .int) 20,
  aNew (newarray.typeOf .int) 111,
  aNew (newarray.typeOf .int) 111,
  aNew (newarray.typeOf .int) 80,
  aNew (newarray.typeOf .int) 36,
  aNew (newarray.typeOf .int) 80,
  aNew (newarray.typeOf .int) 80,
  aNew (newarray.typeOf .int) 80,
  aNew (newarray.typeOf .int) 7,
  aNew (newarray.typeOf .int) 36,
  aNew (newarray.typeOf .boolean) 36,
  aNew (newarray.typeOf .int) 1776,
  aNew (newarray.typeOf .int) 60,
  aNew (newarray.typeOf .int) 60,
  aNew (newarray.typeOf .int) 60,
  aNew (newarray.typeOf .int) 60,
  aNew (newarray.typeOf .int) 36,
  aNew (newarray.typeOf .int) 6,
  aNew (newarray.typeOf .int) 3,
  aNew (newarray.typeOf .int) 8,
  aNew (newarray.typeOf .int) 20,
  aNew (newarray.typeOf .int) 20,
  aNew (newarray.typeOf .boolean) 20,
  aNew (newarray.typeOf .boolean) 20,
  aNew (newarray.typeOf .int) 36,
  aNew (newarray.typeOf .int) 36,
  aNew (newarray.typeOf .int) 10,
  aNew (newarray.typeOf .int) 10,
  aNew (newarray.typeOf .int) 10,
  aNew (newarray.typeOf .long) 6,
  aNew (newarray.typeOf .int) 10,
  aNew (newarray.typeOf .int) 10,
  aNew (newarray.typeOf .int) 610,
  aNew (newarray.typeOf .int) 80,
  aNew (newarray.typeOf .boolean) 3,
  aNew (newarray.typeOf .int) 3,
  aNew (newarray.typeOf .int) 333,
  aNew (newarray.typeOf .long) 1]
section ST
variable {ko : aKo} {d : Nat} {s l : aH} {Q : Option Value → aH → Prop} {a : Nat}
theorem zz_aC {n : Nat} : aNew (.object (aP.2.2 10).1) n = .inl (.object "RiverThinksAgain$State", n, .inr (.inr (.inr (.inr (fun _ => none))))) := rfl
theorem zz_g1 {k ci F : Nat} {is : List Instr} {ls st fs : List Value} {τ : aH} {P : (Option Value ⊕ Unit) → aH → Prop} (h : (Nat.beq (F / 64) ci && Nat.blt (F % 64) fs.length) = true) : aWp ko d k (.getfield F :: is) ls (.ref 0 :: st) ((.inr (ci, fs) :: l) ++ τ) P = aWp ko d k is ls (fs.getD (F % 64) .null :: st) ((.inr (ci, fs) :: l) ++ τ) P := zz_g0 (l := l ++ τ) h
theorem zz_mk {K ci F : Nat} {fs fs0 ls : List Value} {res : aH} {is : List Instr} {P : (Option Value ⊕ Unit) → aH → Prop} (hn : (aP.2.2 ci).2.map defaultValue = fs0) (hK : ∀ Q, aMm ko d K [.ref (l.length + 1)] ((.inr (1, fs) :: l) ++ [.inr (ci, fs0)]) Q = Q none ((.inr (1, fs) :: l) ++ res)) (h1 : 1 = (aP.2.1 K).2.1) (hr : (aP.2.1 K).2.2.2.2.1 = some 999) (h4 : Nat.ble 1 (aP.2.1 K).2.2.1 = true) (h5 : Nat.ble ((aP.2.1 K).2.2.2.1 + 1) (aP.2.1 150).2.2.2.1 = true) (h6 : (aP.2.1 K).2.2.2.2.2 = none) (hF : (Nat.beq (F / 256) 1 && Nat.blt (F % 64) fs.length && Nat.beq (F / 64 % 4) 3) = true) : aWp ko d 150 (.aload 0 :: .new ci :: .dup :: .invokestatic K :: .putfield F :: is) (.ref 0 :: ls) [] (.inr (1, fs) :: l) P = aWp ko d 150 is (.ref 0 :: ls) [] (.inr (1, fs.set (F % 64) (.ref (l.length + 1))) :: (l ++ res)) P := by
  rw [wp_aloadr_0, zz_nw, wp_dupr, hn, List.length_cons]
  rw [wp_call (k := 150) (k' := K) (As := [.ref (l.length + 1)]) (rest := [.ref (l.length + 1), .ref 0]) (st := [.ref (l.length + 1), .ref (l.length + 1), .ref 0]) rfl h1 (by rw [hr]; rfl) (aCat_8 (by with_unfolding_all rfl)) (Nat.le_of_ble_eq_true h4) (Nat.le_of_ble_eq_true h5) h6, hK]
  rw [show ∀ x : List Value, (none : Option Value).toList ++ x = x from fun _ => rfl, List.cons_append]
  simp only [Bool.and_eq_true] at hF
  refine zz_p0 ?_
  simp only [Bool.and_eq_true]
  refine ⟨hF.1, ?_⟩
  rw [Nat.eq_of_beq_eq_true hF.2]
  rfl
theorem z_150 {f : Nat → Int32} (hk : ko 1 = (.int, 7, f)) : aMm ko d 150 [.ref 0] [.inr (1, [.null, .null, .null, .null, .null, .null, .null, .null, .null, .null, .null, .null, .null, .int 0, .null, .null, .null, .null, .null, .null])] Q = Q none (zH f) := by
  rw [me_150, al_9600, wp_aloadr_0, zz_o (aCat_16 (by with_unfolding_all rfl))]
  rw [zz_mk (K := 284) (ci := 11) (F := 448) (fs0 := [.null, .int 0]) rfl (fun Q => z_284 rfl) rfl rfl rfl rfl rfl rfl]
  simp only [List.cons_append, List.nil_append, List.length_cons, List.length_nil, List.set_cons_zero, List.set_cons_succ, Nat.reduceAdd, Nat.zero_add, Nat.reduceMod]
  rw [zz_mk (K := 291) (ci := 12) (F := 449) (fs0 := [.null, .int 0]) rfl (fun Q => z_291 rfl) rfl rfl rfl rfl rfl rfl]
  simp only [List.cons_append, List.nil_append, List.length_cons, List.length_nil, List.set_cons_zero, List.set_cons_succ, Nat.reduceAdd, Nat.zero_add, Nat.reduceMod]
  rw [zz_mk (K := 239) (ci := 4) (F := 450) (fs0 := [.int 0, .int 0, .int 0, .long 0, .long 0, .long 0, .long 0, .null, .null, .null]) rfl (fun Q => z_239 rfl) rfl rfl rfl rfl rfl rfl]
  simp only [List.cons_append, List.nil_append, List.length_cons, List.length_nil, List.set_cons_zero, List.set_cons_succ, Nat.reduceAdd, Nat.zero_add, Nat.reduceMod]
  rw [zz_mk (K := 228) (ci := 2) (F := 451) (fs0 := [.null, .int 0]) rfl (fun Q => z_228 rfl) rfl rfl rfl rfl rfl rfl]
  simp only [List.cons_append, List.nil_append, List.length_cons, List.length_nil, List.set_cons_zero, List.set_cons_succ, Nat.reduceAdd, Nat.zero_add, Nat.reduceMod]
  rw [zz_mk (K := 265) (ci := 8) (F := 452) (fs0 := [.null, .null, .int 0]) rfl (fun Q => z_265 hk rfl) rfl rfl rfl rfl rfl rfl]
  simp only [List.cons_append, List.nil_append, List.length_cons, List.length_nil, List.set_cons_zero, List.set_cons_succ, Nat.reduceAdd, Nat.zero_add, Nat.reduceMod]
  rw [zz_mk (K := 265) (ci := 8) (F := 453) (fs0 := [.null, .null, .int 0]) rfl (fun Q => z_265 hk rfl) rfl rfl rfl rfl rfl rfl]
  simp only [List.cons_append, List.nil_append, List.length_cons, List.length_nil, List.set_cons_zero, List.set_cons_succ, Nat.reduceAdd, Nat.zero_add, Nat.reduceMod]
  rw [zz_mk (K := 268) (ci := 9) (F := 454) (fs0 := [.null, .null, .int 0, .int 0, .int 0, .int 0, .int 0]) rfl (fun Q => z_268 rfl) rfl rfl rfl rfl rfl rfl]
  simp only [List.cons_append, List.nil_append, List.length_cons, List.length_nil, List.set_cons_zero, List.set_cons_succ, Nat.reduceAdd, Nat.zero_add, Nat.reduceMod]
  rw [zz_mk (K := 280) (ci := 10) (F := 455) (fs0 := [.null, .long 0, .long 0, .int 0, .int 0, .int 0]) rfl (fun Q => z_280 rfl) rfl rfl rfl rfl rfl rfl]
  simp only [List.cons_append, List.nil_append, List.length_cons, List.length_nil, List.set_cons_zero, List.set_cons_succ, Nat.reduceAdd, Nat.zero_add, Nat.reduceMod]
  rw [zz_mk (K := 280) (ci := 10) (F := 456) (fs0 := [.null, .long 0, .long 0, .int 0, .int 0, .int 0]) rfl (fun Q => z_280 rfl) rfl rfl rfl rfl rfl rfl]
  simp only [List.cons_append, List.nil_append, List.length_cons, List.length_nil, List.set_cons_zero, List.set_cons_succ, Nat.reduceAdd, Nat.zero_add, Nat.reduceMod]
  rw [zz_mk (K := 280) (ci := 10) (F := 457) (fs0 := [.null, .long 0, .long 0, .int 0, .int 0, .int 0]) rfl (fun Q => z_280 rfl) rfl rfl rfl rfl rfl rfl]
  simp only [List.cons_append, List.nil_append, List.length_cons, List.length_nil, List.set_cons_zero, List.set_cons_succ, Nat.reduceAdd, Nat.zero_add, Nat.reduceMod]
  rw [wp_aloadr_0, zz_nw, wp_dupr]
  simp (disch := (first | omega | exact aCat_8 (by with_unfolding_all rfl) | exact rk_lt (by with_unfolding_all rfl) | exact aCat_16 (by with_unfolding_all rfl) | exact rk_eq (by with_unfolding_all rfl) | assumption | exact b2n_lt _ | exact id_b (by with_unfolding_all rfl) | (simp (disch := omega) only [u2_same, u2_ab, u2_aq]; done) | (simp (disch := omega) only [u2_same, u2_ab, u2_aq]; omega) | fail)) only [wp_aloadr_0, zz_g1, List.getD_cons_zero, List.getD_cons_succ, Nat.reduceMod, List.length_cons, List.length_nil, Nat.reduceAdd, Nat.zero_add]
  rw [show (aP.2.2 7).2.map defaultValue = [.null, .null, .null, .null, .null, .null, .null, .int 0, .null, .int 0, .long 0, .int 0, .int 0, .null, .int 0] from rfl]
  rw [wp_call (k' := 253) (As := [.ref 26, .ref 5, .ref 9, .ref 20, .ref 11]) (rest := [.ref 26, .ref 0]) (st := [.ref 11, .ref 20, .ref 9, .ref 5, .ref 26, .ref 26, .ref 0]) rfl rfl rfl (aCat_8 (by with_unfolding_all rfl)) (Nat.le_of_ble_eq_true rfl) (rk_lt (by with_unfolding_all rfl)) rfl]
  refine Eq.trans (z_253 (a := 26) ?_) ?_
  · rfl
  rw [show ∀ x : List Value, (none : Option Value).toList ++ x = x from fun _ => rfl, List.cons_append, zz_p0 rfl]
  simp only [List.append_assoc, List.cons_append, List.nil_append, List.length_cons, List.length_nil, List.set_cons_zero, List.set_cons_succ, Nat.reduceAdd, Nat.zero_add, Nat.reduceMod]
  rw [zz_mk (K := 249) (ci := 6) (F := 459) (fs0 := [.null, .int 0, .int 0]) rfl (fun Q => z_249 rfl) rfl rfl rfl rfl rfl rfl]
  simp only [List.append_assoc, List.cons_append, List.nil_append, List.length_cons, List.length_nil, List.set_cons_zero, List.set_cons_succ, Nat.reduceAdd, Nat.zero_add, Nat.reduceMod]
  rw [wp_aloadr_0, wk_3, zz_an (by omega), zz_aC, List.cons_append, zz_p0 rfl]
  simp only [List.append_assoc, List.cons_append, List.nil_append, List.length_cons, List.length_nil, List.set_cons_zero, List.set_cons_succ, Nat.reduceAdd, Nat.zero_add, Nat.reduceMod]
  rw [zz_mk (K := 245) (ci := 5) (F := 462) (fs0 := [.null, .null, .null, .int 0]) rfl (fun Q => z_245 rfl) rfl rfl rfl rfl rfl rfl]
  simp only [List.append_assoc, List.cons_append, List.nil_append, List.length_cons, List.length_nil, List.set_cons_zero, List.set_cons_succ, Nat.reduceAdd, Nat.zero_add, Nat.reduceMod]
  rw [zz_mk (K := 245) (ci := 5) (F := 463) (fs0 := [.null, .null, .null, .int 0]) rfl (fun Q => z_245 rfl) rfl rfl rfl rfl rfl rfl]
  simp only [List.append_assoc, List.cons_append, List.nil_append, List.length_cons, List.length_nil, List.set_cons_zero, List.set_cons_succ, Nat.reduceAdd, Nat.zero_add, Nat.reduceMod]
  rw [zz_mk (K := 231) (ci := 3) (F := 464) (fs0 := [.null, .null, .null, .int 0, .int 0]) rfl (fun Q => z_231 rfl) rfl rfl rfl rfl rfl rfl]
  simp only [List.append_assoc, List.cons_append, List.nil_append, List.length_cons, List.length_nil, List.set_cons_zero, List.set_cons_succ, Nat.reduceAdd, Nat.zero_add, Nat.reduceMod]
  rw [wp_aloadr_0, wk_126, zz_na (by omega), List.cons_append, zz_p0 rfl]
  simp only [List.append_assoc, List.cons_append, List.nil_append, List.length_cons, List.length_nil, List.set_cons_zero, List.set_cons_succ, Nat.reduceAdd, Nat.zero_add, Nat.reduceMod]
  rw [wp_aloadr_0, wk_61, zz_na (by omega), List.cons_append, zz_p0 rfl]
  simp only [List.append_assoc, List.cons_append, List.nil_append, List.length_cons, List.length_nil, List.set_cons_zero, List.set_cons_succ, Nat.reduceAdd, Nat.zero_add, Nat.reduceMod]
  rw [wp_aloadr_0, wk_13, zz_na (by omega), List.cons_append, zz_p0 rfl]
  simp only [List.append_assoc, List.cons_append, List.nil_append, List.length_cons, List.length_nil, List.set_cons_zero, List.set_cons_succ, Nat.reduceAdd, Nat.zero_add, Nat.reduceMod]
  rw [wk_0, wp_istore_1, nl_r, wp_jsr]
  rw [al_9601, wp_iload_1, wk_3, wn_ge_f (by omega) (by omega) (by omega), wp_aloadr_0, zz_g0 rfl]
  simp only [List.getD_cons_zero, List.getD_cons_succ, Nat.reduceMod]
  rw [wp_iload_1, zz_as (f := fun _ => none) (n := 3) rfl (by omega) (by omega) (by with_unfolding_all rfl), wp_iinc_1_1, nl_r, wp_goto]
  simp only [List.append_assoc, List.cons_append, List.nil_append, List.length_cons, List.length_nil, List.set_cons_zero, List.set_cons_succ, Nat.reduceAdd, Nat.zero_add, Nat.reduceMod]
  rw [al_9601, wp_iload_1, wk_3, wn_ge_f (by omega) (by omega) (by omega), wp_aloadr_0, zz_g0 rfl]
  simp only [List.getD_cons_zero, List.getD_cons_succ, Nat.reduceMod]
  rw [wp_iload_1, zz_as (f := va_up (fun _ => none) 0 (some 80)) (n := 3) rfl (by omega) (by omega) (by with_unfolding_all rfl), wp_iinc_1_1, nl_r, wp_goto]
  simp only [List.append_assoc, List.cons_append, List.nil_append, List.length_cons, List.length_nil, List.set_cons_zero, List.set_cons_succ, Nat.reduceAdd, Nat.zero_add, Nat.reduceMod]
  rw [al_9601, wp_iload_1, wk_3, wn_ge_f (by omega) (by omega) (by omega), wp_aloadr_0, zz_g0 rfl]
  simp only [List.getD_cons_zero, List.getD_cons_succ, Nat.reduceMod]
  rw [wp_iload_1, zz_as (f := va_up (va_up (fun _ => none) 0 (some 80)) 1 (some 82)) (n := 3) rfl (by omega) (by omega) (by with_unfolding_all rfl), wp_iinc_1_1, nl_r, wp_goto]
  simp only [List.append_assoc, List.cons_append, List.nil_append, List.length_cons, List.length_nil, List.set_cons_zero, List.set_cons_succ, Nat.reduceAdd, Nat.zero_add, Nat.reduceMod]
  rw [al_9601, wp_iload_1, wk_3, wn_ge_t (by omega) (by omega) (by omega), al_9602, wp_return, aL_inl]
  rfl
theorem z_140 {f : Nat → Int32} {P : (Option Value ⊕ Unit) → aH → Prop} (hk : ko 1 = (.int, 7, f)) : aWp ko d 140 (aP.1 (Int.toNat 8960)) [.retAddr 0, aJk, aJk, aJk, aJk, aJk, aJk, aJk] [] [] P = aWp ko d 140 (aP.1 (Int.toNat 8961)) [.retAddr 0, .ref 0, .ref 86, .ref 125, .int (nI 0), aJk, aJk, aJk] [] (zH f ++ zM) P := by
  rw [al_8960, zz_nw, wp_dupr, List.nil_append, List.length_nil, show (aP.2.2 1).2.map defaultValue = [.null, .null, .null, .null, .null, .null, .null, .null, .null, .null, .null, .null, .null, .int 0, .null, .null, .null, .null, .null, .null] from rfl]
  rw [wp_call (k := 140) (k' := 150) (As := [.ref 0]) (rest := [.ref 0]) (st := [.ref 0, .ref 0]) rfl rfl rfl (aCat_8 (by with_unfolding_all rfl)) (Nat.le_of_ble_eq_true rfl) (rk_lt (by with_unfolding_all rfl)) rfl, z_150 hk]
  rw [show ∀ x : List Value, (none : Option Value).toList ++ x = x from fun _ => rfl, wp_astore_1, nl_k, zz_nw, wp_dupr, show (zH f).length = 86 from rfl, show (aP.2.2 0).2.map defaultValue = [.int 0, .int 0, .null, .int 0, .int 0, .int 0, .int 0, .null, .null, .null, .null, .int 0, .int 0, .int 0, .int 0, .null, .null, .null, .int 0, .int 0, .null, .null, .null, .null, .int 0, .int 0, .int 0, .null, .null, .null, .null, .null, .int 0, .null, .int 0, .null, .null, .int 0, .null, .null, .null, .null, .null, .null, .null, .long 0, .int 0, .null, .null, .null, .null, .int 0, .null, .null, .null, .null, .int 0, .null, .null, .null] from rfl]
  rw [wp_call (k := 140) (k' := 0) (As := [.ref 86]) (rest := [.ref 86]) (st := [.ref 86, .ref 86]) rfl rfl rfl (aCat_8 (by with_unfolding_all rfl)) (Nat.le_of_ble_eq_true rfl) (rk_lt (by with_unfolding_all rfl)) rfl]
  refine Eq.trans (z_0 (a := 86) ?_) ?_
  · rfl
  rw [show ∀ x : List Value, (none : Option Value).toList ++ x = x from fun _ => rfl, wp_astore_2, nl_r, wk_1, zz_na (by omega), wp_astore_3, nl_r, wk_0, wp_istore_4, nl_r, wp_jsr]
  rfl
end ST
