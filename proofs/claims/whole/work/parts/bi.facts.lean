/-! WHAT HOLDS AT THE LAW'S START: classes, arrays, statics, texts. From wip/whole/src. -/
def gW : List Jvm.Cond := flatC (Jvm.Cond.and given_1 narrow_1)
def tTm (j : Nat) : Term := .string (aTx.getD j ("", 0, 0, "")).1 (aTx.getD j ("", 0, 0, "")).2.1
def tVl (j : Nat) : Term := .field (tTm j) "java/lang/String" "value" "[B"
def tF (j : Nat) : List Jvm.Cond := [.exactly (tTm j) "java/lang/String", .eq (.field (tTm j) "java/lang/String" "coder" "B") (.int 0), .arrayOf (tVl j) .byte, .eq (.length (tVl j)) (.int (Int32.ofNat (chT (j + 2)).length))] ++ (List.range (chT (j + 2)).length).map (fun k => .eq (.elem (tVl j) (.int (Int32.ofNat k))) (.int (nI ((chT (j + 2)).getD k 0))))
theorem tF_ok : (List.range 6).all (fun j => (tF j).all (fun c => decide (c ∈ gW))) = true := by decide +kernel
theorem tR_ok : (List.range 6).all (fun j => decide (Jvm.Cond.stringRef (aTx.getD j ("", 0, 0, "")).1 (aTx.getD j ("", 0, 0, "")).2.1 (aTx.getD j ("", 0, 0, "")).2.2.2 ∈ lw_tbl)) = true := by decide +kernel
def f1 : Nat → Int32 := fun k => ([1000, 1001, 2, -2, -4, 1002, -5] : List Int32).getD k 0
def iTm : Term := .static "RiverThinksAgain$Rule" "IF_NONE" "[I"
def iF : List Jvm.Cond := [.arrayOf iTm .int, .eq (.length iTm) (.int (Int32.ofNat 7))] ++ (List.range 7).map (fun k => .eq (.elem iTm (.int (Int32.ofNat k))) (.int (f1 k)))
theorem iF_ok : iF.all (fun c => decide (c ∈ gW)) = true := by decide +kernel
def sF : List Jvm.Cond := [.eq (.static "java/lang/String" "COMPACT_STRINGS" "Z") (.int 1), .isRef (.static "jdk/internal/util/Preconditions" "SIOOBE_FORMATTER" "Ljava/util/function/BiFunction;"), .isRef (.static "java/lang/Throwable" "UNASSIGNED_STACK" "[Ljava/lang/StackTraceElement;"), .isRef (.static "java/lang/Throwable" "SUPPRESSED_SENTINEL" "Ljava/util/List;")]
theorem sF_ok : sF.all (fun c => decide (c ∈ gW)) = true := by decide +kernel
def sW : List Jvm.Cond := [.laysStatic "RiverThinksAgain$Rule" "IF_NONE" "[I", .initialized "RiverThinksAgain$Rule", .laysStatic "java/lang/String" "COMPACT_STRINGS" "Z", .initialized "java/lang/String", .laysStatic "jdk/internal/util/Preconditions" "SIOOBE_FORMATTER" "Ljava/util/function/BiFunction;", .initialized "jdk/internal/util/Preconditions", .laysStatic "java/lang/Throwable" "UNASSIGNED_STACK" "[Ljava/lang/StackTraceElement;", .laysStatic "java/lang/Throwable" "SUPPRESSED_SENTINEL" "Ljava/util/List;", .initialized "java/lang/Throwable", .arrayClass .int, .arrayClass .long, .arrayClass .char, .arrayClass .boolean, .arrayOver (.object "RiverThinksAgain$State"), .instantiable "java/util/NoSuchElementException" 6]
theorem sW_ok : sW.all (fun c => decide (c ∈ lw_tbl)) = true := by decide +kernel
section KS
variable {s : State} {args : Array Value}
theorem ks_in {l L : List Jvm.Cond} (h : l.all (fun c => decide (c ∈ L)) = true) {i : Nat} {c : Jvm.Cond} (hi : l[i]? = some c) : c ∈ L := of_decide_eq_true (List.all_eq_true.mp h c (List.mem_of_getElem? hi))
theorem ks_X {tm : Term} {N : Nat} {f : Nat → Int32} (hN : N < 2 ^ 31) (harr : (Jvm.Cond.arrayOf tm .int).before args s = true) (hlen : (Term.length tm).eval args s none [] s = some (.int (Int32.ofNat N))) (hel : ∀ j : Nat, j < N → (Term.elem tm (.int (Int32.ofNat j))).eval args s none [] s = some (.int (f j))) : ∃ t : Nat, tm.eval args s none [] s = some (.ref t) ∧ va_X t N f s s.heap ∧ t < s.heap.size := by
  obtain ⟨t, ht, cell, h1, h2, h3, h4, h5, h6, -⟩ := va_Tof (A := fun _ => False) (f := fun j => .int (f j)) hN harr hlen hel (fun _ _ h => h)
  obtain ⟨t', cell', ht', hat, hv⟩ := Term.length_spec hlen
  cases ht.symm.trans ht'
  obtain ⟨hcell, -, -, -⟩ := State.arrayAt?_spec hat
  cases h1.symm.trans hcell
  have hsz : cell.slots.size < 2 ^ 31 := by
    have hv2 := hlen
    simp only [Term.eval, ht, hat, Option.bind_eq_bind, Option.bind_some] at hv2
    by_cases hlt : cell.slots.size < 2147483648
    · exact hlt
    · simp [hlt] at hv2
  have e : cell.slots.size = N := by
    have e1 : (Int32.ofNat cell.slots.size).toInt = (cell.slots.size : Int) := nI_toInt hsz
    have e2 : (Int32.ofNat N).toInt = (N : Int) := nI_toInt hN
    have e3 : Int32.ofNat cell.slots.size = Int32.ofNat N := h5
    rw [e3, e2] at e1
    omega
  exact ⟨t, ht, ⟨cell, h1, h2, h3, e, h6⟩, (Array.getElem?_eq_some_iff.mp h1).1⟩
theorem ks_up : ∀ a : Nat, a < s.heap.size → ¬ aUp s.heap.size a := fun _ h q => absurd h (Nat.not_lt.mpr q)
theorem ks_T {j : Nat} (hj : j < 6) (hg : ∀ c ∈ gW, c.before args s = true) : ∃ q : Nat × Nat, (tTm j).eval args s none [] s = some (.ref q.1) ∧ va_O "java/lang/String" q.1 (aUp s.heap.size) s s.heap ∧ va_OF "java/lang/String" "coder" "B" (.int 0) q.1 (aUp s.heap.size) s s.heap ∧ va_OF "java/lang/String" "value" "[B" (.ref q.2) q.1 (aUp s.heap.size) s s.heap ∧ va_T .byte q.2 (chT (j + 2)).length (fun k => .int (nI ((chT (j + 2)).getD k 0))) (aUp s.heap.size) s s.heap := by
  have hall := List.all_eq_true.mp tF_ok j (List.mem_range.mpr hj)
  have hW : ∀ c ∈ tF j, c.before args s = true := fun c hc => hg c (of_decide_eq_true (List.all_eq_true.mp hall c hc))
  have w0 := hW (.exactly (tTm j) "java/lang/String") (by simp [tF])
  have w1 := hW (.eq (.field (tTm j) "java/lang/String" "coder" "B") (.int 0)) (by simp [tF])
  have w2 := hW (.arrayOf (tVl j) .byte) (by simp [tF])
  have w3 := hW (.eq (.length (tVl j)) (.int (Int32.ofNat (chT (j + 2)).length))) (by simp [tF])
  have w4 : ∀ k, k < (chT (j + 2)).length → (Jvm.Cond.eq (.elem (tVl j) (.int (Int32.ofNat k))) (.int (nI ((chT (j + 2)).getD k 0)))).before args s = true := fun k hk => hW _ (List.mem_append_right _ (List.mem_map.mpr ⟨k, List.mem_range.mpr hk, rfl⟩))
  have hn : (chT (j + 2)).length < 2 ^ 31 := by
    have h7 : ∀ j, j < 6 → (chT (j + 2)).length ≤ 7 := by decide
    have := h7 j hj
    omega
  obtain ⟨a, c, cA, kA, q1, q2, q3, q4, q5, q6, -⟩ := Cond.exactly_spec (args := args) (first := s) (o := none) (s := s) (idx := []) (t := tTm j) (cls := "java/lang/String") w0
  obtain ⟨t, ht, hT⟩ := va_Tof (f := fun k => .int (nI ((chT (j + 2)).getD k 0))) (A := aUp s.heap.size) hn w2 (va_eqt w3) (fun k hk => va_eqt (w4 k hk)) ks_up
  exact ⟨(a, t), q1, ⟨cA, q3, q5, by rw [q6]; exact q2, ks_up a (Array.getElem?_eq_some_iff.mp q3).1⟩, vk_OFof q1 (va_eqt w1) ks_up, vk_OFof q1 ht ks_up, hT⟩
theorem ks_cls (hts : ∀ w ∈ lw_tbl, w.before args s = true) : ∃ z : Nat → ClassId × (Nat → Nat), ∀ (c : Nat) (q : vw_C), aCls[c]? = some q → u_Kn s q.1 q.2.1 q.2.2 (z c).1 (z c).2 := by
  have hB : ∀ w ∈ aTB, w.before args s = true := fun w hw => hts w (List.mem_filter.mp hw).1
  have h : ∀ c : Nat, ∃ z : ClassId × (Nat → Nat), ∀ q : vw_C, aCls[c]? = some q → u_Kn s q.1 q.2.1 q.2.2 z.1 z.2 := by
    intro c
    by_cases hc : c < aNc
    · have k1 := aCls_ok hc
      have hin : Jvm.Cond.instantiable (aCi c).1 (aCi c).2.2 ∈ aTB := k1.2.2.2.1
      obtain ⟨cC, iS, hK⟩ := u_known hB k1.1 (hB _ hin)
      refine ⟨(cC, iS), fun q hq => ?_⟩
      rw [aCi_at hc] at hq
      cases hq
      exact hK
    · by_cases h13 : c = 13
      · subst h13
        obtain ⟨cC, iS, hK⟩ := u_known (C := "java/util/NoSuchElementException") (T := aT0) (N := 0) (n := 6) hts (fun w hw => by simp [u_ws] at hw) (hts _ (ks_in sW_ok (i := 14) rfl))
        refine ⟨(cC, iS), fun q hq => ?_⟩
        have e : aCls[13]? = some ("java/util/NoSuchElementException", aT0, 0) := rfl
        rw [e] at hq
        cases hq
        exact hK
      · refine ⟨(0, fun _ => 0), fun q hq => ?_⟩
        have := (List.getElem?_eq_some_iff.mp hq).1
        have e : aCls.length = 14 := rfl
        have e2 : aNc = 13 := rfl
        omega
  exact Classical.axiomOfChoice h
theorem ks_arr (hts : ∀ w ∈ lw_tbl, w.before args s = true) : ∃ cA : FieldType → ClassId, ∀ ty : FieldType, ty ∈ aTys → ArrOfT s (cA ty) ty ∧ va_RA s (cA ty) ty := by
  have one : ∀ (ty : FieldType) (c : ClassId) (k : Class) (comp : ClassId), s.vm.classes[c]? = some k → k.kind = .array comp ty → ArrOfT s c ty := by
    intro ty c k comp h1 h2 n z
    exact ⟨(fun _ h => nomatch h), k, h1, comp, h2⟩
  have h : ∀ ty : FieldType, ∃ c : ClassId, ty ∈ aTys → ArrOfT s c ty ∧ va_RA s c ty := by
    intro ty
    by_cases hty : ty ∈ aTys
    · simp only [aTys, List.mem_cons, List.not_mem_nil, or_false] at hty
      rcases hty with rfl | rfl | rfl | rfl | rfl
      · obtain ⟨c, k, comp, h1, h2, h3⟩ := Cond.arrayClass_spec (hts _ (ks_in sW_ok (i := 9) rfl))
        exact ⟨c, fun _ => ⟨one _ c k comp h2 h3, h1⟩⟩
      · obtain ⟨c, k, comp, h1, h2, h3⟩ := Cond.arrayClass_spec (hts _ (ks_in sW_ok (i := 10) rfl))
        exact ⟨c, fun _ => ⟨one _ c k comp h2 h3, h1⟩⟩
      · obtain ⟨c, k, comp, h1, h2, h3⟩ := Cond.arrayClass_spec (hts _ (ks_in sW_ok (i := 11) rfl))
        exact ⟨c, fun _ => ⟨one _ c k comp h2 h3, h1⟩⟩
      · obtain ⟨c, k, comp, h1, h2, h3⟩ := Cond.arrayClass_spec (hts _ (ks_in sW_ok (i := 12) rfl))
        exact ⟨c, fun _ => ⟨one _ c k comp h2 h3, h1⟩⟩
      · obtain ⟨comp, c, k, h1, h2, h3, h4, h5⟩ := Cond.arrayOver_spec (hts _ (ks_in sW_ok (i := 13) rfl))
        exact ⟨c, fun _ => ⟨one _ c k comp h3 h4, k, comp, h3, h4, h1, h5⟩⟩
    · exact ⟨0, fun h => absurd h hty⟩
  exact Classical.axiomOfChoice h
theorem ks_aKn (hts : ∀ w ∈ lw_tbl, w.before args s = true) : ∃ dC dI cA, aKn dC dI cA s := by
  obtain ⟨z, hz⟩ := ks_cls hts
  obtain ⟨cA, hA⟩ := ks_arr hts
  refine ⟨fun c => (z c).1, fun c => (z c).2, cA, ⟨hz, ?_⟩, ?_, va_AO.of (hts _ (ks_in sW_ok (i := 13) rfl))⟩
  · intro k q hq
    unfold aTyL at hq
    rw [List.getElem?_map] at hq
    cases ht : aTys[k]? with
    | none => rw [ht] at hq; cases hq
    | some ty =>
      rw [ht] at hq
      cases hq
      exact hA ty (List.mem_of_getElem? ht)
  · intro w hw hn
    refine va_Nw.of ?_ (hts w hw)
    cases w with
    | fieldLinkNest a i b n d hh => rfl
    | methodLinkNest a i x hh => rfl
    | declares x => rfl
    | castable C T => rfl
    | _ => cases hn
end KS
