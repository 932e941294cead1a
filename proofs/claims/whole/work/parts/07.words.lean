/-! ONE INSTRUCTION: what the abstract machine does, the machine does. -/
def aTB : List Jvm.Cond := lw_tbl.filter goodWord
theorem aTB_in {w : Jvm.Cond} (h : w ∈ lw_tbl) (hg : goodWord w = true) : w ∈ aTB := List.mem_filter.mpr ⟨h, hg⟩
theorem aTB_good : GoodIn aTB aTB := fun w h => ⟨h, good_of_word (List.mem_filter.mp h).2⟩
theorem aWd_in {p : Nat} {w : Jvm.Cond} (h : aWd p w = true) : w ∈ aTB := by
  unfold aWd at h
  rw [Bool.and_eq_true, decide_eq_true_eq] at h
  exact aTB_in (List.mem_of_getElem? h.1) h.2
theorem aWn_in {p : Nat} {w : Jvm.Cond} (h : aWn p w = true) : w ∈ lw_tbl := by
  unfold aWn at h
  rw [decide_eq_true_eq] at h
  exact List.mem_of_getElem? h
theorem aHas_ok {tab : List (List (Nat × Nat × Nat))} {f : Nat → Nat × Nat × Nat → Bool} (hlen : tab.length = aOwn.length) (hall : (List.range aOwn.length).all (fun o => (tab.getD o []).all (fun e => f o e)) = true) {o x n : Nat} (h : aHas tab o x n = true) : ∃ e : Nat × Nat × Nat, e.1 = x ∧ e.2.1 = n ∧ f o e = true := by
  unfold aHas at h
  obtain ⟨e, he, h1⟩ := List.any_eq_true.mp h
  rw [Bool.and_eq_true, beq_iff_eq, beq_iff_eq] at h1
  by_cases ho : o < aOwn.length
  · have h2 := List.all_eq_true.mp hall o (List.mem_range.mpr ho)
    exact ⟨e, h1.1, h1.2, List.all_eq_true.mp h2 e he⟩
  · rw [List.getD_eq_getElem?_getD, List.getElem?_eq_none (by omega)] at he
    cases he
theorem aNc_lt {ci : Nat} (h : ci < aNc) : ci < aCls.length := Nat.lt_trans h (by decide)
theorem aCi_at {ci : Nat} (h0 : ci < aNc) : aCls[ci]? = some ((aCi ci).1, (aCi ci).2.1, (aCi ci).2.2) := by
  have h := aNc_lt h0
  unfold aCi
  rw [List.getD_eq_getElem?_getD, List.getElem?_eq_getElem h]
  rfl
theorem aFl_w {o x n : Nat} (h : aHas aFl o x n = true) : n % 64 < (aCi (n / 64)).2.2 ∧ n / 64 < aNc ∧ Jvm.Cond.fieldLink (aNm o) x ((aCi (n / 64)).2.1 (n % 64)).1 ((aCi (n / 64)).2.1 (n % 64)).2.1 ((aCi (n / 64)).2.1 (n % 64)).2.2.1 ∈ aTB := by
  obtain ⟨e, rfl, rfl, h1⟩ := aHas_ok rfl aFlOk_t h
  simp only [Bool.and_eq_true, decide_eq_true_eq] at h1
  exact ⟨h1.1.1, h1.1.2, aWd_in h1.2⟩
theorem aFn_w {o x n : Nat} (h : aHas aFn o x n = true) : n % 64 < (aCi (n / 64)).2.2 ∧ n / 64 < aNc ∧ Jvm.Cond.fieldLinkNest (aNm o) x ((aCi (n / 64)).2.1 (n % 64)).1 ((aCi (n / 64)).2.1 (n % 64)).2.1 ((aCi (n / 64)).2.1 (n % 64)).2.2.1 "RiverThinksAgain" ∈ lw_tbl := by
  obtain ⟨e, rfl, rfl, h1⟩ := aHas_ok rfl aFnOk_t h
  simp only [Bool.and_eq_true, decide_eq_true_eq] at h1
  exact ⟨h1.1.1, h1.1.2, aWn_in h1.2⟩
theorem aPl_w {o x j : Nat} (h : aHas aPl o x j = true) : Jvm.Cond.methodLink (aNm o) x (aPy j) ∈ aTB := by
  obtain ⟨e, rfl, rfl, h1⟩ := aHas_ok rfl aPlOk_t h
  exact aWd_in h1
theorem aCl_w {o x ci : Nat} (h : aHas aCl o x ci = true) : ci < aNc ∧ Jvm.Cond.classLink (aNm o) x (aCi ci).1 ∈ aTB := by
  obtain ⟨e, rfl, rfl, h1⟩ := aHas_ok rfl aClOk_t h
  simp only [Bool.and_eq_true, decide_eq_true_eq] at h1
  exact ⟨h1.1, aWd_in h1.2⟩
theorem aKl_w {o x n : Nat} (h : aHas aKl o x n = true) : Jvm.Cond.constantLong (aNm o) x (Int64.ofInt ((n : Int) - 16)) ∈ aTB := by
  obtain ⟨e, rfl, rfl, h1⟩ := aHas_ok rfl aKlOk_t h
  exact aWd_in h1
theorem aKi_w {o x : Nat} {v : Int} (h : aHasI o x v = true) : Jvm.Cond.constant (aNm o) x (Int32.ofInt v) ∈ aTB := by
  unfold aHasI at h
  obtain ⟨e, he, h1⟩ := List.any_eq_true.mp h
  rw [Bool.and_eq_true, beq_iff_eq, decide_eq_true_eq] at h1
  obtain ⟨rfl, rfl⟩ := h1
  by_cases ho : o < aOwn.length
  · have h2 := List.all_eq_true.mp aKiOk_t o (List.mem_range.mpr ho)
    exact aWd_in (List.all_eq_true.mp h2 e he)
  · rw [List.getD_eq_getElem?_getD, List.getElem?_eq_none (by show aOwn.length ≤ o; omega)] at he
    cases he
def aTyOf (ci k : Nat) : FieldType := (aClY.getD ci ("", [])).2.getD k .int
/-- what the tables say of a class -/
theorem aCls_ok {ci : Nat} (h : ci < aNc) : (∀ w ∈ u_ws (aCi ci).1 (aCi ci).2.1 (aCi ci).2.2, w ∈ aTB) ∧ (∀ k, k < (aCi ci).2.2 → parseFieldDescriptor ((aCi ci).2.1 k).2.2.1 = some (aTyOf ci k)) ∧ (∀ a, a < (aCi ci).2.2 → ∀ b, b < (aCi ci).2.2 → a ≠ b → ((aCi ci).2.1 a).2.1 ≠ ((aCi ci).2.1 b).2.1) ∧ Jvm.Cond.instantiable (aCi ci).1 (aCi ci).2.2 ∈ aTB ∧ Jvm.Cond.initialized (aCi ci).1 ∈ aTB ∧ (∀ k, k < (aCi ci).2.2 → ((aCi ci).2.1 k).1 = (aCi ci).1) ∧ (aClY.getD ci ("", [])).1 = (aCi ci).1 ∧ (aClY.getD ci ("", [])).2.length = (aCi ci).2.2 := by
  have h0 := List.all_eq_true.mp aCcOk_t ci (List.mem_range.mpr h)
  unfold aCcOk at h0
  simp only [Bool.and_eq_true, decide_eq_true_eq] at h0
  obtain ⟨⟨⟨⟨⟨h1, h2⟩, h3⟩, h4⟩, h5⟩, h6⟩ := h0
  have h7 : ∀ k, k < (aCi ci).2.2 → _ := fun k hk => List.all_eq_true.mp h1 k (List.mem_range.mpr hk)
  simp only [Bool.and_eq_true, decide_eq_true_eq] at h7
  refine ⟨fun w hw => ?_, fun k hk => ?_, fun a ha b hb hne he => ?_, aWd_in h2, aWd_in h3, fun k hk => (h7 k hk).2, h4, h5⟩
  · obtain ⟨k, hk, rfl⟩ := List.mem_map.mp hw
    exact aWd_in (h7 k (List.mem_range.mp hk)).1.1
  · rw [(h7 k hk).1.2]
    unfold aTyOf
    rw [List.getD_eq_getElem?_getD (l := (aClY.getD ci ("", [])).2), List.getElem?_eq_getElem (by omega)]
    rfl
  · have h8 := List.pairwise_iff_getElem.mp h6
    rcases Nat.lt_or_ge a b with q | q
    · exact h8 a b (by simpa using ha) (by simpa using hb) q (by simpa using he)
    · exact h8 b a (by simpa using hb) (by simpa using ha) (by omega) (by simpa using he.symm)
theorem vx_ltq {D : va_G} {cl : List vw_C} {ws : va_W} {H1 : Heap} (h : va_P D cl ws H1) {k : Nat} {q : Nat × va_E} (hk : ws[k]? = some q) : q.1 < H1.size := (h k q hk).lt
section AST
variable {p : Program} {l : Launch} {e : Env} {R : Room} {s : State} {m : MethodId} {args : Array Value} {below : List Frame} {meth : Method} {c : Code} {Q : State → Prop} {b : Nat} {κ : Nat → Nat} {dC : Nat → ClassId} {dI : Nat → Nat → Nat} {cA : FieldType → ClassId} {ko : aKo} {k : Nat}
/-- what holds in all of a method's run -/
def aCx (p : Program) (s : State) (m : MethodId) (args : Array Value) (meth : Method) (c : Code) (k b : Nat) (κ : Nat → Nat) (dC : Nat → ClassId) (dI : Nat → Nat → Nat) (cA : FieldType → ClassId) (ko : aKo) : Prop :=
  p.tables.exec = Jvm.exec ∧ c.code = (aMe k).2.2.1 ∧ c.maxLocals = (aMe k).2.2.2.1 ∧ s.vm.findClass (aNm (aMe k).1) = some m.cls ∧ (∀ w ∈ aTB, w.before args s = true) ∧ meth.sig.returnType = aRt k ∧ meth.locks = false ∧ ((aMe k).2.2.2.2.2.1 = 2 → meth.name = "<init>") ∧ aKn dC dI cA s ∧ aKc b κ ko s s.heap ∧ b ≤ s.heap.size
/-- arrays are of the five types -/
def aTyd (σ : aH) : Prop := ∀ (k : Nat) (ty : FieldType) (x : vp_A), σ[k]? = some (.inl (ty, x)) → ty ∈ aTys
theorem aTyd_set {σ : aH} {a : Nat} {c1 : aC} (h : aTyd σ) (h1 : ∀ ty x, c1 = .inl (ty, x) → ty ∈ aTys) : aTyd (σ.set a c1) := by
  intro k ty x hk
  rw [List.getElem?_set] at hk
  split at hk
  · split at hk
    · exact h1 ty x (Option.some.inj hk)
    · cases hk
  · exact h k ty x hk
theorem aTyd_app {σ : aH} {c1 : aC} (h : aTyd σ) (h1 : ∀ ty x, c1 = .inl (ty, x) → ty ∈ aTys) : aTyd (σ ++ [c1]) := by
  intro k ty x hk
  by_cases hl : k < σ.length
  · rw [List.getElem?_append_left hl] at hk
    exact h k ty x hk
  · rw [List.getElem?_append_right (by omega)] at hk
    have hz : k - σ.length < 1 := (List.getElem?_eq_some_iff.mp hk).1
    rw [show k - σ.length = 0 by omega] at hk
    exact h1 ty x (Option.some.inj hk)
/-- what holds at a point of it -/
def aPn (s : State) (b : Nat) (κ : Nat → Nat) (dC : Nat → ClassId) (dI : Nat → Nat → Nat) (cA : FieldType → ClassId) (σ : aH) (H : Heap) (locs : List Loc) : Prop :=
  va_P (dC, dI) aCls (aWs b κ cA σ) H ∧ va_S (aUp b) s.heap H locs ∧ aTyd σ
theorem aW_cls {σ : aH} {H : Heap} {a ci : Nat} {fs : List Value} (hP : va_P (dC, dI) aCls (aWs b κ cA σ) H) (h : σ[a]? = some (.inr (ci, fs))) : ci < aCls.length := by
  obtain ⟨r, h1, -⟩ := hP a _ (aWs_get h)
  exact (List.getElem?_eq_some_iff.mp h1).1
/-- how large the heap is there, by the machine's own count -/
theorem aW_size {σ : aH} {H : Heap} {locs : List Loc} {cells slots : Nat} {g : JFrame} (hb : b ≤ s.heap.size) (hpt : aPn s b κ dC dI cA σ H locs) (hc : s.heap.size + cells = b + σ.length) (kk : H.size = b + σ.length → W p l e R s m args below meth c H locs cells slots Q g) : W p l e R s m args below meth c H locs cells slots Q g := by
  intro T hT X
  refine kk ?_ T hT X
  have h1 : T.heap.size ≤ s.heap.size + cells := X.same.2.2.1
  rw [hT] at h1
  have h2 : s.heap.size ≤ H.size := hpt.2.1.1
  cases hσ : σ.length with
  | zero => rw [hσ] at hc; omega
  | succ n =>
    have h3 : n < σ.length := by omega
    have h4 := vx_ltq hpt.1 (aWs_get (b := b) (κ := κ) (cA := cA) (List.getElem?_eq_getElem h3))
    dsimp only at h4
    omega
theorem aSz_set {σ : aH} {a : Nat} {c c' : aC} (h : σ[a]? = some c) (hz : aCz c' = aCz c) : aSz (σ.set a c') = aSz σ := by
  unfold aSz
  congr 1
  refine List.ext_getElem? fun j => ?_
  rw [List.getElem?_map, List.getElem?_map, List.getElem?_set]
  by_cases e : a = j
  · subst e
    rw [if_pos rfl, h]
    have : a < σ.length := (List.getElem?_eq_some_iff.mp h).1
    simp [this, hz]
  · rw [if_neg e]
theorem aSz_app {σ : aH} {c : aC} : aSz (σ ++ [c]) = aSz σ + aCz c := by
  unfold aSz
  simp
/-- behind a write into a cell -/
theorem aPn_set {σ : aH} {H H1 : Heap} {locs locs1 : List Loc} {a : Nat} {c0 c1 : aC} (hpt : aPn s b κ dC dI cA σ H locs) (h : σ[a]? = some c0) (hP : va_P (dC, dI) aCls ((aWs b κ cA σ).set a (b + a, cE b κ cA c1)) H1) (hS : va_S (aUp b) s.heap H1 locs1) (ht : ∀ ty x, c1 = .inl (ty, x) → ty ∈ aTys) : aPn s b κ dC dI cA (σ.set a c1) H1 locs1 := ⟨by rw [aWs_set]; exact hP, hS, aTyd_set hpt.2.2 ht⟩
/-- IF_NONE -/
def aSlOk : Bool := aSl.all (fun e => if e.2.2.2 = true then aWn e.2.2.1 (.fieldLinkNest (aNm e.1) e.2.1 "RiverThinksAgain$Rule" "IF_NONE" "[I" "RiverThinksAgain") else aWd e.2.2.1 (.fieldLink (aNm e.1) e.2.1 "RiverThinksAgain$Rule" "IF_NONE" "[I"))
theorem aSlOk_t : aSlOk = true := by decide +kernel
theorem aW_static {o x pc : Nat} {L : Array Slot} {rest : List Value} {H : Heap} {locs : List Loc} {cells slots : Nat} {cc : ByteArray} (hx : p.tables.exec = Jvm.exec) (hb : c.code = cc) (hown : s.vm.findClass (aNm o) = some m.cls) (hts : ∀ w ∈ aTB, w.before args s = true) (hKn : aKn dC dI cA s) (hKc : aKc b κ ko s s.heap) (hS : va_S (aUp b) s.heap H locs) (h : aSl.any (fun e => e.1 == o && e.2.1 == x) = true) (hd : decode cc pc = .ok (.getstatic x, 3))
    (kk : W p l e R s m args below meth c H locs cells slots Q (F0 m (pc + 3) L (.ref (κ 1) :: rest))) : W p l e R s m args below meth c H locs cells slots Q (F0 m pc L rest) := by
  obtain ⟨e0, he, h1⟩ := List.any_eq_true.mp h
  rw [Bool.and_eq_true, beq_iff_eq, beq_iff_eq] at h1
  obtain ⟨rfl, rfl⟩ := h1
  have h2 := List.all_eq_true.mp aSlOk_t e0 he
  split at h2
  · have h3 := hKn.2.1 _ (aWn_in h2) rfl
    exact va_getsN hx hb hKc.2.1 hS hown (va_Nw.use rfl h3) (fun _ q => q) hd kk
  · exact va_gets hx hb hKc.2.1 hS hown (hts _ (aWd_in h2)) (fun _ q => q) hd kk
end AST

