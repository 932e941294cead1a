/-! A METHOD'S RUN, by induction on the fuel. What the JDK's own do (aPrimAll) and what the law's helpers do (aHelpAll) are taken as hypotheses here, and shown in later parts. -/
def aRkOk : Bool := aAll.all (fun k => decide (aRk k ≤ 9) && decide ((aMe k).2.2.2.1 ≤ 21) && decide (aHl k = none)) && decide (aRk 140 ≤ 9) && decide ((aMe 140).2.2.2.1 ≤ 21)
theorem aRkOk_t : aRkOk = true := by decide +kernel
theorem aRk_le {k : Nat} (h : k ∈ aAll) : aRk k ≤ 9 ∧ (aMe k).2.2.2.1 ≤ 21 ∧ aHl k = none := by
  have h0 := aRkOk_t
  unfold aRkOk at h0
  simp only [Bool.and_eq_true] at h0
  have h1 := List.all_eq_true.mp h0.1.1 k h
  simp only [Bool.and_eq_true, decide_eq_true_eq] at h1
  exact ⟨h1.1.1, h1.1.2, h1.2⟩
def aMlIn : Bool := (List.range aOwn.length).all (fun o => (aMl.getD o []).all (fun e => decide (e.2.1 ∈ aAll) || decide (e.2.1 = 141 ∨ e.2.1 = 142 ∨ e.2.1 = 143)))
theorem aMlIn_t : aMlIn = true := by decide +kernel
def aMnIn : Bool := (List.range aOwn.length).all (fun o => (aMn.getD o []).all (fun e => decide (e.2.1 ∈ aAll)))
theorem aMnIn_t : aMnIn = true := by decide +kernel
theorem aMl_w {o x j : Nat} (h : aHas aMl o x j = true) : Jvm.Cond.methodLink (aNm o) x (aMe j).2.1 ∈ aTB := by
  obtain ⟨e, rfl, rfl, h1⟩ := aHas_ok rfl aMlOk_t h
  exact aWd_in h1
theorem aMl_in {o x j : Nat} (h : aHas aMl o x j = true) (hh : aHl j = none) : j ∈ aAll := by
  obtain ⟨e, rfl, rfl, h1⟩ := aHas_ok rfl aMlIn_t h
  simp only [Bool.or_eq_true, decide_eq_true_eq] at h1
  rcases h1 with h1 | h1
  · exact h1
  · rcases h1 with h1 | h1 | h1 <;> (rw [h1] at hh; cases hh)
theorem aMn_w {o x j : Nat} (h : aHas aMn o x j = true) : Jvm.Cond.methodLinkNest (aNm o) x (aMe j).2.1 "RiverThinksAgain" ∈ lw_tbl := by
  obtain ⟨e, rfl, rfl, h1⟩ := aHas_ok rfl aMnOk_t h
  exact aWn_in h1
theorem aMn_in {o x j : Nat} (h : aHas aMn o x j = true) : j ∈ aAll := by
  obtain ⟨e, rfl, rfl, h1⟩ := aHas_ok rfl aMnIn_t h
  simpa using h1
/-- what the tables say of a method -/
theorem aMk_w {k : Nat} (h : k ∈ aAll) : (aMe k).2.1.cls = aNm (aMe k).1 ∧ Jvm.Cond.initialized (aMe k).2.1.cls ∈ aTB ∧ plainName (aMe k).2.1.cls = true ∧ ((aMe k).2.1.cls ≠ "java/lang/invoke/MethodHandle" ∧ (aMe k).2.1.cls ≠ "java/lang/invoke/VarHandle") ∧ Jvm.Cond.code (aMe k).2.1 (aMe k).2.2.1 (aMe k).2.2.2.1 (aMe k).2.2.2.2.1 ∈ aTB ∧
    (((aMe k).2.2.2.2.2.1 = 0 ∧ Jvm.Cond.instanceMethod (aMe k).2.1 ∈ aTB ∧ Jvm.Cond.selects (aMe k).2.1.cls (aMe k).2.1 (aMe k).2.1 ∈ aTB ∧ (aCi (aMe k).2.2.2.2.2.2.1).1 = (aMe k).2.1.cls ∧ (aMe k).2.2.2.2.2.2.1 < aNc ∧ (parseMethodDescriptor (aMe k).2.1.desc).map (fun d => d.parameters.length + 1) = some (aMe k).2.2.2.2.2.2.2.1) ∨
     ((aMe k).2.2.2.2.2.1 = 1 ∧ Jvm.Cond.static (aMe k).2.1 ∈ aTB ∧ (parseMethodDescriptor (aMe k).2.1.desc).map (fun d => d.parameters.length) = some (aMe k).2.2.2.2.2.2.2.1) ∨
     ((aMe k).2.2.2.2.2.1 = 2 ∧ Jvm.Cond.instanceMethod (aMe k).2.1 ∈ aTB ∧ (aMe k).2.1.name = "<init>" ∧ (aMe k).2.2.2.2.1 = none ∧ (parseMethodDescriptor (aMe k).2.1.desc).map (fun d => d.parameters.length + 1) = some (aMe k).2.2.2.2.2.2.2.1)) := by
  have h0 := List.all_eq_true.mp amk_all k h
  have hc := acx_all k h
  unfold aMkOk at h0
  revert h0 hc
  generalize aMe k = q
  obtain ⟨o, y, cc, mx, rt, kind, rc, na, rk, p1, p2, p3, p4⟩ := q
  intro h0 hc
  dsimp only at h0 hc ⊢
  simp only [Bool.and_eq_true, decide_eq_true_eq] at h0
  obtain ⟨⟨⟨⟨⟨h1, h2⟩, h3⟩, h4⟩, h5⟩, h6⟩ := h0
  refine ⟨h1, aWd_in h2, h3, h4, aTB_in hc (by first | rfl | simp [goodWord]), ?_⟩
  match kind, h6 with
  | 0, h6 =>
    simp only [Bool.and_eq_true, decide_eq_true_eq] at h6
    obtain ⟨⟨⟨⟨g1, g2⟩, g3⟩, g4⟩, g5⟩ := h6
    exact Or.inl ⟨rfl, aWd_in g1, aWd_in g2, g3, g4, g5⟩
  | 1, h6 =>
    simp only [Bool.and_eq_true, decide_eq_true_eq] at h6
    exact Or.inr (Or.inl ⟨rfl, aWd_in h6.1, h6.2⟩)
  | 2, h6 =>
    simp only [Bool.and_eq_true, decide_eq_true_eq] at h6
    obtain ⟨⟨⟨g1, g2⟩, g3⟩, g4⟩ := h6
    exact Or.inr (Or.inr ⟨rfl, aWd_in g1, g2, g3, g4⟩)
  | n + 3, h6 => cases h6
set_option maxHeartbeats 4000000 in
theorem aInv_inv {o k pc len j : Nat} {r i : Instr} (hi : i = .invokestatic j) (hok : aOk o k pc len r i = true) : len = 3 ∧ ∃ x, (aHas aMl o x j = true ∨ aHas aMn o x j = true) ∧ ((r = .invokevirtual x ∧ (aMe j).2.2.2.2.2.1 = 0) ∨ (r = .invokestatic x ∧ (aMe j).2.2.2.2.2.1 = 1) ∨ (r = .invokespecial x ∧ (aMe j).2.2.2.2.2.1 = 2)) := by
  unfold aOk at hok
  split at hok
  all_goals (try (cases hi; done))
  · cases hi
    simp only [Bool.and_eq_true, Bool.or_eq_true, beq_iff_eq] at hok
    exact ⟨hok.2, _, hok.1.1, Or.inl ⟨rfl, hok.1.2⟩⟩
  · cases hi
    simp only [Bool.and_eq_true, Bool.or_eq_true, beq_iff_eq] at hok
    exact ⟨hok.2, _, hok.1.1, Or.inr (Or.inl ⟨rfl, hok.1.2⟩)⟩
  · cases hi
    simp only [Bool.and_eq_true, Bool.or_eq_true, beq_iff_eq] at hok
    exact ⟨hok.2, _, hok.1.1, Or.inr (Or.inr ⟨rfl, hok.1.2⟩)⟩
  · cases hok
/-- the list at a label is what the bytes say -/
theorem aCk_lab {k L pc : Nat} (h : aChk k = true) (ha : aAt k L pc) : aCk (aMe k).1 k (aMe k).2.2.1 pc (aP.1 L) = true := by
  unfold aChk at h
  simp only [Bool.and_eq_true, beq_iff_eq] at h
  obtain ⟨⟨h1, h2⟩, -⟩ := h
  obtain ⟨h3, h4⟩ := ha
  have hj := (List.getElem?_eq_some_iff.mp h4).1
  have h5 : (aLms k)[L % 64]? = some (aP.1 L) := by
    show (aLms k)[L % 64]? = some (aLab L)
    unfold aLab
    rw [h3, List.getD_eq_getElem?_getD, List.getElem?_eq_getElem (by rw [← h2]; exact hj)]
    rfl
  have h6 : ((aLps k).zip (aLms k))[L % 64]? = some (pc, aP.1 L) := by
    rw [List.getElem?_zip_eq_some]
    exact ⟨h4, h5⟩
  exact List.all_eq_true.mp h1 _ (List.mem_of_getElem? h6)
theorem aAt_entry {k : Nat} (h : aChk k = true) : aAt k (k * 64) 0 := by
  unfold aChk at h
  simp only [Bool.and_eq_true, beq_iff_eq] at h
  exact ⟨by omega, by rw [Nat.mul_mod_left]; exact h.2⟩
section ARN
variable {p : Program} {l : Launch} {e : Env} {R : Room} {s : State} {m : MethodId} {args : Array Value} {below : List Frame} {meth : Method} {c : Code} {Q : State → Prop} {b : Nat} {κ : Nat → Nat} {dC : Nat → ClassId} {dI : Nat → Nat → Nat} {cA : FieldType → ClassId} {ko : aKo} {k : Nat}
def aQo (b : Nat) (κ : Nat → Nat) (dC : Nat → ClassId) (dI : Nat → Nat → Nat) (cA : FieldType → ClassId) (o : Option Value ⊕ Unit) (σ1 : aH) : Array Value → State → Outcome → State → Prop := match o with
  | .inl v => aQ b κ dC dI cA v σ1
  | .inr _ => fun _ _ _ _ => False
def aXo (b : Nat) (κ : Nat → Nat) (dC : Nat → ClassId) (dI : Nat → Nat → Nat) (cA : FieldType → ClassId) (o : Option Value ⊕ Unit) (σ1 : aH) : String → State → State → Prop := match o with
  | .inl _ => fun _ _ _ => False
  | .inr _ => fun E st t => E = "java/util/NoSuchElementException" ∧ va_P (dC, dI) aCls (aWs b κ cA σ1) t.heap ∧ aTyd σ1 ∧ va_F (aUp b) st t
/-- a method's contract -/
def aMeet (l : Launch) (b : Nat) (κ : Nat → Nat) (dC : Nat → ClassId) (dI : Nat → Nat → Nat) (cA : FieldType → ClassId) (ko : aKo) (d k : Nat) (As : List Value) (σ : aH) (o : Option Value ⊕ Unit) (σ1 : aH) : Prop :=
  vx_Met l (aMe k).2.1 (aWk k) (aRm d k (σ1.length - σ.length) (aSz σ1 - aSz σ)) (aPc b κ dC dI cA ko As σ) (aQo b κ dC dI cA o σ1) (aXo b κ dC dI cA o σ1) (σ1.length - σ.length) (aSz σ1 - aSz σ) (aUp b)
def aPrimAll (l : Launch) (b : Nat) (κ : Nat → Nat) (dC : Nat → ClassId) (dI : Nat → Nat → Nat) (cA : FieldType → ClassId) (ko : aKo) : Prop :=
  ∀ (p : Program) (e : Env) (R : Room) (s : State) (m : MethodId) (args : Array Value) (below : List Frame) (meth : Method) (c : Code) (Q : State → Prop) (k : Nat), aCx p s m args meth c k b κ dC dI cA ko → 11 ≤ R.frames → 440 ≤ R.locals → aPrimR p l e R s m args below meth c Q k b κ dC dI cA ko
/-- what a throw makes of a method: its end -/
def aThrAll (l : Launch) (b : Nat) (κ : Nat → Nat) (dC : Nat → ClassId) (dI : Nat → Nat → Nat) (cA : FieldType → ClassId) (ko : aKo) : Prop :=
  ∀ (p : Program) (e : Env) (R : Room) (s : State) (m : MethodId) (args : Array Value) (below : List Frame) (meth : Method) (c : Code) (k pc mc ms cells slots : Nat) (L : Array Slot) (σ : aH) (H : Heap) (locs : List Loc), aCx p s m args meth c k b κ dC dI cA ko → (∀ x ∈ c.exceptionTable.toList, False) → aThr (aMe k).1 (aMe k).2.2.1 pc = true → aPn s b κ dC dI cA σ H locs → s.heap.size + cells = b + σ.length → L.size = (aMe k).2.2.2.1 → 11 ≤ R.frames → 440 ≤ R.locals → cells + 1 = mc → slots + 6 = ms → mc ≤ R.cells → ms ≤ R.slots →
    W p l e R s m args below meth c H locs cells slots (vx_MQ below (aQo b κ dC dI cA (.inr ()) (σ ++ [aXc])) (aXo b κ dC dI cA (.inr ()) (σ ++ [aXc])) args s mc ms (aUp b)) (F0 m pc L [])
/-- what a helper of the law does -/
def aHelpAll (l : Launch) (b : Nat) (κ : Nat → Nat) (dC : Nat → ClassId) (dI : Nat → Nat → Nat) (cA : FieldType → ClassId) (ko : aKo) : Prop :=
  ∀ (p : Program) (e : Env) (R : Room) (s : State) (m : MethodId) (args : Array Value) (below : List Frame) (meth : Method) (c : Code) (Q : State → Prop) (k k' kf d x pc cells slots : Nat) (L : Array Slot) (ls As rest st : List Value) (σ σ1 σ2 : aH) (o : Option Value ⊕ Unit) (z : Int32) (H : Heap) (locs : List Loc),
    aCx p s m args meth c k b κ dC dI cA ko → decode (aMe k).2.2.1 pc = .ok (.invokestatic x, 3) → aHas aMl (aMe k).1 x k' = true → aHl k' = some kf → aMeet l b κ dC dI cA ko d kf As.dropLast σ o σ1 → ((∃ v, o = .inl (some v) ∧ aOut k' As v σ1 = some σ2 ∧ z = 0) ∨ (o = .inr () ∧ σ2 = σ1 ∧ z = 1)) → st = As.reverse ++ rest → As.length = (aMe k').2.2.2.2.2.2.2.1 → aRecv (some 1) As σ = true → (As.dropLast.drop 1).all aIsI = true ∧ aLastR As = true → aCat rest ≤ 8 → d * 10 + aRk k' + 12 ≤ R.frames → 40 * (d * 10 + aRk k' + 12) ≤ R.locals →
    aPn s b κ dC dI cA σ H locs → s.heap.size + cells = b + σ.length → aLc b κ ls L (aMe k).2.2.2.1 → cells + (σ1.length - σ.length) ≤ R.cells → slots + (aSz σ1 - aSz σ) ≤ R.slots →
    (∀ (H' : Heap) (locs' : List Loc), aPn s b κ dC dI cA σ2 H' locs' → W p l e R s m args below meth c H' locs' (cells + (σ1.length - σ.length)) (slots + (aSz σ1 - aSz σ)) Q (F0 m (pc + 3) L (.int z :: rest.map (cV b κ)))) →
    W p l e R s m args below meth c H locs cells slots Q (F0 m pc L (st.map (cV b κ)))
/-- the end of a run -/
def aHend (p : Program) (l : Launch) (e : Env) (R : Room) (s : State) (m : MethodId) (args : Array Value) (below : List Frame) (meth : Method) (c : Code) (Q : State → Prop) (k b : Nat) (κ : Nat → Nat) (dC : Nat → ClassId) (dI : Nat → Nat → Nat) (cA : FieldType → ClassId) (o : Option Value ⊕ Unit) (σE : aH) (mc ms : Nat) : Prop := match o with
  | .inl v => ∀ (H : Heap) (locs : List Loc) (L : Array Slot) (pc : Nat) (r : Instr), aPn s b κ dC dI cA σE H locs → decode (aMe k).2.2.1 pc = .ok (r, 1) → aEnds k r v → W p l e R s m args below meth c H locs mc ms Q (F0 m pc L (v.toList.map (cV b κ)))
  | .inr _ => ∀ (H : Heap) (locs : List Loc) (L : Array Slot) (pc cells slots : Nat) (σ : aH), σE = σ ++ [aXc] → aPn s b κ dC dI cA σ H locs → s.heap.size + cells = b + σ.length → cells + 1 = mc → slots + 6 = ms → L.size = (aMe k).2.2.2.1 → aThr (aMe k).1 (aMe k).2.2.1 pc = true → W p l e R s m args below meth c H locs cells slots Q (F0 m pc L [])
theorem vx_Met.plain {y : MethodName} {ws : List Jvm.Cond} {rm : Room} {Pc : Array Value → State → Prop} {Qc : Array Value → State → Outcome → State → Prop} {mc ms : Nat} {free : Addr → Prop} (h : vx_Met l y ws rm Pc Qc (fun _ _ _ => False) mc ms free) : Met l y ws rm Pc Qc mc ms free := by
  intro p e ha hc hk s m args below hf happ hP hK
  obtain ⟨k, o, h1, h2, h3, hQ⟩ := h p e ha hc hk s m args below hf happ hP hK
  refine ⟨k, o, h1, h2, h3, ?_⟩
  rcases hQ with hQ | ⟨q, -, E, ce, L, hx, -⟩
  · exact hQ
  · exact hx.elim
end ARN
