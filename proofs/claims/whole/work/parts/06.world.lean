/-! THE WORLD: what the machine's state is of an abstract heap. b: the heap's size at the law's start; the cell number k lies at b + k; constants lie at κ i, below b. -/
def cV (b : Nat) (κ : Nat → Nat) (v : Value) : Value := match v with
  | .ref a => .ref (b + a)
  | .retAddr i => .ref (κ i)
  | v => v
def cX (b : Nat) (x : (Nat → Int32) ⊕ (Nat → Int64) ⊕ (Nat → UInt32) ⊕ (Nat → UInt64) ⊕ (Nat → Option Nat)) : (Nat → Int32) ⊕ (Nat → Int64) ⊕ (Nat → UInt32) ⊕ (Nat → UInt64) ⊕ (Nat → Option Nat) := match x with
  | .inr (.inr (.inr (.inr f))) => .inr (.inr (.inr (.inr (fun j => (f j).map (fun a => b + a)))))
  | x => x
def cE (b : Nat) (κ : Nat → Nat) (cA : FieldType → ClassId) (c : aC) : va_E := match c with
  | .inl (ty, n, x) => .inl (cA ty, n, cX b x)
  | .inr (ci, fs) => .inr (ci, fs.map (cV b κ))
def aWs (b : Nat) (κ : Nat → Nat) (cA : FieldType → ClassId) (σ : aH) : va_W := σ.mapIdx (fun k c => (b + k, cE b κ cA c))
def aTys : List FieldType := [.int, .long, .char, .boolean, .object "RiverThinksAgain$State"]
def aTyL (cA : FieldType → ClassId) : List (ClassId × FieldType) := aTys.map (fun t => (cA t, t))
def aNest (w : Jvm.Cond) : Bool := match w with
  | .fieldLinkNest _ _ _ _ _ _ => true
  | .methodLinkNest _ _ _ _ => true
  | .declares _ => true
  | .castable _ _ => true
  | _ => false
def aUp (b : Nat) : Nat → Prop := fun q => b ≤ q
/-- the tables at a state -/
def aKn (dC : Nat → ClassId) (dI : Nat → Nat → Nat) (cA : FieldType → ClassId) (U : State) : Prop :=
  va_K (dC, dI) aCls (aTyL cA) U ∧ (∀ w ∈ lw_tbl, aNest w = true → va_Nw w U) ∧ va_AO "RiverThinksAgain$State" U
/-- texts: their own, their bytes -/
def aTxt (b : Nat) (κ : Nat → Nat) (ko : aKo) (i : Nat) (U : State) (H : Heap) : Prop := ∃ (q : Nat) (by8 : Nat → Int32), va_O "java/lang/String" (κ i) (aUp b) U H ∧ va_OF "java/lang/String" "coder" "B" (.int 0) (κ i) (aUp b) U H ∧ va_OF "java/lang/String" "value" "[B" (.ref q) (κ i) (aUp b) U H ∧ va_T .byte q (ko i).2.1 (fun j => .int (by8 j)) (aUp b) U H ∧ va_Zq "jdk/internal/util/Preconditions" "SIOOBE_FORMATTER" "Ljava/util/function/BiFunction;" (aUp b) U H ∧ ∀ j, j < (ko i).2.1 → (by8 j) &&& 255 = (ko i).2.2 j ∧ (by8 j).toInt8.toInt32 = by8 j
/-- the constants at a state's tables and a heap -/
def aKc (b : Nat) (κ : Nat → Nat) (ko : aKo) (U : State) (H : Heap) : Prop :=
  (∀ i, i < 2 → (ko i).1 = .int ∧ κ i < b ∧ va_X (κ i) (ko i).2.1 (ko i).2.2 U H ∧ (ko i).2.1 < 2 ^ 31) ∧ va_Z "RiverThinksAgain$Rule" "IF_NONE" "[I" (.ref (κ 1)) (aUp b) U H ∧ (va_Z "java/lang/String" "COMPACT_STRINGS" "Z" (.int 1) (aUp b) U H ∧ vx_Zq Bundle.tN "UNASSIGNED_STACK" Bundle.steD (aUp b) U H ∧ vx_Zq Bundle.tN "SUPPRESSED_SENTINEL" Bundle.listD (aUp b) U H) ∧
  (∀ i, ¬ i < 2 → (ko i).1 = aStr) ∧ ∀ (j : Nat) (t : String × Nat × Nat × String), aTx[j]? = some t → vk_R t.1 t.2.1 t.2.2.2 (κ (j + 2)) U ∧ aTxt b κ ko (j + 2) U H
def aUs (v : Value) : Bool := match v with
  | .float _ => false
  | _ => true
def aLc (b : Nat) (κ : Nat → Nat) (ls : List Value) (L : Array Slot) (n : Nat) : Prop := L.size = n ∧ lv_wf L ∧ ls.length = n ∧ ∀ (i : Nat) (v : Value), ls[i]? = some v → aUs v = true → L[i]? = some (.val (cV b κ v))
def aCz (c : aC) : Nat := match c with
  | .inl (_, n, _) => n
  | .inr (_, fs) => fs.length
def aSz (σ : aH) : Nat := (σ.map aCz).sum
theorem aWs_get {b : Nat} {κ : Nat → Nat} {cA : FieldType → ClassId} {σ : aH} {k : Nat} {c : aC} (h : σ[k]? = some c) : (aWs b κ cA σ)[k]? = some (b + k, cE b κ cA c) := by
  unfold aWs
  rw [List.getElem?_mapIdx, h]
  rfl
theorem aWs_set {b : Nat} {κ : Nat → Nat} {cA : FieldType → ClassId} {σ : aH} {k : Nat} {c : aC} : aWs b κ cA (σ.set k c) = (aWs b κ cA σ).set k (b + k, cE b κ cA c) := by
  unfold aWs
  rw [List.mapIdx_set]
theorem aWs_app {b : Nat} {κ : Nat → Nat} {cA : FieldType → ClassId} {σ : aH} {c : aC} : aWs b κ cA (σ ++ [c]) = aWs b κ cA σ ++ [(b + σ.length, cE b κ cA c)] := by
  unfold aWs
  rw [List.mapIdx_append]
  simp
theorem aWs_D {b : Nat} {κ : Nat → Nat} {cA : FieldType → ClassId} {σ : aH} : va_D (aUp b) (aWs b κ cA σ) := by
  have h : ∀ (k : Nat) (q : Nat × va_E), (aWs b κ cA σ)[k]? = some q → q.1 = b + k := by
    intro k q hq
    unfold aWs at hq
    rw [List.getElem?_mapIdx] at hq
    cases hc : σ[k]? with
    | none => rw [hc] at hq; cases hq
    | some c => rw [hc] at hq; cases hq; rfl
  refine ⟨fun i j p q hp hq e => ?_, fun k q hq => ?_⟩
  · have h1 := h i p hp
    have h2 := h j q hq
    omega
  · show b ≤ q.1
    rw [h k q hq]
    omega
theorem aTyL_at {cA : FieldType → ClassId} {ty : FieldType} (h : ty ∈ aTys) : ∃ t0 : Nat, (aTyL cA)[t0]? = some (cA ty, ty) := by
  obtain ⟨t0, h0⟩ := List.getElem?_of_mem h
  exact ⟨t0, by unfold aTyL; rw [List.getElem?_map, h0]; rfl⟩
theorem aKn_moved {dC : Nat → ClassId} {dI : Nat → Nat → Nat} {cA : FieldType → ClassId} {s U : State} (hW : s.WarmedH U.vm) (h : aKn dC dI cA s) : aKn dC dI cA U := by
  refine ⟨va_K.moved hW.alike h.1, fun w hw hn => ?_, va_AO.moved hW.alike h.2.2⟩
  have h1 := h.2.1 w hw hn
  cases w with
  | fieldLinkNest a i b n d hh => exact va_Nw.warmF hW h1
  | methodLinkNest a i x hh => exact va_Nw.warmM hW h1
  | declares x => exact va_Nw.warmD hW h1
  | castable C T => exact va_Nw.warmC hW h1
  | _ => cases hn
theorem aLc_get {b : Nat} {κ : Nat → Nat} {ls : List Value} {L : Array Slot} {n i : Nat} {v : Value} (h : aLc b κ ls L n) (hi : ls[i]? = some v) (hu : aUs v = true) : L[i]? = some (.val (cV b κ v)) := h.2.2.2 i v hi hu
def aAs (b : Nat) (κ : Nat → Nat) (ls : List Value) : List (Nat × Value) := (List.range ls.length).filterMap (fun i => match ls[i]? with
  | some v => if aUs v = true then some (i, cV b κ v) else none
  | none => none)
theorem aAs_mem {b : Nat} {κ : Nat → Nat} {ls : List Value} {i : Nat} {v : Value} (hi : ls[i]? = some v) (hu : aUs v = true) : (i, cV b κ v) ∈ aAs b κ ls := by
  unfold aAs
  refine List.mem_filterMap.mpr ⟨i, List.mem_range.mpr (List.getElem?_eq_some_iff.mp hi).1, ?_⟩
  rw [hi]
  simp [hu]
theorem aLc_has {b : Nat} {κ : Nat → Nat} {ls : List Value} {L : Array Slot} {n : Nat} (h : aLc b κ ls L n) : lv_has L n (aAs b κ ls) := by
  refine ⟨h.1, h.2.1, fun q hq => ?_⟩
  unfold aAs at hq
  obtain ⟨i, -, hi⟩ := List.mem_filterMap.mp hq
  cases hv : ls[i]? with
  | none => rw [hv] at hi; cases hi
  | some v =>
    rw [hv] at hi
    by_cases hu : aUs v = true
    · simp only [hu, if_true] at hi
      cases hi
      exact h.2.2.2 i v hv hu
    · simp only [hu] at hi
      cases hi
theorem aSet_len (ls : List Value) (k : Nat) (v : Value) : (aSet ls k v).length = ls.length := by
  unfold aSet
  cases k <;> simp
theorem aSet_get {ls : List Value} {k : Nat} {v : Value} (hk : k < ls.length) (j : Nat) : (aSet ls k v)[j]? = if j = k then some v else if j + 1 = k then (ls[j]?).map aNl else ls[j]? := by
  unfold aSet
  cases k with
  | zero =>
    by_cases h : j = 0
    · subst h; simp [hk]
    · simp [h, List.getElem?_set, Ne.symm h]
  | succ k =>
    simp only [List.getElem?_modify]
    by_cases h : j = k + 1
    · subst h
      simp [hk]
    · by_cases h2 : k = j
      · subst h2
        simp [List.getElem?_set]
      · simp [List.getElem?_set, h, h2, Ne.symm h, show ¬ j + 1 = k + 1 by omega]
        exact fun q => absurd q.symm h2
theorem aNl_us {v : Value} (h : aUs (aNl v) = true) : aNl v = v ∧ v.category = 1 := by
  cases v <;> first | exact ⟨rfl, rfl⟩ | cases h
theorem cV_cat (b : Nat) (κ : Nat → Nat) (v : Value) : (cV b κ v).category = v.category := by cases v <;> rfl
/-- one slot stored -/
theorem aLc_set {b : Nat} {κ : Nat → Nat} {ls : List Value} {L L' : Array Slot} {n k : Nat} {v : Value} (h : aLc b κ ls L n) (hk : k < ls.length)
    (h' : lv_has L' n ((k, cV b κ v) :: (aAs b κ ls).filter (fun q => !(q.1 == k) && !(q.1 + 1 == k && q.2.category == 2)))) : aLc b κ (aSet ls k v) L' n := by
  refine ⟨h'.1, h'.2.1, by rw [aSet_len]; exact h.2.2.1, fun i w hi hu => ?_⟩
  rw [aSet_get hk] at hi
  by_cases e : i = k
  · rw [if_pos e] at hi
    cases hi
    subst e
    exact h'.2.2 (i, cV b κ v) List.mem_cons_self
  · rw [if_neg e] at hi
    have key : ∀ w, ls[i]? = some w → aUs w = true → (i + 1 = k → w.category = 1) → L'[i]? = some (.val (cV b κ w)) := by
      intro w hw hu hc
      refine h'.2.2 (i, cV b κ w) (List.mem_cons_of_mem _ (List.mem_filter.mpr ⟨aAs_mem hw hu, ?_⟩))
      simp only [Bool.and_eq_true, Bool.not_eq_true', beq_eq_false_iff_ne, ne_eq, e, not_false_eq_true, true_and, Bool.and_eq_false_iff, cV_cat]
      by_cases e2 : i + 1 = k
      · right; rw [hc e2]; decide
      · left; exact e2
    by_cases e2 : i + 1 = k
    · rw [if_pos e2] at hi
      cases hw : ls[i]? with
      | none => rw [hw] at hi; cases hi
      | some w0 =>
        rw [hw] at hi
        cases hi
        obtain ⟨e3, e4⟩ := aNl_us hu
        rw [e3]
        exact key w0 hw (by rw [e3] at hu; exact hu) (fun _ => e4)
    · rw [if_neg e2] at hi
      exact key w hi hu (fun q => absurd q e2)
theorem aLc_setL {b : Nat} {κ : Nat → Nat} {ls : List Value} {L L' : Array Slot} {n k : Nat} {v : Value} (h : aLc b κ ls L n) (hk : k + 1 < ls.length)
    (h' : lv_has L' n ((k, cV b κ v) :: (aAs b κ ls).filter (fun q => !(q.1 == k) && (!(q.1 == k + 1) && !(q.1 + 1 == k && q.2.category == 2))))) : aLc b κ (aSetL ls k v) L' n := by
  refine ⟨h'.1, h'.2.1, by unfold aSetL; rw [List.length_set, aSet_len]; exact h.2.2.1, fun i w hi hu => ?_⟩
  unfold aSetL at hi
  rw [List.getElem?_set] at hi
  by_cases e0 : k + 1 = i
  · rw [if_pos e0] at hi
    split at hi
    · cases hi; cases hu
    · cases hi
  · rw [if_neg e0] at hi
    rw [aSet_get (by omega)] at hi
    by_cases e : i = k
    · rw [if_pos e] at hi
      cases hi
      subst e
      exact h'.2.2 (i, cV b κ v) List.mem_cons_self
    · rw [if_neg e] at hi
      have key : ∀ w, ls[i]? = some w → aUs w = true → (i + 1 = k → w.category = 1) → L'[i]? = some (.val (cV b κ w)) := by
        intro w hw hu hc
        refine h'.2.2 (i, cV b κ w) (List.mem_cons_of_mem _ (List.mem_filter.mpr ⟨aAs_mem hw hu, ?_⟩))
        simp only [Bool.and_eq_true, Bool.not_eq_true', beq_eq_false_iff_ne, ne_eq, e, not_false_eq_true, true_and, Bool.and_eq_false_iff, cV_cat]
        refine ⟨fun q => e0 q.symm, ?_⟩
        by_cases e2 : i + 1 = k
        · right; rw [hc e2]; decide
        · left; exact e2
      by_cases e2 : i + 1 = k
      · rw [if_pos e2] at hi
        cases hw : ls[i]? with
        | none => rw [hw] at hi; cases hi
        | some w0 =>
          rw [hw] at hi
          cases hi
          obtain ⟨e3, e4⟩ := aNl_us hu
          rw [e3]
          exact key w0 hw (by rw [e3] at hu; exact hu) (fun _ => e4)
      · rw [if_neg e2] at hi
        exact key w hi hu (fun q => absurd q e2)
theorem aLay_cat {v : Value} : v.category = 2 → aUs v = true → (∃ x, v = .long x) ∨ (∃ x, v = .double x) := by
  cases v <;> simp [Value.category, aUs]

theorem aLay_len (b : Nat) (κ : Nat → Nat) (As : List Value) : (lg_sl (As.map (cV b κ))).length = (aLay As).length := by
  unfold lg_sl
  induction As with
  | nil => rfl
  | cons v vs ih =>
    rw [List.map_cons, List.flatMap_cons, List.length_append, ih, cV_cat]
    cases v <;> simp [Value.category, aLay] <;> omega
theorem aLay_at {b : Nat} {κ : Nat → Nat} : ∀ (As : List Value) (off i : Nat) (v : Value), (aLay As)[i]? = some v → aUs v = true → (off + i, cV b κ v) ∈ lv_args off (As.map (cV b κ)) := by
  intro As
  induction As with
  | nil => intro off i v h; cases h
  | cons w ws ih =>
    intro off i v h hu
    rw [List.map_cons]
    unfold lv_args
    have two : ∀ x : Value, x.category = 2 → aLay (x :: ws) = x :: aJk :: aLay ws → w = x → (off + i, cV b κ v) ∈ (off, cV b κ w) :: lv_args (if (cV b κ w).category = 2 then off + 2 else off + 1) (ws.map (cV b κ)) := by
      intro x hx hl e
      subst e
      rw [hl] at h
      rw [cV_cat, if_pos hx]
      match i, h with
      | 0, h => cases h; exact List.mem_cons_self
      | 1, h => cases h; cases hu
      | i + 2, h =>
        refine List.mem_cons_of_mem _ ?_
        have := ih (off + 2) i v h hu
        rwa [show off + 2 + i = off + (i + 2) by omega] at this
    have one : ∀ x : Value, x.category = 1 → aLay (x :: ws) = x :: aLay ws → w = x → (off + i, cV b κ v) ∈ (off, cV b κ w) :: lv_args (if (cV b κ w).category = 2 then off + 2 else off + 1) (ws.map (cV b κ)) := by
      intro x hx hl e
      subst e
      rw [hl] at h
      rw [cV_cat, if_neg (by omega)]
      match i, h with
      | 0, h => cases h; exact List.mem_cons_self
      | i + 1, h =>
        refine List.mem_cons_of_mem _ ?_
        have := ih (off + 1) i v h hu
        rwa [show off + 1 + i = off + (i + 1) by omega] at this
    cases w with
    | long x => exact two (.long x) rfl rfl rfl
    | double x => exact two (.double x) rfl rfl rfl
    | int x => exact one (.int x) rfl rfl rfl
    | float x => exact one (.float x) rfl rfl rfl
    | null => exact one .null rfl rfl rfl
    | ref x => exact one (.ref x) rfl rfl rfl
    | retAddr x => exact one (.retAddr x) rfl rfl rfl
/-- the locals at a method's entry -/
theorem aLc_entry {b : Nat} {κ : Nat → Nat} {As : List Value} {n : Nat} (h : (aLay As).length ≤ n) : aLc b κ (aEnt n As) ((lg_sl (As.map (cV b κ)) ++ List.replicate (n - (lg_sl (As.map (cV b κ))).length) Slot.unset).toArray) n := by
  obtain ⟨h1, h2, h3⟩ := lv_entry (As.map (cV b κ)) (n := n) (by rw [aLay_len]; exact h)
  refine ⟨h1, h2, ?_, fun i v hi hu => ?_⟩
  · unfold aEnt
    rw [List.length_append, List.length_replicate]
    omega
  · unfold aEnt at hi
    by_cases hl : i < (aLay As).length
    · rw [List.getElem?_append_left hl] at hi
      have := aLay_at (b := b) (κ := κ) As 0 i v hi hu
      rw [Nat.zero_add] at this
      exact h3 _ this
    · rw [List.getElem?_append_right (by omega), List.getElem?_replicate] at hi
      split at hi
      · cases hi; cases hu
      · cases hi
