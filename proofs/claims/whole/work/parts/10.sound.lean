/-! THE WHOLE RUN OF A METHOD: what aRun says, the machine does. -/
section ARN
variable {p : Program} {l : Launch} {e : Env} {R : Room} {s : State} {m : MethodId} {args : Array Value} {below : List Frame} {meth : Method} {c : Code} {Q : State → Prop} {b : Nat} {κ : Nat → Nat} {dC : Nat → ClassId} {dI : Nat → Nat → Nat} {cA : FieldType → ClassId} {ko : aKo} {k : Nat}
/-- which return a method ends with -/
def aEnds (k : Nat) (r : Instr) (v : Option Value) : Prop := (r = .return_ ∧ v = none ∧ aRt k = none) ∨ (r = .ireturn ∧ ∃ (x : Int32) (ty : FieldType), v = some (.int x) ∧ aRt k = some ty ∧ narrow ty (.int x) = .int x) ∨ (r = .lreturn ∧ ∃ x : Int64, v = some (.long x) ∧ aRt k = some .long)
set_option maxHeartbeats 4000000 in
theorem aEnd_inv {o pc len : Nat} {r i : Instr} {st : List Value} {v : Option Value} (hok : aOk o k pc len r i = true) (he : aEnd i st = some v) : aEnds k r v ∧ len = 1 ∧ st = v.toList := by
  unfold aOk at hok
  split at hok
  all_goals (try (cases he; done))
  · simp only [Bool.and_eq_true, decide_eq_true_eq, beq_iff_eq] at hok
    obtain ⟨h1, rfl⟩ := hok
    unfold aEnd at he
    dsimp only at he
    split at he
    · cases he
      exact ⟨Or.inl ⟨rfl, rfl, h1⟩, rfl, rfl⟩
    · cases he
  · simp only [Bool.and_eq_true, decide_eq_true_eq, beq_iff_eq] at hok
    obtain ⟨h1, rfl⟩ := hok
    unfold aEnd at he
    dsimp only at he
    split at he
    · cases he
      exact ⟨Or.inr (Or.inl ⟨rfl, _, _, rfl, h1, rfl⟩), rfl, rfl⟩
    · cases he
  · simp only [Bool.and_eq_true, decide_eq_true_eq, beq_iff_eq] at hok
    obtain ⟨h1, rfl⟩ := hok
    unfold aEnd at he
    dsimp only at he
    split at he
    · split at he
      · rename_i h2
        cases he
        exact ⟨Or.inr (Or.inl ⟨rfl, _, _, rfl, h1, by rcases h2 with rfl | rfl <;> rfl⟩), rfl, rfl⟩
      · cases he
    · cases he
  · simp only [Bool.and_eq_true, decide_eq_true_eq, beq_iff_eq] at hok
    obtain ⟨h1, rfl⟩ := hok
    unfold aEnd at he
    dsimp only at he
    split at he
    · split at he
      · rename_i h2
        cases he
        exact ⟨Or.inr (Or.inl ⟨rfl, _, _, rfl, h1, h2⟩), rfl, rfl⟩
      · cases he
    · cases he
  · simp only [Bool.and_eq_true, decide_eq_true_eq, beq_iff_eq] at hok
    obtain ⟨h1, rfl⟩ := hok
    unfold aEnd at he
    dsimp only at he
    split at he
    · cases he
      exact ⟨Or.inr (Or.inr ⟨rfl, _, rfl, h1⟩), rfl, rfl⟩
    · cases he
  · cases hok
theorem aKn_same {u U : State} (h : u.vm = U.vm) (hk : aKn dC dI cA u) : aKn dC dI cA U := by
  have hal : u.vm.Alike U.vm := by rw [h]; exact Vm.Alike.refl _
  refine ⟨va_K.moved hal hk.1, fun w hw hn => ?_, va_AO.moved hal hk.2.2⟩
  have h1 := hk.2.1 w hw hn
  cases w with
  | fieldLinkNest a i b n d hh => exact va_Nw.same rfl h h1
  | methodLinkNest a i x hh => exact va_Nw.same rfl h h1
  | declares x => exact va_Nw.same rfl h h1
  | castable C T => exact va_Nw.same rfl h h1
  | _ => cases hn
theorem aKc_kept {u U : State} {H H1 : Heap} (hal : u.vm.Alike U.vm) (hvk : ∀ (own : String) (j : Nat) (tx : String) (a : Nat), vk_R own j tx a u → vk_R own j tx a U) (hsz : b ≤ H.size) (hq : ∀ a : Nat, a < H.size → ¬ aUp b a → H1[a]? = H[a]?) (h : aKc b κ ko u H) : aKc b κ ko U H1 := by
  obtain ⟨h1, h2, h3, h4, h5⟩ := h
  refine ⟨fun i hi => ?_, va_Z.kept (va_Z.moved hal h2) hq, ⟨va_Z.kept (va_Z.moved hal h3.1) hq, vx_Zq.kept (vx_Zq.moved hal h3.2.1) hq, vx_Zq.kept (vx_Zq.moved hal h3.2.2) hq⟩, h4, fun j t ht => ?_⟩
  · obtain ⟨g1, g2, g3, g4⟩ := h1 i hi
    exact ⟨g1, g2, va_X.kept (va_X.moved hal g3) (hq _ (Nat.lt_of_lt_of_le g2 hsz) (Nat.not_le.mpr g2)), g4⟩
  · obtain ⟨g1, q, f, g2, g3, g4, g5, g7, g6⟩ := h5 j t ht
    exact ⟨hvk _ _ _ _ g1, q, f, va_O.kept (va_O.moved hal g2) hq, va_OF.kept (va_OF.moved hal g3) hq, va_OF.kept (va_OF.moved hal g4) hq, va_T.kept (va_T.moved hal g5) hq, va_Zq.kept (va_Zq.moved hal g7) hq, g6⟩
theorem aKc_same {u U : State} {H : Heap} (h : u.vm = U.vm) (hsz : b ≤ H.size) (hk : aKc b κ ko u H) : aKc b κ ko U H :=
  aKc_kept (by rw [h]; exact Vm.Alike.refl _) (fun _ _ _ _ q => vk_R.same h.symm q) hsz (fun _ _ _ => rfl) hk
theorem aKc_warm {U : State} {H H1 : Heap} (hW : s.WarmedH U.vm) (hsz : b ≤ H.size) (hq : ∀ a : Nat, a < H.size → ¬ aUp b a → H1[a]? = H[a]?) (hk : aKc b κ ko s H) : aKc b κ ko U H1 :=
  aKc_kept hW.alike (fun _ _ _ _ q => vk_R.warm hW q) hsz hq hk
/-- a method's start and end -/
def aPc (b : Nat) (κ : Nat → Nat) (dC : Nat → ClassId) (dI : Nat → Nat → Nat) (cA : FieldType → ClassId) (ko : aKo) (As : List Value) (σ : aH) : Array Value → State → Prop :=
  va_Pc (As.map (cV b κ)) (fun U => U.heap.size = b + σ.length ∧ va_P (dC, dI) aCls (aWs b κ cA σ) U.heap ∧ aTyd σ ∧ aKn dC dI cA U ∧ aKc b κ ko U U.heap)
def aQ (b : Nat) (κ : Nat → Nat) (dC : Nat → ClassId) (dI : Nat → Nat → Nat) (cA : FieldType → ClassId) (v : Option Value) (σ1 : aH) : Array Value → State → Outcome → State → Prop :=
  fun _ st o t => o = .returned (v.map (cV b κ)) ∧ va_P (dC, dI) aCls (aWs b κ cA σ1) t.heap ∧ aTyd σ1 ∧ va_F (aUp b) st t
def aRk (k : Nat) : Nat := (aMe k).2.2.2.2.2.2.2.2.1
def aRm (d k mc ms : Nat) : Room := { frames := d * 10 + aRk k + 11, cells := mc, slots := ms, locals := 40 * (d * 10 + aRk k + 11) }
def aWk (k : Nat) : List Jvm.Cond := .code (aMe k).2.1 (aMe k).2.2.1 (aMe k).2.2.2.1 (aMe k).2.2.2.2.1 :: aTB
theorem aPc_blind {As : List Value} {σ : aH} : FrameBlind (aPc b κ dC dI cA ko As σ) := by
  intro a U g mk q
  obtain ⟨q0, q1, qP, qT, qK, qC⟩ := q
  exact ⟨q0, q1, qP, qT, aKn_same (u := U) (U := U.calling g mk a) rfl qK, aKc_same (u := U) (U := U.calling g mk a) rfl (show b ≤ U.heap.size by rw [q1]; exact Nat.le_add_right _ _) qC⟩
/-- behind a call -/
theorem aCall_fin {As : Array Value} {st0 rest : List Value} {L0 : Array Slot} {H : Heap} {locs : List Loc} {cells slots mc ms pc : Nat} {v : Option Value} {σ1 : aH} (hr : va_Run p l e R s m args below meth c H locs cells slots mc ms (F0 m pc L0 st0) rest (aQ b κ dC dI cA v σ1 As) (aUp b)) (hS : va_S (aUp b) s.heap H locs)
    (kk : ∀ (H1 : Heap) (locs1 : List Loc), aPn s b κ dC dI cA σ1 H1 locs1 → W p l e R s m args below meth c H1 locs1 (cells + mc) (slots + ms) Q (F0 m (pc + 3) L0 ((v.map (cV b κ)).toList ++ rest))) : W p l e R s m args below meth c H locs cells slots Q (F0 m pc L0 st0) := by
  intro T hT X
  obtain ⟨v', st₀, t, T', Ls, h0, X', hL, e1, e2, ⟨hv, hP1, hT1, hz, hk⟩, st⟩ := hr T hT X
  cases hv
  rw [h0] at hz hk
  have hP2 : va_P (dC, dI) aCls (aWs b κ cA σ1) T'.heap := by rw [e1]; exact hP1
  obtain ⟨t2, a1, b1⟩ := kk T'.heap (locs ++ Ls) ⟨hP2, ⟨Nat.le_trans hS.1 (by rw [e1]; exact hz), fun q h1 h2 => by rw [e1, hk q (Nat.lt_of_lt_of_le h1 hS.1) h2]; exact hS.2.1 q h1 h2, fun q hq => by
      rcases List.mem_append.mp hq with h | h
      · exact hS.2.2 q h
      · exact hL q h⟩, hT1⟩ T' rfl X'
  exact ⟨t2, st t2 a1, b1⟩
end ARN
