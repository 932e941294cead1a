/-! THE WALK OF THE LAW, out of the abstract machine's run. (Its first rows are the kit's skeleton.) From wip/whole/src. -/
def R_law : String := "RiverThinksAgainLaw"
def lw_P (b : Addr) (xs : List Int32) (args : Array Value) (s : State) : Prop := args = #[.ref b] ∧ s.IntsAt b xs ∧ xs.length ≤ 2560 ∧ (Jvm.Cond.and given_1 narrow_1).before args s = true
def lw_Q (_ : Array Value) (s : State) (o : Outcome) (t : State) : Prop := o = .returned (some (.int 1)) ∧ Framed s o t [] 601024 7293034
def lw_Z (below : List Frame) (a : Array Value) (s : State) : State → Prop := fun t => ∃ o, t.status = .running ∧ Ended t below o ∧ lw_Q a s o t
/-- the law's own end, with 1 on the stack, nothing written that was there before, its room as the claim has it -/
theorem lw_ret {p : Program} {l : Launch} {e : Env} {s : State} {m : MethodId} {below : List Frame} {meth : Method} {c : Code} {b : Nat} (hx : p.tables.exec = Jvm.exec) (hb : c.code = code) (hr : meth.sig.returnType = ret) (hlocks : meth.locks = false) {pc : Nat} {H : Heap} {ls : Array Slot} (hdg : decode code pc = .ok (.ireturn, 1)) : W p l e room_1 s m #[Value.ref b] below meth c H [] 601024 7293034 (lw_Z below #[Value.ref b] s) (F0 m pc ls [.int 1]) := by
  intro T hT X
  obtain ⟨fs, hret, hrun, hended, hW, hframe⟩ := X.leave (v := some (.int 1)) (hlocks := hlocks) (fun h => by rw [hr] at h; cases h)
  have hmeth' : T.vm.method? m = some meth := X.method'
  refine ⟨T.setFrames fs, ?_, .returned (some (.int 1)), hrun, hended, rfl, ⟨_, rfl⟩, hW, hframe⟩
  jvm_step X.here [X.here.top, hx, hb, hdg, hmeth', hr, ret, narrow_b1]
  (try refine ⟨rfl, ?_⟩); (try refine ⟨rfl, ?_⟩)
  first | (intro acts; rw [hret _ acts rfl rfl rfl]) | rw [hret _ _ rfl rfl rfl]
  exact Steps.refl _
/-- what holds at the law's entry: the machine, the code, the tables' words (any of lw_tbl by 'hts w (by decide +kernel)'), the script of L ints xs at the cell b, what the Statement gives of the start (any of its parts by flat_of_before) -/
def lw_At (p : Program) (s : State) (m : MethodId) (meth : Method) (c : Code) (b L : Nat) (xs : Nat → Int32) : Prop :=
  p.tables.exec = Jvm.exec ∧ c.code = code ∧ meth.sig.returnType = ret ∧ c.maxLocals = 8 ∧ s.vm.findClass R_law = some m.cls ∧ (∀ w ∈ lw_tbl, w.before #[Value.ref b] s = true) ∧ va_X b L xs s s.heap ∧ b < s.heap.size ∧ meth.locks = false ∧ (Jvm.Cond.and given_1 narrow_1).before #[Value.ref b] s = true
set_option maxRecDepth 8000 in
theorem kl_le : ∀ c ∈ klT, ∀ (D n : Nat → Nat) (f : Nat → Int32) (g : Nat → Int64), aCz (c D n f g) ≤ 2000 := by
  unfold klT
  exact List.forall_mem_cons.mpr ⟨fun _ _ _ _ => Nat.le_of_ble_eq_true rfl, List.forall_mem_cons.mpr ⟨fun _ _ _ _ => Nat.le_of_ble_eq_true rfl, List.forall_mem_cons.mpr ⟨fun _ _ _ _ => Nat.le_of_ble_eq_true rfl, List.forall_mem_cons.mpr ⟨fun _ _ _ _ => Nat.le_of_ble_eq_true rfl, List.forall_mem_cons.mpr ⟨fun _ _ _ _ => Nat.le_of_ble_eq_true rfl, List.forall_mem_cons.mpr ⟨fun _ _ _ _ => Nat.le_of_ble_eq_true rfl, List.forall_mem_cons.mpr ⟨fun _ _ _ _ => Nat.le_of_ble_eq_true rfl, List.forall_mem_cons.mpr ⟨fun _ _ _ _ => Nat.le_of_ble_eq_true rfl, List.forall_mem_cons.mpr ⟨fun _ _ _ _ => Nat.le_of_ble_eq_true rfl, List.forall_mem_cons.mpr ⟨fun _ _ _ _ => Nat.le_of_ble_eq_true rfl, List.forall_mem_cons.mpr ⟨fun _ _ _ _ => Nat.le_of_ble_eq_true rfl, List.forall_mem_cons.mpr ⟨fun _ _ _ _ => Nat.le_of_ble_eq_true rfl, List.forall_mem_cons.mpr ⟨fun _ _ _ _ => Nat.le_of_ble_eq_true rfl, List.forall_mem_cons.mpr ⟨fun _ _ _ _ => Nat.le_of_ble_eq_true rfl, List.forall_mem_cons.mpr ⟨fun _ _ _ _ => Nat.le_of_ble_eq_true rfl, List.forall_mem_cons.mpr ⟨fun _ _ _ _ => Nat.le_of_ble_eq_true rfl, List.forall_mem_cons.mpr ⟨fun _ _ _ _ => Nat.le_of_ble_eq_true rfl, List.forall_mem_cons.mpr ⟨fun _ _ _ _ => Nat.le_of_ble_eq_true rfl, List.forall_mem_cons.mpr ⟨fun _ _ _ _ => Nat.le_of_ble_eq_true rfl, List.forall_mem_cons.mpr ⟨fun _ _ _ _ => Nat.le_of_ble_eq_true rfl, List.forall_mem_cons.mpr ⟨fun _ _ _ _ => Nat.le_of_ble_eq_true rfl, List.forall_mem_cons.mpr ⟨fun _ _ _ _ => Nat.le_of_ble_eq_true rfl, List.forall_mem_cons.mpr ⟨fun _ _ _ _ => Nat.le_of_ble_eq_true rfl, List.forall_mem_cons.mpr ⟨fun _ _ _ _ => Nat.le_of_ble_eq_true rfl, List.forall_mem_cons.mpr ⟨fun _ _ _ _ => Nat.le_of_ble_eq_true rfl, List.forall_mem_cons.mpr ⟨fun _ _ _ _ => Nat.le_of_ble_eq_true rfl, List.forall_mem_cons.mpr ⟨fun _ _ _ _ => Nat.le_of_ble_eq_true rfl, List.forall_mem_cons.mpr ⟨fun _ _ _ _ => Nat.le_of_ble_eq_true rfl, List.forall_mem_cons.mpr ⟨fun _ _ _ _ => Nat.le_of_ble_eq_true rfl, List.forall_mem_cons.mpr ⟨fun _ _ _ _ => Nat.le_of_ble_eq_true rfl, List.forall_mem_cons.mpr ⟨fun _ _ _ _ => Nat.le_of_ble_eq_true rfl, List.forall_mem_cons.mpr ⟨fun _ _ _ _ => Nat.le_of_ble_eq_true rfl, List.forall_mem_cons.mpr ⟨fun _ _ _ _ => Nat.le_of_ble_eq_true rfl, List.forall_mem_cons.mpr ⟨fun _ _ _ _ => Nat.le_of_ble_eq_true rfl, List.forall_mem_cons.mpr ⟨fun _ _ _ _ => Nat.le_of_ble_eq_true rfl, List.forall_mem_cons.mpr ⟨fun _ _ _ _ => Nat.le_of_ble_eq_true rfl, List.forall_mem_cons.mpr ⟨fun _ _ _ _ => Nat.le_of_ble_eq_true rfl, List.forall_mem_cons.mpr ⟨fun _ _ _ _ => Nat.le_of_ble_eq_true rfl, List.forall_mem_cons.mpr ⟨fun _ _ _ _ => Nat.le_of_ble_eq_true rfl, List.forall_mem_cons.mpr ⟨fun _ _ _ _ => Nat.le_of_ble_eq_true rfl, List.forall_mem_cons.mpr ⟨fun _ _ _ _ => Nat.le_of_ble_eq_true rfl, List.forall_mem_cons.mpr ⟨fun _ _ _ _ => Nat.le_of_ble_eq_true rfl, List.forall_mem_cons.mpr ⟨fun _ _ _ _ => Nat.le_of_ble_eq_true rfl, List.forall_mem_cons.mpr ⟨fun _ _ _ _ => Nat.le_of_ble_eq_true rfl, List.forall_mem_cons.mpr ⟨fun _ _ _ _ => Nat.le_of_ble_eq_true rfl, List.forall_mem_cons.mpr ⟨fun _ _ _ _ => Nat.le_of_ble_eq_true rfl, List.forall_mem_cons.mpr ⟨fun _ _ _ _ => Nat.le_of_ble_eq_true rfl, List.forall_mem_cons.mpr ⟨fun _ _ _ _ => Nat.le_of_ble_eq_true rfl, List.forall_mem_cons.mpr ⟨fun _ _ _ _ => Nat.le_of_ble_eq_true rfl, List.forall_mem_cons.mpr ⟨fun _ _ _ _ => Nat.le_of_ble_eq_true rfl, List.forall_mem_cons.mpr ⟨fun _ _ _ _ => Nat.le_of_ble_eq_true rfl, List.forall_mem_cons.mpr ⟨fun _ _ _ _ => Nat.le_of_ble_eq_true rfl, List.forall_mem_cons.mpr ⟨fun _ _ _ _ => Nat.le_of_ble_eq_true rfl, List.forall_mem_cons.mpr ⟨fun _ _ _ _ => Nat.le_of_ble_eq_true rfl, List.forall_mem_cons.mpr ⟨fun _ _ _ _ => Nat.le_of_ble_eq_true rfl, List.forall_mem_cons.mpr ⟨fun _ _ _ _ => Nat.le_of_ble_eq_true rfl, List.forall_mem_cons.mpr ⟨fun _ _ _ _ => Nat.le_of_ble_eq_true rfl, List.forall_mem_cons.mpr ⟨fun _ _ _ _ => Nat.le_of_ble_eq_true rfl, List.forall_mem_cons.mpr ⟨fun _ _ _ _ => Nat.le_of_ble_eq_true rfl, List.forall_mem_cons.mpr ⟨fun _ _ _ _ => Nat.le_of_ble_eq_true rfl, List.forall_mem_cons.mpr ⟨fun _ _ _ _ => Nat.le_of_ble_eq_true rfl, List.forall_mem_cons.mpr ⟨fun _ _ _ _ => Nat.le_of_ble_eq_true rfl, List.forall_mem_cons.mpr ⟨fun _ _ _ _ => Nat.le_of_ble_eq_true rfl, List.forall_mem_cons.mpr ⟨fun _ _ _ _ => Nat.le_of_ble_eq_true rfl, List.forall_mem_cons.mpr ⟨fun _ _ _ _ => Nat.le_of_ble_eq_true rfl, List.forall_mem_cons.mpr ⟨fun _ _ _ _ => Nat.le_of_ble_eq_true rfl, List.forall_mem_cons.mpr ⟨fun _ _ _ _ => Nat.le_of_ble_eq_true rfl, List.forall_mem_cons.mpr ⟨fun _ _ _ _ => Nat.le_of_ble_eq_true rfl, List.forall_mem_cons.mpr ⟨fun _ _ _ _ => Nat.le_of_ble_eq_true rfl, List.forall_mem_cons.mpr ⟨fun _ _ _ _ => Nat.le_of_ble_eq_true rfl, List.forall_mem_cons.mpr ⟨fun _ _ _ _ => Nat.le_of_ble_eq_true rfl, List.forall_mem_cons.mpr ⟨fun _ _ _ _ => Nat.le_of_ble_eq_true rfl, List.forall_mem_cons.mpr ⟨fun _ _ _ _ => Nat.le_of_ble_eq_true rfl, List.forall_mem_cons.mpr ⟨fun _ _ _ _ => Nat.le_of_ble_eq_true rfl, List.forall_mem_cons.mpr ⟨fun _ _ _ _ => Nat.le_of_ble_eq_true rfl, List.forall_mem_cons.mpr ⟨fun _ _ _ _ => Nat.le_of_ble_eq_true rfl, List.forall_mem_cons.mpr ⟨fun _ _ _ _ => Nat.le_of_ble_eq_true rfl, List.forall_mem_cons.mpr ⟨fun _ _ _ _ => Nat.le_of_ble_eq_true rfl, List.forall_mem_cons.mpr ⟨fun _ _ _ _ => Nat.le_of_ble_eq_true rfl, List.forall_mem_cons.mpr ⟨fun _ _ _ _ => Nat.le_of_ble_eq_true rfl, List.forall_mem_cons.mpr ⟨fun _ _ _ _ => Nat.le_of_ble_eq_true rfl, List.forall_mem_cons.mpr ⟨fun _ _ _ _ => Nat.le_of_ble_eq_true rfl, List.forall_mem_cons.mpr ⟨fun _ _ _ _ => Nat.le_of_ble_eq_true rfl, List.forall_mem_cons.mpr ⟨fun _ _ _ _ => Nat.le_of_ble_eq_true rfl, List.forall_mem_cons.mpr ⟨fun _ _ _ _ => Nat.le_of_ble_eq_true rfl, List.forall_mem_cons.mpr ⟨fun _ _ _ _ => Nat.le_of_ble_eq_true rfl, List.forall_mem_cons.mpr ⟨fun _ _ _ _ => Nat.le_of_ble_eq_true rfl, List.forall_mem_cons.mpr ⟨fun _ _ _ _ => Nat.le_of_ble_eq_true rfl, List.forall_mem_cons.mpr ⟨fun _ _ _ _ => Nat.le_of_ble_eq_true rfl, List.forall_mem_cons.mpr ⟨fun _ _ _ _ => Nat.le_of_ble_eq_true rfl, List.forall_mem_cons.mpr ⟨fun _ _ _ _ => Nat.le_of_ble_eq_true rfl, List.forall_mem_cons.mpr ⟨fun _ _ _ _ => Nat.le_of_ble_eq_true rfl, List.forall_mem_cons.mpr ⟨fun _ _ _ _ => Nat.le_of_ble_eq_true rfl, List.forall_mem_cons.mpr ⟨fun _ _ _ _ => Nat.le_of_ble_eq_true rfl, List.forall_mem_cons.mpr ⟨fun _ _ _ _ => Nat.le_of_ble_eq_true rfl, List.forall_mem_cons.mpr ⟨fun _ _ _ _ => Nat.le_of_ble_eq_true rfl, List.forall_mem_cons.mpr ⟨fun _ _ _ _ => Nat.le_of_ble_eq_true rfl, List.forall_mem_cons.mpr ⟨fun _ _ _ _ => Nat.le_of_ble_eq_true rfl, List.forall_mem_cons.mpr ⟨fun _ _ _ _ => Nat.le_of_ble_eq_true rfl, List.forall_mem_cons.mpr ⟨fun _ _ _ _ => Nat.le_of_ble_eq_true rfl, List.forall_mem_cons.mpr ⟨fun _ _ _ _ => Nat.le_of_ble_eq_true rfl, List.forall_mem_cons.mpr ⟨fun _ _ _ _ => Nat.le_of_ble_eq_true rfl, List.forall_mem_cons.mpr ⟨fun _ _ _ _ => Nat.le_of_ble_eq_true rfl, List.forall_mem_cons.mpr ⟨fun _ _ _ _ => Nat.le_of_ble_eq_true rfl, List.forall_mem_cons.mpr ⟨fun _ _ _ _ => Nat.le_of_ble_eq_true rfl, List.forall_mem_cons.mpr ⟨fun _ _ _ _ => Nat.le_of_ble_eq_true rfl, List.forall_mem_cons.mpr ⟨fun _ _ _ _ => Nat.le_of_ble_eq_true rfl, List.forall_mem_cons.mpr ⟨fun _ _ _ _ => Nat.le_of_ble_eq_true rfl, List.forall_mem_cons.mpr ⟨fun _ _ _ _ => Nat.le_of_ble_eq_true rfl, List.forall_mem_cons.mpr ⟨fun _ _ _ _ => Nat.le_of_ble_eq_true rfl, List.forall_mem_cons.mpr ⟨fun _ _ _ _ => Nat.le_of_ble_eq_true rfl, List.forall_mem_cons.mpr ⟨fun _ _ _ _ => Nat.le_of_ble_eq_true rfl, List.forall_mem_cons.mpr ⟨fun _ _ _ _ => Nat.le_of_ble_eq_true rfl, List.forall_mem_cons.mpr ⟨fun _ _ _ _ => Nat.le_of_ble_eq_true rfl, List.forall_mem_cons.mpr ⟨fun _ _ _ _ => Nat.le_of_ble_eq_true rfl, List.forall_mem_cons.mpr ⟨fun _ _ _ _ => Nat.le_of_ble_eq_true rfl, List.forall_mem_cons.mpr ⟨fun _ _ _ _ => Nat.le_of_ble_eq_true rfl, List.forall_mem_cons.mpr ⟨fun _ _ _ _ => Nat.le_of_ble_eq_true rfl, List.forall_mem_cons.mpr ⟨fun _ _ _ _ => Nat.le_of_ble_eq_true rfl, List.forall_mem_cons.mpr ⟨fun _ _ _ _ => Nat.le_of_ble_eq_true rfl, List.forall_mem_cons.mpr ⟨fun _ _ _ _ => Nat.le_of_ble_eq_true rfl, List.forall_mem_cons.mpr ⟨fun _ _ _ _ => Nat.le_of_ble_eq_true rfl, List.forall_mem_cons.mpr ⟨fun _ _ _ _ => Nat.le_of_ble_eq_true rfl, List.forall_mem_cons.mpr ⟨fun _ _ _ _ => Nat.le_of_ble_eq_true rfl, List.forall_mem_cons.mpr ⟨fun _ _ _ _ => Nat.le_of_ble_eq_true rfl, List.forall_mem_cons.mpr ⟨fun _ _ _ _ => Nat.le_of_ble_eq_true rfl, fun _ h => absurd h List.not_mem_nil⟩⟩⟩⟩⟩⟩⟩⟩⟩⟩⟩⟩⟩⟩⟩⟩⟩⟩⟩⟩⟩⟩⟩⟩⟩⟩⟩⟩⟩⟩⟩⟩⟩⟩⟩⟩⟩⟩⟩⟩⟩⟩⟩⟩⟩⟩⟩⟩⟩⟩⟩⟩⟩⟩⟩⟩⟩⟩⟩⟩⟩⟩⟩⟩⟩⟩⟩⟩⟩⟩⟩⟩⟩⟩⟩⟩⟩⟩⟩⟩⟩⟩⟩⟩⟩⟩⟩⟩⟩⟩⟩⟩⟩⟩⟩⟩⟩⟩⟩⟩⟩⟩⟩⟩⟩⟩⟩⟩⟩⟩⟩⟩⟩⟩⟩⟩⟩⟩⟩⟩⟩⟩⟩⟩⟩⟩
theorem kl_le2 (b : Nat) (D n : Nat → Nat) (f : Nat → Int32) (g : Nat → Int64) : aCz (kl b D n f g) ≤ 2000 := by
  unfold kl
  split
  · rename_i c hc
    exact kl_le c (List.mem_of_getElem? hc) D n f g
  · decide
theorem sz_map {g : Nat → aC} (h : ∀ b, aCz (g b) ≤ 2000) : ∀ l : List Nat, aSz (l.map g) ≤ 2000 * l.length := by
  intro l
  induction l with
  | nil => exact Nat.le_refl _
  | cons b l ih =>
    show aCz (g b) + aSz (l.map g) ≤ 2000 * (l.length + 1)
    have := h b
    omega
theorem sz_app (σ τ : aH) : aSz (σ ++ τ) = aSz σ + aSz τ := by
  unfold aSz
  rw [List.map_append, List.sum_append]
theorem sz_rep : ∀ x : Nat, aSz (List.replicate x aXc) = 6 * x := by
  intro x
  induction x with
  | zero => rfl
  | succ x ih =>
    rw [List.replicate_succ]
    show aCz aXc + aSz (List.replicate x aXc) = _
    rw [ih]
    show 6 + 6 * x = _
    omega
theorem hp_sz {D : Nat → Nat} {N : Nat → Nat → Nat} {I : Nat → Nat → Int32} {J : Nat → Nat → Int64} {x : Nat} : aSz (hp D N I J x) ≤ 252000 + 6 * x := by
  unfold hp
  rw [sz_app, sz_rep]
  have := sz_map (g := fun b => kl b D (N b) (I b) (J b)) (fun b => kl_le2 b _ _ _ _) (List.range nC)
  rw [List.length_range] at this
  have e : nC = 126 := rfl
  omega
set_option maxRecDepth 8000 in
theorem aMe_140 : (aMe 140).2.2.1 = code ∧ (aMe 140).2.2.2.1 = 8 ∧ aNm (aMe 140).1 = R_law ∧ aRt 140 = ret ∧ ¬ (aMe 140).2.2.2.2.2.1 = 2 ∧ aRk 140 ≤ 9 := ⟨rfl, rfl, rfl, rfl, by decide, by decide⟩
theorem w_run {p : Program} {e : Env} {s : State} {m : MethodId} {below : List Frame} {meth : Method} {c : Code} (l : Launch) {a L : Nat} {xs : Nat → Int32} (hL : L ≤ 2560) (C0 : lw_At p s m meth c a L xs) (hfl : l.stackTraces = false) {κ : Nat → Nat} {dC : Nat → ClassId} {dI : Nat → Nat → Nat} {cA : FieldType → ClassId} {ko : aKo} (hκ : κ 0 = a) (hKn : aKn dC dI cA s) (hKc : aKc s.heap.size κ ko s s.heap) (hK : ∀ (U : State) (H : Heap), aKc s.heap.size κ ko U H → ∀ i, ¬ i < 2 → aTxs s.heap.size κ ko i U H) (hkT : koT ko) (hkF : koF ko) (h0 : ko 0 = (.int, L, xs)) : W p l e room_1 s m #[Value.ref a] below meth c s.heap [] 0 0 (lw_Z below #[Value.ref a] s) (entryFrame m ([Value.ref a] : List Value).toArray 8) := by
  obtain ⟨hx, hb, hr, hml, hown, hts, hX, hbl, hlocks, hgv⟩ := id C0
  obtain ⟨n, σE, hrun, D, N, I, J, x, hσ, hx5⟩ := w_140 hkT hkF h0 hL
  obtain ⟨m1, m2, m3, m4, m5, m6⟩ := aMe_140
  rw [lg_entry_eq]
  have hlc := aLc_entry (b := s.heap.size) (κ := κ) (As := [.retAddr 0]) (n := 8) (Nat.le_of_ble_eq_true rfl)
  have ec : ([.retAddr 0] : List Value).map (cV s.heap.size κ) = [.ref a] := by
    show [Value.ref (κ 0)] = _
    rw [hκ]
  rw [ec] at hlc
  generalize (lg_sl [.ref a] ++ List.replicate (8 - (lg_sl [.ref a]).length) Slot.unset).toArray = Ls at hlc ⊢
  have hC : aCx p s m #[Value.ref a] meth c 140 s.heap.size κ dC dI cA ko := ⟨hx, by rw [m1]; exact hb, by rw [m2]; exact hml, by rw [m3]; exact hown, fun w hw => hts w (List.mem_filter.mp hw).1, by rw [m4]; exact hr, hlocks, fun h => absurd h m5, hKn, hKc, Nat.le_refl _⟩
  have hpn : aPn s s.heap.size κ dC dI cA [] s.heap [] := ⟨fun k q h => by simp [aWs] at h, va_S.rf, fun k ty x h => by simp at h⟩
  have hlen : σE.length = 126 + x := by rw [hσ, hp_len]; rfl
  have hsz : aSz σE ≤ 252000 + 6 * x := by rw [hσ]; exact hp_sz
  refine aRun_ok (aPrim_ok (aText_ok hK)) (aThr_ok hfl) aHelp_ok n 100 140 (aP.1 8960) [.retAddr 0, aJk, aJk, aJk, aJk, aJk, aJk, aJk] [] [] (.inl (some (.int 1))) σE hrun (Or.inr rfl) p e room_1 s m #[Value.ref a] below meth c (lw_Z below #[Value.ref a] s) 0 Ls s.heap [] 0 0 σE.length (aSz σE) hC (aCk_lab ack_law (aAt_entry ack_law)) hpn rfl ?_ ?_ ?_ (by simp) (by simp [aSz]) ?_ ?_ ?_
  · rw [m2]
    exact hlc
  · show 100 * 10 + aRk 140 + 11 ≤ 2048
    omega
  · show 40 * (100 * 10 + aRk 140 + 11) ≤ 84000
    omega
  · show σE.length ≤ 601024
    omega
  · show aSz σE ≤ 7293034
    omega
  · intro H locs Lc pc r hpn2 hdec hends
    refine va_forget (fun q hq => hpn2.2.1.2.2 q hq) ?_
    refine W.widen (k := 601024) (n := 7293034) (by omega) (by omega) ?_
    rw [m1] at hdec
    rcases hends with ⟨_, h, _⟩ | ⟨rfl, _⟩ | ⟨_, x, h, _⟩
    · cases h
    · exact lw_ret hx hb hr hlocks hdec
    · cases h
