/-! ONE INSTRUCTION that goes on to the next one: what the abstract machine does, the machine does. The bullets: by wip/whole/gen8.py. -/
section AST
variable {p : Program} {l : Launch} {e : Env} {R : Room} {s : State} {m : MethodId} {args : Array Value} {below : List Frame} {meth : Method} {c : Code} {Q : State → Prop} {b : Nat} {κ : Nat → Nat} {dC : Nat → ClassId} {dI : Nat → Nat → Nat} {cA : FieldType → ClassId} {ko : aKo} {k : Nat}
/-- the words behind the JDK's own, as a row of the machine: what is still to be shown of texts and of copies of constants is taken here as a hypothesis -/
def aPrimR (p : Program) (l : Launch) (e : Env) (R : Room) (s : State) (m : MethodId) (args : Array Value) (below : List Frame) (meth : Method) (c : Code) (Q : State → Prop) (k b : Nat) (κ : Nat → Nat) (dC : Nat → ClassId) (dI : Nat → Nat → Nat) (cA : FieldType → ClassId) (ko : aKo) : Prop :=
  ∀ (pc x j : Nat) (r : Instr) (L : Array Slot) (ls st st' : List Value) (σ σ' : aH) (H : Heap) (locs : List Loc) (cells slots : Nat),
    decode (aMe k).2.2.1 pc = .ok (r, 3) → ((r = .invokestatic x ∧ (j = 1 ∨ j = 5 ∨ j = 6)) ∨ (r = .invokevirtual x ∧ (j = 2 ∨ j = 3 ∨ j = 4)) ∨ (r = .invokespecial x ∧ j = 0)) → aHas aPl (aMe k).1 x j = true → aCat st ≤ 16 → aPrim ko j st σ = some (st', σ') → aPn s b κ dC dI cA σ H locs → aLc b κ ls L (aMe k).2.2.2.1 → cells ≤ R.cells ∧ slots ≤ R.slots →
    (∀ (H' : Heap) (locs' : List Loc), aPn s b κ dC dI cA σ' H' locs' → W p l e R s m args below meth c H' locs' cells slots Q (F0 m (pc + 3) L (st'.map (cV b κ)))) →
    W p l e R s m args below meth c H locs cells slots Q (F0 m pc L (st.map (cV b κ)))
/-- constants' links: a text, a static array -/
theorem aKs_w {o x j : Nat} (h : aHas aKs o x j = true) : ∃ t : String × Nat × Nat × String, aTx[j - 2]? = some t ∧ 2 ≤ j ∧ t.1 = aNm o ∧ t.2.1 = x := by
  have h0 : (List.range aOwn.length).all (fun o => (aKs.getD o []).all (fun e => match aTx[e.2.1 - 2]? with
    | some t => decide (2 ≤ e.2.1) && decide (t.1 = aNm o) && decide (t.2.1 = e.1)
    | none => false)) = true := by decide +kernel
  obtain ⟨e, rfl, rfl, h1⟩ := aHas_ok rfl h0 h
  cases ht : aTx[e.2.1 - 2]? with
  | none => rw [ht] at h1; cases h1
  | some t =>
    rw [ht] at h1
    simp only [Bool.and_eq_true, decide_eq_true_eq] at h1
    exact ⟨t, rfl, h1.1.1, h1.1.2, h1.2⟩
theorem aFit_ok {ty : FieldType} {v : Value} {t : Nat} (ht : aTg ty = t) (h : aFit t v = true) : narrow ty (cV b κ v) = cV b κ v ∧ fits ty (cV b κ v) = true := by
  subst ht
  cases ty <;> cases v <;> first | (exact ⟨rfl, rfl⟩) | (cases h) | skip
  all_goals
    simp only [aFit, aTg, Bool.or_eq_true, Bool.and_eq_true, beq_iff_eq] at h
    rcases h with h | ⟨-, h | h⟩
    · cases h
    · subst h; exact ⟨rfl, rfl⟩
    · subst h; exact ⟨rfl, rfl⟩
theorem aW_ldcwS {own tx : String} {index q pc : Nat} {L : Array Slot} {rest : List Value} {H : Heap} {locs : List Loc} {cells slots : Nat} {cc : ByteArray} (hexec : p.tables.exec = Jvm.exec) (hb : c.code = cc) (hown : s.vm.findClass own = some m.cls) (hZ : vk_R own index tx q s) (hdg : decode cc pc = .ok (.ldc_w index, 3))
    (kk : W p l e R s m args below meth c H locs cells slots Q (F0 m (pc + 3) L (.ref q :: rest))) : W p l e R s m args below meth c H locs cells slots Q (F0 m pc L rest) := by
  intro T hT X
  obtain ⟨t9, a9, b9⟩ := kk T hT X
  refine ⟨t9, ?_, b9⟩
  obtain ⟨k, cf, i, a', hk, hcf, hcp, -, hr, hev'⟩ := Cond.stringRef_spec hown hZ.1
  cases hZ.2.symm.trans hev'
  obtain ⟨k', hk', he⟩ := X.warmed.alike.2.2 _ _ hk
  have hr' : k'.resolved[index]? = some (some (.string q)) := by
    rcases X.warmed.entry hk hk' index with h | ⟨h, -⟩
    · rw [h]; exact hr
    · rw [hr] at h; cases h
  subst hb
  jvm_step X.here [hexec, hdg, ldc_w.wp_string (e := e) (s := T) (f := F0 m pc L rest) X.here.top hk' (by rw [he]; exact hcf) hcp hr']
  exact a9
theorem aPrim_len {ko : aKo} {j : Nat} {st st' : List Value} {σ σ' : aH} (h : aPrim ko j st σ = some (st', σ')) : σ'.length = σ.length := by
  unfold aPrim at h
  split at h <;> (try cases h) <;> split at h <;> (try cases h) <;> (try rfl)
  all_goals (split at h <;> (try cases h) <;> (try rfl))
  all_goals (split at h <;> (try cases h) <;> (try rfl))
  all_goals (first | rw [List.length_set] | cases h)
theorem aPrim_sz {ko : aKo} {j : Nat} {st st' : List Value} {σ σ' : aH} (h : aPrim ko j st σ = some (st', σ')) : aSz σ' = aSz σ := by
  unfold aPrim at h
  split at h <;> (try cases h) <;> split at h <;> (try cases h) <;> (try rfl)
  all_goals (split at h <;> (try cases h) <;> (try rfl))
  all_goals (split at h <;> (try cases h) <;> (try rfl))
  all_goals (first | (rename_i h7 _; refine aSz_set h7 ?_; rfl) | (rename_i h7 _ _; refine aSz_set h7 ?_; rfl) | cases h)
theorem cV_def (t : FieldType) : cV b κ (defaultValue t) = defaultValue t := by cases t <;> rfl
set_option maxRecDepth 100000 in
theorem aArrW : ∀ t : FieldType, t = .int ∨ t = .long ∨ t = .char ∨ t = .boolean → Jvm.Cond.arrayClass t ∈ lw_tbl := by
  intro t h
  rcases h with rfl | rfl | rfl | rfl
  · exact by decide +kernel
  · exact by decide +kernel
  · exact by decide +kernel
  · exact by decide +kernel
/-- a new cell behind all that are there -/
theorem aPn_app {σ : aH} {H H1 : Heap} {locs : List Loc} {c1 : aC} (hpt : aPn s b κ dC dI cA σ H locs) (hsz : H.size = b + σ.length) (z1 : H1.size = H.size + 1) (o1 : ∀ q, q < H.size → H1[q]? = H[q]?) (hat : va_at (dC, dI) aCls (b + σ.length, cE b κ cA c1) H1) (ht : ∀ ty x, c1 = .inl (ty, x) → ty ∈ aTys) : aPn s b κ dC dI cA (σ ++ [c1]) H1 locs := by
  obtain ⟨hP, hS, hT0⟩ := hpt
  refine ⟨?_, ⟨Nat.le_trans hS.1 (by omega), fun q h1 h2 => (o1 q (Nat.lt_of_lt_of_le h1 hS.1)).trans (hS.2.1 q h1 h2), hS.2.2⟩, aTyd_app hT0 ht⟩
  rw [aWs_app]
  refine (hP.kept (fun k x hx => o1 x.1 ((hP k x hx).lt))).app (fun k x hx => ?_)
  have hz : k < 1 := (List.getElem?_eq_some_iff.mp hx).1
  rw [show k = 0 by omega] at hx
  cases hx
  exact hat
theorem aW_new {σ : aH} {H : Heap} {locs : List Loc} {cells slots ci x pc : Nat} {cc : ByteArray} {own : String} {L : Array Slot} {rest : List Value} (hx : p.tables.exec = Jvm.exec) (hb : c.code = cc) (hown : s.vm.findClass own = some m.cls) (hts : ∀ w ∈ aTB, w.before args s = true) (hKn : aKn dC dI cA s) (hbs : b ≤ s.heap.size) (hpt : aPn s b κ dC dI cA σ H locs) (hcz : s.heap.size + cells = b + σ.length) (hci : ci < aNc) (hl : (Jvm.Cond.classLink own x (aCi ci).1).before args s = true)
    (hR1 : cells + 1 ≤ R.cells) (hR2 : slots + aCz (.inr (ci, (aP.2.2 ci).2.map defaultValue)) ≤ R.slots) (hd : decode cc pc = .ok (.new x, 3))
    (kk : ∀ H' : Heap, aPn s b κ dC dI cA (σ ++ [.inr (ci, (aP.2.2 ci).2.map defaultValue)]) H' locs → W p l e R s m args below meth c H' locs (cells + 1) (slots + aCz (.inr (ci, (aP.2.2 ci).2.map defaultValue))) Q (F0 m (pc + 3) L (.ref (b + σ.length) :: rest))) : W p l e R s m args below meth c H locs cells slots Q (F0 m pc L rest) := by
  obtain ⟨k1, k2, k3, k4, k5, k6, k7, k8⟩ := aCls_ok hci
  have hz : aCz (.inr (ci, (aP.2.2 ci).2.map defaultValue)) = (aCi ci).2.2 := by
    show ((aClY.getD ci ("", [])).2.map defaultValue).length = _
    rw [List.length_map]
    exact k8
  rw [hz] at hR2 kk
  refine aW_size hbs hpt hcz (fun hsz => ?_)
  have hc := aCi_at hci
  have hU := hKn.1.1 ci _ hc
  refine W.newcK hx hb hown hl (hts _ k4) (hts _ k5) rfl hd hR1 hR2 hU.2.1 hsz fun H1 kC hkC e1 z1 o1 => ?_
  refine kk H1 (aPn_app hpt hsz (by rw [z1, hsz]) (fun q hq => o1 q (by rw [← hsz]; exact hq)) ?_ (fun ty x q => by cases q))
  refine ⟨_, hc, (u_born (aTyOf ci) hts k1 hU hkC e1 k2).to fun j hj => ?_⟩
  show defaultValue (aTyOf ci j) = vp_V (((aClY.getD ci ("", [])).2.map defaultValue).map (cV b κ)) j
  have hj2 : j < (aClY.getD ci ("", [])).2.length := by rw [k8]; exact hj
  unfold vp_V aTyOf
  simp only [List.getD_eq_getElem?_getD (l := (aClY.getD ci ("", [])).2), List.getD_eq_getElem?_getD (l := List.map (cV b κ) (List.map defaultValue (aClY.getD ci ("", [])).2)), List.getElem?_map, List.getElem?_eq_getElem hj2, Option.map_some, Option.getD_some]
  exact (cV_def _).symm
theorem aW_newa {σ : aH} {H : Heap} {locs : List Loc} {cells slots pc : Nat} {cc : ByteArray} {t : ArrayType} {n : Int32} {L : Array Slot} {rest : List Value} (hx : p.tables.exec = Jvm.exec) (hb : c.code = cc) (hts : ∀ w ∈ aTB, w.before args s = true) (hKn : aKn dC dI cA s) (hbs : b ≤ s.heap.size) (hpt : aPn s b κ dC dI cA σ H locs) (hcz : s.heap.size + cells = b + σ.length) (ht : t = .int ∨ t = .long ∨ t = .char ∨ t = .boolean) (hn : 0 ≤ n.toInt) (hn2 : n.toNatClampNeg ≤ 10000)
    (hR1 : cells + 1 ≤ R.cells) (hR2 : slots + aCz (aNew (newarray.typeOf t) n.toNatClampNeg) ≤ R.slots) (hd : decode cc pc = .ok (.newarray t, 2))
    (kk : ∀ H' : Heap, aPn s b κ dC dI cA (σ ++ [aNew (newarray.typeOf t) n.toNatClampNeg]) H' locs → W p l e R s m args below meth c H' locs (cells + 1) (slots + aCz (aNew (newarray.typeOf t) n.toNatClampNeg)) Q (F0 m (pc + 2) L (.ref (b + σ.length) :: rest))) : W p l e R s m args below meth c H locs cells slots Q (F0 m pc L (.int n :: rest)) := by
  have hty : newarray.typeOf t = .int ∨ newarray.typeOf t = .long ∨ newarray.typeOf t = .char ∨ newarray.typeOf t = .boolean := by rcases ht with rfl | rfl | rfl | rfl <;> decide
  have hz : aCz (aNew (newarray.typeOf t) n.toNatClampNeg) = n.toNatClampNeg := by rcases ht with rfl | rfl | rfl | rfl <;> rfl
  have hw : Jvm.Cond.arrayClass (newarray.typeOf t) ∈ aTB := aTB_in (aArrW _ hty) (by rcases ht with rfl | rfl | rfl | rfl <;> rfl)
  rw [hz] at hR2 kk
  have hneg : ¬ n < 0 := by
    rw [Int32.lt_iff_toInt_lt]
    have : (0 : Int32).toInt = 0 := by decide
    omega
  refine aW_size hbs hpt hcz (fun hsz => ?_)
  refine va_newaK hx hb (hts _ hw) rfl hd rfl hneg rfl (by rcases ht with rfl | rfl | rfl | rfl <;> (simp only [newarray.typeOf, componentBytes]; omega)) hR1 hR2 hsz fun H1 cA1 e1 z1 o1 hAr hNm => ?_
  have hmem : newarray.typeOf t ∈ aTys := by rcases ht with rfl | rfl | rfl | rfl <;> decide
  obtain ⟨t0, h0⟩ := aTyL_at (cA := cA) hmem
  have hcA : cA1 = cA (newarray.typeOf t) := by
    have h3 := (hKn.1.2 t0 _ h0).2
    have h4 : s.vm.findClass ("[" ++ (newarray.typeOf t).toString) = some (cA (newarray.typeOf t)) := by rcases ht with rfl | rfl | rfl | rfl <;> exact h3
    exact Option.some.inj (hNm.symm.trans h4)
  subst hcA
  refine kk H1 (aPn_app hpt hsz (by rw [z1, hsz]) (fun q hq => o1 q (by rw [← hsz]; exact hq)) ?_ ?_)
  · rcases ht with rfl | rfl | rfl | rfl <;> exact e1
  · intro ty x q
    rcases ht with rfl | rfl | rfl | rfl <;> (cases q; decide)
theorem aW_newq {σ : aH} {H : Heap} {locs : List Loc} {cells slots pc x : Nat} {cc : ByteArray} {n : Int32} {own : String} {L : Array Slot} {rest : List Value} (hx : p.tables.exec = Jvm.exec) (hb : c.code = cc) (hown : s.vm.findClass own = some m.cls) (hKn : aKn dC dI cA s) (hbs : b ≤ s.heap.size) (hpt : aPn s b κ dC dI cA σ H locs) (hcz : s.heap.size + cells = b + σ.length) (hl : (Jvm.Cond.classLink own x "RiverThinksAgain$State").before args s = true) (hn : 0 ≤ n.toInt) (hn2 : n.toNatClampNeg ≤ 10000)
    (hR1 : cells + 1 ≤ R.cells) (hR2 : slots + aCz (aNew (.object "RiverThinksAgain$State") n.toNatClampNeg) ≤ R.slots) (hd : decode cc pc = .ok (.anewarray x, 3))
    (kk : ∀ H' : Heap, aPn s b κ dC dI cA (σ ++ [aNew (.object "RiverThinksAgain$State") n.toNatClampNeg]) H' locs → W p l e R s m args below meth c H' locs (cells + 1) (slots + aCz (aNew (.object "RiverThinksAgain$State") n.toNatClampNeg)) Q (F0 m (pc + 3) L (.ref (b + σ.length) :: rest))) : W p l e R s m args below meth c H locs cells slots Q (F0 m pc L (.int n :: rest)) := by
  have hneg : ¬ n < 0 := by
    rw [Int32.lt_iff_toInt_lt]
    have : (0 : Int32).toInt = 0 := by decide
    omega
  refine aW_size hbs hpt hcz (fun hsz => ?_)
  refine W.anew hx hb hown hl (va_AO.use hKn.2.2) rfl hd rfl hneg (by omega) hR1 hR2 fun cA1 kA comp f1 f2 f3 f4 => ?_
  obtain ⟨t0, h0⟩ := aTyL_at (cA := cA) (ty := .object "RiverThinksAgain$State") (by decide)
  have hcA : cA1 = cA (.object "RiverThinksAgain$State") := by
    obtain ⟨_, _, _, _, _, h4⟩ := (hKn.1.2 t0 _ h0).2
    exact Option.some.inj (f1.symm.trans h4)
  subst hcA
  generalize hH1 : H.push ({ cls := cA (.object "RiverThinksAgain$State"), slots := Array.replicate n.toNatClampNeg .null, vm := .none } : Cell) = H1
  have z1 : H1.size = H.size + 1 := by rw [← hH1, Array.size_push]
  have e1 : H1[H.size]? = some (arrV (cA (.object "RiverThinksAgain$State")) n.toNatClampNeg (fun _ => .null)) := by rw [← hH1, Array.getElem?_push_size, ← arrV_new]
  have o1 : ∀ q : Nat, q < H.size → H1[q]? = H[q]? := fun q hq => by rw [← hH1, Array.getElem?_push, if_neg (Nat.ne_of_lt hq)]
  rw [hsz] at e1 ⊢
  exact kk H1 (aPn_app hpt hsz z1 o1 e1 (fun ty x q => by cases q; decide))
set_option maxHeartbeats 4000000 in
set_option maxRecDepth 100000 in
theorem aStep_ok (C : aCx p s m args meth c k b κ dC dI cA ko) (hPr : aPrimR p l e R s m args below meth c Q k b κ dC dI cA ko) {pc len : Nat} {r i : Instr} {L : Array Slot} {ls st ls' st' : List Value} {σ σ' : aH} {H : Heap} {locs : List Loc} {cells slots : Nat}
    (hd : decode (aMe k).2.2.1 pc = .ok (r, len)) (hok : aOk (aMe k).1 k pc len r i = true) (hs : aStep aP ko i ls st σ = some (ls', st', σ'))
    (hpt : aPn s b κ dC dI cA σ H locs) (hcz : s.heap.size + cells = b + σ.length) (hlc : aLc b κ ls L (aMe k).2.2.2.1) (hR1 : ∀ n, σ'.length = σ.length + n → cells + n ≤ R.cells) (hR2 : ∀ n, aSz σ' = aSz σ + n → slots + n ≤ R.slots)
    (kk : ∀ (H' : Heap) (locs' : List Loc) (L' : Array Slot) (cells' slots' : Nat), aPn s b κ dC dI cA σ' H' locs' → aLc b κ ls' L' (aMe k).2.2.2.1 → cells' + σ.length = cells + σ'.length → slots' + aSz σ = slots + aSz σ' → W p l e R s m args below meth c H' locs' cells' slots' Q (F0 m (pc + len) L' (st'.map (cV b κ)))) :
    W p l e R s m args below meth c H locs cells slots Q (F0 m pc L (st.map (cV b κ))) := by
  obtain ⟨hx, hb, hml, hown, hts, hret, hlocks, hinit, hKn, hKc, hbs⟩ := C
  have hK := hKn.1
  have hD : va_D (aUp b) (aWs b κ cA σ) := aWs_D
  obtain ⟨hP, hS, hT0⟩ := hpt
  unfold aOk at hok
  split at hok
  · simp only [Bool.and_eq_true, decide_eq_true_eq, beq_iff_eq] at hok
    obtain ⟨rfl, rfl⟩ := hok
    cases hs
    exact lv_iconst hx hb hd rfl (kk H locs L cells slots ⟨hP, hS, hT0⟩ hlc rfl rfl)
  · simp only [Bool.and_eq_true, decide_eq_true_eq, beq_iff_eq] at hok
    obtain ⟨h1, rfl⟩ := hok
    cases hs
    exact lv_bipush hx hb hd h1 (kk H locs L cells slots ⟨hP, hS, hT0⟩ hlc rfl rfl)
  · simp only [Bool.and_eq_true, decide_eq_true_eq, beq_iff_eq] at hok
    obtain ⟨h1, rfl⟩ := hok
    cases hs
    exact lv_sipush hx hb hd h1 (kk H locs L cells slots ⟨hP, hS, hT0⟩ hlc rfl rfl)
  · simp only [Bool.and_eq_true, beq_iff_eq] at hok
    obtain ⟨h1, rfl⟩ := hok
    cases hs
    exact lv_ldc hx hb hown (hts _ (aKi_w h1)) hd (kk H locs L cells slots ⟨hP, hS, hT0⟩ hlc rfl rfl)
  · simp only [Bool.and_eq_true, beq_iff_eq] at hok
    obtain ⟨h1, rfl⟩ := hok
    cases hs
    exact lv_ldcw hx hb hown (hts _ (aKi_w h1)) hd (kk H locs L cells slots ⟨hP, hS, hT0⟩ hlc rfl rfl)
  · simp only [Bool.and_eq_true, decide_eq_true_eq, beq_iff_eq] at hok
    obtain ⟨h1, rfl⟩ := hok
    cases hs
    exact lv_lconst hx hb hd h1 (kk H locs L cells slots ⟨hP, hS, hT0⟩ hlc rfl rfl)
  · simp only [Bool.and_eq_true, beq_iff_eq] at hok
    obtain ⟨h1, rfl⟩ := hok
    cases hs
    exact lv_ldc2 hx hb hown (hts _ (aKl_w h1)) hd (kk H locs L cells slots ⟨hP, hS, hT0⟩ hlc rfl rfl)
  · simp only [Bool.and_eq_true, beq_iff_eq] at hok
    obtain ⟨h1, rfl⟩ := hok
    cases hs
    obtain ⟨t, ht, h2, h3, h4⟩ := aKs_w h1
    have h5 := (hKc.2.2.2.2 _ t ht).1
    rw [h3, h4, Nat.sub_add_cancel h2] at h5
    exact va_ldcS hx hb hown h5 hd (kk H locs L cells slots ⟨hP, hS, hT0⟩ hlc rfl rfl)
  · simp only [Bool.and_eq_true, beq_iff_eq] at hok
    obtain ⟨h1, rfl⟩ := hok
    cases hs
    obtain ⟨t, ht, h2, h3, h4⟩ := aKs_w h1
    have h5 := (hKc.2.2.2.2 _ t ht).1
    rw [h3, h4, Nat.sub_add_cancel h2] at h5
    exact aW_ldcwS hx hb hown h5 hd (kk H locs L cells slots ⟨hP, hS, hT0⟩ hlc rfl rfl)
  · simp only [Bool.and_eq_true, beq_iff_eq] at hok
    obtain ⟨h1, rfl⟩ := hok
    cases hs
    unfold aHasS at h1
    simp only [Bool.and_eq_true, beq_iff_eq] at h1
    obtain ⟨rfl, h1⟩ := h1
    exact aW_static hx hb hown hts hKn hKc hS h1 hd (kk H locs L cells slots ⟨hP, hS, hT0⟩ hlc rfl rfl)
  · simp only [Bool.and_eq_true, beq_iff_eq] at hok
    obtain ⟨rfl, rfl⟩ := hok
    simp only [aStep] at hs
    split at hs
    · rename_i h9
      cases hs
      exact lv_iload hx hb hd (aLc_get hlc h9 rfl) (kk H locs L cells slots ⟨hP, hS, hT0⟩ hlc rfl rfl)
    · cases hs
  · simp only [Bool.and_eq_true, beq_iff_eq] at hok
    obtain ⟨h0, rfl⟩ := hok
    simp only [aStep] at hs
    split at hs
    · rename_i h9
      cases hs
      exact lv_iload_n hx hb hd h0 (aLc_get hlc h9 rfl) (kk H locs L cells slots ⟨hP, hS, hT0⟩ hlc rfl rfl)
    · cases hs
  · simp only [Bool.and_eq_true, beq_iff_eq] at hok
    obtain ⟨rfl, rfl⟩ := hok
    simp only [aStep] at hs
    split at hs
    · rename_i h9
      cases hs
      exact lv_lload hx hb hd (aLc_get hlc h9 rfl) (kk H locs L cells slots ⟨hP, hS, hT0⟩ hlc rfl rfl)
    · cases hs
  · simp only [Bool.and_eq_true, beq_iff_eq] at hok
    obtain ⟨h0, rfl⟩ := hok
    simp only [aStep] at hs
    split at hs
    · rename_i h9
      cases hs
      exact lv_lload_n hx hb hd h0 (aLc_get hlc h9 rfl) (kk H locs L cells slots ⟨hP, hS, hT0⟩ hlc rfl rfl)
    · cases hs
  · simp only [Bool.and_eq_true, beq_iff_eq] at hok
    obtain ⟨rfl, rfl⟩ := hok
    simp only [aStep] at hs
    split at hs
    · rename_i h9
      cases hs
      exact lv_aload hx hb hd (aLc_get hlc h9 rfl) (kk H locs L cells slots ⟨hP, hS, hT0⟩ hlc rfl rfl)
    · rename_i h9
      cases hs
      exact lv_aload hx hb hd (aLc_get hlc h9 rfl) (kk H locs L cells slots ⟨hP, hS, hT0⟩ hlc rfl rfl)
    · cases hs
  · simp only [Bool.and_eq_true, beq_iff_eq] at hok
    obtain ⟨h0, rfl⟩ := hok
    simp only [aStep] at hs
    split at hs
    · rename_i h9
      cases hs
      exact lv_aload_n hx hb hd h0 (aLc_get hlc h9 rfl) (kk H locs L cells slots ⟨hP, hS, hT0⟩ hlc rfl rfl)
    · rename_i h9
      cases hs
      exact lv_aload_n hx hb hd h0 (aLc_get hlc h9 rfl) (kk H locs L cells slots ⟨hP, hS, hT0⟩ hlc rfl rfl)
    · cases hs
  · simp only [Bool.and_eq_true, beq_iff_eq] at hok
    obtain ⟨rfl, rfl⟩ := hok
    simp only [aStep] at hs
    split at hs
    · split at hs
      · rename_i h9
        cases hs
        exact lv_istore hx hb hd (aLc_has hlc) (by rw [← hlc.2.2.1]; exact h9) rfl (fun L' hl' => kk H locs L' cells slots ⟨hP, hS, hT0⟩ (aLc_set hlc h9 hl') rfl rfl)
      · cases hs
    · cases hs
  · simp only [Bool.and_eq_true, beq_iff_eq] at hok
    obtain ⟨h0, rfl⟩ := hok
    simp only [aStep] at hs
    split at hs
    · split at hs
      · rename_i h9
        cases hs
        exact lv_istore_n hx hb hd h0 (aLc_has hlc) (by rw [← hlc.2.2.1]; exact h9) rfl (fun L' hl' => kk H locs L' cells slots ⟨hP, hS, hT0⟩ (aLc_set hlc h9 hl') rfl rfl)
      · cases hs
    · cases hs
  · simp only [Bool.and_eq_true, beq_iff_eq] at hok
    obtain ⟨rfl, rfl⟩ := hok
    simp only [aStep] at hs
    split at hs
    · split at hs
      · rename_i h9
        cases hs
        exact lv_lstore hx hb hd (aLc_has hlc) (by rw [← hlc.2.2.1]; exact h9) rfl (fun L' hl' => kk H locs L' cells slots ⟨hP, hS, hT0⟩ (aLc_setL hlc h9 hl') rfl rfl)
      · cases hs
    · cases hs
  · simp only [Bool.and_eq_true, beq_iff_eq] at hok
    obtain ⟨h0, rfl⟩ := hok
    simp only [aStep] at hs
    split at hs
    · split at hs
      · rename_i h9
        cases hs
        exact lv_lstore_n hx hb hd h0 (aLc_has hlc) (by rw [← hlc.2.2.1]; exact h9) rfl (fun L' hl' => kk H locs L' cells slots ⟨hP, hS, hT0⟩ (aLc_setL hlc h9 hl') rfl rfl)
      · cases hs
    · cases hs
  · simp only [Bool.and_eq_true, beq_iff_eq] at hok
    obtain ⟨rfl, rfl⟩ := hok
    simp only [aStep] at hs
    split at hs
    · split at hs
      · rename_i h9
        cases hs
        exact lv_astore hx hb hd (aLc_has hlc) (by rw [← hlc.2.2.1]; exact h9) rfl (fun L' hl' => kk H locs L' cells slots ⟨hP, hS, hT0⟩ (aLc_set hlc h9 hl') rfl rfl)
      · cases hs
    · cases hs
  · simp only [Bool.and_eq_true, beq_iff_eq] at hok
    obtain ⟨h0, rfl⟩ := hok
    simp only [aStep] at hs
    split at hs
    · split at hs
      · rename_i h9
        cases hs
        exact lv_astore_n hx hb hd h0 (aLc_has hlc) (by rw [← hlc.2.2.1]; exact h9) rfl (fun L' hl' => kk H locs L' cells slots ⟨hP, hS, hT0⟩ (aLc_set hlc h9 hl') rfl rfl)
      · cases hs
    · cases hs
  · simp only [Bool.and_eq_true, decide_eq_true_eq, beq_iff_eq] at hok
    obtain ⟨⟨rfl, rfl⟩, rfl⟩ := hok
    simp only [aStep] at hs
    split at hs
    · rename_i h9
      cases hs
      obtain ⟨j, hj⟩ := List.getElem?_of_mem (aAs_mem (b := b) (κ := κ) h9 rfl)
      have h8 := (List.getElem?_eq_some_iff.mp h9).1
      exact lv_iinc hx hb hd (aLc_has hlc) (k := j) hj rfl (by rw [← hlc.2.2.1]; exact h8) rfl (fun L' hl' => kk H locs L' cells slots ⟨hP, hS, hT0⟩ (aLc_set hlc h8 hl') rfl rfl)
    · cases hs
  · obtain rfl : len = 1 := by simpa using hok
    simp only [aStep] at hs
    split at hs
    · cases hs
      exact lv_iadd hx hb hd (kk H locs L cells slots ⟨hP, hS, hT0⟩ hlc rfl rfl)
    · cases hs
  · obtain rfl : len = 1 := by simpa using hok
    simp only [aStep] at hs
    split at hs
    · cases hs
      exact lv_isub hx hb hd (kk H locs L cells slots ⟨hP, hS, hT0⟩ hlc rfl rfl)
    · cases hs
  · obtain rfl : len = 1 := by simpa using hok
    simp only [aStep] at hs
    split at hs
    · cases hs
      exact lv_imul hx hb hd (kk H locs L cells slots ⟨hP, hS, hT0⟩ hlc rfl rfl)
    · cases hs
  · obtain rfl : len = 1 := by simpa using hok
    simp only [aStep] at hs
    split at hs
    · cases hs
      exact lv_iand hx hb hd (kk H locs L cells slots ⟨hP, hS, hT0⟩ hlc rfl rfl)
    · cases hs
  · obtain rfl : len = 1 := by simpa using hok
    simp only [aStep] at hs
    split at hs
    · cases hs
      exact lv_ior hx hb hd (kk H locs L cells slots ⟨hP, hS, hT0⟩ hlc rfl rfl)
    · cases hs
  · obtain rfl : len = 1 := by simpa using hok
    simp only [aStep] at hs
    split at hs
    · cases hs
      exact lv_ixor hx hb hd (kk H locs L cells slots ⟨hP, hS, hT0⟩ hlc rfl rfl)
    · cases hs
  · obtain rfl : len = 1 := by simpa using hok
    simp only [aStep] at hs
    split at hs
    · split at hs
      · cases hs
      · rename_i h9
        cases hs
        exact lv_idiv hx hb hd h9 (kk H locs L cells slots ⟨hP, hS, hT0⟩ hlc rfl rfl)
    · cases hs
  · obtain rfl : len = 1 := by simpa using hok
    simp only [aStep] at hs
    split at hs
    · split at hs
      · cases hs
      · rename_i h9
        cases hs
        exact lv_irem hx hb hd h9 (kk H locs L cells slots ⟨hP, hS, hT0⟩ hlc rfl rfl)
    · cases hs
  · obtain rfl : len = 1 := by simpa using hok
    simp only [aStep] at hs
    split at hs
    · cases hs
      exact lv_ineg hx hb hd (kk H locs L cells slots ⟨hP, hS, hT0⟩ hlc rfl rfl)
    · cases hs
  · obtain rfl : len = 1 := by simpa using hok
    simp only [aStep] at hs
    split at hs
    · cases hs
      exact lv_ishl hx hb hd (kk H locs L cells slots ⟨hP, hS, hT0⟩ hlc rfl rfl)
    · cases hs
  · obtain rfl : len = 1 := by simpa using hok
    simp only [aStep] at hs
    split at hs
    · cases hs
      exact lv_ishr hx hb hd (kk H locs L cells slots ⟨hP, hS, hT0⟩ hlc rfl rfl)
    · cases hs
  · obtain rfl : len = 1 := by simpa using hok
    simp only [aStep] at hs
    split at hs
    · cases hs
      exact lv_iushr hx hb hd rfl (kk H locs L cells slots ⟨hP, hS, hT0⟩ hlc rfl rfl)
    · cases hs
  · obtain rfl : len = 1 := by simpa using hok
    simp only [aStep] at hs
    split at hs
    · cases hs
      exact lv_ladd hx hb hd (kk H locs L cells slots ⟨hP, hS, hT0⟩ hlc rfl rfl)
    · cases hs
  · obtain rfl : len = 1 := by simpa using hok
    simp only [aStep] at hs
    split at hs
    · cases hs
      exact lv_lsub hx hb hd (kk H locs L cells slots ⟨hP, hS, hT0⟩ hlc rfl rfl)
    · cases hs
  · obtain rfl : len = 1 := by simpa using hok
    simp only [aStep] at hs
    split at hs
    · cases hs
      exact lv_lmul hx hb hd (kk H locs L cells slots ⟨hP, hS, hT0⟩ hlc rfl rfl)
    · cases hs
  · obtain rfl : len = 1 := by simpa using hok
    simp only [aStep] at hs
    split at hs
    · cases hs
      exact lv_land hx hb hd (kk H locs L cells slots ⟨hP, hS, hT0⟩ hlc rfl rfl)
    · cases hs
  · obtain rfl : len = 1 := by simpa using hok
    simp only [aStep] at hs
    split at hs
    · cases hs
      exact lv_lor hx hb hd (kk H locs L cells slots ⟨hP, hS, hT0⟩ hlc rfl rfl)
    · cases hs
  · obtain rfl : len = 1 := by simpa using hok
    simp only [aStep] at hs
    split at hs
    · cases hs
      exact lv_lxor hx hb hd (kk H locs L cells slots ⟨hP, hS, hT0⟩ hlc rfl rfl)
    · cases hs
  · obtain rfl : len = 1 := by simpa using hok
    simp only [aStep] at hs
    split at hs
    · split at hs
      · cases hs
      · rename_i h9
        cases hs
        exact lv_ldiv hx hb hd h9 (kk H locs L cells slots ⟨hP, hS, hT0⟩ hlc rfl rfl)
    · cases hs
  · obtain rfl : len = 1 := by simpa using hok
    simp only [aStep] at hs
    split at hs
    · split at hs
      · cases hs
      · rename_i h9
        cases hs
        exact lv_lrem hx hb hd h9 (kk H locs L cells slots ⟨hP, hS, hT0⟩ hlc rfl rfl)
    · cases hs
  · obtain rfl : len = 1 := by simpa using hok
    simp only [aStep] at hs
    split at hs
    · cases hs
      exact lv_lshl hx hb hd rfl (kk H locs L cells slots ⟨hP, hS, hT0⟩ hlc rfl rfl)
    · cases hs
  · obtain rfl : len = 1 := by simpa using hok
    simp only [aStep] at hs
    split at hs
    · cases hs
      exact lv_lshr hx hb hd rfl (kk H locs L cells slots ⟨hP, hS, hT0⟩ hlc rfl rfl)
    · cases hs
  · obtain rfl : len = 1 := by simpa using hok
    simp only [aStep] at hs
    split at hs
    · cases hs
      exact lv_lushr hx hb hd rfl (kk H locs L cells slots ⟨hP, hS, hT0⟩ hlc rfl rfl)
    · cases hs
  · obtain rfl : len = 1 := by simpa using hok
    simp only [aStep] at hs
    split at hs
    · cases hs
      exact W.lcmp hx hb hd (kk H locs L cells slots ⟨hP, hS, hT0⟩ hlc rfl rfl)
    · cases hs
  · obtain rfl : len = 1 := by simpa using hok
    simp only [aStep] at hs
    split at hs
    · cases hs
      exact lv_i2l hx hb hd rfl (kk H locs L cells slots ⟨hP, hS, hT0⟩ hlc rfl rfl)
    · cases hs
  · obtain rfl : len = 1 := by simpa using hok
    simp only [aStep] at hs
    split at hs
    · cases hs
      exact lv_l2i hx hb hd rfl (kk H locs L cells slots ⟨hP, hS, hT0⟩ hlc rfl rfl)
    · cases hs
  · obtain rfl : len = 1 := by simpa using hok
    simp only [aStep] at hs
    split at hs
    · cases hs
      exact lv_i2b hx hb hd rfl (kk H locs L cells slots ⟨hP, hS, hT0⟩ hlc rfl rfl)
    · cases hs
  · obtain rfl : len = 1 := by simpa using hok
    simp only [aStep] at hs
    split at hs
    · cases hs
      exact lv_i2s hx hb hd rfl (kk H locs L cells slots ⟨hP, hS, hT0⟩ hlc rfl rfl)
    · cases hs
  · obtain rfl : len = 1 := by simpa using hok
    simp only [aStep] at hs
    split at hs
    · cases hs
      exact lv_i2c hx hb hd rfl (kk H locs L cells slots ⟨hP, hS, hT0⟩ hlc rfl rfl)
    · cases hs
  · obtain rfl : len = 1 := by simpa using hok
    simp only [aStep] at hs
    split at hs
    · cases hs
      exact lv_dup hx hb hd rfl (kk H locs L cells slots ⟨hP, hS, hT0⟩ hlc rfl rfl)
    · cases hs
      exact lv_dup hx hb hd rfl (kk H locs L cells slots ⟨hP, hS, hT0⟩ hlc rfl rfl)
    · cases hs
  · obtain rfl : len = 1 := by simpa using hok
    simp only [aStep] at hs
    split at hs
    · cases hs
      exact lv_pop hx hb hd (va := .int _) rfl (kk H locs L cells slots ⟨hP, hS, hT0⟩ hlc rfl rfl)
    · cases hs
  · obtain rfl : len = 1 := by simpa using hok
    simp only [aStep] at hs
    split at hs
    · cases hs
      exact lv_dup2_11 hx hb hd (va := .int _) (vb := .ref _) rfl rfl (kk H locs L cells slots ⟨hP, hS, hT0⟩ hlc rfl rfl)
    · cases hs
  · obtain rfl : len = 1 := by simpa using hok
    simp only [aStep] at hs
    split at hs
    · rename_i j v st0
      split at hs
      · rename_i n f h8
        split at hs
        · rename_i h9
          cases hs
          unfold aInts at h8
          split at h8
          · rename_i a
            split at h8
            · rename_i h7
              cases h8
              obtain ⟨t0, ht⟩ := aTyL_at (cA := cA) (ty := .int) (by decide)
              exact va_iald hx hb hK hP a t0 (aWs_get h7) ht (aIn_iff.mp h9) hd (kk H locs L cells slots ⟨hP, hS, hT0⟩ hlc rfl rfl)
            · cases h8
          · rename_i i0
            have h6 := Option.some.inj h8
            by_cases h5 : i0 < 2
            · obtain ⟨g1, g2, g3, g4⟩ := hKc.1 i0 h5
              rw [h6] at g3
              exact va_sld hx hb g3 (Nat.lt_of_lt_of_le g2 hbs) (Nat.not_le.mpr g2) hS (aIn_iff.mp h9) hd (kk H locs L cells slots ⟨hP, hS, hT0⟩ hlc rfl rfl)
            · have h4 := hKc.2.2.2.1 i0 h5
              rw [h6] at h4
              cases h4
          · cases h8
        · cases hs
      · cases hs
    · cases hs
  · obtain rfl : len = 1 := by simpa using hok
    simp only [aStep] at hs
    split at hs
    · rename_i j a st0
      split at hs
      · rename_i n f h7
        split at hs
        · rename_i h9
          cases hs
          obtain ⟨t0, ht⟩ := aTyL_at (cA := cA) (ty := .boolean) (by decide)
          exact va_zald hx hb hK hP a t0 (aWs_get h7) ht (aIn_iff.mp h9) hd (kk H locs L cells slots ⟨hP, hS, hT0⟩ hlc rfl rfl)
        · cases hs
      · cases hs
    · cases hs
  · obtain rfl : len = 1 := by simpa using hok
    simp only [aStep] at hs
    split at hs
    · rename_i j a st0
      split at hs
      · rename_i n f h7
        split at hs
        · rename_i h9
          cases hs
          obtain ⟨t0, ht⟩ := aTyL_at (cA := cA) (ty := .char) (by decide)
          exact va_cald hx hb hK hP a t0 (aWs_get h7) ht (aIn_iff.mp h9) hd (kk H locs L cells slots ⟨hP, hS, hT0⟩ hlc rfl rfl)
        · cases hs
      · cases hs
    · cases hs
  · obtain rfl : len = 1 := by simpa using hok
    simp only [aStep] at hs
    split at hs
    · rename_i j a st0
      split at hs
      · rename_i n f h7
        split at hs
        · rename_i h9
          cases hs
          obtain ⟨t0, ht⟩ := aTyL_at (cA := cA) (ty := .long) (by decide)
          exact va_lald hx hb hK hP a t0 (aWs_get h7) ht (aIn_iff.mp h9) hd (kk H locs L cells slots ⟨hP, hS, hT0⟩ hlc rfl rfl)
        · cases hs
      · cases hs
    · cases hs
  · obtain rfl : len = 1 := by simpa using hok
    simp only [aStep] at hs
    split at hs
    · rename_i j a st0
      split at hs
      · rename_i C0 n f h7
        split at hs
        · rename_i h9
          cases hs
          by_cases hC : C0 = "RiverThinksAgain$State"
          · subst hC
            obtain ⟨t0, ht⟩ := aTyL_at (cA := cA) (ty := .object "RiverThinksAgain$State") (by decide)
            refine va_aldq hx hb hK hP a t0 (aWs_get h7) ht (aIn_iff.mp h9) hd ?_
            have e1 : va_rf ((f j.toNatClampNeg).map (fun a => b + a)) = cV b κ (va_rf (f j.toNatClampNeg)) := by cases f j.toNatClampNeg <;> rfl
            show W p l e R s m args below meth c H locs cells slots Q (F0 m (pc + 1) L (va_rf ((f j.toNatClampNeg).map (fun a => b + a)) :: st0.map (cV b κ)))
            rw [e1]
            exact (kk H locs L cells slots ⟨hP, hS, hT0⟩ hlc rfl rfl)
          · have h5 := hT0 a _ _ h7
            simp [aTys] at h5
            exact absurd h5 hC
        · cases hs
      · cases hs
    · cases hs
  · obtain rfl : len = 1 := by simpa using hok
    simp only [aStep] at hs
    split at hs
    · rename_i x j a st0
      split at hs
      · rename_i n f h7
        split at hs
        · rename_i h9
          cases hs
          obtain ⟨t0, ht⟩ := aTyL_at (cA := cA) (ty := .int) (by decide)
          refine va_iast hx hb hK hP hD hS a t0 (aWs_get h7) ht (aIn_iff.mp h9) hd (fun H1 locs1 g1 g2 g3 => ?_)
          exact kk H1 locs1 L cells slots (aPn_set ⟨hP, hS, hT0⟩ h7 g1 g3 (fun ty x q => by cases q; exact hT0 a _ _ h7)) hlc (by rw [List.length_set]) (by refine congrArg (slots + ·) (Eq.symm (aSz_set h7 ?_)); rfl)
        · cases hs
      · cases hs
    · cases hs
  · obtain rfl : len = 1 := by simpa using hok
    simp only [aStep] at hs
    split at hs
    · rename_i x j a st0
      split at hs
      · rename_i n f h7
        split at hs
        · rename_i h9
          cases hs
          obtain ⟨t0, ht⟩ := aTyL_at (cA := cA) (ty := .boolean) (by decide)
          refine va_zast hx hb hK hP hD hS a t0 (aWs_get h7) ht (aIn_iff.mp h9) hd (fun H1 locs1 g1 g2 g3 => ?_)
          exact kk H1 locs1 L cells slots (aPn_set ⟨hP, hS, hT0⟩ h7 g1 g3 (fun ty x q => by cases q; exact hT0 a _ _ h7)) hlc (by rw [List.length_set]) (by refine congrArg (slots + ·) (Eq.symm (aSz_set h7 ?_)); rfl)
        · cases hs
      · cases hs
    · cases hs
  · obtain rfl : len = 1 := by simpa using hok
    simp only [aStep] at hs
    split at hs
    · rename_i x j a st0
      split at hs
      · rename_i n f h7
        split at hs
        · rename_i h9
          cases hs
          obtain ⟨t0, ht⟩ := aTyL_at (cA := cA) (ty := .char) (by decide)
          refine va_cast hx hb hK hP hD hS a t0 (aWs_get h7) ht (aIn_iff.mp h9) hd (fun H1 locs1 g1 g2 g3 => ?_)
          exact kk H1 locs1 L cells slots (aPn_set ⟨hP, hS, hT0⟩ h7 g1 g3 (fun ty x q => by cases q; exact hT0 a _ _ h7)) hlc (by rw [List.length_set]) (by refine congrArg (slots + ·) (Eq.symm (aSz_set h7 ?_)); rfl)
        · cases hs
      · cases hs
    · cases hs
  · obtain rfl : len = 1 := by simpa using hok
    simp only [aStep] at hs
    split at hs
    · rename_i x j a st0
      split at hs
      · rename_i n f h7
        split at hs
        · rename_i h9
          cases hs
          obtain ⟨t0, ht⟩ := aTyL_at (cA := cA) (ty := .long) (by decide)
          refine va_last hx hb hK hP hD hS a t0 (aWs_get h7) ht (aIn_iff.mp h9) hd (fun H1 locs1 g1 g2 g3 => ?_)
          exact kk H1 locs1 L cells slots (aPn_set ⟨hP, hS, hT0⟩ h7 g1 g3 (fun ty x q => by cases q; exact hT0 a _ _ h7)) hlc (by rw [List.length_set]) (by refine congrArg (slots + ·) (Eq.symm (aSz_set h7 ?_)); rfl)
        · cases hs
      · cases hs
    · cases hs
  · obtain rfl : len = 1 := by simpa using hok
    simp only [aStep] at hs
    split at hs
    · rename_i b0 j a st0
      split at hs
      · rename_i C0 n f ci vs h7 h6
        split at hs
        · rename_i h9
          cases hs
          obtain ⟨h9, hC⟩ := h9
          subst hC
          have hci : ci < aNc := by
            have q1 := aW_cls hP h6
            rcases Nat.lt_or_ge ci aNc with q | q
            · exact q
            · have q2 : ci = 13 := by have : aCls.length = 14 := rfl; have : aNc = 13 := rfl; omega
              subst q2
              have q3 := hT0 a _ _ h7
              exact absurd q3 (by decide)
          obtain ⟨t0, ht⟩ := aTyL_at (cA := cA) (ty := .object (aP.2.2 ci).1) (hT0 a _ _ h7)
          have hn : (aP.2.2 ci).1 = (aCi ci).1 := (aCls_ok hci).2.2.2.2.2.2.1
          rw [hn] at ht
          refine va_astq hx hb hK hP hD hS a t0 b0 ci (r := ((aCi ci).1, (aCi ci).2.1, (aCi ci).2.2)) (aWs_get h7) (by rw [hn]; exact ht) (aWs_get h6) (aCi_at hci) (aIn_iff.mp h9) hd (fun H1 locs1 g1 g2 g3 => ?_)
          refine kk H1 locs1 L cells slots (aPn_set (c1 := .inl (.object (aP.2.2 ci).1, n, .inr (.inr (.inr (.inr (va_up f j.toNatClampNeg (some b0)))))) ) ⟨hP, hS, hT0⟩ h7 ?_ g3 (fun ty x q => by cases q; exact hT0 a _ _ h7)) hlc (by rw [List.length_set]) (by refine congrArg (slots + ·) (Eq.symm (aSz_set h7 ?_)); rfl)
          have e1 : (fun j0 => (va_up f j.toNatClampNeg (some b0) j0).map (fun a => b + a)) = va_up (fun j0 => (f j0).map (fun a => b + a)) j.toNatClampNeg (some (b + b0)) := by
            funext q
            unfold va_up
            split <;> rfl
          show va_P (dC, dI) aCls ((aWs b κ cA σ).set a (b + a, .inl (cA (.object (aP.2.2 ci).1), n, .inr (.inr (.inr (.inr (fun j0 => (va_up f j.toNatClampNeg (some b0) j0).map (fun a => b + a)))))))) H1
          rw [e1]
          exact g1
        · cases hs
      · cases hs
    · cases hs
  · obtain rfl : len = 1 := by simpa using hok
    simp only [aStep] at hs
    split at hs
    · rename_i v st0
      split at hs
      · rename_i n h8
        cases hs
        unfold aLen at h8
        split at h8
        · rename_i a
          split at h8
          · rename_i ty n0 x0 h7
            cases h8
            obtain ⟨t0, ht⟩ := aTyL_at (cA := cA) (ty := ty) (hT0 a _ _ h7)
            exact va_alen hx hb hK hP a t0 (aWs_get h7) ht rfl hd (kk H locs L cells slots ⟨hP, hS, hT0⟩ hlc rfl rfl)
          · cases h8
        · rename_i i0
          split at h8
          · rename_i h4
            have h6 := Option.some.inj h8
            by_cases h5 : i0 < 2
            · obtain ⟨g1, g2, g3, g4⟩ := hKc.1 i0 h5
              rw [h6] at g3
              exact va_slen hx hb g3 (Nat.lt_of_lt_of_le g2 hbs) (Nat.not_le.mpr g2) hS hd (kk H locs L cells slots ⟨hP, hS, hT0⟩ hlc rfl rfl)
            · rw [hKc.2.2.2.1 i0 h5] at h4
              cases h4
          · cases h8
        · cases h8
      · cases hs
    · cases hs
  · rename_i x n
    simp only [Bool.and_eq_true, Bool.or_eq_true, beq_iff_eq] at hok
    obtain ⟨h1, rfl⟩ := hok
    simp only [aStep] at hs
    split at hs
    · rename_i a st0
      split at hs
      · rename_i ci fs h7
        split at hs
        · rename_i v h6
          split at hs
          · rename_i h5
            cases hs
            subst h5
            have h4 : (fs.map (cV b κ))[n % 64]? = some (cV b κ v) := by rw [List.getElem?_map, h6]; rfl
            rcases h1 with h1 | h1
            · obtain ⟨g1, g2, g3⟩ := aFl_w h1
              exact va_get hx hb hts (aCls_ok g2).1 hown hK hP a (aWs_get h7) (aCi_at g2) (n % 64) g1 (hts _ g3) (fun _ q => q) h4 hd (kk H locs L cells slots ⟨hP, hS, hT0⟩ hlc rfl rfl)
            · obtain ⟨g1, g2, g3⟩ := aFn_w h1
              exact va_getN hx hb hts (aCls_ok g2).1 hown hK hP a (aWs_get h7) (aCi_at g2) (n % 64) g1 (va_Nw.use rfl (hKn.2.1 _ g3 rfl)) (fun _ q => q) h4 hd (kk H locs L cells slots ⟨hP, hS, hT0⟩ hlc rfl rfl)
          · cases hs
        · cases hs
      · cases hs
    · cases hs
  · rename_i x n
    simp only [Bool.and_eq_true, beq_iff_eq] at hok
    obtain ⟨⟨⟨h1, rfl⟩, h2⟩, h3⟩ := hok
    simp only [aStep] at hs
    split at hs
    · rename_i v a st0
      split at hs
      · rename_i ci fs h7
        split at hs
        · rename_i h5
          cases hs
          obtain ⟨rfl, h5, h6⟩ := h5
          have d1 : (n / 256 * 64 + n % 64) / 64 = n / 256 := by omega
          have d2 : (n / 256 * 64 + n % 64) % 64 = n % 64 := by omega
          have hmap : (fs.map (cV b κ)).set (n % 64) (cV b κ v) = (fs.set (n % 64) v).map (cV b κ) := by rw [List.map_set]
          have hkk : ∀ (H1 : Heap) (locs1 : List Loc), va_P (dC, dI) aCls ((aWs b κ cA σ).set a (b + a, .inr (n / 256, (fs.map (cV b κ)).set (n % 64) (cV b κ v)))) H1 → va_D (aUp b) ((aWs b κ cA σ).set a (b + a, .inr (n / 256, (fs.map (cV b κ)).set (n % 64) (cV b κ v)))) → va_S (aUp b) s.heap H1 locs1 → W p l e R s m args below meth c H1 locs1 cells slots Q (F0 m (pc + 3) L (st'.map (cV b κ))) := by
            intro H1 locs1 g1 g2 g3
            rw [hmap] at g1
            exact kk H1 locs1 L cells slots (aPn_set (c1 := .inr (n / 256, fs.set (n % 64) v)) ⟨hP, hS, hT0⟩ h7 g1 g3 (fun ty x q => by cases q)) hlc (by rw [List.length_set]) (by refine congrArg (slots + ·) (Eq.symm (aSz_set h7 ?_)); simp [aCz])
          have hN2 : n % 64 < (aCi (n / 256)).2.2 ∧ n / 256 < aNc := by
            rcases Bool.or_eq_true _ _ ▸ h1 with h1 | h1
            · have := (aFl_w h1).1; rw [d1, d2] at this; exact ⟨this, by have := (aFl_w h1).2.1; rw [d1] at this; exact this⟩
            · have := (aFn_w h1).1; rw [d1, d2] at this; exact ⟨this, by have := (aFn_w h1).2.1; rw [d1] at this; exact this⟩
          obtain ⟨hN, hci⟩ := hN2
          obtain ⟨k1, k2, k3, -, -, k6, -, k8⟩ := aCls_ok hci
          obtain ⟨ty, hty, htg⟩ : ∃ ty, (aClY.getD (n / 256) ("", [])).2[n % 64]? = some ty ∧ aTg ty = n / 64 % 4 := by
            revert h2
            cases hq : (aClY.getD (n / 256) ("", [])).2[n % 64]? with
            | none => intro h2; cases h2
            | some ty => intro h2; exact ⟨ty, rfl, by simpa using h2⟩
          obtain ⟨f1, f2⟩ := aFit_ok (b := b) (κ := κ) htg h6
          have hpd : parseFieldDescriptor ((aCi (n / 256)).2.1 (n % 64)).2.2.1 = some ty := by
            rw [k2 _ hN]
            unfold aTyOf
            rw [List.getD_eq_getElem?_getD (l := (aClY.getD (n / 256) ("", [])).2), hty]
            rfl
          have hfl : n % 64 < (fs.map (cV b κ)).length := by rw [List.length_map]; exact h5
          by_cases hfin : ((aCi (n / 256)).2.1 (n % 64)).2.2.2 = true
          · rw [hfin] at h3
            simp only [Bool.not_true, Bool.false_or, Bool.and_eq_true, decide_eq_true_eq, beq_iff_eq] at h3
            obtain ⟨⟨m1, m2⟩, m3⟩ := h3
            obtain ⟨-, -, g3⟩ := aFl_w m3
            rw [d1, d2] at g3
            exact va_putF hx hb hts k1 (aTyOf (n / 256)) k2 k3 hown hK hP hD hS a (aWs_get h7) (aCi_at hci) (n % 64) hN (hts _ g3) (fun _ q => q) hfin (hinit m1) ((k6 _ hN).trans m2) hpd f1 f2 hfl hd hkk
          · have hfin : ((aCi (n / 256)).2.1 (n % 64)).2.2.2 = false := by simpa using hfin
            rcases Bool.or_eq_true _ _ ▸ h1 with h1 | h1
            · obtain ⟨-, -, g3⟩ := aFl_w h1
              rw [d1, d2] at g3
              exact va_put hx hb hts k1 (aTyOf (n / 256)) k2 k3 hown hK hP hD hS a (aWs_get h7) (aCi_at hci) (n % 64) hN (hts _ g3) (fun _ q => q) hfin hpd f1 f2 hfl hd hkk
            · obtain ⟨-, -, g3⟩ := aFn_w h1
              rw [d1, d2] at g3
              exact va_putN hx hb hts k1 (aTyOf (n / 256)) k2 k3 hown hK hP hD hS a (aWs_get h7) (aCi_at hci) (n % 64) hN (va_Nw.use rfl (hKn.2.1 _ g3 rfl)) (fun _ q => q) hfin hpd f1 f2 hfl hd hkk
        · cases hs
      · cases hs
    · cases hs
  · simp only [Bool.and_eq_true, beq_iff_eq] at hok
    obtain ⟨h1, rfl⟩ := hok
    obtain ⟨g1, g2⟩ := aCl_w h1
    cases hs
    exact aW_new hx hb hown hts hKn hbs ⟨hP, hS, hT0⟩ hcz g1 (hts _ g2) (hR1 1 (by simp)) (hR2 _ aSz_app) hd (fun H' q1 => kk H' locs L (cells + 1) _ q1 hlc (by simp; omega) (by rw [aSz_app]; omega))
  · simp only [Bool.and_eq_true, decide_eq_true_eq, beq_iff_eq] at hok
    obtain ⟨⟨rfl, rfl⟩, h1⟩ := hok
    simp only [aStep] at hs
    split at hs
    · split at hs
      · rename_i h5
        cases hs
        exact aW_newa hx hb hts hKn hbs ⟨hP, hS, hT0⟩ hcz h1 h5.1 h5.2 (hR1 1 (by simp)) (hR2 _ aSz_app) hd (fun H' q1 => kk H' locs L (cells + 1) _ q1 hlc (by simp; omega) (by rw [aSz_app]; omega))
      · cases hs
    · cases hs
  · simp only [Bool.and_eq_true, decide_eq_true_eq, beq_iff_eq] at hok
    obtain ⟨⟨h0, rfl⟩, h1⟩ := hok
    obtain ⟨g1, g2⟩ := aCl_w h0
    simp only [aStep] at hs
    split at hs
    · split at hs
      · rename_i h5
        cases hs
        have hn : (aP.2.2 _).1 = "RiverThinksAgain$State" := ((aCls_ok g1).2.2.2.2.2.2.1).trans h1
        rw [h1] at g2
        rw [hn] at hR1 hR2 kk
        exact aW_newq hx hb hown hKn hbs ⟨hP, hS, hT0⟩ hcz (hts _ g2) h5.1 h5.2 (hR1 1 (by simp)) (hR2 _ aSz_app) hd (fun H' q1 => kk H' locs L (cells + 1) _ q1 hlc (by simp; omega) (by rw [aSz_app]; omega))
      · cases hs
    · cases hs
  · cases hs
  · cases hs
  · cases hs
  · cases hs
  · cases hs
  · cases hs
  · cases hs
  · cases hs
  · rename_i x
    simp only [Bool.and_eq_true, beq_iff_eq] at hok
    obtain ⟨h1, rfl⟩ := hok
    simp only [aStep] at hs
    split at hs
    · rename_i h8
      split at hs
      · rename_i st2 σ2 h9
        cases hs
        exact hPr pc x 0 _ L ls st st' σ σ' H locs cells slots hd (by simp) h1 h8 h9 ⟨hP, hS, hT0⟩ hlc ⟨by have := hR1 0 (by rw [aPrim_len h9]; rfl); omega, by have := hR2 0 (by rw [aPrim_sz h9]; rfl); omega⟩ (fun H' locs' q => kk H' locs' L cells slots q hlc (by rw [aPrim_len h9]) (by rw [aPrim_sz h9]))
      · cases hs
    · cases hs
  · rename_i x
    simp only [Bool.and_eq_true, beq_iff_eq] at hok
    obtain ⟨h1, rfl⟩ := hok
    simp only [aStep] at hs
    split at hs
    · rename_i h8
      split at hs
      · rename_i st2 σ2 h9
        cases hs
        exact hPr pc x 1 _ L ls st st' σ σ' H locs cells slots hd (by simp) h1 h8 h9 ⟨hP, hS, hT0⟩ hlc ⟨by have := hR1 0 (by rw [aPrim_len h9]; rfl); omega, by have := hR2 0 (by rw [aPrim_sz h9]; rfl); omega⟩ (fun H' locs' q => kk H' locs' L cells slots q hlc (by rw [aPrim_len h9]) (by rw [aPrim_sz h9]))
      · cases hs
    · cases hs
  · rename_i x
    simp only [Bool.and_eq_true, beq_iff_eq] at hok
    obtain ⟨h1, rfl⟩ := hok
    simp only [aStep] at hs
    split at hs
    · rename_i h8
      split at hs
      · rename_i st2 σ2 h9
        cases hs
        exact hPr pc x 2 _ L ls st st' σ σ' H locs cells slots hd (by simp) h1 h8 h9 ⟨hP, hS, hT0⟩ hlc ⟨by have := hR1 0 (by rw [aPrim_len h9]; rfl); omega, by have := hR2 0 (by rw [aPrim_sz h9]; rfl); omega⟩ (fun H' locs' q => kk H' locs' L cells slots q hlc (by rw [aPrim_len h9]) (by rw [aPrim_sz h9]))
      · cases hs
    · cases hs
  · rename_i x
    simp only [Bool.and_eq_true, beq_iff_eq] at hok
    obtain ⟨h1, rfl⟩ := hok
    simp only [aStep] at hs
    split at hs
    · rename_i h8
      split at hs
      · rename_i st2 σ2 h9
        cases hs
        exact hPr pc x 3 _ L ls st st' σ σ' H locs cells slots hd (by simp) h1 h8 h9 ⟨hP, hS, hT0⟩ hlc ⟨by have := hR1 0 (by rw [aPrim_len h9]; rfl); omega, by have := hR2 0 (by rw [aPrim_sz h9]; rfl); omega⟩ (fun H' locs' q => kk H' locs' L cells slots q hlc (by rw [aPrim_len h9]) (by rw [aPrim_sz h9]))
      · cases hs
    · cases hs
  · rename_i x
    simp only [Bool.and_eq_true, beq_iff_eq] at hok
    obtain ⟨h1, rfl⟩ := hok
    simp only [aStep] at hs
    split at hs
    · rename_i h8
      split at hs
      · rename_i st2 σ2 h9
        cases hs
        exact hPr pc x 4 _ L ls st st' σ σ' H locs cells slots hd (by simp) h1 h8 h9 ⟨hP, hS, hT0⟩ hlc ⟨by have := hR1 0 (by rw [aPrim_len h9]; rfl); omega, by have := hR2 0 (by rw [aPrim_sz h9]; rfl); omega⟩ (fun H' locs' q => kk H' locs' L cells slots q hlc (by rw [aPrim_len h9]) (by rw [aPrim_sz h9]))
      · cases hs
    · cases hs
  · rename_i x
    simp only [Bool.and_eq_true, beq_iff_eq] at hok
    obtain ⟨h1, rfl⟩ := hok
    simp only [aStep] at hs
    split at hs
    · rename_i h8
      split at hs
      · rename_i st2 σ2 h9
        cases hs
        exact hPr pc x 5 _ L ls st st' σ σ' H locs cells slots hd (by simp) h1 h8 h9 ⟨hP, hS, hT0⟩ hlc ⟨by have := hR1 0 (by rw [aPrim_len h9]; rfl); omega, by have := hR2 0 (by rw [aPrim_sz h9]; rfl); omega⟩ (fun H' locs' q => kk H' locs' L cells slots q hlc (by rw [aPrim_len h9]) (by rw [aPrim_sz h9]))
      · cases hs
    · cases hs
  · rename_i x
    simp only [Bool.and_eq_true, beq_iff_eq] at hok
    obtain ⟨h1, rfl⟩ := hok
    simp only [aStep] at hs
    split at hs
    · rename_i h8
      split at hs
      · rename_i st2 σ2 h9
        cases hs
        exact hPr pc x 6 _ L ls st st' σ σ' H locs cells slots hd (by simp) h1 h8 h9 ⟨hP, hS, hT0⟩ hlc ⟨by have := hR1 0 (by rw [aPrim_len h9]; rfl); omega, by have := hR2 0 (by rw [aPrim_sz h9]; rfl); omega⟩ (fun H' locs' q => kk H' locs' L cells slots q hlc (by rw [aPrim_len h9]) (by rw [aPrim_sz h9]))
      · cases hs
    · cases hs
  · cases hs
  · cases hs
  · cases hs
  · cases hs
  · cases hs
  · cases hok
end AST
