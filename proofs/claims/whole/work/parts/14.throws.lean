/-! A THROW: 'new E; dup; <init>; athrow', with the place of the new cell told (the kit's vx_throw0, with one thing more in what its hypothesis hx is given). -/
section ATH
variable {p : Program} {l : Launch} {e : Env} {R : Room} {s : State} {m : MethodId} {args : Array Value} {below : List Frame} {meth : Method} {c : Code} {H : Heap} {locs : List Loc} {cells slots : Nat} {Q : State → Prop}
variable {mc ms : Nat} {free : Addr → Prop} {A0 A1 : Nat → Prop} {H0 : Heap} {a : Array Value} {ls : Array Slot} {st0 rest : List Value}
variable {Qc : Array Value → State → Outcome → State → Prop} {XC : String → State → State → Prop}
theorem aX_throw {cc : ByteArray} {pc : Nat} (hexec : p.tables.exec = Jvm.exec) (hb : c.code = cc) (hl : l.stackTraces = false) {own cls : String} {names : List String} {ik ic mc ms : Nat} {A : Nat → Prop}
    (hown : s.vm.findClass own = some m.cls) (hcls : Bundle.fit cls = true) (hnames : ∀ n ∈ names, Bundle.fit n = true)
    (hk : (Cond.classLink own ik cls).before args s = true) (hini : (Cond.initialized cls).before args s = true) (hat : ∀ w ∈ vx_at0 own ic cls names, w.before args s = true)
    (hgood : ∀ w ∈ Cond.classLink own ik cls :: Cond.initialized cls :: vx_at0 own ic cls names, vx_ot w = true)
    (hU : vx_Zq Bundle.tN "UNASSIGNED_STACK" Bundle.steD A s s.heap) (hN : vx_Zq Bundle.tN "SUPPRESSED_SENTINEL" Bundle.listD A s s.heap) (hS : va_S A s.heap H locs) (hsize : ls.size = c.maxLocals)
    (d0 : decode cc pc = .ok (.new ik, 3)) (d3 : decode cc (pc + 3) = .ok (.dup, 1)) (d4 : decode cc (pc + 4) = .ok (.invokespecial ic, 3)) (d7 : decode cc (pc + 7) = .ok (.athrow, 1))
    (hout : ∀ x ∈ c.exceptionTable.toList, covers x (pc + 7) = false)
    (hRframes : names.length + 3 < R.frames) (hRlocals : (rest.map fun v => v.category).sum + (13 * (names.length + 1) + 42) ≤ R.locals) (hRcells : cells + 1 ≤ R.cells) (hRslots : slots + 6 ≤ R.slots) (hlocks : meth.locks = false)
    (hx : ∀ (t : State) (ce : Cell), s.vm.Alike t.vm → H.size ≤ t.heap.size → (∀ q : Nat, q < H.size → t.heap[q]? = H[q]?) → t.heap[H.size]? = some ce → ce.vm = .none → s.vm.findClass cls = some ce.cls → XC cls s t)
    (hf : ∀ z ∈ locs, free z.base) (hc : cells + 1 ≤ mc) (hs : slots + 6 ≤ ms) :
    W p l e R s m args below meth c H locs cells slots (vx_MQ below Qc XC args s mc ms free) (F0 m pc ls rest) := by
  intro T hT X
  have htr : e.platform.stackTraces = false := (show e.platform.stackTraces = l.stackTraces by rw [X.admits.platform]).trans hl
  have Y := vx_rebase X (R' := { frames := R.frames, locals := R.locals, cells := 1, slots := 6 }) (Nat.le_refl _) (Nat.le_refl _) hRcells hRslots
  obtain ⟨s', hA⟩ : ∃ z, z = (T.setVm s.vm).setFrames (.invoking m args :: below) := ⟨_, rfl⟩
  rw [← hA] at Y
  have hvm : s'.vm = s.vm := by rw [hA]; rfl
  have hhp : s'.heap = H := by rw [hA]; exact hT
  have hW0 : s.WarmedH s'.vm := by rw [hvm]; exact State.WarmedH.refl s
  have hat' : ∀ w ∈ vx_at0 own ic cls names, w.before args s' = true := fun w hw => vx_ot_at hW0 hvm.symm (hgood w (List.mem_cons_of_mem _ (List.mem_cons_of_mem _ hw))) (hat w hw)
  have hk' : (Cond.classLink own ik cls).before args s' = true := vx_ot_at hW0 hvm.symm (hgood _ List.mem_cons_self) hk
  have hini' : (Cond.initialized cls).before args s' = true := vx_ot_at hW0 hvm.symm (hgood _ (List.mem_cons_of_mem _ List.mem_cons_self)) hini
  have hU' : vx_Zq Bundle.tN "UNASSIGNED_STACK" Bundle.steD A s' s'.heap := by rw [hhp]; exact vx_Zq.moved hW0.alike (hU.kept hS.2.1)
  have hN' : vx_Zq Bundle.tN "SUPPRESSED_SENTINEL" Bundle.listD A s' s'.heap := by rw [hhp]; exact vx_Zq.moved hW0.alike (hN.kept hS.2.1)
  have h : ∀ w ∈ Bundle.ownAtoms0 own ic cls names, w.before args s' = true := vx_own hat' (vx_isRefq hU'.1) (vx_isRefq hN'.1) hU'.2.word hN'.2.word
  have hown' : s'.vm.findClass own = some m.cls := by rw [hvm]; exact hown
  have hins : (Cond.instantiable cls 6).before args s' = true := h _ (by simp [Bundle.ownAtoms0])
  obtain ⟨vm₁, cX, kX, hfX, hkX, -, -, X₁, st1⟩ := Y.newCold hexec (own := own) (C := cls) (index := ik) (n := 6) hown' hk' hins hini'
    (g := F0 m pc ls rest) rfl (by rw [hb]; exact d0) (Nat.le_refl _) (Nat.le_refl _)
  generalize hT1 : (T.setVm vm₁).pushCell { cls := cX, slots := kX.instanceTypes.map defaultValue, vm := .none } = T1 at X₁ st1
  have hcat : (Value.ref T.heap.size).category = 1 := rfl
  have hcellA : T1.heap[T.heap.size]? = some (freshCell cX kX) := by rw [← hT1]; exact State.heap_pushCell_size _ _
  have d3' : decode c.code (pc + 3) = .ok (.dup, 1) := by rw [hb]; exact d3
  obtain ⟨U, hsteps, hrun, hend, hW, hsame, ce, hce, hO⟩ := X₁.ctorThrow0 hexec htr (own := own) (cls := cls) (names := names) (ic := ic) hown' hcls hnames h (fun x hx => nomatch hx) hfX hkX hcellA (by rw [hhp, hT]; exact Nat.le_refl _)
    (g := { method := m, pc := pc + 4, locals := ls, stack := .ref T.heap.size :: .ref T.heap.size :: rest, locked := none }) rfl hsize rfl rfl (rest := rest) rfl
    (by rw [hb]; exact d4) (by rw [hb]; exact d7) hout hRframes (by simp only [List.map_cons, List.sum_cons, hcat]; omega) hlocks
  obtain ⟨f1, f2⟩ := vx_frame hsame
  rw [hhp] at f1 f2
  have hWs : s.WarmedH U.vm := State.WarmedH.trans hW0 hW
  have hcl : s.vm.findClass cls = some ce.cls := by
    have h9 := hO.cls
    rw [hvm] at h9
    exact h9
  have hall : s.sameButNew ({ U with vm := s.vm } : State) locs mc ms := by
    subst hA
    obtain ⟨e1, e2⟩ := hsame
    rw [State.setFrames_setFrames] at e1
    have h2 : (T.setVm s.vm).sameButNew ({ U with vm := s.vm } : State) [] (0 + 1) (0 + 6) := ⟨e1, e2⟩
    have h3 := X.same.trans h2
    rw [List.append_nil] at h3
    exact h3.mono hc hs
  refine ⟨U, ?_, .threw T.heap.size, hrun, hend, Or.inr ⟨T.heap.size, rfl, cls, ce, locs, hx U ce hWs.alike f1 (fun q hq => f2 q hq (fun z hz => nomatch hz)) (by rw [← hT]; exact hce) hO.vm hcl, hce, hO.vm, hcl, hWs, hall, hf⟩⟩
  refine st1 _ ?_
  show Steps p.tables e below (T1.setTop { method := m, pc := pc + 3, locals := ls, stack := .ref T.heap.size :: rest, locked := none }) _
  jvm_step X₁.here [X₁.here.top, hexec, d3', Value.category]
  exact hsteps
end ATH
section ATK
variable {l : Launch} {b : Nat} {κ : Nat → Nat} {dC : Nat → ClassId} {dI : Nat → Nat → Nat} {cA : FieldType → ClassId} {ko : aKo}
def aXn : List String := ["java/lang/RuntimeException", "java/lang/Exception"]
def aXw : List Jvm.Cond := Cond.classLink "RiverThinksAgain" 155 "java/util/NoSuchElementException" :: Cond.initialized "java/util/NoSuchElementException" :: vx_at0 "RiverThinksAgain" 157 "java/util/NoSuchElementException" aXn
theorem aXw_ok : aXw.all (fun w => decide (w ∈ lw_tbl) && (goodWord w || aNest w) && vx_ot w) = true := by decide +kernel
theorem aXfit : Bundle.fit "java/util/NoSuchElementException" = true ∧ ∀ n ∈ aXn, Bundle.fit n = true := by decide +kernel
theorem aThr_ok (hl : l.stackTraces = false) : aThrAll l b κ dC dI cA ko := by
  intro p e R s m args below meth c k pc mc ms cells slots L σ H locs C htab hthr hpt hcz hL hf hlo e4 e5 hmc hms
  obtain ⟨hx, hb, hml, hown, hts, hret, hlocks, hinit, hKn, hKc, hbs⟩ := id C
  unfold aThr at hthr
  split at hthr
  · rename_i x y d0 d3 d4 d7
    obtain ⟨q, hq, hq2⟩ := List.any_eq_true.mp hthr
    have hq3 : q = (1, 155, 157) := by simpa [aXl] using hq
    subst hq3
    simp only [Bool.and_eq_true, beq_iff_eq] at hq2
    obtain ⟨⟨ho, rfl⟩, rfl⟩ := hq2
    have hnm : aNm (aMe k).1 = "RiverThinksAgain" := by rw [← ho]; rfl
    rw [hnm] at hown
    have hwd : ∀ w ∈ aXw, w.before args s = true ∧ vx_ot w = true := by
      intro w hw
      have h0 := List.all_eq_true.mp aXw_ok w hw
      simp only [Bool.and_eq_true, Bool.or_eq_true, decide_eq_true_eq] at h0
      refine ⟨?_, h0.2⟩
      rcases h0.1.2 with h1 | h1
      · exact hts _ (aTB_in h0.1.1 h1)
      · have h2 := hKn.2.1 w h0.1.1 h1
        cases w with
        | fieldLinkNest a i b n d hh => exact va_Nw.use rfl h2
        | methodLinkNest a i x hh => exact va_Nw.use rfl h2
        | declares x => exact va_Nw.use rfl h2
        | castable C T => exact va_Nw.use rfl h2
        | _ => cases h1
    refine aW_size hbs hpt hcz (fun hsz => ?_)
    refine aX_throw (own := "RiverThinksAgain") (cls := "java/util/NoSuchElementException") (names := aXn) (ik := 155) (ic := 157) (A := aUp b) hx hb hl hown aXfit.1 aXfit.2 (hwd _ List.mem_cons_self).1 (hwd _ (List.mem_cons_of_mem _ List.mem_cons_self)).1 (fun w hw => (hwd w (List.mem_cons_of_mem _ (List.mem_cons_of_mem _ hw))).1) (fun w hw => (hwd w hw).2) hKc.2.2.1.2.1 hKc.2.2.1.2.2 hpt.2.1 (by rw [hL, hml]) d0 d3 d4 d7 (fun x hx => (htab x hx).elim) ?_ ?_ (by omega) (by omega) hlocks ?_ hpt.2.1.2.2 (by omega) (by omega)
    · show 2 + 3 < R.frames; omega
    · show (0 : Nat) + (13 * (2 + 1) + 42) ≤ R.locals; omega
    · intro t ce hal hle hold hce hvm hcl
      have hU := hKn.1.1 13 ("java/util/NoSuchElementException", aT0, 0) rfl
      have hcc : ce.cls = dC 13 := Option.some.inj (hcl.symm.trans hU.2.1)
      refine ⟨rfl, ?_, aTyd_app hpt.2.2 (fun ty x q => by cases q), ⟨Nat.le_trans hpt.2.1.1 hle, fun q h1 h2 => (hold q (Nat.lt_of_lt_of_le h1 hpt.2.1.1)).trans (hpt.2.1.2.1 q h1 h2)⟩⟩
      rw [aWs_app]
      refine (hpt.1.kept (fun k x hx => hold x.1 ((hpt.1 k x hx).lt))).app (fun k x hx => ?_)
      have hz : k < 1 := (List.getElem?_eq_some_iff.mp hx).1
      rw [show k = 0 by omega] at hx
      cases hx
      exact ⟨_, rfl, ce, by rw [← hsz]; exact hce, hcc, hvm, fun k hk => absurd hk (Nat.not_lt_zero k)⟩
  · cases hthr
end ATK
