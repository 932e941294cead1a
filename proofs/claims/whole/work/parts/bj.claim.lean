/-! THE CLAIM: what the constants are, whole_start, and the kit's skeleton behind it. From wip/whole/src. -/
def koS (L : Nat) (xs : Nat → Int32) : aKo := fun i => if i = 0 then (.int, L, xs) else if i = 1 then (.int, 7, f1) else (aStr, (chT i).length, fun k => nI ((chT i).getD k 0))
def kaS (a i1 : Nat) (z : Nat → Nat × Nat) : Nat → Nat := fun i => if i = 0 then a else if i = 1 then i1 else (z (if i < 7 then i - 2 else 5)).1
theorem koS_T (L : Nat) (xs : Nat → Int32) : koT (koS L xs) := by
  intro i h2 h7
  have e : koS L xs i = (aStr, (chT i).length, fun k => nI ((chT i).getD k 0)) := by
    unfold koS
    rw [if_neg (by omega), if_neg (by omega)]
  rw [e]
  exact ⟨rfl, rfl, fun k hk => rfl⟩
theorem koS_F (L : Nat) (xs : Nat → Int32) : koF (koS L xs) := by
  refine ⟨rfl, rfl, ?_⟩
  show ∀ k, k < 7 → f1 k = enc (c0 k)
  decide
theorem chT_le (i : Nat) : (chT i).length ≤ 7 := by
  unfold chT
  split
  · decide
  · split
    · decide
    · split
      · decide
      · split
        · decide
        · decide
theorem ch_b8 {j k : Nat} (hj : j < 6) (hk : k < (chT (j + 2)).length) : nI ((chT (j + 2)).getD k 0) &&& 255 = nI ((chT (j + 2)).getD k 0) ∧ (nI ((chT (j + 2)).getD k 0)).toInt8.toInt32 = nI ((chT (j + 2)).getD k 0) := by
  have h : ∀ j, j < 6 → ∀ k, k < 7 → nI ((chT (j + 2)).getD k 0) &&& 255 = nI ((chT (j + 2)).getD k 0) ∧ (nI ((chT (j + 2)).getD k 0)).toInt8.toInt32 = nI ((chT (j + 2)).getD k 0) := by decide
  exact h j hj k (Nat.lt_of_lt_of_le hk (chT_le _))
theorem kt_K {b a i1 L : Nat} {xs : Nat → Int32} {z : Nat → Nat × Nat} {U : State} {H : Heap} (h : aKc b (kaS a i1 z) (koS L xs) U H) {i : Nat} (hi : ¬ i < 2) : aTxs b (kaS a i1 z) (koS L xs) i U H := by
  have ei : ∃ j, j < 6 ∧ kaS a i1 z i = kaS a i1 z (j + 2) ∧ koS L xs i = koS L xs (j + 2) := by
    by_cases h7 : i < 7
    · have e : i - 2 + 2 = i := by omega
      exact ⟨i - 2, by omega, by rw [e], by rw [e]⟩
    · refine ⟨5, by omega, ?_, ?_⟩
      · unfold kaS
        rw [if_neg (by omega), if_neg (by omega), if_neg h7, if_neg (by omega), if_neg (by omega), if_neg (by omega)]
      · have e : chT i = chT (5 + 2) := by
          unfold chT
          rw [if_neg (by omega), if_neg (by omega), if_neg (by omega), if_neg (by omega), if_neg (by omega), if_neg (by omega), if_neg (by omega), if_neg (by omega)]
        unfold koS
        rw [if_neg (by omega), if_neg (by omega), if_neg (by omega), if_neg (by omega), e]
  obtain ⟨j, hj, e1, e2⟩ := ei
  obtain ⟨t, ht⟩ : ∃ t, aTx[j]? = some t := ⟨_, List.getElem?_eq_getElem (show j < aTx.length from hj)⟩
  obtain ⟨-, q, f, g2, g3, g4, g5, g7, g6⟩ := h.2.2.2.2 j t ht
  obtain ⟨w, g8⟩ : ∃ w, va_Z "jdk/internal/util/Preconditions" "SIOOBE_FORMATTER" "Ljava/util/function/BiFunction;" (cW w) (aUp b) U H := by
    rcases g7 with g | ⟨t, g⟩
    · exact ⟨none, g⟩
    · exact ⟨some t, g⟩
  unfold aTxs
  rw [e1, e2]
  refine ⟨q, f, w, ⟨g2, g3, g4, g5, h.2.2.1.1, g8⟩, ?_, g6⟩
  have e : (koS L xs (j + 2)).2.1 = (chT (j + 2)).length := by
    unfold koS
    rw [if_neg (by omega), if_neg (by omega)]
  rw [e]
  have := chT_le (j + 2)
  omega
theorem ks_Ts {s : State} {args : Array Value} (hg : ∀ c ∈ gW, c.before args s = true) : ∃ z : Nat → Nat × Nat, ∀ j, j < 6 → (tTm j).eval args s none [] s = some (.ref (z j).1) ∧ va_O "java/lang/String" (z j).1 (aUp s.heap.size) s s.heap ∧ va_OF "java/lang/String" "coder" "B" (.int 0) (z j).1 (aUp s.heap.size) s s.heap ∧ va_OF "java/lang/String" "value" "[B" (.ref (z j).2) (z j).1 (aUp s.heap.size) s s.heap ∧ va_T .byte (z j).2 (chT (j + 2)).length (fun k => .int (nI ((chT (j + 2)).getD k 0))) (aUp s.heap.size) s s.heap := by
  refine Classical.axiomOfChoice (r := fun (j : Nat) (q : Nat × Nat) => j < 6 → (tTm j).eval args s none [] s = some (.ref q.1) ∧ va_O "java/lang/String" q.1 (aUp s.heap.size) s s.heap ∧ va_OF "java/lang/String" "coder" "B" (.int 0) q.1 (aUp s.heap.size) s s.heap ∧ va_OF "java/lang/String" "value" "[B" (.ref q.2) q.1 (aUp s.heap.size) s s.heap ∧ va_T .byte q.2 (chT (j + 2)).length (fun k => .int (nI ((chT (j + 2)).getD k 0))) (aUp s.heap.size) s s.heap) ?_
  intro j
  by_cases hj : j < 6
  · obtain ⟨q, hq⟩ := ks_T hj hg
    exact ⟨q, fun _ => hq⟩
  · exact ⟨(0, 0), fun h => absurd h hj⟩
theorem ks_aKc {s : State} {args : Array Value} {a L : Nat} {xs : Nat → Int32} (hts : ∀ w ∈ lw_tbl, w.before args s = true) (hg : ∀ c ∈ gW, c.before args s = true) (ha : a < s.heap.size) (hX : va_X a L xs s s.heap) (hL : L ≤ 2560) : ∃ (i1 : Nat) (z : Nat → Nat × Nat), aKc s.heap.size (kaS a i1 z) (koS L xs) s s.heap := by
  have w0 : ∀ {i : Nat} {c : Jvm.Cond}, sW[i]? = some c → c.before args s = true := fun h => hts _ (ks_in sW_ok h)
  have w1 : ∀ {i : Nat} {c : Jvm.Cond}, sF[i]? = some c → c.before args s = true := fun h => hg _ (ks_in sF_ok h)
  have w2 : ∀ {i : Nat} {c : Jvm.Cond}, iF[i]? = some c → c.before args s = true := fun h => hg _ (ks_in iF_ok h)
  obtain ⟨i1, hi1, hX1, hlt⟩ := ks_X (tm := iTm) (N := 7) (f := f1) (by decide) (w2 (i := 0) rfl) (va_eqt (w2 (i := 1) rfl)) (fun j hj => va_eqt (hg _ (of_decide_eq_true (List.all_eq_true.mp iF_ok _ (List.mem_append_right _ (List.mem_map.mpr ⟨j, List.mem_range.mpr hj, rfl⟩))))))
  obtain ⟨z, hz⟩ := ks_Ts hg
  refine ⟨i1, z, ?_, va_Zof (w0 (i := 0) rfl) (w0 (i := 1) rfl) hi1 ks_up, ⟨va_Zof (w0 (i := 2) rfl) (w0 (i := 3) rfl) (va_eqt (w1 (i := 0) rfl)) ks_up, vx_Zqof (w0 (i := 6) rfl) (w0 (i := 8) rfl) (w1 (i := 2) rfl) ks_up, vx_Zqof (w0 (i := 7) rfl) (w0 (i := 8) rfl) (w1 (i := 3) rfl) ks_up⟩, ?_, ?_⟩
  · intro i hi
    have : i = 0 ∨ i = 1 := by omega
    rcases this with rfl | rfl
    · exact ⟨rfl, ha, hX, by show L < 2 ^ 31; omega⟩
    · exact ⟨rfl, hlt, hX1, by show 7 < 2 ^ 31; omega⟩
  · intro i hi
    unfold koS
    rw [if_neg (by omega), if_neg (by omega)]
  · intro j t ht
    have hj : j < 6 := (List.getElem?_eq_some_iff.mp ht).1
    obtain ⟨g1, g2, g3, g4, g5⟩ := hz j hj
    have ek : kaS a i1 z (j + 2) = (z j).1 := by
      unfold kaS
      rw [if_neg (by omega), if_neg (by omega)]
      by_cases h7 : j + 2 < 7
      · rw [if_pos h7, show j + 2 - 2 = j by omega]
      · rw [if_neg h7, show j = 5 by omega]
    have eo : koS L xs (j + 2) = (aStr, (chT (j + 2)).length, fun k => nI ((chT (j + 2)).getD k 0)) := by
      unfold koS
      rw [if_neg (by omega), if_neg (by omega)]
    have et : aTx.getD j ("", 0, 0, "") = t := by
      rw [List.getD_eq_getElem?_getD, ht]
      rfl
    have hr := hts _ (of_decide_eq_true (List.all_eq_true.mp tR_ok j (List.mem_range.mpr hj)))
    rw [et] at hr
    have g1' : (Term.string t.1 t.2.1).eval args s none [] s = some (.ref (z j).1) := by
      rw [← et]
      exact g1
    refine ⟨?_, (z j).2, fun k => nI ((chT (j + 2)).getD k 0), ?_⟩
    · rw [ek]
      exact vk_R.of hr g1'
    · rw [ek, eo]
      exact ⟨g2, g3, g4, g5, va_Zqof (w0 (i := 4) rfl) (w0 (i := 5) rfl) (w1 (i := 1) rfl) ks_up, fun k hk => ch_b8 hj hk⟩
theorem fl_st {l : Launch} (h : l.flags = flags0) : l.stackTraces = false := by
  unfold Launch.stackTraces
  rw [h]
  decide +kernel
/-- from the entry, for every script of at most 2560 ints, the law comes to its end with true -/
theorem whole_start {p : Program} {e : Env} {s : State} {m : MethodId} {below : List Frame} {meth : Method} {c : Code} (l : Launch) (hfl : l.stackTraces = false) {b L : Nat} {xs : Nat → Int32} (hL : L ≤ 2560) (C0 : lw_At p s m meth c b L xs) : W p l e room_1 s m #[Value.ref b] below meth c s.heap [] 0 0 (lw_Z below #[Value.ref b] s) (entryFrame m ([Value.ref b] : List Value).toArray 8) := by
  obtain ⟨hx, hb, hr, hml, hown, hts, hX, hbl, hlocks, hgv⟩ := id C0
  have hg : ∀ c ∈ gW, c.before #[Value.ref b] s = true := flat_of_before _ hgv
  obtain ⟨dC, dI, cA, hKn⟩ := ks_aKn hts
  obtain ⟨i1, z, hKc⟩ := ks_aKc hts hg hbl hX hL
  exact w_run l hL C0 hfl (κ := kaS b i1 z) rfl hKn hKc (fun U H h i hi => kt_K h hi) (koS_T L xs) (koS_F L xs) rfl
set_option maxHeartbeats 4000000 in
theorem lw_walk (l : Launch) (hfl : l.stackTraces = false) (b : Addr) (xs : List Int32) : MetFree l x (headSpec (Jvm.Cond.code x code maxLocals ret :: tables_1) room_1) (lw_P b xs) (fun _ _ _ _ _ => True) lw_Q := by
  refine MetFree.of_bodyS (code := code) (maxLocals := maxLocals) (ret := ret) (by decide) ?_ ?_
  · intro args s m h hn
    obtain ⟨meth, c, h1, h2, h3, h4, h5, h6, -, -⟩ := Cond.code_spec hn (atoms_spec (ws := Jvm.Cond.code x code maxLocals ret :: tables_1) h _ List.mem_cons_self)
    exact ⟨meth, c, h1, h2, h3, h4, h5, h6⟩
  · intro p e s m args below meth c s₁ B hml0 hP _
    obtain ⟨rfl, hx, hbd, hgv⟩ := hP
    obtain ⟨scr, harrAt, hlist, hof, hsmall⟩ := hx
    obtain ⟨hcb, hkn, -, -⟩ := State.arrayAt?_spec harrAt
    have hown : s.vm.findClass R_law = some m.cls := findClass_of_methodNamed B.named
    have hts0 : ∀ c ∈ (Jvm.Cond.code x code maxLocals ret :: tables_1), c.before #[Value.ref b] s = true := atoms_spec (ws := Jvm.Cond.code x code maxLocals ret :: tables_1) B.pre
    have hts : ∀ w ∈ lw_tbl, w.before #[Value.ref b] s = true := k2_hts_sels lw_privs (fun w hw => hts0 w (List.mem_cons_of_mem _ hw)) lw_privs_ok
    have hml : c.maxLocals = 8 := B.maxLocals_eq (hts0 _ List.mem_cons_self)
    have X₀ : Stand p l e room_1 s m #[Value.ref b] below meth c s₁ [] 0 0 := Stand.of_body B
    have hh0 : s₁.heap = s.heap := by rw [B.state]; rfl
    have hsz : scr.slots.size = xs.length := by rw [← Array.length_toList, hlist, List.length_map]
    have hval : ∀ j : Nat, j < xs.length → scr.slots[j]? = some (.int (xs.getD j 0)) := fun j hj => by
      rw [← Array.getElem?_toList, hlist]
      simp [hj]
    have hbl : b < s.heap.size := (Array.getElem?_eq_some_iff.mp hcb).1
    have hX : va_X b xs.length (fun j => xs.getD j 0) s s.heap := ⟨scr, hcb, hof, hkn, hsz, hval⟩
    have K : W p l e room_1 s m #[Value.ref b] below meth c s₁.heap [] 0 0 (lw_Z below #[Value.ref b] s) (entryFrame m ([Value.ref b] : List Value).toArray 8) := by
      rw [hh0]
      exact whole_start l hfl hbd ⟨B.exec, B.bytes, B.returns, hml, hown, hts, hX, hbl, B.notSynchronized, hgv⟩
    obtain ⟨t, a1, o, b1, b2, b3⟩ := K s₁ rfl X₀
    exact ⟨t, o, a1, b1, b2, b3⟩
theorem lw_pre_spec {args : Array Value} {s : State} (h : (Jvm.Cond.and given_1 narrow_1).before args s = true) (hr : rest_1_c.before args s = true) : ∃ (b : Addr) (xs : List Int32), lw_P b xs args s := by
  have hs := flat_of_before _ h
  have hq := flat_of_before _ hr
  have hc : (Cond.count 1).before args s = true := hs _ (by decide +kernel)
  have harr : (Cond.arrayOf (.arg 0) .int).before args s = true := hs _ (by decide +kernel)
  have hle : (Cond.le (.length (.arg 0)) (.int 2560)).before args s = true := hs _ (by decide +kernel)
  have hlen : (Cond.isInt (.length (.arg 0))).before args s = true := hq _ (by decide +kernel)
  have hall : (Cond.all (.arg 0) (.isInt (.elem (.arg 0) (.index 0)))).before args s = true := hq _ (by decide +kernel)
  obtain ⟨b, xs, hb, hx⟩ := State.ints_of_pre rfl harr hlen hall
  have hsm : xs.length < 2 ^ 31 := hx.choose_spec.2.2.2
  have hev : (Term.length (.arg 0)).eval args s none [] s = some (.int xs.length.toInt32) := hx.length_eval hb
  have hv := Cond.le_ints hev (show (Term.int 2560).eval args s none [] s = some (.int 2560) from rfl)
  have hd : xs.length.toInt32 ≤ 2560 := by
    simpa [Cond.before, Cond.holds, hv] using hle
  have hN : xs.length ≤ 2560 := (Int32.ofNat_le_ofNat hsm (by decide)).mp (show Int32.ofNat xs.length ≤ Int32.ofNat 2560 from hd)
  exact ⟨b, xs, Cond.one_arg hc (show args[0]? = some (.ref b) from hb), hx, hN, h⟩
theorem lw_comes (l : Launch) (hfl : l.stackTraces = false) : Comes l x (Jvm.Cond.code x code maxLocals ret :: tables_1) room_1 (fun tb e args s => Calls_1 tb e args s ∧ rest_1 tb e args s ∧ Pre_1 tb e args s)
    (fun _ _ args s o t => lw_Q args s o t) := by
  intro p e ha hc hk s m args below hf hfit hheap happ hpre
  obtain ⟨b, xs, hP⟩ := lw_pre_spec hpre.2.2 hpre.2.1
  obtain ⟨k, o, h1, h2, h3, hQ⟩ := lw_walk l hfl b xs p e ha hc hk s m args below hf ((Spec.applies_iff_loose hf).mp happ).1 hP trivial
  exact ⟨k, o, h1, h2, h3, hQ⟩
theorem lw_frame {s t : State} {o : Outcome} {args : Array Value} (h : Framed s o t [] 601024 7293034) :
    Framed s o t (fieldLocs frame_1_writes args s ++ arrayLocs frame_1_arrays args s ++ staticLocs frame_1_statics s) 601024 7293034 := h
theorem lw_limb (L : Cond) (hL : ∀ (args : Array Value) (s t : State), L.after args s (.returned (some (.int 1))) t = true) :
    ArmFor flags0 classFile x code maxLocals ret World_1 tables_1 room_1 Calls_1 rest_1 Pre_1
      (fun tb e a s o t => postC L tb e a s o t ∧ Framed s o t (fieldLocs frame_1_writes a s ++ arrayLocs frame_1_arrays a s ++ staticLocs frame_1_statics s) 601024 7293034) := by
  intro l hl _ _ p e ha hc hk s m args below hf hfit hheap happ hpre
  obtain ⟨k, o, h1, h2, h3, rfl, hF⟩ := lw_comes l (fl_st hl) p e ha hc hk s m args below hf hfit hheap happ hpre
  exact ⟨k, _, h1, h2, h3, hL args s _, lw_frame hF⟩
theorem i_vc : Claimed_1_1 ∧ Claimed_1_2 := ⟨lw_limb limb_1_1 (fun args s t => by simp [limb_1_1, Cond.after, Cond.holds, Cond.value]), lw_limb limb_1_2 (fun args s t => Cond.after_iff.mpr (by
  first | (rw [show limb_1_2 = Cond.eq .result (.int 1) from rfl, Cond.eq_ints (x := 1) (y := 1) rfl rfl]; simp; done) | (simp [limb_1_2, Cond.value, Term.eval]; done)))⟩
