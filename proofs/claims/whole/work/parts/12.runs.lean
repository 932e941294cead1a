/-! A METHOD'S RUN, by induction on the fuel. -/
section ARN
variable {l : Launch} {b : Nat} {κ : Nat → Nat} {dC : Nat → ClassId} {dI : Nat → Nat → Nat} {cA : FieldType → ClassId} {ko : aKo}
theorem aCk_cons {o k pc : Nat} {cc : ByteArray} {i : Instr} {is : List Instr} (h : aCk o k cc pc (i :: is) = true) : (∃ Lb : Int, i = .jsr Lb ∧ aTo k Lb.toNat (pc : Int) = true) ∨ (i = .athrow ∧ aThr o cc pc = true) ∨ ∃ (r : Instr) (len : Nat), decode cc pc = .ok (r, len) ∧ aOk o k pc len r i = true ∧ aCk o k cc (pc + len) is = true := by
  unfold aCk at h
  split at h
  · exact Or.inl ⟨_, rfl, h⟩
  · exact Or.inr (Or.inl ⟨rfl, h⟩)
  · split at h
    · rename_i r len hd
      rw [Bool.and_eq_true] at h
      exact Or.inr (Or.inr ⟨r, len, hd, h.1, h.2⟩)
    · cases h
theorem aWk_good {k : Nat} (h : k ∈ aAll) : GoodIn aTB (aWk k) := by
  intro w hw
  rcases List.mem_cons.mp hw with rfl | hw
  · exact aTB_good _ (aMk_w h).2.2.2.2.1
  · exact aTB_good w hw
theorem aDn_room {d d' r r' : Nat} (h : aDn d r' r = some d') (hr : r' ≤ 9) : d' * 10 + r' + 12 ≤ d * 10 + r + 11 := by
  unfold aDn at h
  split at h
  · cases h
    omega
  · split at h
    · cases h
    · cases h
      omega
theorem aRecv_inv {ci : Nat} {As : List Value} {σ : aH} (h : aRecv (some ci) As σ = true) : ∃ (a : Nat) (As' : List Value), As = .ref a :: As' ∧ (ci = 999 ∨ ∃ fs, σ[a]? = some (.inr (ci, fs))) := by
  unfold aRecv at h
  dsimp only at h
  split at h
  · rename_i a As'
    refine ⟨a, As', rfl, ?_⟩
    rw [Bool.or_eq_true] at h
    rcases h with h | h
    · exact Or.inl (by simpa using h)
    · split at h
      · rename_i cj fs hσ
        have : ci = cj := by simpa using h
        subst this
        exact Or.inr ⟨fs, hσ⟩
      · cases h
  · cases h
set_option maxHeartbeats 8000000 in
set_option maxRecDepth 100000 in
theorem aRun_ok (hPr : aPrimAll l b κ dC dI cA ko) (hTh : aThrAll l b κ dC dI cA ko) (hHp : aHelpAll l b κ dC dI cA ko) : ∀ (n d k : Nat) (is : List Instr) (ls st : List Value) (σ : aH) (o : Option Value ⊕ Unit) (σE : aH), aRun aP ko n d k is ls st σ = some (o, σE) → (k ∈ aAll ∨ k = 140) →
    ∀ (p : Program) (e : Env) (R : Room) (s : State) (m : MethodId) (args : Array Value) (below : List Frame) (meth : Method) (c : Code) (Q : State → Prop) (pc : Nat) (L : Array Slot) (H : Heap) (locs : List Loc) (cells slots mc ms : Nat), aCx p s m args meth c k b κ dC dI cA ko → aCk (aMe k).1 k (aMe k).2.2.1 pc is = true → aPn s b κ dC dI cA σ H locs → s.heap.size + cells = b + σ.length → aLc b κ ls L (aMe k).2.2.2.1 → d * 10 + aRk k + 11 ≤ R.frames → 40 * (d * 10 + aRk k + 11) ≤ R.locals → cells + σE.length = mc + σ.length → slots + aSz σE = ms + aSz σ → mc ≤ R.cells → ms ≤ R.slots → aHend p l e R s m args below meth c Q k b κ dC dI cA o σE mc ms →
    W p l e R s m args below meth c H locs cells slots Q (F0 m pc L (st.map (cV b κ))) := by
  intro n
  induction n with
  | zero => intro d k is ls st σ o σE h; cases h
  | succ n ih =>
    -- a callee's contract
    have meet : ∀ (d k : Nat) (As : List Value) (σ : aH) (o : Option Value ⊕ Unit) (σ1 : aH), aRun aP ko n d k (aP.1 (aP.2.1 k).1) (aEnt (aP.2.1 k).2.2.1 As) [] σ = some (o, σ1) → k ∈ aAll → (aLay As).length ≤ (aMe k).2.2.2.1 → aMeet l b κ dC dI cA ko d k As σ o σ1 := by
      intro d k As σ o σ1 h hk hlay
      obtain ⟨m1, m2, m3, m4, m5, m6⟩ := aMk_w hk
      have hgrow := aRun_grow _ _ _ _ _ _ _ _ _ h
      refine vx_ofW (cc := (aMe k).2.2.1) (maxL := (aMe k).2.2.2.1) (ret := (aMe k).2.2.2.2.1) m3 rfl ?_
      intro p e s m args below meth c s₁ B hml htab hP
      obtain ⟨rfl, hsz, hPP, hTy, hKn, hKc⟩ := hP
      have hts := atoms_spec (ws := aWk k) B.pre
      have C : aCx p s m (As.map (cV b κ)).toArray meth c k b κ dC dI cA ko := by
        refine ⟨B.exec, B.bytes, hml, ?_, fun w hw => hts w (List.mem_cons_of_mem _ hw), B.returns, B.notSynchronized, fun hk2 => ?_, hKn, hKc, by omega⟩
        · rw [← m1]; exact findClass_of_methodNamed B.named
        · have hnm := (name_of_methodNamed B.named B.method).1
          rcases m6 with ⟨q, -⟩ | ⟨q, -⟩ | ⟨q, -, q2, -⟩
          · rw [q] at hk2; cases hk2
          · rw [q] at hk2; cases hk2
          · rw [hnm]; exact q2
      rw [lg_entry_eq]
      have hchk := List.all_eq_true.mp ack_all k hk
      refine ih d k _ _ [] σ o σ1 h (Or.inl hk) p e _ s m _ below meth c _ 0 _ s.heap [] 0 0 (σ1.length - σ.length) (aSz σ1 - aSz σ) C (aCk_lab hchk (aAt_entry hchk)) ⟨hPP, va_S.rf, hTy⟩ (by omega) (aLc_entry hlay) (Nat.le_refl _) (Nat.le_refl _) (by omega) (by omega) (Nat.le_refl _) (Nat.le_refl _) ?_
      match o with
      | .inl v =>
        intro H locs L pc r hpt hd he
        refine vx_ret ?_
        have hlocks : meth.locks = false := B.notSynchronized
        have hq : ∀ t : State, t.heap = H → s.WarmedH t.vm → aQ b κ dC dI cA v σ1 (As.map (cV b κ)).toArray s (.returned (v.map (cV b κ))) t := fun t ht hW => ⟨rfl, by rw [ht]; exact hpt.1, hpt.2.2, hpt.2.1.F ht⟩
        rcases he with ⟨rfl, rfl, hr⟩ | ⟨rfl, x, ty, rfl, hr, hn⟩ | ⟨rfl, x, rfl, hr⟩
        · exact W.vret B.exec B.bytes (B.returns.trans hr) hq hpt.2.1.2.2 hd hlocks
        · exact W.zret B.exec B.bytes (B.returns.trans hr) hn hq hpt.2.1.2.2 hd hlocks
        · exact W.lret B.exec B.bytes (B.returns.trans hr) hq hpt.2.1.2.2 hd hlocks
      | .inr u =>
        intro H locs L pc cells slots σ2 e3 hpt hcz e4 e5 hL hthr
        subst e3
        refine hTh p e _ s m _ below meth c k pc _ _ cells slots L σ2 H locs C htab hthr hpt hcz hL ?_ ?_ e4 e5 (Nat.le_refl _) (Nat.le_refl _)
        · show 11 ≤ d * 10 + aRk k + 11; omega
        · show 440 ≤ 40 * (d * 10 + aRk k + 11); omega
    intro d k is ls st σ o σE h hk p e R s m args below meth c Q pc L H locs cells slots mc ms C hck hpt hcz hlc hf1 hf2 e1 e2 hmc hms hend
    have hchk : aChk k = true := by
      rcases hk with hk | rfl
      · exact List.all_eq_true.mp ack_all k hk
      · exact ack_law
    obtain ⟨hx, hb, hml, hown, hts, hret, hlocks, hinit, hKn, hKc, hbs⟩ := id C
    cases is with
    | nil => cases h
    | cons i is =>
      unfold aRun at h
      dsimp only at h
      cases hq : aDo aP ko d k i is ls st σ with
      | none => rw [hq] at h; cases h
      | some q =>
        rw [hq] at h
        unfold aDo at hq
        split at hq
        · rename_i k'
          split at hq
          · rename_i hcond
            split at hq
            · rename_i d' hdn
              cases hq
              dsimp only at h
              obtain ⟨c1, c2, c3, c4⟩ := hcond
              rcases aCk_cons hck with ⟨_, hi, -⟩ | ⟨hi, -⟩ | ⟨r, len, hd, hok, hck2⟩
              · cases hi
              · cases hi
              obtain ⟨rfl, x, hlk, hkind⟩ := aInv_inv rfl hok
              have hna : (aP.2.1 k').2.1 = (aMe k').2.2.2.2.2.2.2.1 := rfl
              have hmx : (aP.2.1 k').2.2.1 = (aMe k').2.2.2.1 := rfl
              generalize hAs : (st.take (aP.2.1 k').2.1).reverse = As at h c2 c4
              generalize hrest : st.drop (aP.2.1 k').2.1 = rest at h c3
              have hst : st = As.reverse ++ rest := by rw [← hAs, ← hrest, List.reverse_reverse, List.take_append_drop]
              have hlen : As.length = (aMe k').2.2.2.2.2.2.2.1 := by rw [← hAs, List.length_reverse, List.length_take, ← hna]; omega
              have hstm : st.map (cV b κ) = (As.map (cV b κ)).reverse ++ rest.map (cV b κ) := by rw [hst, List.map_append, List.map_reverse]
              have hcat : 2 * (F0 m pc L (st.map (cV b κ))).monitorRoom + ((rest.map (cV b κ)).map fun v => v.category).sum ≤ 8 := by
                have : (rest.map (cV b κ)).map (fun v => v.category) = rest.map (fun v => v.category) := by
                  rw [List.map_map]
                  exact List.map_congr_left fun v _ => cV_cat b κ v
                rw [this]
                show 2 * 0 + aCat rest ≤ 8
                omega
              cases hh : aHl k' with
              | none =>
                have hhl : (aP.2.1 k').2.2.2.2.2 = none := hh
                rw [hhl] at h
                dsimp only at h
                have hkin : k' ∈ aAll := by
                  rcases hlk with hlk | hlk
                  · exact aMl_in hlk hh
                  · exact aMn_in hlk
                cases hr : aRun aP ko n d' k' (aP.1 (aP.2.1 k').1) (aEnt (aP.2.1 k').2.2.1 As) [] σ with
                | none => rw [hr] at h; cases h
                | some w =>
                  rw [hr] at h
                  match w, hr, h with
                  | (.inr _, σ1), hr, h => cases h
                  | (.inl v, σ1), hr, h =>
                    dsimp only at h
                    have hM := meet d' k' As σ (.inl v) σ1 hr hkin c4
                    have g1 := aRun_grow _ _ _ _ _ _ _ _ _ hr
                    have g2 := aRun_grow _ _ _ _ _ _ _ _ _ h
                    obtain ⟨m1, m2, m3, m4, m5, m6⟩ := aMk_w hkin
                    obtain ⟨r1, r2, -⟩ := aRk_le hkin
                    have hroom := aDn_room hdn r1
                    have hroom : d' * 10 + aRk k' + 12 ≤ d * 10 + aRk k + 11 := hroom
                    refine aW_size hbs hpt hcz (fun hsz => ?_)
                    have hfin : ∀ (H1 : Heap) (locs1 : List Loc), aPn s b κ dC dI cA σ1 H1 locs1 → W p l e R s m args below meth c H1 locs1 (cells + (σ1.length - σ.length)) (slots + (aSz σ1 - aSz σ)) Q (F0 m (pc + 3) L ((v.map (cV b κ)).toList ++ rest.map (cV b κ))) := by
                      intro H1 locs1 q1
                      have q2 := ih d k is ls (v.toList ++ rest) σ1 o σE h hk p e R s m args below meth c Q (pc + 3) L H1 locs1 (cells + (σ1.length - σ.length)) (slots + (aSz σ1 - aSz σ)) mc ms C hck2 q1 (by omega) hlc hf1 hf2 (by omega) (by omega) hmc hms hend
                      rw [List.map_append] at q2
                      have q3 : v.toList.map (cV b κ) = (v.map (cV b κ)).toList := by cases v <;> rfl
                      rw [q3] at q2
                      exact q2
                    have hpre : ∀ U : State, U.heap = H → s.WarmedH U.vm → aPc b κ dC dI cA ko As σ (As.map (cV b κ)).toArray U := fun U hU hW => ⟨rfl, by rw [hU]; exact hsz, by rw [hU]; exact hpt.1, hpt.2.2, aKn_moved hW hKn, by rw [hU]; exact aKc_warm hW hbs hpt.2.1.2.1 hKc⟩
                    have hRR : (aRm d' k' (σ1.length - σ.length) (aSz σ1 - aSz σ)).frames + 1 ≤ R.frames ∧ 8 + ((aMe k').2.2.2.1 + 11) + (aRm d' k' (σ1.length - σ.length) (aSz σ1 - aSz σ)).locals ≤ R.locals := by
                      refine ⟨?_, ?_⟩
                      · show d' * 10 + aRk k' + 11 + 1 ≤ R.frames; omega
                      · show 8 + ((aMe k').2.2.2.1 + 11) + 40 * (d' * 10 + aRk k' + 11) ≤ R.locals; omega
                    have hcs : cells + (σ1.length - σ.length) ≤ R.cells ∧ slots + (aSz σ1 - aSz σ) ≤ R.slots := ⟨by omega, by omega⟩
                    have hM2 : Met l (aMe k').2.1 (aWk k') (aRm d' k' (σ1.length - σ.length) (aSz σ1 - aSz σ)) (aPc b κ dC dI cA ko As σ) (aQ b κ dC dI cA v σ1) (σ1.length - σ.length) (aSz σ1 - aSz σ) (aUp b) := vx_Met.plain hM
                    have hmlen : ∀ (nn : Nat), (parseMethodDescriptor (aMe k').2.1.desc).map (fun d => d.parameters.length + 1) = some (nn + 1) → (parseMethodDescriptor (aMe k').2.1.desc).map (fun d => d.parameters.length) = some nn := by
                      intro nn hq
                      cases hp9 : parseMethodDescriptor (aMe k').2.1.desc with
                      | none => rw [hp9] at hq; cases hq
                      | some sig => rw [hp9] at hq; simp at hq ⊢; exact hq
                    rcases hkind with ⟨rfl, hk0⟩ | ⟨rfl, hk1⟩ | ⟨rfl, hk2⟩
                    · -- by a receiver
                      rcases m6 with ⟨-, w1, w2, w3, w4, w5⟩ | ⟨q, -⟩ | ⟨q, -⟩
                      · have hrc : (aP.2.1 k').2.2.2.2.1 = some (aMe k').2.2.2.2.2.2.1 := by
                          show (if (aMe k').2.2.2.2.2.1 = 0 then some (aMe k').2.2.2.2.2.2.1 else _) = _
                          rw [if_pos hk0]
                        rw [hrc] at c2
                        obtain ⟨a, As', rfl, hor⟩ := aRecv_inv c2
                        have hor : ∃ fs, σ[a]? = some (.inr ((aMe k').2.2.2.2.2.2.1, fs)) := by
                          rcases hor with hor | hor
                          · have : aNc = 13 := rfl
                            omega
                          · exact hor
                        obtain ⟨fs, hσ⟩ := hor
                        have hrecv := va_recv hKn.1 hpt.1 (aCi_at w4) (aWs_get (b := b) (κ := κ) (cA := cA) hσ)
                        dsimp only at hrecv
                        rw [w3] at hrecv
                        have hstk : (F0 m pc L (st.map (cV b κ))).stack = (As'.map (cV b κ)).reverse ++ .ref (b + a) :: rest.map (cV b κ) := by
                          show st.map (cV b κ) = _
                          rw [hstm, List.map_cons, List.reverse_cons, List.append_assoc]
                          rfl
                        have hn' : (As'.map (cV b κ)).length = As'.length := List.length_map _
                        have hpd := hmlen As'.length (by rw [w5, ← hlen]; rfl)
                        rcases hlk with hlk | hlk
                        · refine aCall_fin (va_runV (As := As'.map (cV b κ)) (rest := rest.map (cV b κ)) (C := (aMe k').2.1.cls) ⟨hx, hb, hml, hown, hts⟩ hM2 ⟨callB_of As'.length hts (aWk_good hkin) rfl rfl rfl (hts _ m2) (hts _ (aMl_w hlk)) ⟨m4.1, m4.2, hpd⟩ hRR, hts _ w1, hts _ w2⟩ ⟨aPc_blind, hrecv, hpre⟩ rfl hn' hlc.1 hstk hcat hd hcs) hpt.2.1 hfin
                        · refine aCall_fin (va_runVN (As := As'.map (cV b κ)) (rest := rest.map (cV b κ)) (C := (aMe k').2.1.cls) ⟨hx, hb, hml, hown, hts⟩ hM2 ⟨va_cnB As'.length hts (aWk_good hkin) rfl rfl rfl (hKn.2.1 _ (aMn_w hlk) rfl) (hts _ m2) ⟨m4.1, m4.2, hpd⟩ hRR, hts _ w1, hts _ w2⟩ ⟨aPc_blind, hrecv, hpre⟩ rfl hn' hlc.1 hstk hcat hd hcs) hpt.2.1 hfin
                      · rw [q] at hk0; cases hk0
                      · rw [q] at hk0; cases hk0
                    · -- static
                      rcases m6 with ⟨q, -⟩ | ⟨-, w1, w2⟩ | ⟨q, -⟩
                      · rw [q] at hk1; cases hk1
                      · have hn' : (As.map (cV b κ)).length = As.length := List.length_map _
                        have hpd : (parseMethodDescriptor (aMe k').2.1.desc).map (fun d => d.parameters.length) = some As.length := by rw [hlen]; exact w2
                        rcases hlk with hlk | hlk
                        · refine aCall_fin (va_runS (As := As.map (cV b κ)) (rest := rest.map (cV b κ)) ⟨hx, hb, hml, hown, hts⟩ hM2 ⟨callB_of As.length hts (aWk_good hkin) rfl rfl rfl (hts _ m2) (hts _ (aMl_w hlk)) ⟨m4.1, m4.2, hpd⟩ hRR, hts _ w1⟩ ⟨aPc_blind, hpre⟩ rfl hn' hlc.1 hstm hcat hd hcs) hpt.2.1 hfin
                        · refine aCall_fin (va_runSN (As := As.map (cV b κ)) (rest := rest.map (cV b κ)) ⟨hx, hb, hml, hown, hts⟩ hM2 ⟨va_cnB As.length hts (aWk_good hkin) rfl rfl rfl (hKn.2.1 _ (aMn_w hlk) rfl) (hts _ m2) ⟨m4.1, m4.2, hpd⟩ hRR, hts _ w1, trivial⟩ ⟨aPc_blind, hpre⟩ rfl hn' hlc.1 hstm hcat hd hcs) hpt.2.1 hfin
                      · rw [q] at hk1; cases hk1
                    · -- a constructor
                      rcases m6 with ⟨q, -⟩ | ⟨q, -⟩ | ⟨-, w1, w2, w3, w5⟩
                      · rw [q] at hk2; cases hk2
                      · rw [q] at hk2; cases hk2
                      · have hrc : (aP.2.1 k').2.2.2.2.1 = some 999 := by
                          show (if (aMe k').2.2.2.2.2.1 = 0 then _ else if (aMe k').2.2.2.2.2.1 = 2 then some 999 else _) = _
                          rw [if_neg (by omega), if_pos hk2]
                        rw [hrc] at c2
                        obtain ⟨a, As', rfl, -⟩ := aRecv_inv c2
                        have hstk : (F0 m pc L (st.map (cV b κ))).stack = (As'.map (cV b κ)).reverse ++ .ref (b + a) :: rest.map (cV b κ) := by
                          show st.map (cV b κ) = _
                          rw [hstm, List.map_cons, List.reverse_cons, List.append_assoc]
                          rfl
                        have hn' : (As'.map (cV b κ)).length = As'.length := List.length_map _
                        have hpd := hmlen As'.length (by rw [w5, ← hlen]; rfl)
                        have hGk := aWk_good hkin
                        have hwk : aWk k' = Jvm.Cond.code (aMe k').2.1 (aMe k').2.2.1 (aMe k').2.2.2.1 none :: aTB := by unfold aWk; rw [w3]
                        rcases hlk with hlk | hlk
                        · refine aCall_fin (va_runI (As := As'.map (cV b κ)) (rest := rest.map (cV b κ)) ⟨hx, hb, hml, hown, hts⟩ hM2 ⟨callB_of As'.length hts hGk hwk rfl rfl (hts _ m2) (hts _ (aMl_w hlk)) ⟨m4.1, m4.2, hpd⟩ hRR, w2, hts _ w1⟩ ⟨aPc_blind, hpre⟩ rfl hn' hlc.1 hstk hcat hd hcs) hpt.2.1 hfin
                        · refine aCall_fin (va_runIN (As := As'.map (cV b κ)) (rest := rest.map (cV b κ)) ⟨hx, hb, hml, hown, hts⟩ hM2 ⟨va_cnB As'.length hts hGk hwk rfl rfl (hKn.2.1 _ (aMn_w hlk) rfl) (hts _ m2) ⟨m4.1, m4.2, hpd⟩ hRR, w2, hts _ w1⟩ ⟨aPc_blind, hpre⟩ rfl hn' hlc.1 hstk hcat hd hcs) hpt.2.1 hfin
              | some kf =>
                have hhl : (aP.2.1 k').2.2.2.2.2 = some kf := hh
                rw [hhl] at h
                dsimp only at h
                have hk3 : (k' = 141 ∧ kf = 225) ∨ (k' = 142 ∧ kf = 226) ∨ (k' = 143 ∧ kf = 227) := by
                  unfold aHl at hh
                  split at hh
                  · cases hh; exact Or.inl ⟨by assumption, rfl⟩
                  · split at hh
                    · cases hh; exact Or.inr (Or.inl ⟨by assumption, rfl⟩)
                    · split at hh
                      · cases hh; exact Or.inr (Or.inr ⟨by assumption, rfl⟩)
                      · cases hh
                have hkf : kf ∈ aAll := by rcases hk3 with ⟨-, rfl⟩ | ⟨-, rfl⟩ | ⟨-, rfl⟩ <;> decide +kernel
                have hkd : (aMe k').2.2.2.2.2.1 = 1 := by rcases hk3 with ⟨rfl, -⟩ | ⟨rfl, -⟩ | ⟨rfl, -⟩ <;> rfl
                have hrk : aRk k' ≤ 9 := by rcases hk3 with ⟨rfl, -⟩ | ⟨rfl, -⟩ | ⟨rfl, -⟩ <;> decide
                have hlk : aHas aMl (aMe k).1 x k' = true := by
                  rcases hlk with hlk | hlk
                  · exact hlk
                  · have := (aRk_le (aMn_in hlk)).2.2
                    rw [this] at hh
                    cases hh
                have hr1 : r = .invokestatic x := by
                  rcases hkind with ⟨-, q⟩ | ⟨q, -⟩ | ⟨-, q⟩
                  · rw [q] at hkd; cases hkd
                  · exact q
                  · rw [q] at hkd; cases hkd
                subst hr1
                have hrc : (aP.2.1 k').2.2.2.2.1 = some 1 := by rcases hk3 with ⟨rfl, -⟩ | ⟨rfl, -⟩ | ⟨rfl, -⟩ <;> rfl
                rw [hrc] at c2
                have hroom := aDn_room hdn hrk
                have hroom : d' * 10 + aRk k' + 12 ≤ d * 10 + aRk k + 11 := hroom
                split at h
                · rename_i hcd
                  cases hr : aRun aP ko n d' kf (aP.1 (aP.2.1 kf).1) (aEnt (aP.2.1 kf).2.2.1 As.dropLast) [] σ with
                  | none => rw [hr] at h; cases h
                  | some w =>
                    rw [hr] at h
                    obtain ⟨o1, σ1⟩ := w
                    have hM := meet d' kf As.dropLast σ o1 σ1 hr hkf hcd.1
                    have g1 := aRun_grow _ _ _ _ _ _ _ _ _ hr
                    match o1, hM, h with
                    | .inl none, hM, h => cases h
                    | .inl (some v), hM, h =>
                      dsimp only at h
                      cases ho : aOut k' As v σ1 with
                      | none => rw [ho] at h; cases h
                      | some σ2 =>
                        rw [ho] at h
                        dsimp only at h
                        have g2 := aRun_grow _ _ _ _ _ _ _ _ _ h
                        have g3 := aOut_same ho
                        refine hHp p e R s m args below meth c Q k k' kf d' x pc cells slots L ls As rest st σ σ1 σ2 (.inl (some v)) 0 H locs C hd hlk hh hM (Or.inl ⟨v, rfl, ho, rfl⟩) hst hlen c2 hcd.2 c3 (by omega) (by omega) hpt hcz hlc (by omega) (by omega) (fun H1 locs1 q1 => ?_)
                        exact ih d k is ls (.int 0 :: rest) σ2 o σE h hk p e R s m args below meth c Q (pc + 3) L H1 locs1 (cells + (σ1.length - σ.length)) (slots + (aSz σ1 - aSz σ)) mc ms C hck2 q1 (by omega) hlc hf1 hf2 (by omega) (by omega) hmc hms hend
                    | .inr u, hM, h =>
                      dsimp only at h
                      have g2 := aRun_grow _ _ _ _ _ _ _ _ _ h
                      refine hHp p e R s m args below meth c Q k k' kf d' x pc cells slots L ls As rest st σ σ1 σ1 (.inr ()) 1 H locs C hd hlk hh hM (Or.inr ⟨rfl, rfl, rfl⟩) hst hlen c2 hcd.2 c3 (by omega) (by omega) hpt hcz hlc (by omega) (by omega) (fun H1 locs1 q1 => ?_)
                      exact ih d k is ls (.int 1 :: rest) σ1 o σE h hk p e R s m args below meth c Q (pc + 3) L H1 locs1 (cells + (σ1.length - σ.length)) (slots + (aSz σ1 - aSz σ)) mc ms C hck2 q1 (by omega) hlc hf1 hf2 (by omega) (by omega) hmc hms hend
                · cases h
            · cases hq
          · cases hq
        · -- a throw
          split at hq
          · cases hq
            cases h
            rcases aCk_cons hck with ⟨_, hi, -⟩ | ⟨-, hthr⟩ | ⟨r, len, hd, hok, -⟩
            · cases hi
            · refine hend H locs L pc cells slots σ rfl hpt hcz ?_ ?_ hlc.1 hthr
              · rw [List.length_append] at e1
                simp at e1
                omega
              · rw [aSz_app] at e2
                have : aCz aXc = 6 := rfl
                omega
            · exact absurd hok (by unfold aOk; split <;> simp_all)
          · cases hq
        · rename_i hn1 hn2
          split at hq
          · rename_i v he
            cases hq
            cases h
            rcases aCk_cons hck with ⟨_, rfl, -⟩ | ⟨rfl, -⟩ | ⟨r, len, hd, hok, -⟩
            · cases he
            · cases he
            obtain ⟨h1, rfl, h2⟩ := aEnd_inv hok he
            rw [h2]
            have : cells = mc := by omega
            have : slots = ms := by omega
            subst cells
            subst slots
            exact hend H locs L pc r hpt hd h1
          · split at hq
            · rename_i st' hj
              cases hq
              dsimp only at h
              rcases aCk_cons hck with ⟨_, rfl, -⟩ | ⟨rfl, -⟩ | ⟨r, len, hd, hok, hck2⟩
              · cases hj
              · cases hj
              refine aJump_ok hx hb hd hok hj (fun _ => ?_) (fun Lb pc' q _ => by cases q)
              exact ih d k is ls st' σ o σE h hk p e R s m args below meth c Q (pc + len) L H locs cells slots mc ms C hck2 hpt hcz hlc hf1 hf2 e1 e2 hmc hms hend
            · rename_i Lb st' hj
              cases hq
              dsimp only at h
              rcases aCk_cons hck with ⟨L0, rfl, hto⟩ | ⟨rfl, -⟩ | ⟨r, len, hd, hok, hck2⟩
              · cases hj
                obtain ⟨pc', hpc, hat⟩ := aTo_at hto
                have hpc : pc' = pc := by omega
                subst hpc
                exact ih d k _ ls _ σ o σE h hk p e R s m args below meth c Q pc' L H locs cells slots mc ms C (aCk_lab hchk hat) hpt hcz hlc hf1 hf2 e1 e2 hmc hms hend
              · cases hj
              refine aJump_ok hx hb hd hok hj (fun q => by cases q) (fun Lb' pc' q hat => ?_)
              cases q
              exact ih d k _ ls st' σ o σE h hk p e R s m args below meth c Q pc' L H locs cells slots mc ms C (aCk_lab hchk hat) hpt hcz hlc hf1 hf2 e1 e2 hmc hms hend
            · split at hq
              · rename_i ls' st' σ' hs
                cases hq
                dsimp only at h
                have g2 := aRun_grow _ _ _ _ _ _ _ _ _ h
                have g1 := aStep_mono hs
                rcases aCk_cons hck with ⟨_, rfl, -⟩ | ⟨rfl, -⟩ | ⟨r, len, hd, hok, hck2⟩
                · cases hs
                · cases hs
                refine aStep_ok C (hPr p e R s m args below meth c Q k C (by omega) (by omega)) hd hok hs hpt hcz hlc (fun n0 q => by omega) (fun n0 q => by omega) (fun H' locs' L' cells' slots' q1 q2 q3 q4 => ?_)
                exact ih d k is ls' st' σ' o σE h hk p e R s m args below meth c Q (pc + len) L' H' locs' cells' slots' mc ms C hck2 q1 (by omega) q2 hf1 hf2 (by omega) (by omega) hmc hms hend
              · cases hq
end ARN
