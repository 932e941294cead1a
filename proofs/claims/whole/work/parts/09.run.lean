/-! JUMPS, ENDS, CALLS; and then the whole run of a method. -/
theorem aStep_mono {P : aPg} {ko : aKo} {i : Instr} {ls st ls' st' : List Value} {σ σ' : aH} (h : aStep P ko i ls st σ = some (ls', st', σ')) : σ.length ≤ σ'.length ∧ aSz σ ≤ aSz σ' := by
  unfold aStep at h
  split at h
  all_goals (repeat' (first | (cases h; done) | split at h))
  all_goals (first | (cases h; exact ⟨Nat.le_refl _, Nat.le_refl _⟩) | (cases h; refine ⟨by rw [List.length_set]; exact Nat.le_refl _, Nat.le_of_eq (Eq.symm (aSz_set (by assumption) ?_))⟩; first | rfl | simp [aCz]) | (cases h; refine ⟨by simp, ?_⟩; rw [aSz_app]; exact Nat.le_add_right _ _) | (rename_i h9; cases h; exact ⟨Nat.le_of_eq (aPrim_len h9).symm, Nat.le_of_eq (aPrim_sz h9).symm⟩))
theorem aOut_same {k' : Nat} {As : List Value} {v : Value} {σ σ' : aH} (h : aOut k' As v σ = some σ') : σ'.length = σ.length ∧ aSz σ' = aSz σ := by
  unfold aOut at h
  split at h
  · split at h
    · rename_i h7
      split at h
      · split at h
        · split at h
          · cases h
          · cases h
            exact ⟨by rw [List.length_set], aSz_set h7 (by rfl)⟩
        · split at h
          · cases h
            exact ⟨by rw [List.length_set], aSz_set h7 (by rfl)⟩
          · cases h
        · cases h
      · cases h
    · cases h
  · cases h
theorem aRun_grow {P : aPg} {ko : aKo} : ∀ (n d k : Nat) (is : List Instr) (ls st : List Value) (σ σE : aH) (o : Option Value ⊕ Unit), aRun P ko n d k is ls st σ = some (o, σE) → σ.length ≤ σE.length ∧ aSz σ ≤ aSz σE := by
  intro n
  induction n with
  | zero => intro d k is ls st σ σE o h; cases h
  | succ n ih =>
    intro d k is ls st σ σE o h
    cases is with
    | nil => cases h
    | cons i is =>
      unfold aRun at h
      dsimp only at h
      cases hq : aDo P ko d k i is ls st σ with
      | none => rw [hq] at h; cases h
      | some q =>
        rw [hq] at h
        match q, hq, h with
        | .inl r, hq, h =>
          cases h
          unfold aDo at hq
          split at hq
          · split at hq
            · split at hq <;> cases hq
            · cases hq
          · split at hq
            · cases hq
              refine ⟨by simp, ?_⟩
              rw [aSz_app]
              exact Nat.le_add_right _ _
            · cases hq
          · split at hq
            · cases hq; exact ⟨Nat.le_refl _, Nat.le_refl _⟩
            · split at hq
              · cases hq
              · cases hq
              · split at hq <;> cases hq
        | .inr (.inl (is', ls', st', σ')), hq, h =>
          have h1 : σ.length ≤ σ'.length ∧ aSz σ ≤ aSz σ' := by
            unfold aDo at hq
            split at hq
            · split at hq
              · split at hq <;> cases hq
              · cases hq
            · split at hq <;> cases hq
            · split at hq
              · cases hq
              · split at hq
                · cases hq; exact ⟨Nat.le_refl _, Nat.le_refl _⟩
                · cases hq; exact ⟨Nat.le_refl _, Nat.le_refl _⟩
                · split at hq
                  · rename_i h9
                    cases hq
                    exact aStep_mono h9
                  · cases hq
          have h2 := ih _ _ _ _ _ _ _ _ h
          exact ⟨Nat.le_trans h1.1 h2.1, Nat.le_trans h1.2 h2.2⟩
        | .inr (.inr (d', k', As, rest)), hq, h =>
          dsimp only at h
          cases hk : (P.2.1 k').2.2.2.2.2 with
          | none =>
            rw [hk] at h
            dsimp only at h
            cases hr : aRun P ko n d' k' (P.1 (P.2.1 k').1) (aEnt (P.2.1 k').2.2.1 As) [] σ with
            | none => rw [hr] at h; cases h
            | some w =>
              rw [hr] at h
              match w, hr, h with
              | (.inl v, σ'), hr, h =>
                have h1 := ih _ _ _ _ _ _ _ _ hr
                have h2 := ih _ _ _ _ _ _ _ _ h
                exact ⟨Nat.le_trans h1.1 h2.1, Nat.le_trans h1.2 h2.2⟩
              | (.inr _, σ'), hr, h => cases h
          | some kf =>
            rw [hk] at h
            dsimp only at h
            split at h
            · cases hr : aRun P ko n d' kf (P.1 (P.2.1 kf).1) (aEnt (P.2.1 kf).2.2.1 As.dropLast) [] σ with
              | none => rw [hr] at h; cases h
              | some w =>
                rw [hr] at h
                match w, hr, h with
                | (.inl (some v), σ'), hr, h =>
                  dsimp only at h
                  cases ho : aOut k' As v σ' with
                  | none => rw [ho] at h; cases h
                  | some σ2 =>
                    rw [ho] at h
                    have h1 := ih _ _ _ _ _ _ _ _ hr
                    have h2 := ih _ _ _ _ _ _ _ _ h
                    have h3 := aOut_same ho
                    exact ⟨Nat.le_trans h1.1 (h3.1 ▸ h2.1), Nat.le_trans h1.2 (h3.2 ▸ h2.2)⟩
                | (.inl none, σ'), hr, h => cases h
                | (.inr _, σ'), hr, h =>
                  have h1 := ih _ _ _ _ _ _ _ _ hr
                  have h2 := ih _ _ _ _ _ _ _ _ h
                  exact ⟨Nat.le_trans h1.1 h2.1, Nat.le_trans h1.2 h2.2⟩
            · cases h
section ARN
variable {p : Program} {l : Launch} {e : Env} {R : Room} {s : State} {m : MethodId} {args : Array Value} {below : List Frame} {meth : Method} {c : Code} {Q : State → Prop} {b : Nat} {κ : Nat → Nat} {dC : Nat → ClassId} {dI : Nat → Nat → Nat} {cA : FieldType → ClassId} {ko : aKo} {k : Nat}
/-- where a label lies -/
def aAt (k L pc : Nat) : Prop := L / 64 = k ∧ (aLps k)[L % 64]? = some pc
theorem aTo_at {k L : Nat} {t : Int} (h : aTo k L t = true) : ∃ pc : Nat, (pc : Int) = t ∧ aAt k L pc := by
  unfold aTo at h
  rw [Bool.and_eq_true, decide_eq_true_eq] at h
  obtain ⟨h1, h2⟩ := h
  cases hq : (aLps k)[L % 64]? with
  | none => rw [hq] at h2; cases h2
  | some pc =>
    rw [hq] at h2
    exact ⟨pc, by simpa using h2, h1, hq⟩
theorem aTos_at {k pc : Nat} : ∀ (as bs : List Int), aTos k pc as bs = true → ∀ (j : Nat) (a : Int), as[j]? = some a → ∃ b0 : Int, bs[j]? = some b0 ∧ aTo k b0.toNat ((pc : Int) + a) = true := by
  intro as
  induction as with
  | nil => intro bs h j a hj; cases hj
  | cons x xs ih =>
    intro bs h j a hj
    cases bs with
    | nil => cases h
    | cons y ys =>
      unfold aTos at h
      rw [Bool.and_eq_true] at h
      cases j with
      | zero => cases hj; exact ⟨y, rfl, h.1⟩
      | succ j => exact ih ys h.2 j a hj
theorem aLks_at {k pc : Nat} {d d' x : Int} (hd : aTo k d'.toNat ((pc : Int) + d) = true) : ∀ (as bs : List (Int × Int)), aLks k pc as bs = true → aTo k (Op.lookupswitch.offset bs d' x).toNat ((pc : Int) + Op.lookupswitch.offset as d x) = true := by
  intro as
  induction as with
  | nil =>
    intro bs h
    cases bs with
    | nil => exact hd
    | cons y ys => cases h
  | cons a as ih =>
    intro bs h
    cases bs with
    | nil => cases h
    | cons y ys =>
      unfold aLks at h
      simp only [Bool.and_eq_true, decide_eq_true_eq] at h
      obtain ⟨a1, a2⟩ := a
      obtain ⟨y1, y2⟩ := y
      rw [Op.lookupswitch.offset_cons, Op.lookupswitch.offset_cons]
      dsimp only at h
      obtain ⟨⟨rfl, h2⟩, h3⟩ := h
      split
      · exact h2
      · exact ih ys h3
set_option maxHeartbeats 4000000 in
set_option maxRecDepth 100000 in
theorem aJump_ok (hx : p.tables.exec = Jvm.exec) (hb : c.code = (aMe k).2.2.1) {pc len : Nat} {r i : Instr} {L : Array Slot} {st st' : List Value} {o : Option Nat} {H : Heap} {locs : List Loc} {cells slots : Nat}
    (hd : decode (aMe k).2.2.1 pc = .ok (r, len)) (hok : aOk (aMe k).1 k pc len r i = true) (hj : aJump i st = some (o, st'))
    (k0 : o = none → W p l e R s m args below meth c H locs cells slots Q (F0 m (pc + len) L (st'.map (cV b κ)))) (k1 : ∀ Lb pc', o = some Lb → aAt k Lb pc' → W p l e R s m args below meth c H locs cells slots Q (F0 m pc' L (st'.map (cV b κ)))) :
    W p l e R s m args below meth c H locs cells slots Q (F0 m pc L (st.map (cV b κ))) := by
  unfold aOk at hok
  split at hok
  all_goals (try (cases hj; done))
  · rename_i cnd off cnd' L0
    simp only [Bool.and_eq_true, decide_eq_true_eq, beq_iff_eq] at hok
    obtain ⟨⟨hc, h1⟩, rfl⟩ := hok
    subst hc
    obtain ⟨tgt, ht, h2⟩ := aTo_at h1
    unfold aJump at hj
    dsimp only at hj
    split at hj
    · rename_i x st0
      cases hj
      cases cnd
      · exact lv_if_eq hx hb hd ht.symm (fun q => k1 _ _ (by simp [aCmp, q]) h2) (fun q => k0 (by simp [aCmp, q]))
      · exact lv_if_ne hx hb hd ht.symm (fun q => k1 _ _ (by simp [aCmp, q]) h2) (fun q => k0 (by simp [aCmp, q]))
      · exact lv_if_lt hx hb hd ht.symm (fun q => k1 _ _ (by simp [aCmp, q]) h2) (fun q => k0 (by simp only [aCmp, decide_eq_true_eq, if_neg q]))
      · exact lv_if_ge hx hb hd ht.symm (fun q => k1 _ _ (by simp [aCmp, q]) h2) (fun q => k0 (by simp only [aCmp, decide_eq_true_eq, if_neg q]))
      · exact lv_if_gt hx hb hd ht.symm (fun q => k1 _ _ (by simp [aCmp, q]) h2) (fun q => k0 (by simp only [aCmp, decide_eq_true_eq, if_neg q]))
      · exact lv_if_le hx hb hd ht.symm (fun q => k1 _ _ (by simp [aCmp, q]) h2) (fun q => k0 (by simp only [aCmp, decide_eq_true_eq, if_neg q]))
    · cases hj
  · rename_i cnd off cnd' L0
    simp only [Bool.and_eq_true, decide_eq_true_eq, beq_iff_eq] at hok
    obtain ⟨⟨hc, h1⟩, rfl⟩ := hok
    subst hc
    obtain ⟨tgt, ht, h2⟩ := aTo_at h1
    unfold aJump at hj
    dsimp only at hj
    split at hj
    · rename_i y x st0
      cases hj
      cases cnd
      · exact lv_icmp_eq hx hb hd ht.symm (fun q => k1 _ _ (by simp [aCmp, q]) h2) (fun q => k0 (by simp [aCmp, q]))
      · exact lv_icmp_ne hx hb hd ht.symm (fun q => k1 _ _ (by simp [aCmp, q]) h2) (fun q => k0 (by simp [aCmp, q]))
      · exact lv_icmp_lt hx hb hd ht.symm (fun q => k1 _ _ (by simp [aCmp, q]) h2) (fun q => k0 (by simp only [aCmp, decide_eq_true_eq, if_neg q]))
      · exact lv_icmp_ge hx hb hd ht.symm (fun q => k1 _ _ (by simp [aCmp, q]) h2) (fun q => k0 (by simp only [aCmp, decide_eq_true_eq, if_neg q]))
      · exact lv_icmp_gt hx hb hd ht.symm (fun q => k1 _ _ (by simp [aCmp, q]) h2) (fun q => k0 (by simp only [aCmp, decide_eq_true_eq, if_neg q]))
      · exact lv_icmp_le hx hb hd ht.symm (fun q => k1 _ _ (by simp [aCmp, q]) h2) (fun q => k0 (by simp only [aCmp, decide_eq_true_eq, if_neg q]))
    · cases hj
  · simp only [Bool.and_eq_true, beq_iff_eq] at hok
    obtain ⟨h1, rfl⟩ := hok
    obtain ⟨tgt, ht, h2⟩ := aTo_at h1
    cases hj
    exact lv_goto hx hb hd ht.symm (k1 _ _ rfl h2)
  · rename_i d lo hi offs d' lo' hi' offs'
    simp only [Bool.and_eq_true, decide_eq_true_eq] at hok
    obtain ⟨⟨⟨⟨rfl, rfl⟩, h1⟩, h2⟩, h3⟩ := hok
    unfold aJump at hj
    dsimp only at hj
    split at hj
    · rename_i x st0
      cases hj
      by_cases hout : x.toInt < lo ∨ hi < x.toInt
      · obtain ⟨tgt, ht, h4⟩ := aTo_at h1
        exact lv_tableOut hx hb hd hout ht.symm (k1 _ _ (by rw [if_pos hout]) h4)
      · have hlt : (x.toInt - lo).toNat < offs.size := by omega
        obtain ⟨b0, e1, e2⟩ := aTos_at offs.toList offs'.toList h2 (x.toInt - lo).toNat offs[(x.toInt - lo).toNat] (by rw [Array.getElem?_toList, Array.getElem?_eq_getElem hlt])
        obtain ⟨tgt, ht, h4⟩ := aTo_at e2
        refine lv_tableIn hx hb hd (fun q => hout (Or.inl q)) (fun q => hout (Or.inr q)) (Array.getElem?_eq_getElem hlt) ht.symm (k1 _ _ ?_ h4)
        rw [if_neg hout, List.getD_eq_getElem?_getD, e1]
        rfl
    · cases hj
  · rename_i d ps d' ps'
    simp only [Bool.and_eq_true] at hok
    obtain ⟨⟨h1, h2⟩, h3⟩ := hok
    unfold aJump at hj
    dsimp only at hj
    split at hj
    · rename_i x st0
      cases hj
      obtain ⟨tgt, ht, h4⟩ := aTo_at (aLks_at (x := x.toInt) h1 _ _ h2)
      exact lv_lookup hx hb hd h3 rfl ht.symm (k1 _ _ rfl h4)
    · cases hj
  · cases hok
end ARN
