/-! WHAT EVERY RUN KEEPS: objects stay what they are; a method answers by its kind. From wip/whole/src. -/
def kpS (σ σ' : aH) : Prop := ∀ (a ci : Nat) (fs : List Value), σ[a]? = some (Sum.inr (ci, fs)) → ∃ fs' : List Value, σ'[a]? = some (Sum.inr (ci, fs'))
theorem kpS_r {σ : aH} : kpS σ σ := fun _ _ fs h => ⟨fs, h⟩
theorem kpS_t {σ σ1 σ2 : aH} (h1 : kpS σ σ1) (h2 : kpS σ1 σ2) : kpS σ σ2 := fun a ci fs h => by
  obtain ⟨fs', h'⟩ := h1 a ci fs h
  exact h2 a ci fs' h'
theorem kpS_app {σ l : aH} : kpS σ (σ ++ l) := fun a ci fs h => ⟨fs, by
  have hl : a < σ.length := by
    apply Classical.byContradiction
    intro z
    rw [List.getElem?_eq_none (by omega)] at h
    cases h
  rw [List.getElem?_append_left hl]
  exact h⟩
theorem kpS_o {σ : aH} {a ci : Nat} {fs fs' : List Value} (h : σ[a]? = some (.inr (ci, fs))) : kpS σ (σ.set a (.inr (ci, fs'))) := fun b cj gs hb => by
  by_cases e : a = b
  · subst e
    rw [h] at hb
    cases hb
    have hl : a < σ.length := by
      apply Classical.byContradiction
      intro z
      rw [List.getElem?_eq_none (by omega)] at h
      cases h
    exact ⟨fs', by rw [List.getElem?_set_self hl]⟩
  · exact ⟨gs, by rw [List.getElem?_set_ne e]; exact hb⟩
theorem kpS_a {σ : aH} {a : Nat} {c : FieldType × Nat × ((Nat → Int32) ⊕ (Nat → Int64) ⊕ (Nat → UInt32) ⊕ (Nat → UInt64) ⊕ (Nat → Option Nat))} {c' : aC} (h : σ[a]? = some (.inl c)) : kpS σ (σ.set a c') := fun b cj gs hb => by
  by_cases e : a = b
  · subst e
    rw [h] at hb
    cases hb
  · exact ⟨gs, by rw [List.getElem?_set_ne e]; exact hb⟩
theorem aPrim_kp {ko : aKo} {j : Nat} {st st' : List Value} {σ σ' : aH} (h : aPrim ko j st σ = some (st', σ')) : kpS σ σ' := by
  unfold aPrim at h
  split at h
  all_goals (repeat' (first | (cases h; done) | split at h))
  all_goals (first | (cases h; exact kpS_r) | (cases h; exact kpS_a (by assumption)))
theorem aStep_kp {P : aPg} {ko : aKo} {i : Instr} {ls st ls' st' : List Value} {σ σ' : aH} (h : aStep P ko i ls st σ = some (ls', st', σ')) : kpS σ σ' := by
  unfold aStep at h
  split at h
  all_goals (repeat' (first | (cases h; done) | split at h))
  all_goals (first | (cases h; exact kpS_r) | (cases h; exact kpS_app) | (cases h; exact kpS_o (by assumption)) | (cases h; exact kpS_a (by assumption)) | (rename_i h9; cases h; exact aPrim_kp h9))
theorem aOut_kp {k' : Nat} {As : List Value} {v : Value} {σ σ' : aH} (h : aOut k' As v σ = some σ') : kpS σ σ' := by
  unfold aOut at h
  split at h
  · split at h
    · rename_i h7
      split at h
      · split at h
        · split at h
          · cases h
          · cases h
            exact kpS_a h7
        · split at h
          · cases h
            exact kpS_a h7
          · cases h
        · cases h
      · cases h
    · cases h
  · cases h
theorem aRun_kp {P : aPg} {ko : aKo} : ∀ (n d k : Nat) (is : List Instr) (ls st : List Value) (σ σE : aH) (o : Option Value ⊕ Unit), aRun P ko n d k is ls st σ = some (o, σE) → kpS σ σE := by
  intro n
  induction n with
  | zero => intro d k is ls st σ σE o h; cases h
  | succ n ih =>
    intro d k is ls st σ σE o h
    cases is with
    | nil => cases h
    | cons i is =>
      unfold aRun at h
      dsimp only at h
      cases hq : aDo P ko d k i is ls st σ with
      | none => rw [hq] at h; cases h
      | some q =>
        rw [hq] at h
        match q, hq, h with
        | .inl r, hq, h =>
          cases h
          unfold aDo at hq
          split at hq
          · split at hq
            · split at hq <;> cases hq
            · cases hq
          · split at hq
            · cases hq
              exact kpS_app
            · cases hq
          · split at hq
            · cases hq; exact kpS_r
            · split at hq
              · cases hq
              · cases hq
              · split at hq <;> cases hq
        | .inr (.inl (is', ls', st', σ')), hq, h =>
          have h1 : kpS σ σ' := by
            unfold aDo at hq
            split at hq
            · split at hq
              · split at hq <;> cases hq
              · cases hq
            · split at hq <;> cases hq
            · split at hq
              · cases hq
              · split at hq
                · cases hq; exact kpS_r
                · cases hq; exact kpS_r
                · split at hq
                  · rename_i h9
                    cases hq
                    exact aStep_kp h9
                  · cases hq
          exact kpS_t h1 (ih _ _ _ _ _ _ _ _ h)
        | .inr (.inr (d', k', As, rest)), hq, h =>
          dsimp only at h
          cases hk : (P.2.1 k').2.2.2.2.2 with
          | none =>
            rw [hk] at h
            dsimp only at h
            cases hr : aRun P ko n d' k' (P.1 (P.2.1 k').1) (aEnt (P.2.1 k').2.2.1 As) [] σ with
            | none => rw [hr] at h; cases h
            | some w =>
              rw [hr] at h
              match w, hr, h with
              | (.inl v, σ'), hr, h => exact kpS_t (ih _ _ _ _ _ _ _ _ hr) (ih _ _ _ _ _ _ _ _ h)
              | (.inr _, σ'), hr, h => cases h
          | some kf =>
            rw [hk] at h
            dsimp only at h
            split at h
            · cases hr : aRun P ko n d' kf (P.1 (P.2.1 kf).1) (aEnt (P.2.1 kf).2.2.1 As.dropLast) [] σ with
              | none => rw [hr] at h; cases h
              | some w =>
                rw [hr] at h
                match w, hr, h with
                | (.inl (some v), σ'), hr, h =>
                  dsimp only at h
                  cases ho : aOut k' As v σ' with
                  | none => rw [ho] at h; cases h
                  | some σ2 =>
                    rw [ho] at h
                    exact kpS_t (ih _ _ _ _ _ _ _ _ hr) (kpS_t (aOut_kp ho) (ih _ _ _ _ _ _ _ _ h))
                | (.inl none, σ'), hr, h => cases h
                | (.inr _, σ'), hr, h => exact kpS_t (ih _ _ _ _ _ _ _ _ hr) (ih _ _ _ _ _ _ _ _ h)
            · cases h
/-- an instruction stays in its method, and ends it by the kind b (true: an int) -/
def okJn (k : Nat) (L : Int) : Bool := L.toNat / 64 == k
def okIn (k : Nat) (b : Bool) (i : Instr) : Bool := match i with
  | .goto L => okJn k L
  | .jsr L => okJn k L
  | .ifCond _ L => okJn k L
  | .if_icmp _ L => okJn k L
  | .tableswitch d _ _ offs => okJn k d && offs.toList.all (okJn k)
  | .lookupswitch d ps => okJn k d && ps.toList.all (fun e => okJn k e.2)
  | .return_ => false
  | .ireturn => b
  | .freturn => b
  | .dreturn => b
  | .lreturn => !b
  | _ => true
def okKn (k : Nat) (b : Bool) : Bool := (List.range 64).all (fun j => (aP.1 (k * 64 + j)).all (okIn k b))
theorem okKn_l {k L : Nat} {b : Bool} (h : okKn k b = true) (hL : (L / 64 == k) = true) : (aP.1 L).all (okIn k b) = true := by
  have e : L / 64 = k := by simpa using hL
  have := List.all_eq_true.mp h (L % 64) (List.mem_range.mpr (Nat.mod_lt _ (by decide)))
  have e2 : k * 64 + L % 64 = L := by omega
  rw [e2] at this
  exact this
def isV (b : Bool) (v : Value) : Bool := match v with
  | .int _ => b
  | .long _ => !b
  | _ => false
theorem getD_all {k : Nat} {l : List Int} {d : Int} (hd : okJn k d = true) (h : l.all (okJn k) = true) (n : Nat) : okJn k (l.getD n d) = true := by
  rw [List.getD_eq_getElem?_getD]
  cases hl : l[n]? with
  | none => exact hd
  | some x => exact List.all_eq_true.mp h x (List.mem_of_getElem? hl)
theorem lks_all {k : Nat} {d x : Int} (hd : okJn k d = true) : ∀ {l : List (Int × Int)}, l.all (fun e => okJn k e.2) = true → okJn k (Op.lookupswitch.offset l d x) = true := by
  intro l
  induction l with
  | nil => intro _; exact hd
  | cons e l ih =>
    intro h
    obtain ⟨a, b⟩ := e
    rw [List.all_cons, Bool.and_eq_true] at h
    unfold Op.lookupswitch.offset
    split
    · exact h.1
    · exact ih h.2
theorem aRun_ret {ko : aKo} {k : Nat} {b : Bool} (hk : okKn k b = true) : ∀ (n d : Nat) (is : List Instr) (ls st : List Value) (σ σE : aH) (v : Option Value), is.all (okIn k b) = true → aRun aP ko n d k is ls st σ = some (.inl v, σE) → ∃ u, v = some u ∧ isV b u = true := by
  intro n
  induction n with
  | zero => intro d is ls st σ σE v _ h; cases h
  | succ n ih =>
    intro d is ls st σ σE v ha h
    cases is with
    | nil => cases h
    | cons i is =>
      rw [List.all_cons, Bool.and_eq_true] at ha
      obtain ⟨hi, hr⟩ := ha
      unfold aRun at h
      dsimp only at h
      cases hq : aDo aP ko d k i is ls st σ with
      | none => rw [hq] at h; cases h
      | some q =>
        rw [hq] at h
        match q, hq, h with
        | .inl r, hq, h =>
          cases h
          unfold aDo at hq
          split at hq
          · split at hq
            · split at hq <;> cases hq
            · cases hq
          · split at hq <;> cases hq
          · split at hq
            · rename_i h9
              cases hq
              unfold aEnd at h9
              split at h9
              · cases hi
              · split at h9
                · cases h9
                  exact ⟨_, rfl, hi⟩
                · cases h9
              · split at h9
                · split at h9
                  · cases h9
                    exact ⟨_, rfl, hi⟩
                  · cases h9
                · cases h9
              · split at h9
                · split at h9
                  · cases h9
                    exact ⟨_, rfl, hi⟩
                  · cases h9
                · cases h9
              · split at h9
                · cases h9
                  exact ⟨_, rfl, hi⟩
                · cases h9
              · cases h9
            · split at hq
              · cases hq
              · cases hq
              · split at hq <;> cases hq
        | .inr (.inl (is', ls', st', σ')), hq, h =>
          have h1 : is'.all (okIn k b) = true := by
            unfold aDo at hq
            split at hq
            · split at hq
              · split at hq <;> cases hq
              · cases hq
            · split at hq <;> cases hq
            · split at hq
              · cases hq
              · split at hq
                · cases hq; exact hr
                · rename_i h9
                  cases hq
                  refine okKn_l hk ?_
                  unfold aJump at h9
                  split at h9
                  · cases h9; exact hi
                  · cases h9; exact hi
                  · split at h9
                    · have h9' := Option.some.inj h9
                      have h8 := congrArg Prod.fst h9'
                      dsimp only at h8
                      split at h8
                      · cases h8; exact hi
                      · cases h8
                    · cases h9
                  · split at h9
                    · have h9' := Option.some.inj h9
                      have h8 := congrArg Prod.fst h9'
                      dsimp only at h8
                      split at h8
                      · cases h8; exact hi
                      · cases h8
                    · cases h9
                  · split at h9
                    · have h8 := congrArg Prod.fst (Option.some.inj h9)
                      have hi' := (Bool.and_eq_true _ _).mp hi
                      have h7 := Option.some.inj h8
                      rw [← h7]
                      split
                      · exact hi'.1
                      · exact getD_all hi'.1 hi'.2 _
                    · cases h9
                  · split at h9
                    · have h8 := congrArg Prod.fst (Option.some.inj h9)
                      have hi' := (Bool.and_eq_true _ _).mp hi
                      have h7 := Option.some.inj h8
                      rw [← h7]
                      exact lks_all hi'.1 hi'.2
                    · cases h9
                  · cases h9
                · split at hq
                  · cases hq; exact hr
                  · cases hq
          exact ih _ _ _ _ _ _ _ h1 h
        | .inr (.inr (d', k', As, rest)), hq, h =>
          dsimp only at h
          cases hk' : (aP.2.1 k').2.2.2.2.2 with
          | none =>
            rw [hk'] at h
            dsimp only at h
            cases hr' : aRun aP ko n d' k' (aP.1 (aP.2.1 k').1) (aEnt (aP.2.1 k').2.2.1 As) [] σ with
            | none => rw [hr'] at h; cases h
            | some w =>
              rw [hr'] at h
              match w, hr', h with
              | (.inl v, σ'), hr', h => exact ih _ _ _ _ _ _ _ hr h
              | (.inr _, σ'), hr', h => cases h
          | some kf =>
            rw [hk'] at h
            dsimp only at h
            split at h
            · cases hr' : aRun aP ko n d' kf (aP.1 (aP.2.1 kf).1) (aEnt (aP.2.1 kf).2.2.1 As.dropLast) [] σ with
              | none => rw [hr'] at h; cases h
              | some w =>
                rw [hr'] at h
                match w, hr', h with
                | (.inl (some v), σ'), hr', h =>
                  dsimp only at h
                  cases ho : aOut k' As v σ' with
                  | none => rw [ho] at h; cases h
                  | some σ2 =>
                    rw [ho] at h
                    exact ih _ _ _ _ _ _ _ hr h
                | (.inl none, σ'), hr', h => cases h
                | (.inr _, σ'), hr', h => exact ih _ _ _ _ _ _ _ hr h
            · cases h
section KS
variable {ko : aKo} {d k : Nat} {is : List Instr} {ls st : List Value} {σ : aH} {Q : Option Value → aH → Prop} {P : (Option Value ⊕ Unit) → aH → Prop}
theorem wp_kp (h : aWp ko d k is ls st σ P) : aWp ko d k is ls st σ (fun r σ1 => P r σ1 ∧ kpS σ σ1) := by
  obtain ⟨⟨r, σ1⟩, ⟨n, he⟩, hr⟩ := h
  exact ⟨(r, σ1), ⟨n, he⟩, hr, aRun_kp _ _ _ _ _ _ _ _ _ he⟩
theorem wp_mono {P' : (Option Value ⊕ Unit) → aH → Prop} (h : aWp ko d k is ls st σ P) (hP : ∀ r σ1, P r σ1 → P' r σ1) : aWp ko d k is ls st σ P' := by
  obtain ⟨⟨r, σ1⟩, he, hr⟩ := h
  exact ⟨(r, σ1), he, hP _ _ hr⟩
/-- a call: its answer is of its kind, and objects stay -/
theorem mm_kp {b : Bool} {As : List Value} (hk : okKn k b = true) (he : ((aP.2.1 k).1 / 64 == k) = true) (h : aMm ko d k As σ Q) : aMm ko d k As σ (fun v σ1 => Q v σ1 ∧ kpS σ σ1 ∧ ∃ u, v = some u ∧ isV b u = true) := by
  obtain ⟨⟨r, σ1⟩, ⟨n, hn⟩, hr⟩ := h
  refine ⟨(r, σ1), ⟨n, hn⟩, ?_⟩
  match r, hn, hr with
  | .inl v, hn, hr => exact ⟨hr, aRun_kp _ _ _ _ _ _ _ _ _ hn, aRun_ret hk _ _ _ _ _ _ _ _ (okKn_l hk he) hn⟩
end KS
def lwI : List Nat := [151, 152, 153, 156, 157, 158, 160, 162, 165, 167, 169, 171, 175, 176, 177, 178, 179, 181, 183, 186, 187, 188, 190, 191, 193, 194, 197, 198, 199, 203, 205, 206, 207, 210, 211, 214, 215, 218, 221, 222, 223]
theorem lwI_ok : lwI.all (fun k => okKn k true && ((aP.2.1 k).1 / 64 == k)) = true := by decide +kernel
theorem lw182 : okKn 182 false = true := by decide +kernel
