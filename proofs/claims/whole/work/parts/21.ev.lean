/-! EVALUATION: aEv, a run with some fuel, and a row an instruction for rewriting. By wip/whole/gen21.py. -/
def aEv (ko : aKo) (d k : Nat) (is : List Instr) (ls st : List Value) (σ : aH) (r : (Option Value ⊕ Unit) × aH) : Prop := ∃ n, aRun aP ko n d k is ls st σ = some r
/-- a call: what a method answers, and the heap then -/
def aCal (ko : aKo) (d k : Nat) (As : List Value) (σ : aH) (v : Option Value) (σ1 : aH) : Prop := aEv ko d k (aP.1 (aP.2.1 k).1) (aEnt (aP.2.1 k).2.2.1 As) [] σ (.inl v, σ1)
section AEV
variable {ko : aKo} {d k : Nat} {is : List Instr} {ls st : List Value} {σ : aH} {r : (Option Value ⊕ Unit) × aH}
theorem aEv_go {i : Instr} {is' : List Instr} {ls' st' : List Value} {σ' : aH} (h : aDo aP ko d k i is ls st σ = some (.inr (.inl (is', ls', st', σ')))) : aEv ko d k (i :: is) ls st σ r = aEv ko d k is' ls' st' σ' r := by
  apply propext
  constructor
  · rintro ⟨n, hn⟩
    cases n with
    | zero => cases hn
    | succ n =>
      unfold aRun at hn
      dsimp only at hn
      rw [h] at hn
      exact ⟨n, hn⟩
  · rintro ⟨n, hn⟩
    refine ⟨n + 1, ?_⟩
    unfold aRun
    dsimp only
    rw [h]
    exact hn
theorem aEv_end {i : Instr} {q : (Option Value ⊕ Unit) × aH} (h : aDo aP ko d k i is ls st σ = some (.inl q)) : aEv ko d k (i :: is) ls st σ r = (q = r) := by
  apply propext
  constructor
  · rintro ⟨n, hn⟩
    cases n with
    | zero => cases hn
    | succ n =>
      unfold aRun at hn
      dsimp only at hn
      rw [h] at hn
      exact Option.some.inj hn
  · rintro rfl
    refine ⟨1, ?_⟩
    unfold aRun
    dsimp only
    rw [h]
theorem aRun_det {n m : Nat} {r1 r2 : (Option Value ⊕ Unit) × aH} (h1 : aRun aP ko n d k is ls st σ = some r1) (h2 : aRun aP ko m d k is ls st σ = some r2) : r1 = r2 := by
  rcases Nat.le_total n m with h | h
  · exact Option.some.inj ((aRun_more h1 h).symm.trans h2)
  · exact Option.some.inj (h1.symm.trans (aRun_more h2 h))
/-- a call whose answer is known -/
theorem aEv_call {d' k' : Nat} {As rest : List Value} {v : Option Value} {σ1 : aH} (hc : aCal ko d' k' As σ v σ1) (hh : (aP.2.1 k').2.2.2.2.2 = none) (h : aDo aP ko d k (.invokestatic k') is ls st σ = some (.inr (.inr (d', k', As, rest)))) : aEv ko d k (.invokestatic k' :: is) ls st σ r = aEv ko d k is ls (v.toList ++ rest) σ1 r := by
  obtain ⟨m, hm⟩ := hc
  apply propext
  constructor
  · rintro ⟨n, hn⟩
    cases n with
    | zero => cases hn
    | succ n =>
      unfold aRun at hn
      dsimp only at hn
      rw [h] at hn
      dsimp only at hn
      rw [hh] at hn
      dsimp only at hn
      cases hq : aRun aP ko n d' k' (aP.1 (aP.2.1 k').1) (aEnt (aP.2.1 k').2.2.1 As) [] σ with
      | none => rw [hq] at hn; cases hn
      | some q =>
        have := aRun_det hq hm
        subst this
        rw [hq] at hn
        exact ⟨n, hn⟩
  · rintro ⟨n, hn⟩
    refine ⟨max n m + 1, ?_⟩
    unfold aRun
    dsimp only
    rw [h]
    dsimp only
    rw [hh]
    dsimp only
    rw [aRun_more hm (Nat.le_max_right n m)]
    exact aRun_more hn (Nat.le_max_left n m)
/-- what a local holds -/
def aI (o : Option Value) (f : Int32 → Prop) : Prop := match o with
  | some (.int x) => f x
  | _ => False
def aJ (o : Option Value) (f : Int64 → Prop) : Prop := match o with
  | some (.long x) => f x
  | _ => False
def aR (o : Option Value) (f : Value → Prop) : Prop := match o with
  | some (.ref x) => f (.ref x)
  | some (.retAddr x) => f (.retAddr x)
  | _ => False
theorem aEv_no {i : Instr} (h : aDo aP ko d k i is ls st σ = none) : aEv ko d k (i :: is) ls st σ r = False := by
  apply propext
  constructor
  · rintro ⟨n, hn⟩
    cases n with
    | zero => cases hn
    | succ n =>
      unfold aRun at hn
      dsimp only at hn
      rw [h] at hn
      cases hn
  · exact False.elim

theorem ev_iconst {v : Int} : aEv ko d k (.iconst v :: is) ls st σ r = aEv ko d k is ls (.int (Int32.ofInt v) :: st) σ r := aEv_go rfl
theorem ev_ldc2 {v : Nat} : aEv ko d k (.ldc2_w v :: is) ls st σ r = aEv ko d k is ls (.long (Int64.ofInt ((v : Int) - 16)) :: st) σ r := aEv_go rfl
theorem ev_ldc {j : Nat} : aEv ko d k (.ldc j :: is) ls st σ r = aEv ko d k is ls (.retAddr j :: st) σ r := aEv_go rfl
theorem ev_iload {j : Nat} : aEv ko d k (.iload j :: is) ls st σ r = aI (ls[j]?) (fun x => aEv ko d k is ls (.int x :: st) σ r) := by
  cases h : ls[j]? with
  | none => exact aEv_no (by simp only [aDo, aEnd, aJump, aStep, h])
  | some v => cases v <;> first | exact aEv_no (by simp only [aDo, aEnd, aJump, aStep, h]) | exact aEv_go (by simp only [aDo, aEnd, aJump, aStep, h])
theorem ev_lload {j : Nat} : aEv ko d k (.lload j :: is) ls st σ r = aJ (ls[j]?) (fun x => aEv ko d k is ls (.long x :: st) σ r) := by
  cases h : ls[j]? with
  | none => exact aEv_no (by simp only [aDo, aEnd, aJump, aStep, h])
  | some v => cases v <;> first | exact aEv_no (by simp only [aDo, aEnd, aJump, aStep, h]) | exact aEv_go (by simp only [aDo, aEnd, aJump, aStep, h])
theorem ev_aload {j : Nat} : aEv ko d k (.aload j :: is) ls st σ r = aR (ls[j]?) (fun x => aEv ko d k is ls (x :: st) σ r) := by
  cases h : ls[j]? with
  | none => exact aEv_no (by simp only [aDo, aEnd, aJump, aStep, h])
  | some v => cases v <;> first | exact aEv_no (by simp only [aDo, aEnd, aJump, aStep, h]) | exact aEv_go (by simp only [aDo, aEnd, aJump, aStep, h])
theorem ev_istore {j : Nat} {x : Int32} (h : j < ls.length) : aEv ko d k (.istore j :: is) ls (.int x :: st) σ r = aEv ko d k is (aSet ls j (.int x)) st σ r := aEv_go (by simp only [aDo, aEnd, aJump, aStep, if_pos h])
theorem ev_astore {j x : Nat} (h : j < ls.length) : aEv ko d k (.astore j :: is) ls (.ref x :: st) σ r = aEv ko d k is (aSet ls j (.ref x)) st σ r := aEv_go (by simp only [aDo, aEnd, aJump, aStep, if_pos h])
theorem ev_lstore {j : Nat} {x : Int64} (h : j + 1 < ls.length) : aEv ko d k (.lstore j :: is) ls (.long x :: st) σ r = aEv ko d k is (aSetL ls j (.long x)) st σ r := aEv_go (by simp only [aDo, aEnd, aJump, aStep, if_pos h])
theorem ev_iinc {j : Nat} {c : Int} : aEv ko d k (.iinc j c :: is) ls st σ r = aI (ls[j]?) (fun x => aEv ko d k is (aSet ls j (.int (x + Int32.ofInt c))) st σ r) := by
  cases h : ls[j]? with
  | none => exact aEv_no (by simp only [aDo, aEnd, aJump, aStep, h])
  | some v => cases v <;> first | exact aEv_no (by simp only [aDo, aEnd, aJump, aStep, h]) | exact aEv_go (by simp only [aDo, aEnd, aJump, aStep, h])
theorem ev_iadd {x y : Int32} : aEv ko d k (.iadd :: is) ls (.int y :: .int x :: st) σ r = aEv ko d k is ls (.int (x + y) :: st) σ r := aEv_go rfl
theorem ev_isub {x y : Int32} : aEv ko d k (.isub :: is) ls (.int y :: .int x :: st) σ r = aEv ko d k is ls (.int (x - y) :: st) σ r := aEv_go rfl
theorem ev_imul {x y : Int32} : aEv ko d k (.imul :: is) ls (.int y :: .int x :: st) σ r = aEv ko d k is ls (.int (x * y) :: st) σ r := aEv_go rfl
theorem ev_iand {x y : Int32} : aEv ko d k (.iand :: is) ls (.int y :: .int x :: st) σ r = aEv ko d k is ls (.int (x &&& y) :: st) σ r := aEv_go rfl
theorem ev_ior {x y : Int32} : aEv ko d k (.ior :: is) ls (.int y :: .int x :: st) σ r = aEv ko d k is ls (.int (x ||| y) :: st) σ r := aEv_go rfl
theorem ev_ixor {x y : Int32} : aEv ko d k (.ixor :: is) ls (.int y :: .int x :: st) σ r = aEv ko d k is ls (.int (x ^^^ y) :: st) σ r := aEv_go rfl
theorem ev_ishl {x y : Int32} : aEv ko d k (.ishl :: is) ls (.int y :: .int x :: st) σ r = aEv ko d k is ls (.int (x <<< (y &&& 31)) :: st) σ r := aEv_go rfl
theorem ev_ishr {x y : Int32} : aEv ko d k (.ishr :: is) ls (.int y :: .int x :: st) σ r = aEv ko d k is ls (.int (x >>> (y &&& 31)) :: st) σ r := aEv_go rfl
theorem ev_iushr {x y : Int32} : aEv ko d k (.iushr :: is) ls (.int y :: .int x :: st) σ r = aEv ko d k is ls (.int ((x.toUInt32 >>> (y.toUInt32 &&& Int32.toUInt32 31)).toInt32) :: st) σ r := aEv_go rfl
theorem ev_ladd {x y : Int64} : aEv ko d k (.ladd :: is) ls (.long y :: .long x :: st) σ r = aEv ko d k is ls (.long (x + y) :: st) σ r := aEv_go rfl
theorem ev_lsub {x y : Int64} : aEv ko d k (.lsub :: is) ls (.long y :: .long x :: st) σ r = aEv ko d k is ls (.long (x - y) :: st) σ r := aEv_go rfl
theorem ev_lmul {x y : Int64} : aEv ko d k (.lmul :: is) ls (.long y :: .long x :: st) σ r = aEv ko d k is ls (.long (x * y) :: st) σ r := aEv_go rfl
theorem ev_land {x y : Int64} : aEv ko d k (.land :: is) ls (.long y :: .long x :: st) σ r = aEv ko d k is ls (.long (x &&& y) :: st) σ r := aEv_go rfl
theorem ev_lor {x y : Int64} : aEv ko d k (.lor :: is) ls (.long y :: .long x :: st) σ r = aEv ko d k is ls (.long (x ||| y) :: st) σ r := aEv_go rfl
theorem ev_lxor {x y : Int64} : aEv ko d k (.lxor :: is) ls (.long y :: .long x :: st) σ r = aEv ko d k is ls (.long (x ^^^ y) :: st) σ r := aEv_go rfl
theorem ev_lshl {x : Int64} {y : Int32} : aEv ko d k (.lshl :: is) ls (.int y :: .long x :: st) σ r = aEv ko d k is ls (.long (x <<< (y.toInt64 &&& 63)) :: st) σ r := aEv_go rfl
theorem ev_lshr {x : Int64} {y : Int32} : aEv ko d k (.lshr :: is) ls (.int y :: .long x :: st) σ r = aEv ko d k is ls (.long (x >>> (y.toInt64 &&& 63)) :: st) σ r := aEv_go rfl
theorem ev_lushr {x : Int64} {y : Int32} : aEv ko d k (.lushr :: is) ls (.int y :: .long x :: st) σ r = aEv ko d k is ls (.long ((x.toUInt64 >>> (y.toInt64.toUInt64 &&& Int64.toUInt64 63)).toInt64) :: st) σ r := aEv_go rfl
theorem ev_idiv {x y : Int32} (h : ¬ y = 0) : aEv ko d k (.idiv :: is) ls (.int y :: .int x :: st) σ r = aEv ko d k is ls (.int (x / y) :: st) σ r := aEv_go (by simp only [aDo, aEnd, aJump, aStep, if_neg h])
theorem ev_irem {x y : Int32} (h : ¬ y = 0) : aEv ko d k (.irem :: is) ls (.int y :: .int x :: st) σ r = aEv ko d k is ls (.int (x - x / y * y) :: st) σ r := aEv_go (by simp only [aDo, aEnd, aJump, aStep, if_neg h])
theorem ev_ldiv {x y : Int64} (h : ¬ y = 0) : aEv ko d k (.ldiv :: is) ls (.long y :: .long x :: st) σ r = aEv ko d k is ls (.long (x / y) :: st) σ r := aEv_go (by simp only [aDo, aEnd, aJump, aStep, if_neg h])
theorem ev_lrem {x y : Int64} (h : ¬ y = 0) : aEv ko d k (.lrem :: is) ls (.long y :: .long x :: st) σ r = aEv ko d k is ls (.long (x - x / y * y) :: st) σ r := aEv_go (by simp only [aDo, aEnd, aJump, aStep, if_neg h])
theorem ev_ineg {x : Int32} : aEv ko d k (.ineg :: is) ls (.int x :: st) σ r = aEv ko d k is ls (.int (-x) :: st) σ r := aEv_go rfl
theorem ev_lcmp {x y : Int64} : aEv ko d k (.lcmp :: is) ls (.long y :: .long x :: st) σ r = aEv ko d k is ls (.int (lg_cmp x y) :: st) σ r := aEv_go rfl
theorem ev_i2l {x : Int32} : aEv ko d k (.i2l :: is) ls (.int x :: st) σ r = aEv ko d k is ls (.long x.toInt64 :: st) σ r := aEv_go rfl
theorem ev_l2i {x : Int64} : aEv ko d k (.l2i :: is) ls (.long x :: st) σ r = aEv ko d k is ls (.int x.toInt32 :: st) σ r := aEv_go rfl
theorem ev_i2b {x : Int32} : aEv ko d k (.i2b :: is) ls (.int x :: st) σ r = aEv ko d k is ls (.int x.toInt8.toInt32 :: st) σ r := aEv_go rfl
theorem ev_i2s {x : Int32} : aEv ko d k (.i2s :: is) ls (.int x :: st) σ r = aEv ko d k is ls (.int x.toInt16.toInt32 :: st) σ r := aEv_go rfl
theorem ev_i2c {x : Int32} : aEv ko d k (.i2c :: is) ls (.int x :: st) σ r = aEv ko d k is ls (.int (x.toUInt32 % 65536).toInt32 :: st) σ r := aEv_go rfl
theorem ev_dupi {x : Int32} : aEv ko d k (.dup :: is) ls (.int x :: st) σ r = aEv ko d k is ls (.int x :: .int x :: st) σ r := aEv_go rfl
theorem ev_dupr {x : Nat} : aEv ko d k (.dup :: is) ls (.ref x :: st) σ r = aEv ko d k is ls (.ref x :: .ref x :: st) σ r := aEv_go rfl
theorem ev_pop {x : Int32} : aEv ko d k (.pop :: is) ls (.int x :: st) σ r = aEv ko d k is ls st σ r := aEv_go rfl
theorem ev_dup2 {y : Int32} {x : Nat} : aEv ko d k (.dup2 :: is) ls (.int y :: .ref x :: st) σ r = aEv ko d k is ls (.int y :: .ref x :: .int y :: .ref x :: st) σ r := aEv_go rfl
theorem ev_getfield {n a ci : Nat} {fs : List Value} {v : Value} (h : σ[a]? = some (.inr (ci, fs))) (h1 : fs[n % 64]? = some v) (h2 : n / 64 = ci) : aEv ko d k (.getfield n :: is) ls (.ref a :: st) σ r = aEv ko d k is ls (v :: st) σ r := aEv_go (by simp only [aDo, aEnd, aJump, aStep, h, h1, if_pos h2])
theorem ev_putfield {n a ci : Nat} {fs : List Value} {v : Value} (h : σ[a]? = some (.inr (ci, fs))) (h1 : n / 256 = ci ∧ n % 64 < fs.length ∧ aFit (n / 64 % 4) v = true) : aEv ko d k (.putfield n :: is) ls (v :: .ref a :: st) σ r = aEv ko d k is ls st (σ.set a (.inr (ci, fs.set (n % 64) v))) r := aEv_go (by simp only [aDo, aEnd, aJump, aStep, h, if_pos h1])
theorem ev_iaload {a n : Nat} {j : Int32} {f : Nat → Int32} (h : σ[a]? = some (.inl (.int, n, .inl f))) (h1 : aIn j n = true) : aEv ko d k (.iaload :: is) ls (.int j :: .ref a :: st) σ r = aEv ko d k is ls (.int (f j.toNatClampNeg) :: st) σ r := aEv_go (by simp only [aDo, aEnd, aJump, aStep, aInts, h, if_pos h1])
theorem ev_ialoadK {i n : Nat} {j : Int32} {f : Nat → Int32} (h : ko i = (.int, n, f)) (h1 : aIn j n = true) : aEv ko d k (.iaload :: is) ls (.int j :: .retAddr i :: st) σ r = aEv ko d k is ls (.int (f j.toNatClampNeg) :: st) σ r := aEv_go (by simp only [aDo, aEnd, aJump, aStep, aInts, h, if_pos h1])
theorem ev_baload {a n : Nat} {j : Int32} {f : Nat → Int32} (h : σ[a]? = some (.inl (.boolean, n, .inl f))) (h1 : aIn j n = true) : aEv ko d k (.baload :: is) ls (.int j :: .ref a :: st) σ r = aEv ko d k is ls (.int (f j.toNatClampNeg) :: st) σ r := aEv_go (by simp only [aDo, aEnd, aJump, aStep, h, if_pos h1])
theorem ev_caload {a n : Nat} {j : Int32} {f : Nat → Int32} (h : σ[a]? = some (.inl (.char, n, .inl f))) (h1 : aIn j n = true) : aEv ko d k (.caload :: is) ls (.int j :: .ref a :: st) σ r = aEv ko d k is ls (.int (f j.toNatClampNeg) :: st) σ r := aEv_go (by simp only [aDo, aEnd, aJump, aStep, h, if_pos h1])
theorem ev_laload {a n : Nat} {j : Int32} {f : Nat → Int64} (h : σ[a]? = some (.inl (.long, n, .inr (.inl f)))) (h1 : aIn j n = true) : aEv ko d k (.laload :: is) ls (.int j :: .ref a :: st) σ r = aEv ko d k is ls (.long (f j.toNatClampNeg) :: st) σ r := aEv_go (by simp only [aDo, aEnd, aJump, aStep, h, if_pos h1])
theorem ev_aaload {a n : Nat} {j : Int32} {C : String} {f : Nat → Option Nat} (h : σ[a]? = some (.inl (.object C, n, .inr (.inr (.inr (.inr f)))))) (h1 : aIn j n = true) : aEv ko d k (.aaload :: is) ls (.int j :: .ref a :: st) σ r = aEv ko d k is ls (va_rf (f j.toNatClampNeg) :: st) σ r := aEv_go (by simp only [aDo, aEnd, aJump, aStep, h, if_pos h1])
theorem ev_iastore {a n : Nat} {x j : Int32} {f : Nat → Int32} (h : σ[a]? = some (.inl (.int, n, .inl f))) (h1 : aIn j n = true) : aEv ko d k (.iastore :: is) ls (.int x :: .int j :: .ref a :: st) σ r = aEv ko d k is ls st (σ.set a (.inl (.int, n, .inl (upd f j.toNatClampNeg x)))) r := aEv_go (by simp only [aDo, aEnd, aJump, aStep, h, if_pos h1])
theorem ev_bastore {a n : Nat} {x j : Int32} {f : Nat → Int32} (h : σ[a]? = some (.inl (.boolean, n, .inl f))) (h1 : aIn j n = true) : aEv ko d k (.bastore :: is) ls (.int x :: .int j :: .ref a :: st) σ r = aEv ko d k is ls st (σ.set a (.inl (.boolean, n, .inl (upd f j.toNatClampNeg (vp_nar .boolean x))))) r := aEv_go (by simp only [aDo, aEnd, aJump, aStep, h, if_pos h1])
theorem ev_castore {a n : Nat} {x j : Int32} {f : Nat → Int32} (h : σ[a]? = some (.inl (.char, n, .inl f))) (h1 : aIn j n = true) : aEv ko d k (.castore :: is) ls (.int x :: .int j :: .ref a :: st) σ r = aEv ko d k is ls st (σ.set a (.inl (.char, n, .inl (upd f j.toNatClampNeg (vp_nar .char x))))) r := aEv_go (by simp only [aDo, aEnd, aJump, aStep, h, if_pos h1])
theorem ev_lastore {a n : Nat} {x : Int64} {j : Int32} {f : Nat → Int64} (h : σ[a]? = some (.inl (.long, n, .inr (.inl f)))) (h1 : aIn j n = true) : aEv ko d k (.lastore :: is) ls (.long x :: .int j :: .ref a :: st) σ r = aEv ko d k is ls st (σ.set a (.inl (.long, n, .inr (.inl (vp_updL f j.toNatClampNeg x))))) r := aEv_go (by simp only [aDo, aEnd, aJump, aStep, h, if_pos h1])
theorem ev_goto {L : Int} : aEv ko d k (.goto L :: is) ls st σ r = aEv ko d k (aP.1 L.toNat) ls st σ r := aEv_go rfl
theorem ev_jsr {L : Int} : aEv ko d k (.jsr L :: is) ls st σ r = aEv ko d k (aP.1 L.toNat) ls st σ r := aEv_go rfl
theorem ev_ifCond {c : Jvm.ClassFile.Cond} {L : Int} {x : Int32} : aEv ko d k (.ifCond c L :: is) ls (.int x :: st) σ r = if aCmp c x 0 = true then aEv ko d k (aP.1 L.toNat) ls st σ r else aEv ko d k is ls st σ r := by
  cases h : aCmp c x 0
  · rw [if_neg (by decide)]; exact aEv_go (by simp only [aDo, aEnd, aJump, h]; rfl)
  · rw [if_pos rfl]; exact aEv_go (by simp only [aDo, aEnd, aJump, h]; rfl)
theorem ev_icmp {c : Jvm.ClassFile.Cond} {L : Int} {x y : Int32} : aEv ko d k (.if_icmp c L :: is) ls (.int y :: .int x :: st) σ r = if aCmp c x y = true then aEv ko d k (aP.1 L.toNat) ls st σ r else aEv ko d k is ls st σ r := by
  cases h : aCmp c x y
  · rw [if_neg (by decide)]; exact aEv_go (by simp only [aDo, aEnd, aJump, h]; rfl)
  · rw [if_pos rfl]; exact aEv_go (by simp only [aDo, aEnd, aJump, h]; rfl)
theorem ev_ireturn {x : Int32} : aEv ko d k (.ireturn :: is) ls [.int x] σ r = ((Sum.inl (some (.int x)), σ) = r) := aEv_end rfl
theorem ev_lreturn {x : Int64} : aEv ko d k (.lreturn :: is) ls [.long x] σ r = ((Sum.inl (some (.long x)), σ) = r) := aEv_end rfl
theorem ev_return : aEv ko d k (.return_ :: is) ls [] σ r = ((Sum.inl none, σ) = r) := aEv_end rfl
theorem ev_freturn {x : Int32} (h : x = 0 ∨ x = 1) : aEv ko d k (.freturn :: is) ls [.int x] σ r = ((Sum.inl (some (.int x)), σ) = r) := aEv_end (by simp only [aDo, aEnd, if_pos h])
theorem ev_min {x y : Int32} (h : aCat (.int y :: .int x :: st) ≤ 16) : aEv ko d k (.invokedynamic 5 :: is) ls (.int y :: .int x :: st) σ r = aEv ko d k is ls (.int (if y < x then y else x) :: st) σ r := aEv_go (by simp only [aDo, aEnd, aJump, aStep, aPrim, if_pos h])
theorem ev_max {x y : Int32} (h : aCat (.int y :: .int x :: st) ≤ 16) : aEv ko d k (.invokedynamic 6 :: is) ls (.int y :: .int x :: st) σ r = aEv ko d k is ls (.int (if x < y then y else x) :: st) σ r := aEv_go (by simp only [aDo, aEnd, aJump, aStep, aPrim, if_pos h])
end AEV

