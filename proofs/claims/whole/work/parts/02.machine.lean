/-! THE ABSTRACT MACHINE. A heap is a list of cells (its own numbering, from 0 on: the order in which the law makes them); code is a list of instructions with labels in the place of offsets, method numbers in the place of links, slot numbers in the place of field links. Constants that were there before (the script, static arrays, texts) are '.retAddr i'; '.float 0' is a local that nobody may read. -/
abbrev aC : Type := (FieldType × vp_A) ⊕ (Nat × List Value)
abbrev aH : Type := List aC
/-- the constants: an array of whole numbers of a type; a text is one of type '.object "java/lang/String"' -/
abbrev aKo : Type := Nat → FieldType × Nat × (Nat → Int32)
/-- a method: label of its entry, how many values it takes off the stack, locals, rank, the class of its receiver if it is looked at (999: any), and, of a method that catches what another one throws, that one -/
abbrev aMi : Type := Nat × Nat × Nat × Nat × Option Nat × Option Nat
/-- labels; methods; classes: name and types of the fields -/
abbrev aPg : Type := (Nat → List Instr) × (Nat → aMi) × (Nat → String × List FieldType)
def aJk : Value := .float 0
def aNl (v : Value) : Value := match v with
  | .long _ => aJk
  | .double _ => aJk
  | v => v
def aSet (ls : List Value) (k : Nat) (v : Value) : List Value := match k with
  | 0 => ls.set 0 v
  | j + 1 => (ls.set (j + 1) v).modify j aNl
def aSetL (ls : List Value) (k : Nat) (v : Value) : List Value := (aSet ls k v).set (k + 1) aJk
def aCmp (c : Jvm.ClassFile.Cond) (x y : Int32) : Bool := match c with
  | .eq => decide (x = y)
  | .ne => decide (¬ x = y)
  | .lt => decide (x < y)
  | .ge => decide (y ≤ x)
  | .gt => decide (y < x)
  | .le => decide (x ≤ y)
def aIn (j : Int32) (n : Nat) : Bool := !(decide (j < 0)) && decide (j.toNatClampNeg < n)
theorem aIn_iff {j : Int32} {n : Nat} : aIn j n = true ↔ vp_in j n := by
  unfold aIn vp_in
  simp only [Bool.and_eq_true, Bool.not_eq_true', decide_eq_false_iff_not, decide_eq_true_eq, not_or, Nat.not_le]
def aFit (t : Nat) (v : Value) : Bool := match v with
  | .int x => (t == 0) || ((t == 2) && ((x == 0) || (x == 1)))
  | .long _ => t == 1
  | .ref _ => t == 3
  | .null => t == 3
  | _ => false
/-- a new array of a type -/
def aNew (ty : FieldType) (n : Nat) : aC := match ty with
  | .long => .inl (.long, n, .inr (.inl (fun _ => 0)))
  | .object C => .inl (.object C, n, .inr (.inr (.inr (.inr (fun _ => none)))))
  | t => .inl (t, n, .inl (fun _ => 0))
/-- an array of whole numbers: of the heap, or a constant -/
def aInts (ko : aKo) (σ : aH) (v : Value) : Option (FieldType × Nat × (Nat → Int32)) := match v with
  | .ref a => (match σ[a]? with
    | some (.inl (ty, n, .inl f)) => some (ty, n, f)
    | _ => none)
  | .retAddr i => some (ko i)
  | _ => none
def aLen (ko : aKo) (σ : aH) (v : Value) : Option Nat := match v with
  | .ref a => (match σ[a]? with
    | some (.inl (_, n, _)) => some n
    | _ => none)
  | .retAddr i => if (ko i).1 = .int then some (ko i).2.1 else none
  | _ => none
/-- where a sign stands first -/
def aIx (f : Nat → Int32) (c : Int32) : Nat → Nat → Int32
  | 0, _ => -1
  | n + 1, k => if f k = c then nI k else aIx f c n (k + 1)
def aStr : FieldType := .object "java/lang/String"
/-- what the JDK's own do: 0 Object's constructor, 1 arraycopy of ints, 2 length, 3 charAt, 4 indexOf of texts, 5 min, 6 max -/
def aPrim (ko : aKo) (j : Nat) (st : List Value) (σ : aH) : Option (List Value × aH) := match j with
  | 0 => (match st with
    | .ref _ :: st => some (st, σ)
    | _ => none)
  | 1 => (match st with
    | .int n :: .int dp :: .ref b :: .int sp :: v :: st => (match aInts ko σ v, σ[b]? with
      | some (.int, N, f), some (.inl (.int, M, .inl g)) =>
        if 0 ≤ n.toInt ∧ 0 ≤ dp.toInt ∧ 0 ≤ sp.toInt ∧ sp.toNatClampNeg + n.toNatClampNeg ≤ N ∧ dp.toNatClampNeg + n.toNatClampNeg ≤ M then
          some (st, σ.set b (.inl (.int, M, .inl (va_cpy f g sp.toNatClampNeg dp.toNatClampNeg n.toNatClampNeg)))) else none
      | _, _ => none)
    | _ => none)
  | 2 => (match st with
    | .retAddr i :: st => if (ko i).1 = aStr then some (.int (nI (ko i).2.1) :: st, σ) else none
    | _ => none)
  | 3 => (match st with
    | .int k :: .retAddr i :: st => if (ko i).1 = aStr ∧ aIn k (ko i).2.1 = true then some (.int ((ko i).2.2 k.toNatClampNeg) :: st, σ) else none
    | _ => none)
  | 4 => (match st with
    | .int c :: .retAddr i :: st => if (ko i).1 = aStr then some (.int (aIx (ko i).2.2 c (ko i).2.1 0) :: st, σ) else none
    | _ => none)
  | 5 => (match st with
    | .int y :: .int x :: st => some (.int (if y < x then y else x) :: st, σ)
    | _ => none)
  | 6 => (match st with
    | .int y :: .int x :: st => some (.int (if x < y then y else x) :: st, σ)
    | _ => none)
  | _ => none
def aCat (st : List Value) : Nat := (st.map fun v => v.category).sum
/-- an instruction that goes on to the next one -/
def aStep (P : aPg) (ko : aKo) (i : Instr) (ls st : List Value) (σ : aH) : Option (List Value × List Value × aH) := match i with
  | .iconst v => some (ls, .int (Int32.ofInt v) :: st, σ)
  | .ldc2_w v => some (ls, .long (Int64.ofInt ((v : Int) - 16)) :: st, σ)
  | .ldc k => some (ls, .retAddr k :: st, σ)
  | .iload k => (match ls[k]? with
    | some (.int x) => some (ls, .int x :: st, σ)
    | _ => none)
  | .lload k => (match ls[k]? with
    | some (.long x) => some (ls, .long x :: st, σ)
    | _ => none)
  | .aload k => (match ls[k]? with
    | some (.ref x) => some (ls, .ref x :: st, σ)
    | some (.retAddr x) => some (ls, .retAddr x :: st, σ)
    | _ => none)
  | .istore k => (match st with
    | .int x :: st => if k < ls.length then some (aSet ls k (.int x), st, σ) else none
    | _ => none)
  | .lstore k => (match st with
    | .long x :: st => if k + 1 < ls.length then some (aSetL ls k (.long x), st, σ) else none
    | _ => none)
  | .astore k => (match st with
    | .ref x :: st => if k < ls.length then some (aSet ls k (.ref x), st, σ) else none
    | _ => none)
  | .iinc k c => (match ls[k]? with
    | some (.int x) => some (aSet ls k (.int (x + Int32.ofInt c)), st, σ)
    | _ => none)
  | .iadd => (match st with | .int y :: .int x :: st => some (ls, .int (x + y) :: st, σ) | _ => none)
  | .isub => (match st with | .int y :: .int x :: st => some (ls, .int (x - y) :: st, σ) | _ => none)
  | .imul => (match st with | .int y :: .int x :: st => some (ls, .int (x * y) :: st, σ) | _ => none)
  | .iand => (match st with | .int y :: .int x :: st => some (ls, .int (x &&& y) :: st, σ) | _ => none)
  | .ior => (match st with | .int y :: .int x :: st => some (ls, .int (x ||| y) :: st, σ) | _ => none)
  | .ixor => (match st with | .int y :: .int x :: st => some (ls, .int (x ^^^ y) :: st, σ) | _ => none)
  | .idiv => (match st with | .int y :: .int x :: st => if y = 0 then none else some (ls, .int (x / y) :: st, σ) | _ => none)
  | .irem => (match st with | .int y :: .int x :: st => if y = 0 then none else some (ls, .int (x - x / y * y) :: st, σ) | _ => none)
  | .ineg => (match st with | .int x :: st => some (ls, .int (-x) :: st, σ) | _ => none)
  | .ishl => (match st with | .int y :: .int x :: st => some (ls, .int (x <<< (y &&& 31)) :: st, σ) | _ => none)
  | .ishr => (match st with | .int y :: .int x :: st => some (ls, .int (x >>> (y &&& 31)) :: st, σ) | _ => none)
  | .iushr => (match st with | .int y :: .int x :: st => some (ls, .int ((x.toUInt32 >>> (y.toUInt32 &&& Int32.toUInt32 31)).toInt32) :: st, σ) | _ => none)
  | .ladd => (match st with | .long y :: .long x :: st => some (ls, .long (x + y) :: st, σ) | _ => none)
  | .lsub => (match st with | .long y :: .long x :: st => some (ls, .long (x - y) :: st, σ) | _ => none)
  | .lmul => (match st with | .long y :: .long x :: st => some (ls, .long (x * y) :: st, σ) | _ => none)
  | .land => (match st with | .long y :: .long x :: st => some (ls, .long (x &&& y) :: st, σ) | _ => none)
  | .lor => (match st with | .long y :: .long x :: st => some (ls, .long (x ||| y) :: st, σ) | _ => none)
  | .lxor => (match st with | .long y :: .long x :: st => some (ls, .long (x ^^^ y) :: st, σ) | _ => none)
  | .ldiv => (match st with | .long y :: .long x :: st => if y = 0 then none else some (ls, .long (x / y) :: st, σ) | _ => none)
  | .lrem => (match st with | .long y :: .long x :: st => if y = 0 then none else some (ls, .long (x - x / y * y) :: st, σ) | _ => none)
  | .lshl => (match st with | .int y :: .long x :: st => some (ls, .long (x <<< (y.toInt64 &&& 63)) :: st, σ) | _ => none)
  | .lshr => (match st with | .int y :: .long x :: st => some (ls, .long (x >>> (y.toInt64 &&& 63)) :: st, σ) | _ => none)
  | .lushr => (match st with | .int y :: .long x :: st => some (ls, .long ((x.toUInt64 >>> (y.toInt64.toUInt64 &&& Int64.toUInt64 63)).toInt64) :: st, σ) | _ => none)
  | .lcmp => (match st with | .long y :: .long x :: st => some (ls, .int (lg_cmp x y) :: st, σ) | _ => none)
  | .i2l => (match st with | .int x :: st => some (ls, .long x.toInt64 :: st, σ) | _ => none)
  | .l2i => (match st with | .long x :: st => some (ls, .int x.toInt32 :: st, σ) | _ => none)
  | .i2b => (match st with | .int x :: st => some (ls, .int x.toInt8.toInt32 :: st, σ) | _ => none)
  | .i2s => (match st with | .int x :: st => some (ls, .int x.toInt16.toInt32 :: st, σ) | _ => none)
  | .i2c => (match st with | .int x :: st => some (ls, .int (x.toUInt32 % 65536).toInt32 :: st, σ) | _ => none)
  | .dup => (match st with | .int x :: st => some (ls, .int x :: .int x :: st, σ) | .ref x :: st => some (ls, .ref x :: .ref x :: st, σ) | _ => none)
  | .pop => (match st with | .int _ :: st => some (ls, st, σ) | _ => none)
  | .dup2 => (match st with | .int y :: .ref x :: st => some (ls, .int y :: .ref x :: .int y :: .ref x :: st, σ) | _ => none)
  | .getfield n => (match st with
    | .ref a :: st => (match σ[a]? with
      | some (.inr (ci, fs)) => (match fs[n % 64]? with
        | some v => if n / 64 = ci then some (ls, v :: st, σ) else none
        | none => none)
      | _ => none)
    | _ => none)
  | .putfield n => (match st with
    | v :: .ref a :: st => (match σ[a]? with
      | some (.inr (ci, fs)) => if n / 256 = ci ∧ n % 64 < fs.length ∧ aFit (n / 64 % 4) v = true then some (ls, st, σ.set a (.inr (ci, fs.set (n % 64) v))) else none
      | _ => none)
    | _ => none)
  | .iaload => (match st with
    | .int j :: v :: st => (match aInts ko σ v with
      | some (.int, n, f) => if aIn j n = true then some (ls, .int (f j.toNatClampNeg) :: st, σ) else none
      | _ => none)
    | _ => none)
  | .baload => (match st with
    | .int j :: .ref a :: st => (match σ[a]? with
      | some (.inl (.boolean, n, .inl f)) => if aIn j n = true then some (ls, .int (f j.toNatClampNeg) :: st, σ) else none
      | _ => none)
    | _ => none)
  | .caload => (match st with
    | .int j :: .ref a :: st => (match σ[a]? with
      | some (.inl (.char, n, .inl f)) => if aIn j n = true then some (ls, .int (f j.toNatClampNeg) :: st, σ) else none
      | _ => none)
    | _ => none)
  | .laload => (match st with
    | .int j :: .ref a :: st => (match σ[a]? with
      | some (.inl (.long, n, .inr (.inl f))) => if aIn j n = true then some (ls, .long (f j.toNatClampNeg) :: st, σ) else none
      | _ => none)
    | _ => none)
  | .aaload => (match st with
    | .int j :: .ref a :: st => (match σ[a]? with
      | some (.inl (.object _, n, .inr (.inr (.inr (.inr f))))) => if aIn j n = true then some (ls, va_rf (f j.toNatClampNeg) :: st, σ) else none
      | _ => none)
    | _ => none)
  | .iastore => (match st with
    | .int x :: .int j :: .ref a :: st => (match σ[a]? with
      | some (.inl (.int, n, .inl f)) => if aIn j n = true then some (ls, st, σ.set a (.inl (.int, n, .inl (upd f j.toNatClampNeg x)))) else none
      | _ => none)
    | _ => none)
  | .bastore => (match st with
    | .int x :: .int j :: .ref a :: st => (match σ[a]? with
      | some (.inl (.boolean, n, .inl f)) => if aIn j n = true then some (ls, st, σ.set a (.inl (.boolean, n, .inl (upd f j.toNatClampNeg (vp_nar .boolean x))))) else none
      | _ => none)
    | _ => none)
  | .castore => (match st with
    | .int x :: .int j :: .ref a :: st => (match σ[a]? with
      | some (.inl (.char, n, .inl f)) => if aIn j n = true then some (ls, st, σ.set a (.inl (.char, n, .inl (upd f j.toNatClampNeg (vp_nar .char x))))) else none
      | _ => none)
    | _ => none)
  | .lastore => (match st with
    | .long x :: .int j :: .ref a :: st => (match σ[a]? with
      | some (.inl (.long, n, .inr (.inl f))) => if aIn j n = true then some (ls, st, σ.set a (.inl (.long, n, .inr (.inl (vp_updL f j.toNatClampNeg x))))) else none
      | _ => none)
    | _ => none)
  | .aastore => (match st with
    | .ref b :: .int j :: .ref a :: st => (match σ[a]?, σ[b]? with
      | some (.inl (.object C, n, .inr (.inr (.inr (.inr f))))), some (.inr (ci, _)) => if aIn j n = true ∧ (P.2.2 ci).1 = C then some (ls, st, σ.set a (.inl (.object C, n, .inr (.inr (.inr (.inr (va_up f j.toNatClampNeg (some b)))))))) else none
      | _, _ => none)
    | _ => none)
  | .arraylength => (match st with
    | v :: st => (match aLen ko σ v with
      | some n => some (ls, .int (Int32.ofNat n) :: st, σ)
      | none => none)
    | _ => none)
  | .new ci => some (ls, .ref σ.length :: st, σ ++ [.inr (ci, (P.2.2 ci).2.map defaultValue)])
  | .newarray t => (match st with
    | .int n :: st => if 0 ≤ n.toInt ∧ n.toNatClampNeg ≤ 10000 then some (ls, .ref σ.length :: st, σ ++ [aNew (newarray.typeOf t) n.toNatClampNeg]) else none
    | _ => none)
  | .anewarray ci => (match st with
    | .int n :: st => if 0 ≤ n.toInt ∧ n.toNatClampNeg ≤ 10000 then some (ls, .ref σ.length :: st, σ ++ [aNew (.object (P.2.2 ci).1) n.toNatClampNeg]) else none
    | _ => none)
  | .invokedynamic j => if aCat st ≤ 16 then (match aPrim ko j st σ with
    | some (st, σ) => some (ls, st, σ)
    | none => none) else none
  | _ => none
/-- a jump: to which label (none: the next instruction), with which stack -/
def aJump (i : Instr) (st : List Value) : Option (Option Nat × List Value) := match i with
  | .goto L => some (some L.toNat, st)
  | .jsr L => some (some L.toNat, st)
  | .ifCond c L => (match st with
    | .int x :: st => some (if aCmp c x 0 then some L.toNat else none, st)
    | _ => none)
  | .if_icmp c L => (match st with
    | .int y :: .int x :: st => some (if aCmp c x y then some L.toNat else none, st)
    | _ => none)
  | .tableswitch d lo hi offs => (match st with
    | .int x :: st => some (some (if x.toInt < lo ∨ hi < x.toInt then d else (offs.toList.getD (x.toInt - lo).toNat d)).toNat, st)
    | _ => none)
  | .lookupswitch d ps => (match st with
    | .int x :: st => some (some (Op.lookupswitch.offset ps.toList d x.toInt).toNat, st)
    | _ => none)
  | _ => none
def aEnd (i : Instr) (st : List Value) : Option (Option Value) := match i with
  | .return_ => (match st with | [] => some none | _ => none)
  | .ireturn => (match st with | [.int v] => some (some (.int v)) | _ => none)
  | .freturn => (match st with | [.int v] => if v = 0 ∨ v = 1 then some (some (.int v)) else none | _ => none)
  | .dreturn => (match st with | [.int v] => if narrow .char (.int v) = .int v then some (some (.int v)) else none | _ => none)
  | .lreturn => (match st with | [.long v] => some (some (.long v)) | _ => none)
  | _ => none
def aLay : List Value → List Value
  | [] => []
  | .long x :: vs => .long x :: aJk :: aLay vs
  | .double x :: vs => .double x :: aJk :: aLay vs
  | v :: vs => v :: aLay vs
def aEnt (mx : Nat) (As : List Value) : List Value := aLay As ++ List.replicate (mx - (aLay As).length) aJk
def aRecv (rc : Option Nat) (As : List Value) (σ : aH) : Bool := match rc with
  | none => true
  | some ci => (match As with
    | .ref a :: _ => (ci == 999) || (match σ[a]? with
      | some (.inr (cj, _)) => ci == cj
      | _ => false)
    | _ => false)
def aDn (d rk' rk : Nat) : Option Nat := if rk' < rk then some d else (match d with
  | 0 => none
  | e + 1 => some e)
abbrev aCf : Type := List Instr × List Value × List Value × aH
def aIsI (v : Value) : Bool := match v with
  | .int _ => true
  | _ => false
def aLastR (As : List Value) : Bool := match As.getLast? with
  | some (.ref _) => true
  | _ => false
/-- the cell of an exception that was made and thrown -/
def aXc : aC := .inr (13, [.null, .null, .null, .null, .null, .null])
/-- the answer of a method that is asked for by one that catches: into the row that its last argument is -/
def aOut (k' : Nat) (As : List Value) (v : Value) (σ : aH) : Option aH := match As.getLast? with
  | some (.ref a) => (match σ[a]? with
    | some (.inl (.long, n, .inr (.inl f))) => if 0 < n then (match v with
      | .int x => if k' = 143 then none else some (σ.set a (.inl (.long, n, .inr (.inl (vp_updL f 0 x.toInt64)))))
      | .long x => if k' = 143 then some (σ.set a (.inl (.long, n, .inr (.inl (vp_updL f 0 x))))) else none
      | _ => none) else none
    | _ => none)
  | _ => none
/-- what an instruction does: the end of the method; on at another place; a call: depth, method, its locals, what is left of the stack -/
def aDo (P : aPg) (ko : aKo) (d k : Nat) (i : Instr) (is : List Instr) (ls st : List Value) (σ : aH) : Option (((Option Value ⊕ Unit) × aH) ⊕ (aCf ⊕ (Nat × Nat × List Value × List Value))) := match i with
  | .invokestatic k' =>
    if (P.2.1 k').2.1 ≤ st.length ∧ aRecv (P.2.1 k').2.2.2.2.1 (st.take (P.2.1 k').2.1).reverse σ = true ∧ aCat (st.drop (P.2.1 k').2.1) ≤ 8 ∧ (aLay (st.take (P.2.1 k').2.1).reverse).length ≤ (P.2.1 k').2.2.1 then
      (match aDn d (P.2.1 k').2.2.2.1 (P.2.1 k).2.2.2.1 with
      | some d' => some (.inr (.inr (d', k', (st.take (P.2.1 k').2.1).reverse, st.drop (P.2.1 k').2.1)))
      | none => none) else none
  | .athrow => (match st with
    | [] => some (.inl (.inr (), σ ++ [aXc]))
    | _ => none)
  | i => (match aEnd i st with
    | some v => some (.inl (.inl v, σ))
    | none => (match aJump i st with
      | some (none, st') => some (.inr (.inl (is, ls, st', σ)))
      | some (some L, st') => some (.inr (.inl (P.1 L, ls, st', σ)))
      | none => (match aStep P ko i ls st σ with
        | some (ls', st', σ') => some (.inr (.inl (is, ls', st', σ')))
        | none => none)))
def aRun (P : aPg) (ko : aKo) : Nat → Nat → Nat → List Instr → List Value → List Value → aH → Option ((Option Value ⊕ Unit) × aH)
  | 0, _, _, _, _, _, _ => none
  | n + 1, d, k, is, ls, st, σ => match is with
    | [] => none
    | i :: is => (match aDo P ko d k i is ls st σ with
      | none => none
      | some (.inl r) => some r
      | some (.inr (.inl (is', ls', st', σ'))) => aRun P ko n d k is' ls' st' σ'
      | some (.inr (.inr (d', k', As, rest))) => (match (P.2.1 k').2.2.2.2.2 with
        | none => (match aRun P ko n d' k' (P.1 (P.2.1 k').1) (aEnt (P.2.1 k').2.2.1 As) [] σ with
          | some (.inl v, σ') => aRun P ko n d k is ls (v.toList ++ rest) σ'
          | _ => none)
        | some kf => if (aLay As.dropLast).length ≤ (P.2.1 kf).2.2.1 ∧ ((As.dropLast.drop 1).all aIsI = true ∧ aLastR As = true) then (match aRun P ko n d' kf (P.1 (P.2.1 kf).1) (aEnt (P.2.1 kf).2.2.1 As.dropLast) [] σ with
          | some (.inl (some v), σ') => (match aOut k' As v σ' with
            | some σ'' => aRun P ko n d k is ls (.int 0 :: rest) σ''
            | none => none)
          | some (.inr _, σ') => aRun P ko n d k is ls (.int 1 :: rest) σ'
          | _ => none) else none))
theorem aRun_mono {P : aPg} {ko : aKo} : ∀ (n d k : Nat) (is : List Instr) (ls st : List Value) (σ : aH) (r : (Option Value ⊕ Unit) × aH), aRun P ko n d k is ls st σ = some r → aRun P ko (n + 1) d k is ls st σ = some r := by
  intro n
  induction n with
  | zero => intro d k is ls st σ r h; cases h
  | succ n ih =>
    intro d k is ls st σ r h
    cases is with
    | nil => cases h
    | cons i is =>
      unfold aRun at h ⊢
      dsimp only at h ⊢
      revert h
      generalize aDo P ko d k i is ls st σ = q
      intro h
      match q, h with
      | some (.inl r), h => exact h
      | some (.inr (.inl (is', ls', st', σ'))), h => exact ih _ _ _ _ _ _ _ h
      | some (.inr (.inr (d', k', As, rest))), h =>
        dsimp only at h ⊢
        cases hk : (P.2.1 k').2.2.2.2.2 with
        | none =>
          rw [hk] at h
          dsimp only at h ⊢
          cases hq : aRun P ko n d' k' (P.1 (P.2.1 k').1) (aEnt (P.2.1 k').2.2.1 As) [] σ with
          | none => rw [hq] at h; cases h
          | some w =>
            rw [ih _ _ _ _ _ _ _ hq]
            rw [hq] at h
            match w, h with
            | (.inl v, σ'), h => exact ih _ _ _ _ _ _ _ h
            | (.inr _, σ'), h => cases h
        | some kf =>
          rw [hk] at h
          dsimp only at h ⊢
          split at h
          · rename_i hl
            rw [if_pos hl]
            cases hq : aRun P ko n d' kf (P.1 (P.2.1 kf).1) (aEnt (P.2.1 kf).2.2.1 As.dropLast) [] σ with
            | none => rw [hq] at h; cases h
            | some w =>
              rw [ih _ _ _ _ _ _ _ hq]
              rw [hq] at h
              match w, h with
              | (.inl (some v), σ'), h =>
                dsimp only at h ⊢
                cases ho : aOut k' As v σ' with
                | none => rw [ho] at h; cases h
                | some σ2 =>
                  rw [ho] at h
                  exact ih _ _ _ _ _ _ _ h
              | (.inl none, σ'), h => cases h
              | (.inr _, σ'), h => exact ih _ _ _ _ _ _ _ h
          · cases h
theorem aRun_more {P : aPg} {ko : aKo} {n m d k : Nat} {is : List Instr} {ls st : List Value} {σ : aH} {r : (Option Value ⊕ Unit) × aH} (h : aRun P ko n d k is ls st σ = some r) (hm : n ≤ m) : aRun P ko m d k is ls st σ = some r := by
  induction hm with
  | refl => exact h
  | step _ ih => exact aRun_mono _ _ _ _ _ _ _ _ ih
