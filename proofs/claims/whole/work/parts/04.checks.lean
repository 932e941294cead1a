/-! THE CHECKS: each label's list is what the bytes decode to from its pc on; each link is a word of the tables. -/
def aXl : List (Nat × Nat × Nat) := [(1, 155, 157)]
def aTo (k L : Nat) (t : Int) : Bool := decide (L / 64 = k) && (match (aLps k)[L % 64]? with
  | some p => decide ((p : Int) = t)
  | none => false)
def aHas (tab : List (List (Nat × Nat × Nat))) (o x n : Nat) : Bool := (tab.getD o []).any (fun e => e.1 == x && e.2.1 == n)
def aHasI (o x : Nat) (v : Int) : Bool := (aKi.getD o []).any (fun e => e.1 == x && decide (e.2.1 = v))
def aHasS (o x j : Nat) : Bool := j == 1 && aSl.any (fun e => e.1 == o && e.2.1 == x)
def aRt (k : Nat) : Option FieldType := (aMe k).2.2.2.2.1
def aCi (ci : Nat) : vw_C := aCls.getD ci ("", aT0, 0)
def aTg (ty : FieldType) : Nat := match ty with
  | .int => 0
  | .long => 1
  | .boolean => 2
  | .object _ => 3
  | .array _ => 3
  | _ => 9
def aTos (k : Nat) (pc : Nat) : List Int → List Int → Bool
  | [], [] => true
  | a :: as, b :: bs => aTo k b.toNat ((pc : Int) + a) && aTos k pc as bs
  | _, _ => false
def aLks (k : Nat) (pc : Nat) : List (Int × Int) → List (Int × Int) → Bool
  | [], [] => true
  | a :: as, b :: bs => decide (a.1 = b.1) && aTo k b.2.toNat ((pc : Int) + a.2) && aLks k pc as bs
  | _, _ => false
def aOk (o k pc len : Nat) (r i : Instr) : Bool := match r, i with
  | .iconst v, .iconst w => decide (v = w) && len == 1
  | .bipush v, .iconst w => decide ((Int8.ofInt v).toInt32 = Int32.ofInt w) && len == 2
  | .sipush v, .iconst w => decide ((Int16.ofInt v).toInt32 = Int32.ofInt w) && len == 3
  | .ldc x, .iconst w => aHasI o x w && len == 2
  | .ldc_w x, .iconst w => aHasI o x w && len == 3
  | .lconst n, .ldc2_w w => decide (Int64.ofNat (n : Nat) = Int64.ofInt ((w : Int) - 16)) && len == 1
  | .ldc2_w x, .ldc2_w w => aHas aKl o x w && len == 3
  | .ldc x, .ldc j => aHas aKs o x j && len == 2
  | .ldc_w x, .ldc j => aHas aKs o x j && len == 3
  | .getstatic x, .ldc j => aHasS o x j && len == 3
  | .iload a, .iload b => a == b && len == 2
  | .iload_n a, .iload b => a.val == b && len == 1
  | .lload a, .lload b => a == b && len == 2
  | .lload_n a, .lload b => a.val == b && len == 1
  | .aload a, .aload b => a == b && len == 2
  | .aload_n a, .aload b => a.val == b && len == 1
  | .istore a, .istore b => a == b && len == 2
  | .istore_n a, .istore b => a.val == b && len == 1
  | .lstore a, .lstore b => a == b && len == 2
  | .lstore_n a, .lstore b => a.val == b && len == 1
  | .astore a, .astore b => a == b && len == 2
  | .astore_n a, .astore b => a.val == b && len == 1
  | .iinc a c, .iinc b d => a == b && decide (c = d) && len == 3
  | .iadd, .iadd => len == 1
  | .isub, .isub => len == 1
  | .imul, .imul => len == 1
  | .iand, .iand => len == 1
  | .ior, .ior => len == 1
  | .ixor, .ixor => len == 1
  | .idiv, .idiv => len == 1
  | .irem, .irem => len == 1
  | .ineg, .ineg => len == 1
  | .ishl, .ishl => len == 1
  | .ishr, .ishr => len == 1
  | .iushr, .iushr => len == 1
  | .ladd, .ladd => len == 1
  | .lsub, .lsub => len == 1
  | .lmul, .lmul => len == 1
  | .land, .land => len == 1
  | .lor, .lor => len == 1
  | .lxor, .lxor => len == 1
  | .ldiv, .ldiv => len == 1
  | .lrem, .lrem => len == 1
  | .lshl, .lshl => len == 1
  | .lshr, .lshr => len == 1
  | .lushr, .lushr => len == 1
  | .lcmp, .lcmp => len == 1
  | .i2l, .i2l => len == 1
  | .l2i, .l2i => len == 1
  | .i2b, .i2b => len == 1
  | .i2s, .i2s => len == 1
  | .i2c, .i2c => len == 1
  | .dup, .dup => len == 1
  | .pop, .pop => len == 1
  | .dup2, .dup2 => len == 1
  | .iaload, .iaload => len == 1
  | .baload, .baload => len == 1
  | .caload, .caload => len == 1
  | .laload, .laload => len == 1
  | .aaload, .aaload => len == 1
  | .iastore, .iastore => len == 1
  | .bastore, .bastore => len == 1
  | .castore, .castore => len == 1
  | .lastore, .lastore => len == 1
  | .aastore, .aastore => len == 1
  | .arraylength, .arraylength => len == 1
  | .getfield x, .getfield n => (aHas aFl o x n || aHas aFn o x n) && len == 3
  | .putfield x, .putfield n => (aHas aFl o x (n / 256 * 64 + n % 64) || aHas aFn o x (n / 256 * 64 + n % 64)) && len == 3 && (match (aClY.getD (n / 256) ("", [])).2[n % 64]? with
    | some ty => aTg ty == n / 64 % 4
    | none => false) && (!(((aCi (n / 256)).2.1 (n % 64)).2.2.2) || ((aMe k).2.2.2.2.2.1 == 2 && decide ((aCi (n / 256)).1 = aNm o) && aHas aFl o x (n / 256 * 64 + n % 64)))
  | .new x, .new ci => aHas aCl o x ci && len == 3
  | .newarray t, .newarray u => decide (t = u) && len == 2 && decide (t = .int ∨ t = .long ∨ t = .char ∨ t = .boolean)
  | .anewarray x, .anewarray ci => aHas aCl o x ci && len == 3 && decide ((aCi ci).1 = "RiverThinksAgain$State")
  | .ifCond c off, .ifCond c' L => decide (c = c') && aTo k L.toNat ((pc : Int) + off) && len == 3
  | .if_icmp c off, .if_icmp c' L => decide (c = c') && aTo k L.toNat ((pc : Int) + off) && len == 3
  | .goto off, .goto L => aTo k L.toNat ((pc : Int) + off) && len == 3
  | .tableswitch d lo hi offs, .tableswitch d' lo' hi' offs' => decide (lo = lo') && decide (hi = hi') && aTo k d'.toNat ((pc : Int) + d) && aTos k pc offs.toList offs'.toList && decide ((offs.size : Int) = hi - lo + 1)
  | .lookupswitch d ps, .lookupswitch d' ps' => aTo k d'.toNat ((pc : Int) + d) && aLks k pc ps.toList ps'.toList && (ps.toList.zip (ps.toList.drop 1)).all (fun (a, next) => decide (a.1 < next.1))
  | .invokevirtual x, .invokestatic j => (aHas aMl o x j || aHas aMn o x j) && ((aMe j).2.2.2.2.2.1 == 0) && len == 3
  | .invokestatic x, .invokestatic j => (aHas aMl o x j || aHas aMn o x j) && ((aMe j).2.2.2.2.2.1 == 1) && len == 3
  | .invokespecial x, .invokestatic j => (aHas aMl o x j || aHas aMn o x j) && ((aMe j).2.2.2.2.2.1 == 2) && len == 3
  | .invokespecial x, .invokedynamic 0 => aHas aPl o x 0 && len == 3
  | .invokestatic x, .invokedynamic 1 => aHas aPl o x 1 && len == 3
  | .invokevirtual x, .invokedynamic 2 => aHas aPl o x 2 && len == 3
  | .invokevirtual x, .invokedynamic 3 => aHas aPl o x 3 && len == 3
  | .invokevirtual x, .invokedynamic 4 => aHas aPl o x 4 && len == 3
  | .invokestatic x, .invokedynamic 5 => aHas aPl o x 5 && len == 3
  | .invokestatic x, .invokedynamic 6 => aHas aPl o x 6 && len == 3
  | .return_, .return_ => decide (aRt k = none) && len == 1
  | .ireturn, .ireturn => decide (aRt k = some .int) && len == 1
  | .ireturn, .freturn => decide (aRt k = some .boolean) && len == 1
  | .ireturn, .dreturn => decide (aRt k = some .char) && len == 1
  | .lreturn, .lreturn => decide (aRt k = some .long) && len == 1
  | _, _ => false
def aThr (o : Nat) (cc : ByteArray) (pc : Nat) : Bool := match decode cc pc, decode cc (pc + 3), decode cc (pc + 4), decode cc (pc + 7) with
  | .ok (.new x, 3), .ok (.dup, 1), .ok (.invokespecial y, 3), .ok (.athrow, 1) => aXl.any (fun e => e.1 == o && e.2.1 == x && e.2.2 == y)
  | _, _, _, _ => false
def aCk (o k : Nat) (cc : ByteArray) : Nat → List Instr → Bool
  | _, [] => true
  | pc, i :: is => (match i with
    | .jsr L => aTo k L.toNat (pc : Int)
    | .athrow => aThr o cc pc
    | i => (match decode cc pc with
      | .ok (r, len) => aOk o k pc len r i && aCk o k cc (pc + len) is
      | .error _ => false))
def aChk (k : Nat) : Bool := ((aLps k).zip (aLms k)).all (fun q => aCk (aMe k).1 k (aMe k).2.2.1 q.1 q.2) && ((aLps k).length == (aLms k).length) && ((aLps k)[0]? == some 0)
def aWd (p : Nat) (w : Jvm.Cond) : Bool := decide (lw_tbl[p]? = some w) && goodWord w
def aWn (p : Nat) (w : Jvm.Cond) : Bool := decide (lw_tbl[p]? = some w)
def aFlOk : Bool := (List.range aOwn.length).all (fun o => (aFl.getD o []).all (fun e => decide (e.2.1 % 64 < (aCi (e.2.1 / 64)).2.2) && decide (e.2.1 / 64 < aNc) && aWd e.2.2 (.fieldLink (aNm o) e.1 ((aCi (e.2.1 / 64)).2.1 (e.2.1 % 64)).1 ((aCi (e.2.1 / 64)).2.1 (e.2.1 % 64)).2.1 ((aCi (e.2.1 / 64)).2.1 (e.2.1 % 64)).2.2.1)))
def aFnOk : Bool := (List.range aOwn.length).all (fun o => (aFn.getD o []).all (fun e => decide (e.2.1 % 64 < (aCi (e.2.1 / 64)).2.2) && decide (e.2.1 / 64 < aNc) && aWn e.2.2 (.fieldLinkNest (aNm o) e.1 ((aCi (e.2.1 / 64)).2.1 (e.2.1 % 64)).1 ((aCi (e.2.1 / 64)).2.1 (e.2.1 % 64)).2.1 ((aCi (e.2.1 / 64)).2.1 (e.2.1 % 64)).2.2.1 "RiverThinksAgain")))
def aMlOk : Bool := (List.range aOwn.length).all (fun o => (aMl.getD o []).all (fun e => aWd e.2.2 (.methodLink (aNm o) e.1 (aMe e.2.1).2.1)))
def aMnOk : Bool := (List.range aOwn.length).all (fun o => (aMn.getD o []).all (fun e => aWn e.2.2 (.methodLinkNest (aNm o) e.1 (aMe e.2.1).2.1 "RiverThinksAgain")))
def aPy (j : Nat) : MethodName := match j with
  | 0 => ⟨"java/lang/Object", "<init>", "()V"⟩
  | 1 => ⟨"java/lang/System", "arraycopy", "(Ljava/lang/Object;ILjava/lang/Object;II)V"⟩
  | 2 => ⟨"java/lang/String", "length", "()I"⟩
  | 3 => ⟨"java/lang/String", "charAt", "(I)C"⟩
  | 4 => ⟨"java/lang/String", "indexOf", "(I)I"⟩
  | 5 => ⟨"java/lang/Math", "min", "(II)I"⟩
  | _ => ⟨"java/lang/Math", "max", "(II)I"⟩
def aPlOk : Bool := (List.range aOwn.length).all (fun o => (aPl.getD o []).all (fun e => aWd e.2.2 (.methodLink (aNm o) e.1 (aPy e.2.1))))
def aClOk : Bool := (List.range aOwn.length).all (fun o => (aCl.getD o []).all (fun e => decide (e.2.1 < aNc) && aWd e.2.2 (.classLink (aNm o) e.1 (aCi e.2.1).1)))
def aKiOk : Bool := (List.range aOwn.length).all (fun o => (aKi.getD o []).all (fun e => aWd e.2.2 (.constant (aNm o) e.1 (Int32.ofInt e.2.1))))
def aKlOk : Bool := (List.range aOwn.length).all (fun o => (aKl.getD o []).all (fun e => aWd e.2.2 (.constantLong (aNm o) e.1 (Int64.ofInt ((e.2.1 : Int) - 16)))))
theorem aFlOk_t : aFlOk = true := by decide +kernel
theorem aFnOk_t : aFnOk = true := by decide +kernel
theorem aMlOk_t : aMlOk = true := by decide +kernel
theorem aMnOk_t : aMnOk = true := by decide +kernel
theorem aPlOk_t : aPlOk = true := by decide +kernel
theorem aClOk_t : aClOk = true := by decide +kernel
theorem aKiOk_t : aKiOk = true := by decide +kernel
theorem aKlOk_t : aKlOk = true := by decide +kernel
/-- a class: its fields' words, its making, its names apart, its types -/
def aCcOk (ci : Nat) : Bool := (List.range (aCi ci).2.2).all (fun k => aWd ((aClQ.getD ci []).getD k 0) (u_lay (aCi ci).1 (aCi ci).2.1 k) && decide (parseFieldDescriptor ((aCi ci).2.1 k).2.2.1 = (aClY.getD ci ("", [])).2[k]?) && decide (((aCi ci).2.1 k).1 = (aCi ci).1)) && aWd (aClI.getD ci (0, 0)).1 (.instantiable (aCi ci).1 (aCi ci).2.2) && aWd (aClI.getD ci (0, 0)).2 (.initialized (aCi ci).1) && decide ((aClY.getD ci ("", [])).1 = (aCi ci).1) && decide ((aClY.getD ci ("", [])).2.length = (aCi ci).2.2) && decide (((List.range (aCi ci).2.2).map (fun k => ((aCi ci).2.1 k).2.1)).Nodup)
theorem aCcOk_t : (List.range aNc).all aCcOk = true := by decide +kernel
/-- a method: its words, but its code's -/
def aMkOk (k : Nat) : Bool := match aMe k with
  | (o, y, _, mx, rt, kind, rc, na, _, _, p2, p3, p4) => decide (y.cls = aNm o) && aWd p4 (.initialized y.cls) && plainName y.cls && decide (y.cls ≠ "java/lang/invoke/MethodHandle" ∧ y.cls ≠ "java/lang/invoke/VarHandle") && decide (mx ≤ 40) &&
    (match kind with
    | 0 => aWd p2 (.instanceMethod y) && aWd p3 (.selects y.cls y y) && decide ((aCi rc).1 = y.cls) && decide (rc < aNc) && decide ((parseMethodDescriptor y.desc).map (fun d => d.parameters.length + 1) = some na)
    | 1 => aWd p2 (.static y) && decide ((parseMethodDescriptor y.desc).map (fun d => d.parameters.length) = some na)
    | 2 => aWd p2 (.instanceMethod y) && decide (y.name = "<init>") && decide (rt = none) && decide ((parseMethodDescriptor y.desc).map (fun d => d.parameters.length + 1) = some na)
    | _ => false)
def aAll : List Nat := [0, 1, 2, 3, 4, 5, 6, 7, 8, 9, 10, 11, 12, 13, 14, 15, 16, 17, 18, 19, 20, 21, 22, 23, 24, 25, 26, 27, 28, 29, 30, 31, 32, 33, 34, 35, 36, 37, 38, 39, 40, 41, 42, 43, 44, 45, 46, 47, 48, 49, 50, 51, 52, 53, 54, 55, 56, 57, 58, 59, 60, 61, 62, 63, 64, 65, 66, 67, 68, 69, 70, 71, 72, 73, 74, 75, 76, 77, 78, 79, 80, 81, 82, 83, 84, 85, 86, 87, 88, 89, 90, 91, 92, 93, 94, 95, 96, 97, 98, 99, 100, 101, 102, 103, 104, 105, 106, 107, 120, 121, 122, 123, 124, 125, 150, 151, 152, 153, 154, 155, 156, 157, 158, 159, 160, 161, 162, 163, 164, 165, 166, 167, 168, 169, 170, 171, 172, 173, 174, 175, 176, 177, 178, 179, 180, 181, 182, 183, 184, 185, 186, 187, 188, 189, 190, 191, 192, 193, 194, 195, 196, 197, 198, 199, 200, 201, 202, 203, 204, 205, 206, 207, 208, 209, 210, 211, 212, 213, 214, 215, 216, 217, 218, 219, 220, 221, 222, 223, 224, 225, 226, 227, 228, 229, 230, 231, 232, 233, 234, 235, 236, 237, 238, 239, 240, 241, 242, 243, 244, 245, 246, 247, 248, 249, 250, 251, 252, 253, 254, 255, 256, 257, 258, 259, 260, 261, 262, 263, 264, 265, 266, 267, 268, 269, 270, 271, 272, 273, 274, 275, 276, 277, 278, 279, 280, 281, 282, 283, 284, 285, 286, 287, 288, 289, 290, 291, 292, 293, 294, 295]
theorem aIn_1 : ∀ w ∈ tables_1_1, w ∈ lw_tbl := fun _ h => List.mem_append_right _ ((List.mem_append_left _ h))
theorem aIn_2 : ∀ w ∈ tables_1_2, w ∈ lw_tbl := fun _ h => List.mem_append_right _ ((List.mem_append_right _ (List.mem_append_left _ h)))
theorem aIn_3 : ∀ w ∈ tables_1_3, w ∈ lw_tbl := fun _ h => List.mem_append_right _ ((List.mem_append_right _ (List.mem_append_right _ (List.mem_append_left _ h))))
theorem aIn_4 : ∀ w ∈ tables_1_4, w ∈ lw_tbl := fun _ h => List.mem_append_right _ ((List.mem_append_right _ (List.mem_append_right _ (List.mem_append_right _ (List.mem_append_left _ h)))))
theorem aIn_5 : ∀ w ∈ tables_1_5, w ∈ lw_tbl := fun _ h => List.mem_append_right _ ((List.mem_append_right _ (List.mem_append_right _ (List.mem_append_right _ (List.mem_append_right _ (List.mem_append_left _ h))))))
theorem aIn_6 : ∀ w ∈ tables_1_6, w ∈ lw_tbl := fun _ h => List.mem_append_right _ ((List.mem_append_right _ (List.mem_append_right _ (List.mem_append_right _ (List.mem_append_right _ (List.mem_append_right _ (List.mem_append_left _ h)))))))
theorem aIn_7 : ∀ w ∈ tables_1_7, w ∈ lw_tbl := fun _ h => List.mem_append_right _ ((List.mem_append_right _ (List.mem_append_right _ (List.mem_append_right _ (List.mem_append_right _ (List.mem_append_right _ (List.mem_append_right _ (List.mem_append_left _ h))))))))
theorem aIn_8 : ∀ w ∈ tables_1_8, w ∈ lw_tbl := fun _ h => List.mem_append_right _ ((List.mem_append_right _ (List.mem_append_right _ (List.mem_append_right _ (List.mem_append_right _ (List.mem_append_right _ (List.mem_append_right _ (List.mem_append_right _ (h)))))))))
def aAl0 : List Nat := [0, 1, 2, 3, 4, 5, 6, 7, 8, 9, 10, 11, 12, 13, 14, 15, 16, 17, 18, 19, 20, 21, 22, 23]
theorem amk_0 : aAl0.all aMkOk = true := by decide +kernel
set_option maxRecDepth 20000 in
theorem acw_0 : Jvm.Cond.code ⟨"RiverThinksAgainModel", "<init>", "()V"⟩ prog_14_method_1_code 1 none ∈ lw_tbl := aIn_5 _ (List.mem_of_getElem? (i := 201) rfl)
set_option maxRecDepth 20000 in
theorem acw_1 : Jvm.Cond.code ⟨"RiverThinksAgainModel", "thrown", "()I"⟩ prog_14_method_2_code 1 (some .int) ∈ lw_tbl := aIn_6 _ (List.mem_of_getElem? (i := 148) rfl)
set_option maxRecDepth 20000 in
theorem acw_2 : Jvm.Cond.code ⟨"RiverThinksAgainModel", "sign", "(I)I"⟩ prog_14_method_15_code 3 (some .int) ∈ lw_tbl := aIn_6 _ (List.mem_of_getElem? (i := 152) rfl)
set_option maxRecDepth 20000 in
theorem acw_3 : Jvm.Cond.code ⟨"RiverThinksAgainModel", "end", "(I)Z"⟩ prog_14_method_16_code 2 (some .boolean) ∈ lw_tbl := aIn_6 _ (List.mem_of_getElem? (i := 156) rfl)
set_option maxRecDepth 20000 in
theorem acw_4 : Jvm.Cond.code ⟨"RiverThinksAgainModel", "in", "(JJJ)Z"⟩ prog_14_method_4_code 6 (some .boolean) ∈ lw_tbl := aIn_6 _ (List.mem_of_getElem? (i := 159) rfl)
set_option maxRecDepth 20000 in
theorem acw_5 : Jvm.Cond.code ⟨"RiverThinksAgainModel", "land", "()I"⟩ prog_14_method_24_code 5 (some .int) ∈ lw_tbl := aIn_6 _ (List.mem_of_getElem? (i := 163) rfl)
set_option maxRecDepth 20000 in
theorem acw_6 : Jvm.Cond.code ⟨"RiverThinksAgainModel", "begins", "(I)I"⟩ prog_14_method_17_code 3 (some .int) ∈ lw_tbl := aIn_6 _ (List.mem_of_getElem? (i := 167) rfl)
set_option maxRecDepth 20000 in
theorem acw_7 : Jvm.Cond.code ⟨"RiverThinksAgainModel", "digitIn", "(II)I"⟩ prog_14_method_22_code 3 (some .int) ∈ lw_tbl := aIn_6 _ (List.mem_of_getElem? (i := 172) rfl)
set_option maxRecDepth 20000 in
theorem acw_8 : Jvm.Cond.code ⟨"RiverThinksAgainModel", "number", "(I)I"⟩ prog_14_method_21_code 4 (some .int) ∈ lw_tbl := aIn_6 _ (List.mem_of_getElem? (i := 176) rfl)
set_option maxRecDepth 20000 in
theorem acw_9 : Jvm.Cond.code ⟨"RiverThinksAgainModel", "isDigit", "()Z"⟩ prog_14_method_19_code 1 (some .boolean) ∈ lw_tbl := aIn_6 _ (List.mem_of_getElem? (i := 180) rfl)
set_option maxRecDepth 20000 in
theorem acw_10 : Jvm.Cond.code ⟨"RiverThinksAgainModel", "fields", "()I"⟩ prog_14_method_9_code 1 (some .int) ∈ lw_tbl := aIn_6 _ (List.mem_of_getElem? (i := 186) rfl)
set_option maxRecDepth 20000 in
theorem acw_11 : Jvm.Cond.code ⟨"RiverThinksAgainModel", "force", "()I"⟩ prog_14_method_25_code 3 (some .int) ∈ lw_tbl := aIn_6 _ (List.mem_of_getElem? (i := 190) rfl)
set_option maxRecDepth 20000 in
theorem acw_12 : Jvm.Cond.code ⟨"RiverThinksAgainModel", "rule", "()I"⟩ prog_14_method_32_code 2 (some .int) ∈ lw_tbl := aIn_6 _ (List.mem_of_getElem? (i := 194) rfl)
set_option maxRecDepth 20000 in
theorem acw_13 : Jvm.Cond.code ⟨"RiverThinksAgainModel", "readsRule", "()I"⟩ prog_14_method_30_code 3 (some .int) ∈ lw_tbl := aIn_6 _ (List.mem_of_getElem? (i := 198) rfl)
set_option maxRecDepth 20000 in
theorem acw_14 : Jvm.Cond.code ⟨"RiverThinksAgainModel", "readsRank", "(I)Z"⟩ prog_14_method_29_code 4 (some .boolean) ∈ lw_tbl := aIn_6 _ (List.mem_of_getElem? (i := 202) rfl)
set_option maxRecDepth 20000 in
theorem acw_15 : Jvm.Cond.code ⟨"RiverThinksAgainModel", "readsThing", "()Z"⟩ prog_14_method_28_code 2 (some .boolean) ∈ lw_tbl := aIn_6 _ (List.mem_of_getElem? (i := 206) rfl)
set_option maxRecDepth 20000 in
theorem acw_16 : Jvm.Cond.code ⟨"RiverThinksAgainModel", "takes", "(I)Z"⟩ prog_14_method_18_code 3 (some .boolean) ∈ lw_tbl := aIn_6 _ (List.mem_of_getElem? (i := 210) rfl)
set_option maxRecDepth 20000 in
theorem acw_17 : Jvm.Cond.code ⟨"RiverThinksAgainModel", "flag", "(Z)I"⟩ prog_14_method_6_code 1 (some .int) ∈ lw_tbl := aIn_6 _ (List.mem_of_getElem? (i := 213) rfl)
set_option maxRecDepth 20000 in
theorem acw_18 : Jvm.Cond.code ⟨"RiverThinksAgainModel", "codes", "(I)V"⟩ prog_14_method_27_code 2 none ∈ lw_tbl := aIn_6 _ (List.mem_of_getElem? (i := 217) rfl)
set_option maxRecDepth 20000 in
theorem acw_19 : Jvm.Cond.code ⟨"RiverThinksAgainModel", "takesOf", "(Ljava/lang/String;)I"⟩ prog_14_method_20_code 3 (some .int) ∈ lw_tbl := aIn_6 _ (List.mem_of_getElem? (i := 222) rfl)
set_option maxRecDepth 20000 in
theorem acw_20 : Jvm.Cond.code ⟨"RiverThinksAgainModel", "faultOf", "(IIZ)I"⟩ prog_14_method_23_code 5 (some .int) ∈ lw_tbl := aIn_7 _ (List.mem_of_getElem? (i := 10) rfl)
set_option maxRecDepth 20000 in
theorem acw_21 : Jvm.Cond.code ⟨"RiverThinksAgainModel", "laysCode", "([II)V"⟩ prog_14_method_31_code 4 none ∈ lw_tbl := aIn_7 _ (List.mem_of_getElem? (i := 14) rfl)
set_option maxRecDepth 20000 in
theorem acw_22 : Jvm.Cond.code ⟨"RiverThinksAgainModel", "field", "(II)I"⟩ prog_14_method_40_code 3 (some .int) ∈ lw_tbl := aIn_7 _ (List.mem_of_getElem? (i := 18) rfl)
set_option maxRecDepth 20000 in
theorem acw_23 : Jvm.Cond.code ⟨"RiverThinksAgainModel", "isField", "(I)Z"⟩ prog_14_method_10_code 2 (some .boolean) ∈ lw_tbl := aIn_7 _ (List.mem_of_getElem? (i := 22) rfl)
theorem acx_0 : ∀ k ∈ aAl0, Jvm.Cond.code (aMe k).2.1 (aMe k).2.2.1 (aMe k).2.2.2.1 (aMe k).2.2.2.2.1 ∈ lw_tbl := List.forall_mem_cons.mpr ⟨acw_0, List.forall_mem_cons.mpr ⟨acw_1, List.forall_mem_cons.mpr ⟨acw_2, List.forall_mem_cons.mpr ⟨acw_3, List.forall_mem_cons.mpr ⟨acw_4, List.forall_mem_cons.mpr ⟨acw_5, List.forall_mem_cons.mpr ⟨acw_6, List.forall_mem_cons.mpr ⟨acw_7, List.forall_mem_cons.mpr ⟨acw_8, List.forall_mem_cons.mpr ⟨acw_9, List.forall_mem_cons.mpr ⟨acw_10, List.forall_mem_cons.mpr ⟨acw_11, List.forall_mem_cons.mpr ⟨acw_12, List.forall_mem_cons.mpr ⟨acw_13, List.forall_mem_cons.mpr ⟨acw_14, List.forall_mem_cons.mpr ⟨acw_15, List.forall_mem_cons.mpr ⟨acw_16, List.forall_mem_cons.mpr ⟨acw_17, List.forall_mem_cons.mpr ⟨acw_18, List.forall_mem_cons.mpr ⟨acw_19, List.forall_mem_cons.mpr ⟨acw_20, List.forall_mem_cons.mpr ⟨acw_21, List.forall_mem_cons.mpr ⟨acw_22, List.forall_mem_cons.mpr ⟨acw_23, fun _ h => absurd h List.not_mem_nil⟩⟩⟩⟩⟩⟩⟩⟩⟩⟩⟩⟩⟩⟩⟩⟩⟩⟩⟩⟩⟩⟩⟩⟩
def aAl1 : List Nat := [24, 25, 26, 27, 28, 29, 30, 31, 32, 33, 34, 35, 36, 37, 38, 39, 40, 41, 42, 43, 44, 45, 46, 47]
theorem amk_1 : aAl1.all aMkOk = true := by decide +kernel
set_option maxRecDepth 20000 in
theorem acw_24 : Jvm.Cond.code ⟨"RiverThinksAgainModel", "refuse", "()I"⟩ prog_14_method_3_code 1 (some .int) ∈ lw_tbl := aIn_7 _ (List.mem_of_getElem? (i := 27) rfl)
set_option maxRecDepth 20000 in
theorem acw_25 : Jvm.Cond.code ⟨"RiverThinksAgainModel", "laysCourse", "([I)V"⟩ prog_14_method_37_code 8 none ∈ lw_tbl := aIn_7 _ (List.mem_of_getElem? (i := 31) rfl)
set_option maxRecDepth 20000 in
theorem acw_26 : Jvm.Cond.code ⟨"RiverThinksAgainModel", "hasWall", "([II)Z"⟩ prog_14_method_12_code 2 (some .boolean) ∈ lw_tbl := aIn_7 _ (List.mem_of_getElem? (i := 34) rfl)
set_option maxRecDepth 20000 in
theorem acw_27 : Jvm.Cond.code ⟨"RiverThinksAgainModel", "goesTo", "(I)V"⟩ prog_14_method_36_code 2 none ∈ lw_tbl := aIn_7 _ (List.mem_of_getElem? (i := 38) rfl)
set_option maxRecDepth 20000 in
theorem acw_28 : Jvm.Cond.code ⟨"RiverThinksAgainModel", "isLast", "(I)Z"⟩ prog_14_method_11_code 2 (some .boolean) ∈ lw_tbl := aIn_7 _ (List.mem_of_getElem? (i := 42) rfl)
set_option maxRecDepth 20000 in
theorem acw_29 : Jvm.Cond.code ⟨"RiverThinksAgainModel", "beside", "(II)I"⟩ prog_14_method_14_code 5 (some .int) ∈ lw_tbl := aIn_7 _ (List.mem_of_getElem? (i := 46) rfl)
set_option maxRecDepth 20000 in
theorem acw_30 : Jvm.Cond.code ⟨"RiverThinksAgainModel", "dislike", "([III)I"⟩ prog_14_method_35_code 4 (some .int) ∈ lw_tbl := aIn_7 _ (List.mem_of_getElem? (i := 50) rfl)
set_option maxRecDepth 20000 in
theorem acw_31 : Jvm.Cond.code ⟨"RiverThinksAgainModel", "forceOn", "(I)I"⟩ prog_14_method_26_code 2 (some .int) ∈ lw_tbl := aIn_7 _ (List.mem_of_getElem? (i := 54) rfl)
set_option maxRecDepth 20000 in
theorem acw_32 : Jvm.Cond.code ⟨"RiverThinksAgainModel", "ruled", "()I"⟩ prog_14_method_34_code 4 (some .int) ∈ lw_tbl := aIn_7 _ (List.mem_of_getElem? (i := 58) rfl)
set_option maxRecDepth 20000 in
theorem acw_33 : Jvm.Cond.code ⟨"RiverThinksAgainModel", "worked", "(III)I"⟩ prog_14_method_33_code 3 (some .int) ∈ lw_tbl := aIn_7 _ (List.mem_of_getElem? (i := 61) rfl)
set_option maxRecDepth 20000 in
theorem acw_34 : Jvm.Cond.code ⟨"RiverThinksAgainModel", "dislikes", "(II)I"⟩ prog_14_method_41_code 3 (some .int) ∈ lw_tbl := aIn_7 _ (List.mem_of_getElem? (i := 65) rfl)
set_option maxRecDepth 20000 in
theorem acw_35 : Jvm.Cond.code ⟨"RiverThinksAgainModel", "sheet", "(IIII)I"⟩ prog_14_method_42_code 8 (some .int) ∈ lw_tbl := aIn_7 _ (List.mem_of_getElem? (i := 69) rfl)
set_option maxRecDepth 20000 in
theorem acw_36 : Jvm.Cond.code ⟨"RiverThinksAgainModel", "sumOf", "([II)I"⟩ prog_14_method_13_code 5 (some .int) ∈ lw_tbl := aIn_7 _ (List.mem_of_getElem? (i := 74) rfl)
set_option maxRecDepth 20000 in
theorem acw_37 : Jvm.Cond.code ⟨"RiverThinksAgainModel", "undo", "()I"⟩ prog_14_method_46_code 2 (some .int) ∈ lw_tbl := aIn_7 _ (List.mem_of_getElem? (i := 78) rfl)
set_option maxRecDepth 20000 in
theorem acw_38 : Jvm.Cond.code ⟨"RiverThinksAgainModel", "tides", "(I)I"⟩ prog_14_method_54_code 3 (some .int) ∈ lw_tbl := aIn_7 _ (List.mem_of_getElem? (i := 82) rfl)
set_option maxRecDepth 20000 in
theorem acw_39 : Jvm.Cond.code ⟨"RiverThinksAgainModel", "putsBy", "()V"⟩ prog_14_method_43_code 2 none ∈ lw_tbl := aIn_7 _ (List.mem_of_getElem? (i := 87) rfl)
set_option maxRecDepth 20000 in
theorem acw_40 : Jvm.Cond.code ⟨"RiverThinksAgainModel", "tidesGo", "([II)I"⟩ prog_14_method_49_code 5 (some .int) ∈ lw_tbl := aIn_7 _ (List.mem_of_getElem? (i := 91) rfl)
set_option maxRecDepth 20000 in
theorem acw_41 : Jvm.Cond.code ⟨"RiverThinksAgainModel", "tideGoes", "([I)V"⟩ prog_14_method_48_code 4 none ∈ lw_tbl := aIn_7 _ (List.mem_of_getElem? (i := 95) rfl)
set_option maxRecDepth 20000 in
theorem acw_42 : Jvm.Cond.code ⟨"RiverThinksAgainModel", "isBesideCourse", "(I)Z"⟩ prog_14_method_47_code 5 (some .boolean) ∈ lw_tbl := aIn_7 _ (List.mem_of_getElem? (i := 99) rfl)
set_option maxRecDepth 20000 in
theorem acw_43 : Jvm.Cond.code ⟨"RiverThinksAgainModel", "enters", "(J)V"⟩ prog_14_method_8_code 3 none ∈ lw_tbl := aIn_7 _ (List.mem_of_getElem? (i := 103) rfl)
set_option maxRecDepth 20000 in
theorem acw_44 : Jvm.Cond.code ⟨"RiverThinksAgainModel", "adds", "(I)I"⟩ prog_14_method_44_code 3 (some .int) ∈ lw_tbl := aIn_7 _ (List.mem_of_getElem? (i := 107) rfl)
set_option maxRecDepth 20000 in
theorem acw_45 : Jvm.Cond.code ⟨"RiverThinksAgainModel", "cut", "(II)I"⟩ prog_14_method_55_code 3 (some .int) ∈ lw_tbl := aIn_7 _ (List.mem_of_getElem? (i := 111) rfl)
set_option maxRecDepth 20000 in
theorem acw_46 : Jvm.Cond.code ⟨"RiverThinksAgainModel", "cuts", "([III)I"⟩ prog_14_method_50_code 4 (some .int) ∈ lw_tbl := aIn_7 _ (List.mem_of_getElem? (i := 115) rfl)
set_option maxRecDepth 20000 in
theorem acw_47 : Jvm.Cond.code ⟨"RiverThinksAgainModel", "counted", "(I)I"⟩ prog_14_method_45_code 2 (some .int) ∈ lw_tbl := aIn_7 _ (List.mem_of_getElem? (i := 120) rfl)
theorem acx_1 : ∀ k ∈ aAl1, Jvm.Cond.code (aMe k).2.1 (aMe k).2.2.1 (aMe k).2.2.2.1 (aMe k).2.2.2.2.1 ∈ lw_tbl := List.forall_mem_cons.mpr ⟨acw_24, List.forall_mem_cons.mpr ⟨acw_25, List.forall_mem_cons.mpr ⟨acw_26, List.forall_mem_cons.mpr ⟨acw_27, List.forall_mem_cons.mpr ⟨acw_28, List.forall_mem_cons.mpr ⟨acw_29, List.forall_mem_cons.mpr ⟨acw_30, List.forall_mem_cons.mpr ⟨acw_31, List.forall_mem_cons.mpr ⟨acw_32, List.forall_mem_cons.mpr ⟨acw_33, List.forall_mem_cons.mpr ⟨acw_34, List.forall_mem_cons.mpr ⟨acw_35, List.forall_mem_cons.mpr ⟨acw_36, List.forall_mem_cons.mpr ⟨acw_37, List.forall_mem_cons.mpr ⟨acw_38, List.forall_mem_cons.mpr ⟨acw_39, List.forall_mem_cons.mpr ⟨acw_40, List.forall_mem_cons.mpr ⟨acw_41, List.forall_mem_cons.mpr ⟨acw_42, List.forall_mem_cons.mpr ⟨acw_43, List.forall_mem_cons.mpr ⟨acw_44, List.forall_mem_cons.mpr ⟨acw_45, List.forall_mem_cons.mpr ⟨acw_46, List.forall_mem_cons.mpr ⟨acw_47, fun _ h => absurd h List.not_mem_nil⟩⟩⟩⟩⟩⟩⟩⟩⟩⟩⟩⟩⟩⟩⟩⟩⟩⟩⟩⟩⟩⟩⟩⟩
def aAl2 : List Nat := [48, 49, 50, 51, 52, 53, 54, 55, 56, 57, 58, 59, 60, 61, 62, 63, 64, 65, 66, 67, 68, 69, 70, 71]
theorem amk_2 : aAl2.all aMkOk = true := by decide +kernel
set_option maxRecDepth 20000 in
theorem acw_48 : Jvm.Cond.code ⟨"RiverThinksAgainModel", "heap", "(II)I"⟩ prog_14_method_56_code 3 (some .int) ∈ lw_tbl := aIn_7 _ (List.mem_of_getElem? (i := 124) rfl)
set_option maxRecDepth 20000 in
theorem acw_49 : Jvm.Cond.code ⟨"RiverThinksAgainModel", "heaps", "(II)I"⟩ prog_14_method_51_code 3 (some .int) ∈ lw_tbl := aIn_7 _ (List.mem_of_getElem? (i := 128) rfl)
set_option maxRecDepth 20000 in
theorem acw_50 : Jvm.Cond.code ⟨"RiverThinksAgainModel", "wall", "(I)I"⟩ prog_14_method_57_code 2 (some .int) ∈ lw_tbl := aIn_7 _ (List.mem_of_getElem? (i := 132) rfl)
set_option maxRecDepth 20000 in
theorem acw_51 : Jvm.Cond.code ⟨"RiverThinksAgainModel", "walls", "([II)I"⟩ prog_14_method_52_code 3 (some .int) ∈ lw_tbl := aIn_7 _ (List.mem_of_getElem? (i := 136) rfl)
set_option maxRecDepth 20000 in
theorem acw_52 : Jvm.Cond.code ⟨"RiverThinksAgainModel", "source", "(I)I"⟩ prog_14_method_58_code 2 (some .int) ∈ lw_tbl := aIn_7 _ (List.mem_of_getElem? (i := 140) rfl)
set_option maxRecDepth 20000 in
theorem acw_53 : Jvm.Cond.code ⟨"RiverThinksAgainModel", "moves", "(I)I"⟩ prog_14_method_53_code 3 (some .int) ∈ lw_tbl := aIn_7 _ (List.mem_of_getElem? (i := 144) rfl)
set_option maxRecDepth 20000 in
theorem acw_54 : Jvm.Cond.code ⟨"RiverThinksAgainModel", "year", "()I"⟩ prog_14_method_61_code 5 (some .int) ∈ lw_tbl := aIn_7 _ (List.mem_of_getElem? (i := 148) rfl)
set_option maxRecDepth 20000 in
theorem acw_55 : Jvm.Cond.code ⟨"RiverThinksAgainModel", "readsAct", "()Z"⟩ prog_14_method_59_code 2 (some .boolean) ∈ lw_tbl := aIn_7 _ (List.mem_of_getElem? (i := 152) rfl)
set_option maxRecDepth 20000 in
theorem acw_56 : Jvm.Cond.code ⟨"RiverThinksAgainModel", "does", "(I)Z"⟩ prog_14_method_60_code 4 (some .boolean) ∈ lw_tbl := aIn_7 _ (List.mem_of_getElem? (i := 157) rfl)
set_option maxRecDepth 20000 in
theorem acw_57 : Jvm.Cond.code ⟨"RiverThinksAgainModel", "course", "()I"⟩ prog_14_method_63_code 2 (some .int) ∈ lw_tbl := aIn_7 _ (List.mem_of_getElem? (i := 161) rfl)
set_option maxRecDepth 20000 in
theorem acw_58 : Jvm.Cond.code ⟨"RiverThinksAgainModel", "mouth", "()I"⟩ prog_14_method_38_code 1 (some .int) ∈ lw_tbl := aIn_7 _ (List.mem_of_getElem? (i := 165) rfl)
set_option maxRecDepth 20000 in
theorem acw_59 : Jvm.Cond.code ⟨"RiverThinksAgainModel", "ahead", "(I)I"⟩ prog_14_method_64_code 2 (some .int) ∈ lw_tbl := aIn_7 _ (List.mem_of_getElem? (i := 169) rfl)
set_option maxRecDepth 20000 in
theorem acw_60 : Jvm.Cond.code ⟨"RiverThinksAgainModel", "copies", "()V"⟩ prog_14_method_62_code 2 none ∈ lw_tbl := aIn_7 _ (List.mem_of_getElem? (i := 174) rfl)
set_option maxRecDepth 20000 in
theorem acw_61 : Jvm.Cond.code ⟨"RiverThinksAgainModel", "sits", "()I"⟩ prog_14_method_65_code 2 (some .int) ∈ lw_tbl := aIn_7 _ (List.mem_of_getElem? (i := 178) rfl)
set_option maxRecDepth 20000 in
theorem acw_62 : Jvm.Cond.code ⟨"RiverThinksAgainModel", "alters", "(I)I"⟩ prog_14_method_68_code 3 (some .int) ∈ lw_tbl := aIn_7 _ (List.mem_of_getElem? (i := 183) rfl)
set_option maxRecDepth 20000 in
theorem acw_63 : Jvm.Cond.code ⟨"RiverThinksAgainModel", "putsCourse", "()V"⟩ prog_14_method_66_code 2 none ∈ lw_tbl := aIn_7 _ (List.mem_of_getElem? (i := 187) rfl)
set_option maxRecDepth 20000 in
theorem acw_64 : Jvm.Cond.code ⟨"RiverThinksAgainModel", "isAsPut", "()Z"⟩ prog_14_method_67_code 3 (some .boolean) ∈ lw_tbl := aIn_7 _ (List.mem_of_getElem? (i := 191) rfl)
set_option maxRecDepth 20000 in
theorem acw_65 : Jvm.Cond.code ⟨"RiverThinksAgainModel", "mouths", "(I)I"⟩ prog_14_method_69_code 5 (some .int) ∈ lw_tbl := aIn_7 _ (List.mem_of_getElem? (i := 195) rfl)
set_option maxRecDepth 20000 in
theorem acw_66 : Jvm.Cond.code ⟨"RiverThinksAgainModel", "dry", "(I)J"⟩ prog_14_method_70_code 8 (some .long) ∈ lw_tbl := aIn_7 _ (List.mem_of_getElem? (i := 199) rfl)
set_option maxRecDepth 20000 in
theorem acw_67 : Jvm.Cond.code ⟨"RiverThinksAgainModel", "courseBits", "()J"⟩ prog_14_method_39_code 4 (some .long) ∈ lw_tbl := aIn_7 _ (List.mem_of_getElem? (i := 203) rfl)
set_option maxRecDepth 20000 in
theorem acw_68 : Jvm.Cond.code ⟨"RiverThinksAgainModel", "sends", "(I)I"⟩ prog_14_method_73_code 2 (some .int) ∈ lw_tbl := aIn_7 _ (List.mem_of_getElem? (i := 208) rfl)
set_option maxRecDepth 20000 in
theorem acw_69 : Jvm.Cond.code ⟨"RiverThinksAgainModel", "fewestWalls", "(I)I"⟩ prog_14_method_72_code 4 (some .int) ∈ lw_tbl := aIn_7 _ (List.mem_of_getElem? (i := 212) rfl)
set_option maxRecDepth 20000 in
theorem acw_70 : Jvm.Cond.code ⟨"RiverThinksAgainModel", "putsWalls", "(IIII)Z"⟩ prog_14_method_71_code 6 (some .boolean) ∈ lw_tbl := aIn_7 _ (List.mem_of_getElem? (i := 216) rfl)
set_option maxRecDepth 20000 in
theorem acw_71 : Jvm.Cond.code ⟨"RiverThinksAgainModel", "stops", "()I"⟩ prog_14_method_74_code 1 (some .int) ∈ lw_tbl := aIn_7 _ (List.mem_of_getElem? (i := 220) rfl)
theorem acx_2 : ∀ k ∈ aAl2, Jvm.Cond.code (aMe k).2.1 (aMe k).2.2.1 (aMe k).2.2.2.1 (aMe k).2.2.2.2.1 ∈ lw_tbl := List.forall_mem_cons.mpr ⟨acw_48, List.forall_mem_cons.mpr ⟨acw_49, List.forall_mem_cons.mpr ⟨acw_50, List.forall_mem_cons.mpr ⟨acw_51, List.forall_mem_cons.mpr ⟨acw_52, List.forall_mem_cons.mpr ⟨acw_53, List.forall_mem_cons.mpr ⟨acw_54, List.forall_mem_cons.mpr ⟨acw_55, List.forall_mem_cons.mpr ⟨acw_56, List.forall_mem_cons.mpr ⟨acw_57, List.forall_mem_cons.mpr ⟨acw_58, List.forall_mem_cons.mpr ⟨acw_59, List.forall_mem_cons.mpr ⟨acw_60, List.forall_mem_cons.mpr ⟨acw_61, List.forall_mem_cons.mpr ⟨acw_62, List.forall_mem_cons.mpr ⟨acw_63, List.forall_mem_cons.mpr ⟨acw_64, List.forall_mem_cons.mpr ⟨acw_65, List.forall_mem_cons.mpr ⟨acw_66, List.forall_mem_cons.mpr ⟨acw_67, List.forall_mem_cons.mpr ⟨acw_68, List.forall_mem_cons.mpr ⟨acw_69, List.forall_mem_cons.mpr ⟨acw_70, List.forall_mem_cons.mpr ⟨acw_71, fun _ h => absurd h List.not_mem_nil⟩⟩⟩⟩⟩⟩⟩⟩⟩⟩⟩⟩⟩⟩⟩⟩⟩⟩⟩⟩⟩⟩⟩⟩
def aAl3 : List Nat := [72, 73, 74, 75, 76, 77, 78, 79, 80, 81, 82, 83, 84, 85, 86, 87, 88, 89, 90, 91, 92, 93, 94, 95]
theorem amk_3 : aAl3.all aMkOk = true := by decide +kernel
set_option maxRecDepth 20000 in
theorem acw_72 : Jvm.Cond.code ⟨"RiverThinksAgainModel", "longest", "()I"⟩ prog_14_method_75_code 4 (some .int) ∈ lw_tbl := aIn_7 _ (List.mem_of_getElem? (i := 224) rfl)
set_option maxRecDepth 20000 in
theorem acw_73 : Jvm.Cond.code ⟨"RiverThinksAgainModel", "least", "()I"⟩ prog_14_method_76_code 3 (some .int) ∈ lw_tbl := aIn_7 _ (List.mem_of_getElem? (i := 228) rfl)
set_option maxRecDepth 20000 in
theorem acw_74 : Jvm.Cond.code ⟨"RiverThinksAgainModel", "draught", "()I"⟩ prog_14_method_78_code 2 (some .int) ∈ lw_tbl := aIn_7 _ (List.mem_of_getElem? (i := 232) rfl)
set_option maxRecDepth 20000 in
theorem acw_75 : Jvm.Cond.code ⟨"RiverThinksAgainModel", "draughtOn", "([I)I"⟩ prog_14_method_77_code 3 (some .int) ∈ lw_tbl := aIn_7 _ (List.mem_of_getElem? (i := 236) rfl)
set_option maxRecDepth 20000 in
theorem acw_76 : Jvm.Cond.code ⟨"RiverThinksAgainModel", "timetable", "(I)I"⟩ prog_14_method_81_code 10 (some .int) ∈ lw_tbl := aIn_8 _ (List.mem_of_getElem? (i := 0) rfl)
set_option maxRecDepth 20000 in
theorem acw_77 : Jvm.Cond.code ⟨"RiverThinksAgainModel", "matched", "(III)I"⟩ prog_14_method_80_code 7 (some .int) ∈ lw_tbl := aIn_8 _ (List.mem_of_getElem? (i := 5) rfl)
set_option maxRecDepth 20000 in
theorem acw_78 : Jvm.Cond.code ⟨"RiverThinksAgainModel", "finds", "(II)Z"⟩ prog_14_method_79_code 4 (some .boolean) ∈ lw_tbl := aIn_8 _ (List.mem_of_getElem? (i := 9) rfl)
set_option maxRecDepth 20000 in
theorem acw_79 : Jvm.Cond.code ⟨"RiverThinksAgainModel", "way", "(I)I"⟩ prog_14_method_82_code 8 (some .int) ∈ lw_tbl := aIn_8 _ (List.mem_of_getElem? (i := 13) rfl)
set_option maxRecDepth 20000 in
theorem acw_80 : Jvm.Cond.code ⟨"RiverThinksAgainModel", "isDeep", "(II)Z"⟩ prog_14_method_83_code 3 (some .boolean) ∈ lw_tbl := aIn_8 _ (List.mem_of_getElem? (i := 17) rfl)
set_option maxRecDepth 20000 in
theorem acw_81 : Jvm.Cond.code ⟨"RiverThinksAgainModel", "arms", "()I"⟩ prog_14_method_86_code 2 (some .int) ∈ lw_tbl := aIn_8 _ (List.mem_of_getElem? (i := 22) rfl)
set_option maxRecDepth 20000 in
theorem acw_82 : Jvm.Cond.code ⟨"RiverThinksAgainModel", "takesAway", "(IIJ)V"⟩ prog_14_method_85_code 6 none ∈ lw_tbl := aIn_8 _ (List.mem_of_getElem? (i := 26) rfl)
set_option maxRecDepth 20000 in
theorem acw_83 : Jvm.Cond.code ⟨"RiverThinksAgainModel", "comes", "(J)Z"⟩ prog_14_method_84_code 8 (some .boolean) ∈ lw_tbl := aIn_8 _ (List.mem_of_getElem? (i := 30) rfl)
set_option maxRecDepth 20000 in
theorem acw_84 : Jvm.Cond.code ⟨"RiverThinksAgainModel", "has", "(JI)Z"⟩ prog_14_method_5_code 3 (some .boolean) ∈ lw_tbl := aIn_8 _ (List.mem_of_getElem? (i := 33) rfl)
set_option maxRecDepth 20000 in
theorem acw_85 : Jvm.Cond.code ⟨"RiverThinksAgainModel", "seen", "(III)I"⟩ prog_14_method_87_code 4 (some .int) ∈ lw_tbl := aIn_8 _ (List.mem_of_getElem? (i := 37) rfl)
set_option maxRecDepth 20000 in
theorem acw_86 : Jvm.Cond.code ⟨"RiverThinksAgainModel", "forget", "()I"⟩ prog_14_method_88_code 2 (some .int) ∈ lw_tbl := aIn_8 _ (List.mem_of_getElem? (i := 41) rfl)
set_option maxRecDepth 20000 in
theorem acw_87 : Jvm.Cond.code ⟨"RiverThinksAgainModel", "fits", "()I"⟩ prog_14_method_91_code 2 (some .int) ∈ lw_tbl := aIn_8 _ (List.mem_of_getElem? (i := 45) rfl)
set_option maxRecDepth 20000 in
theorem acw_88 : Jvm.Cond.code ⟨"RiverThinksAgainModel", "fitting", "()I"⟩ prog_14_method_90_code 3 (some .int) ∈ lw_tbl := aIn_8 _ (List.mem_of_getElem? (i := 49) rfl)
set_option maxRecDepth 20000 in
theorem acw_89 : Jvm.Cond.code ⟨"RiverThinksAgainModel", "isAsSeen", "(I)Z"⟩ prog_14_method_89_code 5 (some .boolean) ∈ lw_tbl := aIn_8 _ (List.mem_of_getElem? (i := 53) rfl)
set_option maxRecDepth 20000 in
theorem acw_90 : Jvm.Cond.code ⟨"RiverThinksAgainModel", "reed", "(I)I"⟩ prog_14_method_92_code 8 (some .int) ∈ lw_tbl := aIn_8 _ (List.mem_of_getElem? (i := 58) rfl)
set_option maxRecDepth 20000 in
theorem acw_91 : Jvm.Cond.code ⟨"RiverThinksAgainModel", "marked", "(II)I"⟩ prog_14_method_93_code 3 (some .int) ∈ lw_tbl := aIn_8 _ (List.mem_of_getElem? (i := 62) rfl)
set_option maxRecDepth 20000 in
theorem acw_92 : Jvm.Cond.code ⟨"RiverThinksAgainModel", "wiped", "()I"⟩ prog_14_method_94_code 2 (some .int) ∈ lw_tbl := aIn_8 _ (List.mem_of_getElem? (i := 67) rfl)
set_option maxRecDepth 20000 in
theorem acw_93 : Jvm.Cond.code ⟨"RiverThinksAgainModel", "laws", "()I"⟩ prog_14_method_96_code 5 (some .int) ∈ lw_tbl := aIn_8 _ (List.mem_of_getElem? (i := 71) rfl)
set_option maxRecDepth 20000 in
theorem acw_94 : Jvm.Cond.code ⟨"RiverThinksAgainModel", "goesBy", "(IIII)I"⟩ prog_14_method_95_code 10 (some .int) ∈ lw_tbl := aIn_8 _ (List.mem_of_getElem? (i := 75) rfl)
set_option maxRecDepth 20000 in
theorem acw_95 : Jvm.Cond.code ⟨"RiverThinksAgainModel", "bar", "(II)I"⟩ prog_14_method_97_code 7 (some .int) ∈ lw_tbl := aIn_8 _ (List.mem_of_getElem? (i := 79) rfl)
theorem acx_3 : ∀ k ∈ aAl3, Jvm.Cond.code (aMe k).2.1 (aMe k).2.2.1 (aMe k).2.2.2.1 (aMe k).2.2.2.2.1 ∈ lw_tbl := List.forall_mem_cons.mpr ⟨acw_72, List.forall_mem_cons.mpr ⟨acw_73, List.forall_mem_cons.mpr ⟨acw_74, List.forall_mem_cons.mpr ⟨acw_75, List.forall_mem_cons.mpr ⟨acw_76, List.forall_mem_cons.mpr ⟨acw_77, List.forall_mem_cons.mpr ⟨acw_78, List.forall_mem_cons.mpr ⟨acw_79, List.forall_mem_cons.mpr ⟨acw_80, List.forall_mem_cons.mpr ⟨acw_81, List.forall_mem_cons.mpr ⟨acw_82, List.forall_mem_cons.mpr ⟨acw_83, List.forall_mem_cons.mpr ⟨acw_84, List.forall_mem_cons.mpr ⟨acw_85, List.forall_mem_cons.mpr ⟨acw_86, List.forall_mem_cons.mpr ⟨acw_87, List.forall_mem_cons.mpr ⟨acw_88, List.forall_mem_cons.mpr ⟨acw_89, List.forall_mem_cons.mpr ⟨acw_90, List.forall_mem_cons.mpr ⟨acw_91, List.forall_mem_cons.mpr ⟨acw_92, List.forall_mem_cons.mpr ⟨acw_93, List.forall_mem_cons.mpr ⟨acw_94, List.forall_mem_cons.mpr ⟨acw_95, fun _ h => absurd h List.not_mem_nil⟩⟩⟩⟩⟩⟩⟩⟩⟩⟩⟩⟩⟩⟩⟩⟩⟩⟩⟩⟩⟩⟩⟩⟩
def aAl4 : List Nat := [96, 97, 98, 99, 100, 101, 102, 103, 104, 105, 106, 107, 120, 121, 122, 123, 124, 125, 150, 151, 152, 153, 154, 155]
theorem amk_4 : aAl4.all aMkOk = true := by decide +kernel
set_option maxRecDepth 20000 in
theorem acw_96 : Jvm.Cond.code ⟨"RiverThinksAgainModel", "open", "(III)I"⟩ prog_14_method_98_code 14 (some .int) ∈ lw_tbl := aIn_8 _ (List.mem_of_getElem? (i := 83) rfl)
set_option maxRecDepth 20000 in
theorem acw_97 : Jvm.Cond.code ⟨"RiverThinksAgainModel", "common", "(JJ)J"⟩ prog_14_method_7_code 4 (some .long) ∈ lw_tbl := aIn_8 _ (List.mem_of_getElem? (i := 88) rfl)
set_option maxRecDepth 20000 in
theorem acw_98 : Jvm.Cond.code ⟨"RiverThinksAgainModel", "law", "()I"⟩ prog_14_method_99_code 5 (some .int) ∈ lw_tbl := aIn_8 _ (List.mem_of_getElem? (i := 92) rfl)
set_option maxRecDepth 20000 in
theorem acw_99 : Jvm.Cond.code ⟨"RiverThinksAgainModel", "rests", "(I)I"⟩ prog_14_method_102_code 5 (some .int) ∈ lw_tbl := aIn_8 _ (List.mem_of_getElem? (i := 96) rfl)
set_option maxRecDepth 20000 in
theorem acw_100 : Jvm.Cond.code ⟨"RiverThinksAgainModel", "isRest", "(III)Z"⟩ prog_14_method_101_code 5 (some .boolean) ∈ lw_tbl := aIn_8 _ (List.mem_of_getElem? (i := 99) rfl)
set_option maxRecDepth 20000 in
theorem acw_101 : Jvm.Cond.code ⟨"RiverThinksAgainModel", "gets", "(III)I"⟩ prog_14_method_100_code 3 (some .int) ∈ lw_tbl := aIn_8 _ (List.mem_of_getElem? (i := 102) rfl)
set_option maxRecDepth 20000 in
theorem acw_102 : Jvm.Cond.code ⟨"RiverThinksAgainModel", "years", "(II)I"⟩ prog_14_method_104_code 7 (some .int) ∈ lw_tbl := aIn_8 _ (List.mem_of_getElem? (i := 106) rfl)
set_option maxRecDepth 20000 in
theorem acw_103 : Jvm.Cond.code ⟨"RiverThinksAgainModel", "draws", "(I)I"⟩ prog_14_method_103_code 2 (some .int) ∈ lw_tbl := aIn_8 _ (List.mem_of_getElem? (i := 110) rfl)
set_option maxRecDepth 20000 in
theorem acw_104 : Jvm.Cond.code ⟨"RiverThinksAgainModel", "keep", "(I)Z"⟩ prog_14_method_105_code 3 (some .boolean) ∈ lw_tbl := aIn_8 _ (List.mem_of_getElem? (i := 115) rfl)
set_option maxRecDepth 20000 in
theorem acw_105 : Jvm.Cond.code ⟨"RiverThinksAgainModel", "again", "(I)Z"⟩ prog_14_method_106_code 3 (some .boolean) ∈ lw_tbl := aIn_8 _ (List.mem_of_getElem? (i := 119) rfl)
set_option maxRecDepth 20000 in
theorem acw_106 : Jvm.Cond.code ⟨"RiverThinksAgainModel", "count", "(I)I"⟩ prog_14_method_107_code 2 (some .int) ∈ lw_tbl := aIn_8 _ (List.mem_of_getElem? (i := 123) rfl)
set_option maxRecDepth 20000 in
theorem acw_107 : Jvm.Cond.code ⟨"RiverThinksAgainModel", "row", "(I)J"⟩ prog_14_method_108_code 2 (some .long) ∈ lw_tbl := aIn_8 _ (List.mem_of_getElem? (i := 127) rfl)
set_option maxRecDepth 20000 in
theorem acw_120 : Jvm.Cond.code ⟨"java/lang/Integer", "numberOfTrailingZeros", "(I)I"⟩ prog_20_method_48_code 2 (some .int) ∈ lw_tbl := aIn_4 _ (List.mem_of_getElem? (i := 208) rfl)
set_option maxRecDepth 20000 in
theorem acw_121 : Jvm.Cond.code ⟨"java/lang/Integer", "bitCount", "(I)I"⟩ prog_20_method_49_code 1 (some .int) ∈ lw_tbl := aIn_5 _ (List.mem_of_getElem? (i := 18) rfl)
set_option maxRecDepth 20000 in
theorem acw_122 : Jvm.Cond.code ⟨"java/lang/Long", "bitCount", "(J)I"⟩ prog_21_method_50_code 2 (some .int) ∈ lw_tbl := aIn_3 _ (List.mem_of_getElem? (i := 232) rfl)
set_option maxRecDepth 20000 in
theorem acw_123 : Jvm.Cond.code ⟨"java/lang/Long", "numberOfTrailingZeros", "(J)I"⟩ prog_21_method_49_code 3 (some .int) ∈ lw_tbl := aIn_4 _ (List.mem_of_getElem? (i := 205) rfl)
set_option maxRecDepth 20000 in
theorem acw_124 : Jvm.Cond.code ⟨"java/util/Arrays", "fill", "([II)V"⟩ prog_32_method_103_code 4 none ∈ lw_tbl := aIn_2 _ (List.mem_of_getElem? (i := 223) rfl)
set_option maxRecDepth 20000 in
theorem acw_125 : Jvm.Cond.code ⟨"java/util/Arrays", "fill", "([JJ)V"⟩ prog_32_method_101_code 5 none ∈ lw_tbl := aIn_5 _ (List.mem_of_getElem? (i := 62) rfl)
set_option maxRecDepth 20000 in
theorem acw_150 : Jvm.Cond.code ⟨"RiverThinksAgain", "<init>", "()V"⟩ prog_1_method_1_code 2 none ∈ lw_tbl := aIn_1 _ (List.mem_of_getElem? (i := 33) rfl)
set_option maxRecDepth 20000 in
theorem acw_151 : Jvm.Cond.code ⟨"RiverThinksAgain", "sign", "(I)I"⟩ prog_1_method_2_code 2 (some .int) ∈ lw_tbl := aIn_2 _ (List.mem_of_getElem? (i := 183) rfl)
set_option maxRecDepth 20000 in
theorem acw_152 : Jvm.Cond.code ⟨"RiverThinksAgain", "end", "(I)Z"⟩ prog_1_method_3_code 2 (some .boolean) ∈ lw_tbl := aIn_2 _ (List.mem_of_getElem? (i := 191) rfl)
set_option maxRecDepth 20000 in
theorem acw_153 : Jvm.Cond.code ⟨"RiverThinksAgain", "land", "()I"⟩ prog_1_method_4_code 2 (some .int) ∈ lw_tbl := aIn_2 _ (List.mem_of_getElem? (i := 199) rfl)
set_option maxRecDepth 20000 in
theorem acw_154 : Jvm.Cond.code ⟨"RiverThinksAgain", "wrongSignOfLand", "()I"⟩ prog_1_method_10_code 3 (some .int) ∈ lw_tbl := aIn_2 _ (List.mem_of_getElem? (i := 203) rfl)
set_option maxRecDepth 20000 in
theorem acw_155 : Jvm.Cond.code ⟨"RiverThinksAgain", "takeLand", "()V"⟩ prog_1_method_11_code 2 none ∈ lw_tbl := aIn_2 _ (List.mem_of_getElem? (i := 215) rfl)
theorem acx_4 : ∀ k ∈ aAl4, Jvm.Cond.code (aMe k).2.1 (aMe k).2.2.1 (aMe k).2.2.2.1 (aMe k).2.2.2.2.1 ∈ lw_tbl := List.forall_mem_cons.mpr ⟨acw_96, List.forall_mem_cons.mpr ⟨acw_97, List.forall_mem_cons.mpr ⟨acw_98, List.forall_mem_cons.mpr ⟨acw_99, List.forall_mem_cons.mpr ⟨acw_100, List.forall_mem_cons.mpr ⟨acw_101, List.forall_mem_cons.mpr ⟨acw_102, List.forall_mem_cons.mpr ⟨acw_103, List.forall_mem_cons.mpr ⟨acw_104, List.forall_mem_cons.mpr ⟨acw_105, List.forall_mem_cons.mpr ⟨acw_106, List.forall_mem_cons.mpr ⟨acw_107, List.forall_mem_cons.mpr ⟨acw_120, List.forall_mem_cons.mpr ⟨acw_121, List.forall_mem_cons.mpr ⟨acw_122, List.forall_mem_cons.mpr ⟨acw_123, List.forall_mem_cons.mpr ⟨acw_124, List.forall_mem_cons.mpr ⟨acw_125, List.forall_mem_cons.mpr ⟨acw_150, List.forall_mem_cons.mpr ⟨acw_151, List.forall_mem_cons.mpr ⟨acw_152, List.forall_mem_cons.mpr ⟨acw_153, List.forall_mem_cons.mpr ⟨acw_154, List.forall_mem_cons.mpr ⟨acw_155, fun _ h => absurd h List.not_mem_nil⟩⟩⟩⟩⟩⟩⟩⟩⟩⟩⟩⟩⟩⟩⟩⟩⟩⟩⟩⟩⟩⟩⟩⟩
def aAl5 : List Nat := [156, 157, 158, 159, 160, 161, 162, 163, 164, 165, 166, 167, 168, 169, 170, 171, 172, 173, 174, 175, 176, 177, 178, 179]
theorem amk_5 : aAl5.all aMkOk = true := by decide +kernel
set_option maxRecDepth 20000 in
theorem acw_156 : Jvm.Cond.code ⟨"RiverThinksAgain", "force", "()I"⟩ prog_1_method_5_code 3 (some .int) ∈ lw_tbl := aIn_2 _ (List.mem_of_getElem? (i := 235) rfl)
set_option maxRecDepth 20000 in
theorem acw_157 : Jvm.Cond.code ⟨"RiverThinksAgain", "rule", "()I"⟩ prog_1_method_6_code 2 (some .int) ∈ lw_tbl := aIn_3 _ (List.mem_of_getElem? (i := 12) rfl)
set_option maxRecDepth 20000 in
theorem acw_158 : Jvm.Cond.code ⟨"RiverThinksAgain", "sheet", "(IIII)I"⟩ prog_1_method_9_code 8 (some .int) ∈ lw_tbl := aIn_3 _ (List.mem_of_getElem? (i := 147) rfl)
set_option maxRecDepth 20000 in
theorem acw_159 : Jvm.Cond.code ⟨"RiverThinksAgain", "heightOf", "(II)I"⟩ prog_1_method_12_code 3 (some .int) ∈ lw_tbl := aIn_3 _ (List.mem_of_getElem? (i := 150) rfl)
set_option maxRecDepth 20000 in
theorem acw_160 : Jvm.Cond.code ⟨"RiverThinksAgain", "tides", "(I)I"⟩ prog_1_method_13_code 3 (some .int) ∈ lw_tbl := aIn_3 _ (List.mem_of_getElem? (i := 160) rfl)
set_option maxRecDepth 20000 in
theorem acw_161 : Jvm.Cond.code ⟨"RiverThinksAgain", "bit", "(JI)I"⟩ prog_1_method_78_code 3 (some .int) ∈ lw_tbl := aIn_3 _ (List.mem_of_getElem? (i := 184) rfl)
set_option maxRecDepth 20000 in
theorem acw_162 : Jvm.Cond.code ⟨"RiverThinksAgain", "cut", "(II)I"⟩ prog_1_method_14_code 3 (some .int) ∈ lw_tbl := aIn_3 _ (List.mem_of_getElem? (i := 239) rfl)
set_option maxRecDepth 20000 in
theorem acw_163 : Jvm.Cond.code ⟨"RiverThinksAgain", "cutOff", "(LRiverThinksAgain$State;II)I"⟩ prog_1_method_21_code 4 (some .int) ∈ lw_tbl := aIn_4 _ (List.mem_of_getElem? (i := 3) rfl)
set_option maxRecDepth 20000 in
theorem acw_164 : Jvm.Cond.code ⟨"RiverThinksAgain", "remembered", "(I)I"⟩ prog_1_method_20_code 2 (some .int) ∈ lw_tbl := aIn_4 _ (List.mem_of_getElem? (i := 8) rfl)
set_option maxRecDepth 20000 in
theorem acw_165 : Jvm.Cond.code ⟨"RiverThinksAgain", "heap", "(II)I"⟩ prog_1_method_15_code 3 (some .int) ∈ lw_tbl := aIn_4 _ (List.mem_of_getElem? (i := 12) rfl)
set_option maxRecDepth 20000 in
theorem acw_166 : Jvm.Cond.code ⟨"RiverThinksAgain", "heapOn", "(II)I"⟩ prog_1_method_22_code 3 (some .int) ∈ lw_tbl := aIn_4 _ (List.mem_of_getElem? (i := 16) rfl)
set_option maxRecDepth 20000 in
theorem acw_167 : Jvm.Cond.code ⟨"RiverThinksAgain", "wall", "(I)I"⟩ prog_1_method_16_code 2 (some .int) ∈ lw_tbl := aIn_4 _ (List.mem_of_getElem? (i := 20) rfl)
set_option maxRecDepth 20000 in
theorem acw_168 : Jvm.Cond.code ⟨"RiverThinksAgain", "turnWall", "(LRiverThinksAgain$State;I)I"⟩ prog_1_method_23_code 3 (some .int) ∈ lw_tbl := aIn_4 _ (List.mem_of_getElem? (i := 24) rfl)
set_option maxRecDepth 20000 in
theorem acw_169 : Jvm.Cond.code ⟨"RiverThinksAgain", "source", "(I)I"⟩ prog_1_method_17_code 2 (some .int) ∈ lw_tbl := aIn_4 _ (List.mem_of_getElem? (i := 29) rfl)
set_option maxRecDepth 20000 in
theorem acw_170 : Jvm.Cond.code ⟨"RiverThinksAgain", "moveSource", "(I)I"⟩ prog_1_method_24_code 3 (some .int) ∈ lw_tbl := aIn_4 _ (List.mem_of_getElem? (i := 33) rfl)
set_option maxRecDepth 20000 in
theorem acw_171 : Jvm.Cond.code ⟨"RiverThinksAgain", "year", "()I"⟩ prog_1_method_18_code 6 (some .int) ∈ lw_tbl := aIn_4 _ (List.mem_of_getElem? (i := 37) rfl)
set_option maxRecDepth 20000 in
theorem acw_172 : Jvm.Cond.code ⟨"RiverThinksAgain", "wrongSignOfYear", "()I"⟩ prog_1_method_25_code 6 (some .int) ∈ lw_tbl := aIn_4 _ (List.mem_of_getElem? (i := 41) rfl)
set_option maxRecDepth 20000 in
theorem acw_173 : Jvm.Cond.code ⟨"RiverThinksAgain", "digitsOfAct", "(C)I"⟩ prog_1_method_26_code 1 (some .int) ∈ lw_tbl := aIn_4 _ (List.mem_of_getElem? (i := 45) rfl)
set_option maxRecDepth 20000 in
theorem acw_174 : Jvm.Cond.code ⟨"RiverThinksAgain", "doAct", "(I)I"⟩ prog_1_method_27_code 5 (some .int) ∈ lw_tbl := aIn_4 _ (List.mem_of_getElem? (i := 49) rfl)
set_option maxRecDepth 20000 in
theorem acw_175 : Jvm.Cond.code ⟨"RiverThinksAgain", "undo", "()I"⟩ prog_1_method_19_code 1 (some .int) ∈ lw_tbl := aIn_4 _ (List.mem_of_getElem? (i := 57) rfl)
set_option maxRecDepth 20000 in
theorem acw_176 : Jvm.Cond.code ⟨"RiverThinksAgain", "course", "()I"⟩ prog_1_method_28_code 2 (some .int) ∈ lw_tbl := aIn_4 _ (List.mem_of_getElem? (i := 65) rfl)
set_option maxRecDepth 20000 in
theorem acw_177 : Jvm.Cond.code ⟨"RiverThinksAgain", "ahead", "(I)I"⟩ prog_1_method_29_code 2 (some .int) ∈ lw_tbl := aIn_4 _ (List.mem_of_getElem? (i := 73) rfl)
set_option maxRecDepth 20000 in
theorem acw_178 : Jvm.Cond.code ⟨"RiverThinksAgain", "sits", "()I"⟩ prog_1_method_30_code 2 (some .int) ∈ lw_tbl := aIn_4 _ (List.mem_of_getElem? (i := 77) rfl)
set_option maxRecDepth 20000 in
theorem acw_179 : Jvm.Cond.code ⟨"RiverThinksAgain", "alters", "(I)I"⟩ prog_1_method_31_code 3 (some .int) ∈ lw_tbl := aIn_4 _ (List.mem_of_getElem? (i := 81) rfl)
theorem acx_5 : ∀ k ∈ aAl5, Jvm.Cond.code (aMe k).2.1 (aMe k).2.2.1 (aMe k).2.2.2.1 (aMe k).2.2.2.2.1 ∈ lw_tbl := List.forall_mem_cons.mpr ⟨acw_156, List.forall_mem_cons.mpr ⟨acw_157, List.forall_mem_cons.mpr ⟨acw_158, List.forall_mem_cons.mpr ⟨acw_159, List.forall_mem_cons.mpr ⟨acw_160, List.forall_mem_cons.mpr ⟨acw_161, List.forall_mem_cons.mpr ⟨acw_162, List.forall_mem_cons.mpr ⟨acw_163, List.forall_mem_cons.mpr ⟨acw_164, List.forall_mem_cons.mpr ⟨acw_165, List.forall_mem_cons.mpr ⟨acw_166, List.forall_mem_cons.mpr ⟨acw_167, List.forall_mem_cons.mpr ⟨acw_168, List.forall_mem_cons.mpr ⟨acw_169, List.forall_mem_cons.mpr ⟨acw_170, List.forall_mem_cons.mpr ⟨acw_171, List.forall_mem_cons.mpr ⟨acw_172, List.forall_mem_cons.mpr ⟨acw_173, List.forall_mem_cons.mpr ⟨acw_174, List.forall_mem_cons.mpr ⟨acw_175, List.forall_mem_cons.mpr ⟨acw_176, List.forall_mem_cons.mpr ⟨acw_177, List.forall_mem_cons.mpr ⟨acw_178, List.forall_mem_cons.mpr ⟨acw_179, fun _ h => absurd h List.not_mem_nil⟩⟩⟩⟩⟩⟩⟩⟩⟩⟩⟩⟩⟩⟩⟩⟩⟩⟩⟩⟩⟩⟩⟩⟩
def aAl6 : List Nat := [180, 181, 182, 183, 184, 185, 186, 187, 188, 189, 190, 191, 192, 193, 194, 195, 196, 197, 198, 199, 200, 201, 202, 203]
theorem amk_6 : aAl6.all aMkOk = true := by decide +kernel
set_option maxRecDepth 20000 in
theorem acw_180 : Jvm.Cond.code ⟨"RiverThinksAgain", "isNotAhead", "(I)Z"⟩ prog_1_method_34_code 1 (some .boolean) ∈ lw_tbl := aIn_4 _ (List.mem_of_getElem? (i := 84) rfl)
set_option maxRecDepth 20000 in
theorem acw_181 : Jvm.Cond.code ⟨"RiverThinksAgain", "mouths", "(I)I"⟩ prog_1_method_32_code 4 (some .int) ∈ lw_tbl := aIn_4 _ (List.mem_of_getElem? (i := 97) rfl)
set_option maxRecDepth 20000 in
theorem acw_182 : Jvm.Cond.code ⟨"RiverThinksAgain", "dry", "(I)J"⟩ prog_1_method_33_code 7 (some .long) ∈ lw_tbl := aIn_4 _ (List.mem_of_getElem? (i := 105) rfl)
set_option maxRecDepth 20000 in
theorem acw_183 : Jvm.Cond.code ⟨"RiverThinksAgain", "sends", "(I)I"⟩ prog_1_method_35_code 2 (some .int) ∈ lw_tbl := aIn_4 _ (List.mem_of_getElem? (i := 110) rfl)
set_option maxRecDepth 20000 in
theorem acw_184 : Jvm.Cond.code ⟨"RiverThinksAgain", "fewestWalls", "(I)I"⟩ prog_1_method_39_code 5 (some .int) ∈ lw_tbl := aIn_4 _ (List.mem_of_getElem? (i := 114) rfl)
set_option maxRecDepth 20000 in
theorem acw_185 : Jvm.Cond.code ⟨"RiverThinksAgain", "turningWalls", "(LRiverThinksAgain$River;IIJI)J"⟩ prog_1_method_40_code 11 (some .long) ∈ lw_tbl := aIn_4 _ (List.mem_of_getElem? (i := 118) rfl)
set_option maxRecDepth 20000 in
theorem acw_186 : Jvm.Cond.code ⟨"RiverThinksAgain", "stops", "()I"⟩ prog_1_method_36_code 1 (some .int) ∈ lw_tbl := aIn_4 _ (List.mem_of_getElem? (i := 129) rfl)
set_option maxRecDepth 20000 in
theorem acw_187 : Jvm.Cond.code ⟨"RiverThinksAgain", "longest", "()I"⟩ prog_1_method_37_code 5 (some .int) ∈ lw_tbl := aIn_4 _ (List.mem_of_getElem? (i := 133) rfl)
set_option maxRecDepth 20000 in
theorem acw_188 : Jvm.Cond.code ⟨"RiverThinksAgain", "least", "()I"⟩ prog_1_method_38_code 5 (some .int) ∈ lw_tbl := aIn_4 _ (List.mem_of_getElem? (i := 137) rfl)
set_option maxRecDepth 20000 in
theorem acw_189 : Jvm.Cond.code ⟨"RiverThinksAgain", "altersIfCut", "(II)Z"⟩ prog_1_method_41_code 3 (some .boolean) ∈ lw_tbl := aIn_4 _ (List.mem_of_getElem? (i := 142) rfl)
set_option maxRecDepth 20000 in
theorem acw_190 : Jvm.Cond.code ⟨"RiverThinksAgain", "draught", "()I"⟩ prog_1_method_42_code 1 (some .int) ∈ lw_tbl := aIn_4 _ (List.mem_of_getElem? (i := 146) rfl)
set_option maxRecDepth 20000 in
theorem acw_191 : Jvm.Cond.code ⟨"RiverThinksAgain", "timetable", "(I)I"⟩ prog_1_method_43_code 3 (some .int) ∈ lw_tbl := aIn_4 _ (List.mem_of_getElem? (i := 159) rfl)
set_option maxRecDepth 20000 in
theorem acw_192 : Jvm.Cond.code ⟨"RiverThinksAgain", "planShips", "(I)I"⟩ prog_1_method_46_code 4 (some .int) ∈ lw_tbl := aIn_4 _ (List.mem_of_getElem? (i := 163) rfl)
set_option maxRecDepth 20000 in
theorem acw_193 : Jvm.Cond.code ⟨"RiverThinksAgain", "way", "(I)I"⟩ prog_1_method_44_code 5 (some .int) ∈ lw_tbl := aIn_4 _ (List.mem_of_getElem? (i := 193) rfl)
set_option maxRecDepth 20000 in
theorem acw_194 : Jvm.Cond.code ⟨"RiverThinksAgain", "arms", "()I"⟩ prog_1_method_45_code 5 (some .int) ∈ lw_tbl := aIn_4 _ (List.mem_of_getElem? (i := 213) rfl)
set_option maxRecDepth 20000 in
theorem acw_195 : Jvm.Cond.code ⟨"RiverThinksAgain", "damsBelow", "(LRiverThinksAgain$Land;LRiverThinksAgain$State;IIJ)J"⟩ prog_1_method_47_code 9 (some .long) ∈ lw_tbl := aIn_4 _ (List.mem_of_getElem? (i := 216) rfl)
set_option maxRecDepth 20000 in
theorem acw_196 : Jvm.Cond.code ⟨"RiverThinksAgain", "comesDown", "(LRiverThinksAgain$Land;IJ)Z"⟩ prog_1_method_48_code 9 (some .boolean) ∈ lw_tbl := aIn_4 _ (List.mem_of_getElem? (i := 219) rfl)
set_option maxRecDepth 20000 in
theorem acw_197 : Jvm.Cond.code ⟨"RiverThinksAgain", "seen", "(III)I"⟩ prog_1_method_49_code 4 (some .int) ∈ lw_tbl := aIn_4 _ (List.mem_of_getElem? (i := 223) rfl)
set_option maxRecDepth 20000 in
theorem acw_198 : Jvm.Cond.code ⟨"RiverThinksAgain", "forget", "()I"⟩ prog_1_method_50_code 1 (some .int) ∈ lw_tbl := aIn_4 _ (List.mem_of_getElem? (i := 231) rfl)
set_option maxRecDepth 20000 in
theorem acw_199 : Jvm.Cond.code ⟨"RiverThinksAgain", "fits", "()I"⟩ prog_1_method_51_code 2 (some .int) ∈ lw_tbl := aIn_4 _ (List.mem_of_getElem? (i := 239) rfl)
set_option maxRecDepth 20000 in
theorem acw_200 : Jvm.Cond.code ⟨"RiverThinksAgain", "fittingColumns", "(I)I"⟩ prog_1_method_53_code 5 (some .int) ∈ lw_tbl := aIn_5 _ (List.mem_of_getElem? (i := 8) rfl)
set_option maxRecDepth 20000 in
theorem acw_201 : Jvm.Cond.code ⟨"RiverThinksAgain", "placeOf", "(II)I"⟩ prog_1_method_54_code 2 (some .int) ∈ lw_tbl := aIn_5 _ (List.mem_of_getElem? (i := 11) rfl)
set_option maxRecDepth 20000 in
theorem acw_202 : Jvm.Cond.code ⟨"RiverThinksAgain", "isAsSeen", "(I)Z"⟩ prog_1_method_55_code 5 (some .boolean) ∈ lw_tbl := aIn_5 _ (List.mem_of_getElem? (i := 15) rfl)
set_option maxRecDepth 20000 in
theorem acw_203 : Jvm.Cond.code ⟨"RiverThinksAgain", "reed", "(I)I"⟩ prog_1_method_52_code 7 (some .int) ∈ lw_tbl := aIn_5 _ (List.mem_of_getElem? (i := 25) rfl)
theorem acx_6 : ∀ k ∈ aAl6, Jvm.Cond.code (aMe k).2.1 (aMe k).2.2.1 (aMe k).2.2.2.1 (aMe k).2.2.2.2.1 ∈ lw_tbl := List.forall_mem_cons.mpr ⟨acw_180, List.forall_mem_cons.mpr ⟨acw_181, List.forall_mem_cons.mpr ⟨acw_182, List.forall_mem_cons.mpr ⟨acw_183, List.forall_mem_cons.mpr ⟨acw_184, List.forall_mem_cons.mpr ⟨acw_185, List.forall_mem_cons.mpr ⟨acw_186, List.forall_mem_cons.mpr ⟨acw_187, List.forall_mem_cons.mpr ⟨acw_188, List.forall_mem_cons.mpr ⟨acw_189, List.forall_mem_cons.mpr ⟨acw_190, List.forall_mem_cons.mpr ⟨acw_191, List.forall_mem_cons.mpr ⟨acw_192, List.forall_mem_cons.mpr ⟨acw_193, List.forall_mem_cons.mpr ⟨acw_194, List.forall_mem_cons.mpr ⟨acw_195, List.forall_mem_cons.mpr ⟨acw_196, List.forall_mem_cons.mpr ⟨acw_197, List.forall_mem_cons.mpr ⟨acw_198, List.forall_mem_cons.mpr ⟨acw_199, List.forall_mem_cons.mpr ⟨acw_200, List.forall_mem_cons.mpr ⟨acw_201, List.forall_mem_cons.mpr ⟨acw_202, List.forall_mem_cons.mpr ⟨acw_203, fun _ h => absurd h List.not_mem_nil⟩⟩⟩⟩⟩⟩⟩⟩⟩⟩⟩⟩⟩⟩⟩⟩⟩⟩⟩⟩⟩⟩⟩⟩
def aAl7 : List Nat := [204, 205, 206, 207, 208, 209, 210, 211, 212, 213, 214, 215, 216, 217, 218, 219, 220, 221, 222, 223, 224, 225, 226, 227]
theorem amk_7 : aAl7.all aMkOk = true := by decide +kernel
set_option maxRecDepth 20000 in
theorem acw_204 : Jvm.Cond.code ⟨"RiverThinksAgain", "leftAtMost", "(III)I"⟩ prog_1_method_56_code 6 (some .int) ∈ lw_tbl := aIn_5 _ (List.mem_of_getElem? (i := 29) rfl)
set_option maxRecDepth 20000 in
theorem acw_205 : Jvm.Cond.code ⟨"RiverThinksAgain", "marked", "(II)I"⟩ prog_1_method_57_code 3 (some .int) ∈ lw_tbl := aIn_5 _ (List.mem_of_getElem? (i := 33) rfl)
set_option maxRecDepth 20000 in
theorem acw_206 : Jvm.Cond.code ⟨"RiverThinksAgain", "wiped", "()I"⟩ prog_1_method_58_code 1 (some .int) ∈ lw_tbl := aIn_5 _ (List.mem_of_getElem? (i := 37) rfl)
set_option maxRecDepth 20000 in
theorem acw_207 : Jvm.Cond.code ⟨"RiverThinksAgain", "laws", "()I"⟩ prog_1_method_59_code 5 (some .int) ∈ lw_tbl := aIn_5 _ (List.mem_of_getElem? (i := 41) rfl)
set_option maxRecDepth 20000 in
theorem acw_208 : Jvm.Cond.code ⟨"RiverThinksAgain", "isAsMarked", "(III)Z"⟩ prog_1_method_60_code 5 (some .boolean) ∈ lw_tbl := aIn_5 _ (List.mem_of_getElem? (i := 45) rfl)
set_option maxRecDepth 20000 in
theorem acw_209 : Jvm.Cond.code ⟨"RiverThinksAgain", "wayByLaw", "(IIII)I"⟩ prog_1_method_61_code 10 (some .int) ∈ lw_tbl := aIn_5 _ (List.mem_of_getElem? (i := 49) rfl)
set_option maxRecDepth 20000 in
theorem acw_210 : Jvm.Cond.code ⟨"RiverThinksAgain", "bar", "(II)I"⟩ prog_1_method_62_code 7 (some .int) ∈ lw_tbl := aIn_5 _ (List.mem_of_getElem? (i := 54) rfl)
set_option maxRecDepth 20000 in
theorem acw_211 : Jvm.Cond.code ⟨"RiverThinksAgain", "open", "(III)I"⟩ prog_1_method_63_code 12 (some .int) ∈ lw_tbl := aIn_5 _ (List.mem_of_getElem? (i := 59) rfl)
set_option maxRecDepth 20000 in
theorem acw_212 : Jvm.Cond.code ⟨"RiverThinksAgain", "tellFraction", "(JJ)V"⟩ prog_1_method_65_code 7 none ∈ lw_tbl := aIn_5 _ (List.mem_of_getElem? (i := 67) rfl)
set_option maxRecDepth 20000 in
theorem acw_213 : Jvm.Cond.code ⟨"RiverThinksAgain", "commonDivisor", "(JJ)J"⟩ prog_1_method_66_code 11 (some .long) ∈ lw_tbl := aIn_5 _ (List.mem_of_getElem? (i := 70) rfl)
set_option maxRecDepth 20000 in
theorem acw_214 : Jvm.Cond.code ⟨"RiverThinksAgain", "law", "()I"⟩ prog_1_method_64_code 3 (some .int) ∈ lw_tbl := aIn_5 _ (List.mem_of_getElem? (i := 74) rfl)
set_option maxRecDepth 20000 in
theorem acw_215 : Jvm.Cond.code ⟨"RiverThinksAgain", "rests", "(I)I"⟩ prog_1_method_67_code 5 (some .int) ∈ lw_tbl := aIn_5 _ (List.mem_of_getElem? (i := 78) rfl)
set_option maxRecDepth 20000 in
theorem acw_216 : Jvm.Cond.code ⟨"RiverThinksAgain", "isContent", "(III)Z"⟩ prog_1_method_69_code 5 (some .boolean) ∈ lw_tbl := aIn_5 _ (List.mem_of_getElem? (i := 81) rfl)
set_option maxRecDepth 20000 in
theorem acw_217 : Jvm.Cond.code ⟨"RiverThinksAgain", "gain", "(III)I"⟩ prog_1_method_70_code 4 (some .int) ∈ lw_tbl := aIn_5 _ (List.mem_of_getElem? (i := 84) rfl)
set_option maxRecDepth 20000 in
theorem acw_218 : Jvm.Cond.code ⟨"RiverThinksAgain", "years", "(II)I"⟩ prog_1_method_68_code 8 (some .int) ∈ lw_tbl := aIn_5 _ (List.mem_of_getElem? (i := 88) rfl)
set_option maxRecDepth 20000 in
theorem acw_219 : Jvm.Cond.code ⟨"RiverThinksAgain", "drawn", "(I)I"⟩ prog_1_method_71_code 1 (some .int) ∈ lw_tbl := aIn_5 _ (List.mem_of_getElem? (i := 91) rfl)
set_option maxRecDepth 20000 in
theorem acw_220 : Jvm.Cond.code ⟨"RiverThinksAgain", "lot", "(II)I"⟩ prog_1_method_72_code 2 (some .int) ∈ lw_tbl := aIn_5 _ (List.mem_of_getElem? (i := 95) rfl)
set_option maxRecDepth 20000 in
theorem acw_221 : Jvm.Cond.code ⟨"RiverThinksAgain", "keep", "(I)Z"⟩ prog_1_method_73_code 2 (some .boolean) ∈ lw_tbl := aIn_5 _ (List.mem_of_getElem? (i := 99) rfl)
set_option maxRecDepth 20000 in
theorem acw_222 : Jvm.Cond.code ⟨"RiverThinksAgain", "again", "(I)Z"⟩ prog_1_method_74_code 2 (some .boolean) ∈ lw_tbl := aIn_5 _ (List.mem_of_getElem? (i := 103) rfl)
set_option maxRecDepth 20000 in
theorem acw_223 : Jvm.Cond.code ⟨"RiverThinksAgain", "count", "(I)I"⟩ prog_1_method_75_code 2 (some .int) ∈ lw_tbl := aIn_5 _ (List.mem_of_getElem? (i := 107) rfl)
set_option maxRecDepth 20000 in
theorem acw_224 : Jvm.Cond.code ⟨"RiverThinksAgain", "countOfNotes", "(I)I"⟩ prog_1_method_77_code 2 (some .int) ∈ lw_tbl := aIn_5 _ (List.mem_of_getElem? (i := 112) rfl)
set_option maxRecDepth 20000 in
theorem acw_225 : Jvm.Cond.code ⟨"RiverThinksAgain", "field", "(II)I"⟩ prog_1_method_7_code 3 (some .int) ∈ lw_tbl := aIn_5 _ (List.mem_of_getElem? (i := 120) rfl)
set_option maxRecDepth 20000 in
theorem acw_226 : Jvm.Cond.code ⟨"RiverThinksAgain", "dislikes", "(II)I"⟩ prog_1_method_8_code 3 (some .int) ∈ lw_tbl := aIn_5 _ (List.mem_of_getElem? (i := 188) rfl)
set_option maxRecDepth 20000 in
theorem acw_227 : Jvm.Cond.code ⟨"RiverThinksAgain", "row", "(I)J"⟩ prog_1_method_76_code 2 (some .long) ∈ lw_tbl := aIn_5 _ (List.mem_of_getElem? (i := 196) rfl)
theorem acx_7 : ∀ k ∈ aAl7, Jvm.Cond.code (aMe k).2.1 (aMe k).2.2.1 (aMe k).2.2.2.1 (aMe k).2.2.2.2.1 ∈ lw_tbl := List.forall_mem_cons.mpr ⟨acw_204, List.forall_mem_cons.mpr ⟨acw_205, List.forall_mem_cons.mpr ⟨acw_206, List.forall_mem_cons.mpr ⟨acw_207, List.forall_mem_cons.mpr ⟨acw_208, List.forall_mem_cons.mpr ⟨acw_209, List.forall_mem_cons.mpr ⟨acw_210, List.forall_mem_cons.mpr ⟨acw_211, List.forall_mem_cons.mpr ⟨acw_212, List.forall_mem_cons.mpr ⟨acw_213, List.forall_mem_cons.mpr ⟨acw_214, List.forall_mem_cons.mpr ⟨acw_215, List.forall_mem_cons.mpr ⟨acw_216, List.forall_mem_cons.mpr ⟨acw_217, List.forall_mem_cons.mpr ⟨acw_218, List.forall_mem_cons.mpr ⟨acw_219, List.forall_mem_cons.mpr ⟨acw_220, List.forall_mem_cons.mpr ⟨acw_221, List.forall_mem_cons.mpr ⟨acw_222, List.forall_mem_cons.mpr ⟨acw_223, List.forall_mem_cons.mpr ⟨acw_224, List.forall_mem_cons.mpr ⟨acw_225, List.forall_mem_cons.mpr ⟨acw_226, List.forall_mem_cons.mpr ⟨acw_227, fun _ h => absurd h List.not_mem_nil⟩⟩⟩⟩⟩⟩⟩⟩⟩⟩⟩⟩⟩⟩⟩⟩⟩⟩⟩⟩⟩⟩⟩⟩
def aAl8 : List Nat := [228, 229, 230, 231, 232, 233, 234, 235, 236, 237, 238, 239, 240, 241, 242, 243, 244, 245, 246, 247, 248, 249, 250, 251]
theorem amk_8 : aAl8.all aMkOk = true := by decide +kernel
set_option maxRecDepth 20000 in
theorem acw_228 : Jvm.Cond.code ⟨"RiverThinksAgain$Forces", "<init>", "()V"⟩ prog_2_method_1_code 1 none ∈ lw_tbl := aIn_1 _ (List.mem_of_getElem? (i := 134) rfl)
set_option maxRecDepth 20000 in
theorem acw_229 : Jvm.Cond.code ⟨"RiverThinksAgain$Forces", "take", "(LRiverThinksAgain$Text;)V"⟩ prog_2_method_2_code 3 none ∈ lw_tbl := aIn_3 _ (List.mem_of_getElem? (i := 5) rfl)
set_option maxRecDepth 20000 in
theorem acw_230 : Jvm.Cond.code ⟨"RiverThinksAgain$Forces", "at", "(I)I"⟩ prog_2_method_3_code 2 (some .int) ∈ lw_tbl := aIn_3 _ (List.mem_of_getElem? (i := 177) rfl)
set_option maxRecDepth 20000 in
theorem acw_231 : Jvm.Cond.code ⟨"RiverThinksAgain$Harbour", "<init>", "()V"⟩ prog_3_method_1_code 1 none ∈ lw_tbl := aIn_2 _ (List.mem_of_getElem? (i := 101) rfl)
set_option maxRecDepth 20000 in
theorem acw_232 : Jvm.Cond.code ⟨"RiverThinksAgain$Harbour", "welcome", "(LRiverThinksAgain$Text;)V"⟩ prog_3_method_2_code 3 none ∈ lw_tbl := aIn_4 _ (List.mem_of_getElem? (i := 167) rfl)
set_option maxRecDepth 20000 in
theorem acw_233 : Jvm.Cond.code ⟨"RiverThinksAgain$Harbour", "addTide", "(I)V"⟩ prog_3_method_3_code 2 none ∈ lw_tbl := aIn_4 _ (List.mem_of_getElem? (i := 173) rfl)
set_option maxRecDepth 20000 in
theorem acw_234 : Jvm.Cond.code ⟨"RiverThinksAgain$Harbour", "plan", "(LRiverThinksAgain$Told;)I"⟩ prog_3_method_4_code 7 (some .int) ∈ lw_tbl := aIn_4 _ (List.mem_of_getElem? (i := 178) rfl)
set_option maxRecDepth 20000 in
theorem acw_235 : Jvm.Cond.code ⟨"RiverThinksAgain$Harbour", "mostShips", "(II)I"⟩ prog_3_method_6_code 7 (some .int) ∈ lw_tbl := aIn_4 _ (List.mem_of_getElem? (i := 182) rfl)
set_option maxRecDepth 20000 in
theorem acw_236 : Jvm.Cond.code ⟨"RiverThinksAgain$Harbour", "leastTide", "(III)I"⟩ prog_3_method_5_code 6 (some .int) ∈ lw_tbl := aIn_4 _ (List.mem_of_getElem? (i := 188) rfl)
set_option maxRecDepth 20000 in
theorem acw_237 : Jvm.Cond.code ⟨"RiverThinksAgain$Harbour", "shortestWay", "(LRiverThinksAgain$Land;JILRiverThinksAgain$Told;)I"⟩ prog_3_method_7_code 9 (some .int) ∈ lw_tbl := aIn_4 _ (List.mem_of_getElem? (i := 197) rfl)
set_option maxRecDepth 20000 in
theorem acw_238 : Jvm.Cond.code ⟨"RiverThinksAgain$Harbour", "tellWay", "(LRiverThinksAgain$Land;IILRiverThinksAgain$Told;)V"⟩ prog_3_method_8_code 7 none ∈ lw_tbl := aIn_4 _ (List.mem_of_getElem? (i := 201) rfl)
set_option maxRecDepth 20000 in
theorem acw_239 : Jvm.Cond.code ⟨"RiverThinksAgain$Land", "<init>", "()V"⟩ prog_4_method_1_code 1 none ∈ lw_tbl := aIn_1 _ (List.mem_of_getElem? (i := 75) rfl)
set_option maxRecDepth 20000 in
theorem acw_240 : Jvm.Cond.code ⟨"RiverThinksAgain$Land", "measure", "(II)V"⟩ prog_4_method_2_code 4 none ∈ lw_tbl := aIn_1 _ (List.mem_of_getElem? (i := 80) rfl)
set_option maxRecDepth 20000 in
theorem acw_241 : Jvm.Cond.code ⟨"RiverThinksAgain$Land", "neighbour", "(II)I"⟩ prog_4_method_5_code 3 (some .int) ∈ lw_tbl := aIn_3 _ (List.mem_of_getElem? (i := 192) rfl)
set_option maxRecDepth 20000 in
theorem acw_242 : Jvm.Cond.code ⟨"RiverThinksAgain$Land", "holds", "(I)Z"⟩ prog_4_method_3_code 2 (some .boolean) ∈ lw_tbl := aIn_3 _ (List.mem_of_getElem? (i := 196) rfl)
set_option maxRecDepth 20000 in
theorem acw_243 : Jvm.Cond.code ⟨"RiverThinksAgain$Land", "around", "(J)J"⟩ prog_4_method_6_code 7 (some .long) ∈ lw_tbl := aIn_3 _ (List.mem_of_getElem? (i := 212) rfl)
set_option maxRecDepth 20000 in
theorem acw_244 : Jvm.Cond.code ⟨"RiverThinksAgain$Land", "fieldAt", "(II)I"⟩ prog_4_method_4_code 3 (some .int) ∈ lw_tbl := aIn_4 _ (List.mem_of_getElem? (i := 53) rfl)
set_option maxRecDepth 20000 in
theorem acw_245 : Jvm.Cond.code ⟨"RiverThinksAgain$Noted", "<init>", "()V"⟩ prog_5_method_1_code 1 none ∈ lw_tbl := aIn_2 _ (List.mem_of_getElem? (i := 78) rfl)
set_option maxRecDepth 20000 in
theorem acw_246 : Jvm.Cond.code ⟨"RiverThinksAgain$Noted", "note", "(III)I"⟩ prog_5_method_2_code 4 (some .int) ∈ lw_tbl := aIn_4 _ (List.mem_of_getElem? (i := 227) rfl)
set_option maxRecDepth 20000 in
theorem acw_247 : Jvm.Cond.code ⟨"RiverThinksAgain$Noted", "wipe", "()I"⟩ prog_5_method_4_code 2 (some .int) ∈ lw_tbl := aIn_4 _ (List.mem_of_getElem? (i := 235) rfl)
set_option maxRecDepth 20000 in
theorem acw_248 : Jvm.Cond.code ⟨"RiverThinksAgain$Noted", "latest", "()I"⟩ prog_5_method_3_code 3 (some .int) ∈ lw_tbl := aIn_5 _ (List.mem_of_getElem? (i := 3) rfl)
set_option maxRecDepth 20000 in
theorem acw_249 : Jvm.Cond.code ⟨"RiverThinksAgain$Past", "<init>", "()V"⟩ prog_6_method_1_code 2 none ∈ lw_tbl := aIn_2 _ (List.mem_of_getElem? (i := 58) rfl)
set_option maxRecDepth 20000 in
theorem acw_250 : Jvm.Cond.code ⟨"RiverThinksAgain$Past", "forgetAll", "()V"⟩ prog_6_method_4_code 1 none ∈ lw_tbl := aIn_2 _ (List.mem_of_getElem? (i := 227) rfl)
set_option maxRecDepth 20000 in
theorem acw_251 : Jvm.Cond.code ⟨"RiverThinksAgain$Past", "push", "(LRiverThinksAgain$State;)V"⟩ prog_6_method_2_code 2 none ∈ lw_tbl := aIn_3 _ (List.mem_of_getElem? (i := 219) rfl)
theorem acx_8 : ∀ k ∈ aAl8, Jvm.Cond.code (aMe k).2.1 (aMe k).2.2.1 (aMe k).2.2.2.1 (aMe k).2.2.2.2.1 ∈ lw_tbl := List.forall_mem_cons.mpr ⟨acw_228, List.forall_mem_cons.mpr ⟨acw_229, List.forall_mem_cons.mpr ⟨acw_230, List.forall_mem_cons.mpr ⟨acw_231, List.forall_mem_cons.mpr ⟨acw_232, List.forall_mem_cons.mpr ⟨acw_233, List.forall_mem_cons.mpr ⟨acw_234, List.forall_mem_cons.mpr ⟨acw_235, List.forall_mem_cons.mpr ⟨acw_236, List.forall_mem_cons.mpr ⟨acw_237, List.forall_mem_cons.mpr ⟨acw_238, List.forall_mem_cons.mpr ⟨acw_239, List.forall_mem_cons.mpr ⟨acw_240, List.forall_mem_cons.mpr ⟨acw_241, List.forall_mem_cons.mpr ⟨acw_242, List.forall_mem_cons.mpr ⟨acw_243, List.forall_mem_cons.mpr ⟨acw_244, List.forall_mem_cons.mpr ⟨acw_245, List.forall_mem_cons.mpr ⟨acw_246, List.forall_mem_cons.mpr ⟨acw_247, List.forall_mem_cons.mpr ⟨acw_248, List.forall_mem_cons.mpr ⟨acw_249, List.forall_mem_cons.mpr ⟨acw_250, List.forall_mem_cons.mpr ⟨acw_251, fun _ h => absurd h List.not_mem_nil⟩⟩⟩⟩⟩⟩⟩⟩⟩⟩⟩⟩⟩⟩⟩⟩⟩⟩⟩⟩⟩⟩⟩⟩
def aAl9 : List Nat := [252, 253, 254, 255, 256, 257, 258, 259, 260, 261, 262, 263, 264, 265, 266, 267, 268, 269, 270, 271, 272, 273, 274, 275]
theorem amk_9 : aAl9.all aMkOk = true := by decide +kernel
set_option maxRecDepth 20000 in
theorem acw_252 : Jvm.Cond.code ⟨"RiverThinksAgain$Past", "pop", "(LRiverThinksAgain$State;)Z"⟩ prog_6_method_3_code 2 (some .boolean) ∈ lw_tbl := aIn_4 _ (List.mem_of_getElem? (i := 61) rfl)
set_option maxRecDepth 20000 in
theorem acw_253 : Jvm.Cond.code ⟨"RiverThinksAgain$River", "<init>", "(LRiverThinksAgain$Land;LRiverThinksAgain$Forces;LRiverThinksAgain$State;LRiverThinksAgain$Rule;)V"⟩ prog_7_method_1_code 5 none ∈ lw_tbl := aIn_1 _ (List.mem_of_getElem? (i := 239) rfl)
set_option maxRecDepth 20000 in
theorem acw_254 : Jvm.Cond.code ⟨"RiverThinksAgain$River", "pass", "(LRiverThinksAgain$State;LRiverThinksAgain$Rule;I)I"⟩ prog_7_method_4_code 6 (some .int) ∈ lw_tbl := aIn_3 _ (List.mem_of_getElem? (i := 169) rfl)
set_option maxRecDepth 20000 in
theorem acw_255 : Jvm.Cond.code ⟨"RiverThinksAgain$River", "look", "(LRiverThinksAgain$State;LRiverThinksAgain$Rule;)V"⟩ prog_7_method_2_code 3 none ∈ lw_tbl := aIn_3 _ (List.mem_of_getElem? (i := 173) rfl)
set_option maxRecDepth 20000 in
theorem acw_256 : Jvm.Cond.code ⟨"RiverThinksAgain$River", "trace", "(J)V"⟩ prog_7_method_5_code 6 none ∈ lw_tbl := aIn_3 _ (List.mem_of_getElem? (i := 181) rfl)
set_option maxRecDepth 20000 in
theorem acw_257 : Jvm.Cond.code ⟨"RiverThinksAgain$River", "liked", "(IJ)I"⟩ prog_7_method_6_code 9 (some .int) ∈ lw_tbl := aIn_3 _ (List.mem_of_getElem? (i := 188) rfl)
set_option maxRecDepth 20000 in
theorem acw_258 : Jvm.Cond.code ⟨"RiverThinksAgain$River", "dislike", "(II)I"⟩ prog_7_method_7_code 4 (some .int) ∈ lw_tbl := aIn_3 _ (List.mem_of_getElem? (i := 200) rfl)
set_option maxRecDepth 20000 in
theorem acw_259 : Jvm.Cond.code ⟨"RiverThinksAgain$River", "settle", "()V"⟩ prog_7_method_8_code 4 none ∈ lw_tbl := aIn_3 _ (List.mem_of_getElem? (i := 208) rfl)
set_option maxRecDepth 20000 in
theorem acw_260 : Jvm.Cond.code ⟨"RiverThinksAgain$River", "flow", "(LRiverThinksAgain$State;LRiverThinksAgain$Rule;)V"⟩ prog_7_method_3_code 3 none ∈ lw_tbl := aIn_4 _ (List.mem_of_getElem? (i := 69) rfl)
set_option maxRecDepth 20000 in
theorem acw_261 : Jvm.Cond.code ⟨"RiverThinksAgain$River", "rememberPath", "()V"⟩ prog_7_method_9_code 1 none ∈ lw_tbl := aIn_4 _ (List.mem_of_getElem? (i := 88) rfl)
set_option maxRecDepth 20000 in
theorem acw_262 : Jvm.Cond.code ⟨"RiverThinksAgain$River", "isOnRememberedPath", "()Z"⟩ prog_7_method_10_code 2 (some .boolean) ∈ lw_tbl := aIn_4 _ (List.mem_of_getElem? (i := 93) rfl)
set_option maxRecDepth 20000 in
theorem acw_263 : Jvm.Cond.code ⟨"RiverThinksAgain$River", "highest", "()I"⟩ prog_7_method_11_code 3 (some .int) ∈ lw_tbl := aIn_4 _ (List.mem_of_getElem? (i := 150) rfl)
set_option maxRecDepth 20000 in
theorem acw_264 : Jvm.Cond.code ⟨"RiverThinksAgain$River", "deepestShip", "()I"⟩ prog_7_method_12_code 2 (some .int) ∈ lw_tbl := aIn_4 _ (List.mem_of_getElem? (i := 154) rfl)
set_option maxRecDepth 20000 in
theorem acw_265 : Jvm.Cond.code ⟨"RiverThinksAgain$Rule", "<init>", "()V"⟩ prog_8_method_1_code 1 none ∈ lw_tbl := aIn_1 _ (List.mem_of_getElem? (i := 147) rfl)
set_option maxRecDepth 20000 in
theorem acw_266 : Jvm.Cond.code ⟨"RiverThinksAgain$Rule", "take", "([II)V"⟩ prog_8_method_2_code 3 none ∈ lw_tbl := aIn_1 _ (List.mem_of_getElem? (i := 154) rfl)
set_option maxRecDepth 20000 in
theorem acw_267 : Jvm.Cond.code ⟨"RiverThinksAgain$Rule", "reckon", "([I)I"⟩ prog_8_method_3_code 7 (some .int) ∈ lw_tbl := aIn_3 _ (List.mem_of_getElem? (i := 204) rfl)
set_option maxRecDepth 20000 in
theorem acw_268 : Jvm.Cond.code ⟨"RiverThinksAgain$RuleReader", "<init>", "()V"⟩ prog_9_method_1_code 1 none ∈ lw_tbl := aIn_1 _ (List.mem_of_getElem? (i := 174) rfl)
set_option maxRecDepth 20000 in
theorem acw_269 : Jvm.Cond.code ⟨"RiverThinksAgain$RuleReader", "read", "(LRiverThinksAgain$Text;LRiverThinksAgain$Rule;)I"⟩ prog_9_method_2_code 5 (some .int) ∈ lw_tbl := aIn_3 _ (List.mem_of_getElem? (i := 16) rfl)
set_option maxRecDepth 20000 in
theorem acw_270 : Jvm.Cond.code ⟨"RiverThinksAgain$RuleReader", "begin", "()V"⟩ prog_9_method_3_code 1 none ∈ lw_tbl := aIn_3 _ (List.mem_of_getElem? (i := 22) rfl)
set_option maxRecDepth 20000 in
theorem acw_271 : Jvm.Cond.code ⟨"RiverThinksAgain$RuleReader", "takes", "(C)Z"⟩ prog_9_method_4_code 2 (some .boolean) ∈ lw_tbl := aIn_3 _ (List.mem_of_getElem? (i := 28) rfl)
set_option maxRecDepth 20000 in
theorem acw_272 : Jvm.Cond.code ⟨"RiverThinksAgain$RuleReader", "takesDigit", "(I)Z"⟩ prog_9_method_5_code 2 (some .boolean) ∈ lw_tbl := aIn_3 _ (List.mem_of_getElem? (i := 32) rfl)
set_option maxRecDepth 20000 in
theorem acw_273 : Jvm.Cond.code ⟨"RiverThinksAgain$RuleReader", "put", "(I)V"⟩ prog_9_method_8_code 2 none ∈ lw_tbl := aIn_3 _ (List.mem_of_getElem? (i := 36) rfl)
set_option maxRecDepth 20000 in
theorem acw_274 : Jvm.Cond.code ⟨"RiverThinksAgain$RuleReader", "takesThing", "(C)Z"⟩ prog_9_method_6_code 3 (some .boolean) ∈ lw_tbl := aIn_3 _ (List.mem_of_getElem? (i := 40) rfl)
set_option maxRecDepth 20000 in
theorem acw_275 : Jvm.Cond.code ⟨"RiverThinksAgain$RuleReader", "await", "(I)V"⟩ prog_9_method_9_code 2 none ∈ lw_tbl := aIn_3 _ (List.mem_of_getElem? (i := 44) rfl)
theorem acx_9 : ∀ k ∈ aAl9, Jvm.Cond.code (aMe k).2.1 (aMe k).2.2.1 (aMe k).2.2.2.1 (aMe k).2.2.2.2.1 ∈ lw_tbl := List.forall_mem_cons.mpr ⟨acw_252, List.forall_mem_cons.mpr ⟨acw_253, List.forall_mem_cons.mpr ⟨acw_254, List.forall_mem_cons.mpr ⟨acw_255, List.forall_mem_cons.mpr ⟨acw_256, List.forall_mem_cons.mpr ⟨acw_257, List.forall_mem_cons.mpr ⟨acw_258, List.forall_mem_cons.mpr ⟨acw_259, List.forall_mem_cons.mpr ⟨acw_260, List.forall_mem_cons.mpr ⟨acw_261, List.forall_mem_cons.mpr ⟨acw_262, List.forall_mem_cons.mpr ⟨acw_263, List.forall_mem_cons.mpr ⟨acw_264, List.forall_mem_cons.mpr ⟨acw_265, List.forall_mem_cons.mpr ⟨acw_266, List.forall_mem_cons.mpr ⟨acw_267, List.forall_mem_cons.mpr ⟨acw_268, List.forall_mem_cons.mpr ⟨acw_269, List.forall_mem_cons.mpr ⟨acw_270, List.forall_mem_cons.mpr ⟨acw_271, List.forall_mem_cons.mpr ⟨acw_272, List.forall_mem_cons.mpr ⟨acw_273, List.forall_mem_cons.mpr ⟨acw_274, List.forall_mem_cons.mpr ⟨acw_275, fun _ h => absurd h List.not_mem_nil⟩⟩⟩⟩⟩⟩⟩⟩⟩⟩⟩⟩⟩⟩⟩⟩⟩⟩⟩⟩⟩⟩⟩⟩
def aAl10 : List Nat := [276, 277, 278, 279, 280, 281, 282, 283, 284, 285, 286, 287, 288, 289, 290, 291, 292, 293, 294, 295]
theorem amk_10 : aAl10.all aMkOk = true := by decide +kernel
set_option maxRecDepth 20000 in
theorem acw_276 : Jvm.Cond.code ⟨"RiverThinksAgain$RuleReader", "takesJoin", "(C)Z"⟩ prog_9_method_7_code 3 (some .boolean) ∈ lw_tbl := aIn_3 _ (List.mem_of_getElem? (i := 131) rfl)
set_option maxRecDepth 20000 in
theorem acw_277 : Jvm.Cond.code ⟨"RiverThinksAgain$RuleReader", "release", "(I)V"⟩ prog_9_method_10_code 3 none ∈ lw_tbl := aIn_3 _ (List.mem_of_getElem? (i := 135) rfl)
set_option maxRecDepth 20000 in
theorem acw_278 : Jvm.Cond.code ⟨"RiverThinksAgain$RuleReader", "bindingOf", "(I)I"⟩ prog_9_method_12_code 1 (some .int) ∈ lw_tbl := aIn_3 _ (List.mem_of_getElem? (i := 138) rfl)
set_option maxRecDepth 20000 in
theorem acw_279 : Jvm.Cond.code ⟨"RiverThinksAgain$RuleReader", "joinOf", "(C)I"⟩ prog_9_method_11_code 1 (some .int) ∈ lw_tbl := aIn_3 _ (List.mem_of_getElem? (i := 142) rfl)
set_option maxRecDepth 20000 in
theorem acw_280 : Jvm.Cond.code ⟨"RiverThinksAgain$State", "<init>", "()V"⟩ prog_10_method_1_code 1 none ∈ lw_tbl := aIn_1 _ (List.mem_of_getElem? (i := 202) rfl)
set_option maxRecDepth 20000 in
theorem acw_281 : Jvm.Cond.code ⟨"RiverThinksAgain$State", "clear", "()V"⟩ prog_10_method_3_code 1 none ∈ lw_tbl := aIn_2 _ (List.mem_of_getElem? (i := 220) rfl)
set_option maxRecDepth 20000 in
theorem acw_282 : Jvm.Cond.code ⟨"RiverThinksAgain$State", "sum", "()I"⟩ prog_10_method_4_code 3 (some .int) ∈ lw_tbl := aIn_3 _ (List.mem_of_getElem? (i := 156) rfl)
set_option maxRecDepth 20000 in
theorem acw_283 : Jvm.Cond.code ⟨"RiverThinksAgain$State", "copy", "(LRiverThinksAgain$State;)V"⟩ prog_10_method_2_code 2 none ∈ lw_tbl := aIn_3 _ (List.mem_of_getElem? (i := 164) rfl)
set_option maxRecDepth 20000 in
theorem acw_284 : Jvm.Cond.code ⟨"RiverThinksAgain$Text", "<init>", "()V"⟩ prog_11_method_1_code 1 none ∈ lw_tbl := aIn_1 _ (List.mem_of_getElem? (i := 41) rfl)
set_option maxRecDepth 20000 in
theorem acw_285 : Jvm.Cond.code ⟨"RiverThinksAgain$Text", "append", "(I)I"⟩ prog_11_method_2_code 3 (some .int) ∈ lw_tbl := aIn_2 _ (List.mem_of_getElem? (i := 187) rfl)
set_option maxRecDepth 20000 in
theorem acw_286 : Jvm.Cond.code ⟨"RiverThinksAgain$Text", "shorten", "(I)Z"⟩ prog_11_method_3_code 2 (some .boolean) ∈ lw_tbl := aIn_2 _ (List.mem_of_getElem? (i := 195) rfl)
set_option maxRecDepth 20000 in
theorem acw_287 : Jvm.Cond.code ⟨"RiverThinksAgain$Text", "digit", "(I)I"⟩ prog_11_method_6_code 3 (some .int) ∈ lw_tbl := aIn_2 _ (List.mem_of_getElem? (i := 207) rfl)
set_option maxRecDepth 20000 in
theorem acw_288 : Jvm.Cond.code ⟨"RiverThinksAgain$Text", "at", "(I)C"⟩ prog_11_method_5_code 2 (some .char) ∈ lw_tbl := aIn_2 _ (List.mem_of_getElem? (i := 211) rfl)
set_option maxRecDepth 20000 in
theorem acw_289 : Jvm.Cond.code ⟨"RiverThinksAgain$Text", "empty", "()V"⟩ prog_11_method_4_code 1 none ∈ lw_tbl := aIn_2 _ (List.mem_of_getElem? (i := 231) rfl)
set_option maxRecDepth 20000 in
theorem acw_290 : Jvm.Cond.code ⟨"RiverThinksAgain$Text", "wrongDigit", "(CI)I"⟩ prog_11_method_7_code 5 (some .int) ∈ lw_tbl := aIn_2 _ (List.mem_of_getElem? (i := 239) rfl)
set_option maxRecDepth 20000 in
theorem acw_291 : Jvm.Cond.code ⟨"RiverThinksAgain$Told", "<init>", "()V"⟩ prog_12_method_1_code 1 none ∈ lw_tbl := aIn_1 _ (List.mem_of_getElem? (i := 59) rfl)
set_option maxRecDepth 20000 in
theorem acw_292 : Jvm.Cond.code ⟨"RiverThinksAgain$Told", "start", "()V"⟩ prog_12_method_2_code 1 none ∈ lw_tbl := aIn_3 _ (List.mem_of_getElem? (i := 225) rfl)
set_option maxRecDepth 20000 in
theorem acw_293 : Jvm.Cond.code ⟨"RiverThinksAgain$Told", "add", "(J)V"⟩ prog_12_method_3_code 3 none ∈ lw_tbl := aIn_3 _ (List.mem_of_getElem? (i := 229) rfl)
set_option maxRecDepth 20000 in
theorem acw_294 : Jvm.Cond.code ⟨"RiverThinksAgain$Told", "raise", "(I)V"⟩ prog_12_method_5_code 2 none ∈ lw_tbl := aIn_4 _ (List.mem_of_getElem? (i := 101) rfl)
set_option maxRecDepth 20000 in
theorem acw_295 : Jvm.Cond.code ⟨"RiverThinksAgain$Told", "addSet", "(J)V"⟩ prog_12_method_4_code 4 none ∈ lw_tbl := aIn_4 _ (List.mem_of_getElem? (i := 123) rfl)
theorem acx_10 : ∀ k ∈ aAl10, Jvm.Cond.code (aMe k).2.1 (aMe k).2.2.1 (aMe k).2.2.2.1 (aMe k).2.2.2.2.1 ∈ lw_tbl := List.forall_mem_cons.mpr ⟨acw_276, List.forall_mem_cons.mpr ⟨acw_277, List.forall_mem_cons.mpr ⟨acw_278, List.forall_mem_cons.mpr ⟨acw_279, List.forall_mem_cons.mpr ⟨acw_280, List.forall_mem_cons.mpr ⟨acw_281, List.forall_mem_cons.mpr ⟨acw_282, List.forall_mem_cons.mpr ⟨acw_283, List.forall_mem_cons.mpr ⟨acw_284, List.forall_mem_cons.mpr ⟨acw_285, List.forall_mem_cons.mpr ⟨acw_286, List.forall_mem_cons.mpr ⟨acw_287, List.forall_mem_cons.mpr ⟨acw_288, List.forall_mem_cons.mpr ⟨acw_289, List.forall_mem_cons.mpr ⟨acw_290, List.forall_mem_cons.mpr ⟨acw_291, List.forall_mem_cons.mpr ⟨acw_292, List.forall_mem_cons.mpr ⟨acw_293, List.forall_mem_cons.mpr ⟨acw_294, List.forall_mem_cons.mpr ⟨acw_295, fun _ h => absurd h List.not_mem_nil⟩⟩⟩⟩⟩⟩⟩⟩⟩⟩⟩⟩⟩⟩⟩⟩⟩⟩⟩⟩
set_option maxRecDepth 20000 in
theorem aAll_eq : aAll = aAl0 ++ (aAl1 ++ (aAl2 ++ (aAl3 ++ (aAl4 ++ (aAl5 ++ (aAl6 ++ (aAl7 ++ (aAl8 ++ (aAl9 ++ (aAl10)))))))))) := rfl
theorem amk_all : aAll.all aMkOk = true := by
  rw [aAll_eq]
  simp only [List.all_append, Bool.and_eq_true]
  exact ⟨amk_0, ⟨amk_1, ⟨amk_2, ⟨amk_3, ⟨amk_4, ⟨amk_5, ⟨amk_6, ⟨amk_7, ⟨amk_8, ⟨amk_9, amk_10⟩⟩⟩⟩⟩⟩⟩⟩⟩⟩
theorem acx_all : ∀ k ∈ aAll, Jvm.Cond.code (aMe k).2.1 (aMe k).2.2.1 (aMe k).2.2.2.1 (aMe k).2.2.2.2.1 ∈ lw_tbl := by
  rw [aAll_eq]
  simp only [List.forall_mem_append]
  exact ⟨acx_0, ⟨acx_1, ⟨acx_2, ⟨acx_3, ⟨acx_4, ⟨acx_5, ⟨acx_6, ⟨acx_7, ⟨acx_8, ⟨acx_9, acx_10⟩⟩⟩⟩⟩⟩⟩⟩⟩⟩
