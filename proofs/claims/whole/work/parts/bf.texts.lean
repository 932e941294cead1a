/-! TEXTS: what String.length, charAt, indexOf do on the constant texts. By wip/whole/gentx.py. -/
def txW : List Jvm.Cond := [
  Jvm.Cond.code (⟨"java/lang/String", "coder", "()B"⟩ : MethodName) prog_25_method_152_code 1 (some .byte),
  Jvm.Cond.initialized "java/lang/String",
  Jvm.Cond.code (⟨"java/lang/String", "isLatin1", "()Z"⟩ : MethodName) prog_25_method_154_code 1 (some .boolean),
  Jvm.Cond.code (⟨"java/lang/String", "length", "()I"⟩ : MethodName) prog_25_method_54_code 1 (some .int),
  Jvm.Cond.code (⟨"jdk/internal/util/Preconditions", "checkIndex", "(IILjava/util/function/BiFunction;)I"⟩ : MethodName) prog_34_method_11_code 3 (some .int),
  Jvm.Cond.initialized "jdk/internal/util/Preconditions",
  Jvm.Cond.code (⟨"java/lang/String", "checkIndex", "(II)V"⟩ : MethodName) prog_25_method_155_code 2 (none),
  Jvm.Cond.code (⟨"java/lang/StringLatin1", "charAt", "([BI)C"⟩ : MethodName) prog_26_method_2_code 2 (some .char),
  Jvm.Cond.initialized "java/lang/StringLatin1",
  Jvm.Cond.code (⟨"java/lang/String", "charAt", "(I)C"⟩ : MethodName) prog_25_method_56_code 2 (some .char),
  Jvm.Cond.code (⟨"java/lang/StringLatin1", "canEncode", "(I)Z"⟩ : MethodName) prog_26_method_4_code 1 (some .boolean),
  Jvm.Cond.code (⟨"java/lang/StringLatin1", "indexOfChar", "([BIII)I"⟩ : MethodName) prog_26_method_23_code 6 (some .int),
  Jvm.Cond.code (⟨"java/lang/StringLatin1", "indexOf", "([BIII)I"⟩ : MethodName) prog_26_method_22_code 4 (some .int),
  Jvm.Cond.code (⟨"java/lang/String", "indexOf", "(II)I"⟩ : MethodName) prog_25_method_80_code 3 (some .int),
  Jvm.Cond.code (⟨"java/lang/String", "indexOf", "(I)I"⟩ : MethodName) prog_25_method_79_code 2 (some .int),
  Jvm.Cond.instanceMethod (⟨"java/lang/String", "coder", "()B"⟩ : MethodName),
  Jvm.Cond.selects "java/lang/String" (⟨"java/lang/String", "coder", "()B"⟩ : MethodName) (⟨"java/lang/String", "coder", "()B"⟩ : MethodName),
  Jvm.Cond.instanceMethod (⟨"java/lang/String", "isLatin1", "()Z"⟩ : MethodName),
  Jvm.Cond.selects "java/lang/String" (⟨"java/lang/String", "isLatin1", "()Z"⟩ : MethodName) (⟨"java/lang/String", "isLatin1", "()Z"⟩ : MethodName),
  Jvm.Cond.instanceMethod (⟨"java/lang/String", "length", "()I"⟩ : MethodName),
  Jvm.Cond.selects "java/lang/String" (⟨"java/lang/String", "length", "()I"⟩ : MethodName) (⟨"java/lang/String", "length", "()I"⟩ : MethodName),
  Jvm.Cond.instanceMethod (⟨"java/lang/String", "charAt", "(I)C"⟩ : MethodName),
  Jvm.Cond.selects "java/lang/String" (⟨"java/lang/String", "charAt", "(I)C"⟩ : MethodName) (⟨"java/lang/String", "charAt", "(I)C"⟩ : MethodName),
  Jvm.Cond.instanceMethod (⟨"java/lang/String", "indexOf", "(II)I"⟩ : MethodName),
  Jvm.Cond.selects "java/lang/String" (⟨"java/lang/String", "indexOf", "(II)I"⟩ : MethodName) (⟨"java/lang/String", "indexOf", "(II)I"⟩ : MethodName),
  Jvm.Cond.instanceMethod (⟨"java/lang/String", "indexOf", "(I)I"⟩ : MethodName),
  Jvm.Cond.selects "java/lang/String" (⟨"java/lang/String", "indexOf", "(I)I"⟩ : MethodName) (⟨"java/lang/String", "indexOf", "(I)I"⟩ : MethodName),
  Jvm.Cond.static (⟨"jdk/internal/util/Preconditions", "checkIndex", "(IILjava/util/function/BiFunction;)I"⟩ : MethodName),
  Jvm.Cond.static (⟨"java/lang/String", "checkIndex", "(II)V"⟩ : MethodName),
  Jvm.Cond.static (⟨"java/lang/StringLatin1", "charAt", "([BI)C"⟩ : MethodName),
  Jvm.Cond.static (⟨"java/lang/StringLatin1", "canEncode", "(I)Z"⟩ : MethodName),
  Jvm.Cond.static (⟨"java/lang/StringLatin1", "indexOfChar", "([BIII)I"⟩ : MethodName),
  Jvm.Cond.static (⟨"java/lang/StringLatin1", "indexOf", "([BIII)I"⟩ : MethodName),
  Jvm.Cond.methodLink "java/lang/String" 335 (⟨"java/lang/String", "coder", "()B"⟩ : MethodName),
  Jvm.Cond.methodLink "java/lang/String" 492 (⟨"java/lang/String", "isLatin1", "()Z"⟩ : MethodName),
  Jvm.Cond.methodLink "java/lang/String" 505 (⟨"java/lang/String", "length", "()I"⟩ : MethodName),
  Jvm.Cond.methodLink "java/lang/String" 1059 (⟨"jdk/internal/util/Preconditions", "checkIndex", "(IILjava/util/function/BiFunction;)I"⟩ : MethodName),
  Jvm.Cond.methodLink "java/lang/StringLatin1" 9 (⟨"java/lang/String", "checkIndex", "(II)V"⟩ : MethodName),
  Jvm.Cond.methodLink "java/lang/String" 495 (⟨"java/lang/StringLatin1", "charAt", "([BI)C"⟩ : MethodName),
  Jvm.Cond.methodLink "java/lang/StringLatin1" 88 (⟨"java/lang/StringLatin1", "canEncode", "(I)Z"⟩ : MethodName),
  Jvm.Cond.methodLink "java/lang/StringLatin1" 95 (⟨"java/lang/StringLatin1", "indexOfChar", "([BIII)I"⟩ : MethodName),
  Jvm.Cond.methodLink "java/lang/String" 637 (⟨"java/lang/StringLatin1", "indexOf", "([BIII)I"⟩ : MethodName),
  Jvm.Cond.methodLink "java/lang/String" 633 (⟨"java/lang/String", "indexOf", "(II)I"⟩ : MethodName),
  Jvm.Cond.fieldLink "java/lang/String" 38 "java/lang/String" "COMPACT_STRINGS" "Z",
  Jvm.Cond.fieldLink "java/lang/String" 15 "java/lang/String" "coder" "B",
  Jvm.Cond.fieldLink "java/lang/String" 9 "java/lang/String" "value" "[B",
  Jvm.Cond.fieldLink "java/lang/String" 1053 "jdk/internal/util/Preconditions" "SIOOBE_FORMATTER" "Ljava/util/function/BiFunction;",
  Jvm.Cond.methodLink "java/lang/StringLatin1" 92 Lib.Math.max.name,
  Jvm.Cond.methodLink "java/lang/StringLatin1" 38 Lib.Math.min.name]
set_option maxRecDepth 100000 in
theorem txW_ok : txW.all (fun w => decide (w ∈ lw_tbl) && goodWord w) = true := by decide +kernel
theorem txW_in {i : Nat} {w : Jvm.Cond} (h : txW[i]? = some w) : w ∈ aTB := by
  have := List.all_eq_true.mp txW_ok w (List.mem_of_getElem? h)
  rw [Bool.and_eq_true, decide_eq_true_eq] at this
  exact aTB_in this.1 this.2
theorem txG {i : Nat} {w : Jvm.Cond} (h : txW[i]? = some w) : GoodIn aTB (w :: aTB) := by
  intro v hv
  rcases List.mem_cons.mp hv with rfl | hv
  · exact aTB_good _ (txW_in h)
  · exact aTB_good v hv
/-- null, or an address -/
def cW (w : Option Nat) : Value := match w with
  | none => .null
  | some t => .ref t
/-- a text of its own: its class, its coder, its row of bytes; and two statics -/
def tX (b a q n : Nat) (f : Nat → Int32) (w : Option Nat) (U : State) (H : Heap) : Prop := va_O "java/lang/String" a (aUp b) U H ∧ va_OF "java/lang/String" "coder" "B" (.int 0) a (aUp b) U H ∧ va_OF "java/lang/String" "value" "[B" (.ref q) a (aUp b) U H ∧ va_T .byte q n (fun j => .int (f j)) (aUp b) U H ∧ va_Z "java/lang/String" "COMPACT_STRINGS" "Z" (.int 1) (aUp b) U H ∧ va_Z "jdk/internal/util/Preconditions" "SIOOBE_FORMATTER" "Ljava/util/function/BiFunction;" (cW w) (aUp b) U H
def tR (r : Nat) : Room := { frames := r + 1, cells := 0, slots := 0, locals := 40 * (r + 1) }
def tQ (v : Option Value) : Array Value → State → Outcome → State → Prop := fun _ st o t => o = .returned v ∧ t.heap = st.heap
def tM (l : Launch) (b a q n : Nat) (f : Nat → Int32) (w : Option Nat) (y : MethodName) (cc : ByteArray) (mx : Nat) (ret : Option FieldType) (r : Nat) (vs : List Value) (v : Option Value) : Prop := Met l y (Jvm.Cond.code y cc mx ret :: aTB) (tR r) (va_Pc vs (fun U => tX b a q n f w U U.heap)) (tQ v) 0 0 (fun _ => False)
/-- where a byte stands first -/
def tIx (f : Nat → Int32) (c : Int32) : Nat → Nat → Int32
  | 0, _ => -1
  | n + 1, k => if f k = c.toInt8.toInt32 then nI k else tIx f c n (k + 1)
section TX
variable {b a q n : Nat} {w : Option Nat} {f : Nat → Int32}
theorem tX_kept {u U : State} {H H1 : Heap} (hal : u.vm.Alike U.vm) (hq : ∀ a : Nat, a < H.size → ¬ aUp b a → H1[a]? = H[a]?) (h : tX b a q n f w u H) : tX b a q n f w U H1 := by
  obtain ⟨g1, g2, g3, g4, g5, g6⟩ := h
  exact ⟨va_O.kept (va_O.moved hal g1) hq, va_OF.kept (va_OF.moved hal g2) hq, va_OF.kept (va_OF.moved hal g3) hq, va_T.kept (va_T.moved hal g4) hq, va_Z.kept (va_Z.moved hal g5) hq, va_Z.kept (va_Z.moved hal g6) hq⟩
theorem tX_warm {s U : State} {H : Heap} (hW : s.WarmedH U.vm) (h : tX b a q n f w s H) : tX b a q n f w U H := tX_kept hW.alike (fun _ _ _ => rfl) h
theorem tX_pre {s U : State} {H : Heap} {vs : List Value} (hU : U.heap = H) (hW : s.WarmedH U.vm) (h : tX b a q n f w s H) : va_Pc vs (fun U => tX b a q n f w U U.heap) vs.toArray U := ⟨rfl, by
  show tX b a q n f w U U.heap
  rw [hU]
  exact tX_warm hW h⟩
theorem tX_blind {vs : List Value} : FrameBlind (va_Pc vs (fun U => tX b a q n f w U U.heap)) := by
  intro z U g mk h
  exact ⟨h.1, tX_kept (u := U) (U := U.calling g mk z) (Vm.Alike.refl _) (fun _ _ _ => rfl) h.2⟩
theorem tX_recv {s : State} {H : Heap} (h : tX b a q n f w s H) : ∃ cellB : Cell, H[a]? = some cellB ∧ cellB.vm.isStatics = false ∧ s.vm.findClass "java/lang/String" = some cellB.cls := by
  obtain ⟨c, h1, h2, h3, -⟩ := h.1
  exact ⟨c, h1, h2, h3⟩
theorem tx_shr {n : Nat} : Int32.ofNat n >>> ((0 : Int32) &&& 31) = Int32.ofNat n := by
  rw [show ((0 : Int32) &&& 31) = 0 from rfl]
  exact Int32.shiftRight_zero
theorem tx_in0 {k : Int32} (h : vp_in k n) : ¬ k < 0 := fun z => h (Or.inl z)
theorem tx_in1 {k : Int32} (h : vp_in k n) (hn : n < 2 ^ 31) : k < Int32.ofNat n := by
  have h1 : ¬ k < 0 := fun z => h (Or.inl z)
  have h2 : ¬ n ≤ k.toNatClampNeg := fun z => h (Or.inr z)
  have e : (Int32.ofNat n).toInt = (n : Int) := nI_toInt (by omega)
  rw [Int32.lt_iff_toInt_lt] at h1 ⊢
  rw [Int32.toInt_zero] at h1
  unfold Int32.toNatClampNeg at h2
  omega
theorem tx_ge {i : Nat} (h : i = n) (hn : n < 2 ^ 31) : Int32.ofNat n ≤ nI i := by
  subst h
  exact Int32.le_refl _
theorem tx_lt {i : Nat} (h : i < n) (hn : n < 2 ^ 31) : ¬ Int32.ofNat n ≤ nI i := by
  have e1 : (Int32.ofNat n).toInt = (n : Int) := nI_toInt (by omega)
  have e2 : (nI i).toInt = (i : Int) := nI_toInt (by omega)
  rw [Int32.le_iff_toInt_le, e1, e2]
  omega
theorem tx_n0 (h : ¬ (0 : Int32) < Int32.ofNat n) (hn : n < 2 ^ 31) : n = 0 := by
  have e1 : (Int32.ofNat n).toInt = (n : Int) := nI_toInt (by omega)
  rw [Int32.lt_iff_toInt_lt, e1, Int32.toInt_zero] at h
  omega
theorem tx_inc (i : Nat) : nI i + Int32.ofInt 1 = nI (i + 1) := (inc_ofNat i).symm
theorem tx_lt256 (x : Int32) : (x &&& 255).toBitVec.toNat < 256 := by
  show (x.toBitVec &&& 255#32).toNat < 256
  rw [BitVec.toNat_and]
  exact Nat.lt_of_le_of_lt Nat.and_le_right (by decide)
theorem tx_c2 (x : Int32) : ((x &&& 255).toUInt32 % 65536).toInt32 = x &&& 255 := by
  have h := tx_lt256 x
  apply Int32.toBitVec_inj.mp
  apply BitVec.eq_of_toNat_eq
  show ((x &&& 255).toBitVec % 65536#32).toNat = _
  rw [BitVec.toNat_umod]
  exact Nat.mod_eq_of_lt (Nat.lt_trans h (by decide))
theorem tx_nar (x : Int32) : narrow .char (.int (x &&& 255)) = .int (x &&& 255) := by
  show Value.int _ = _
  exact congrArg _ (tx_c2 x)
end TX
theorem dt_coder_0 : decode prog_25_method_152_code 0 = .ok (.getstatic 38, 3) := by decide +kernel
theorem dt_coder_3 : decode prog_25_method_152_code 3 = .ok (.ifCond .eq 10, 3) := by decide +kernel
theorem dt_coder_6 : decode prog_25_method_152_code 6 = .ok (.aload_n 0, 1) := by decide +kernel
theorem dt_coder_7 : decode prog_25_method_152_code 7 = .ok (.getfield 15, 3) := by decide +kernel
theorem dt_coder_10 : decode prog_25_method_152_code 10 = .ok (.goto 4, 3) := by decide +kernel
theorem dt_coder_14 : decode prog_25_method_152_code 14 = .ok (.ireturn, 1) := by decide +kernel
theorem dt_isLatin1_0 : decode prog_25_method_154_code 0 = .ok (.getstatic 38, 3) := by decide +kernel
theorem dt_isLatin1_3 : decode prog_25_method_154_code 3 = .ok (.ifCond .eq 14, 3) := by decide +kernel
theorem dt_isLatin1_6 : decode prog_25_method_154_code 6 = .ok (.aload_n 0, 1) := by decide +kernel
theorem dt_isLatin1_7 : decode prog_25_method_154_code 7 = .ok (.getfield 15, 3) := by decide +kernel
theorem dt_isLatin1_10 : decode prog_25_method_154_code 10 = .ok (.ifCond .ne 7, 3) := by decide +kernel
theorem dt_isLatin1_13 : decode prog_25_method_154_code 13 = .ok (.iconst 1, 1) := by decide +kernel
theorem dt_isLatin1_14 : decode prog_25_method_154_code 14 = .ok (.goto 4, 3) := by decide +kernel
theorem dt_isLatin1_18 : decode prog_25_method_154_code 18 = .ok (.ireturn, 1) := by decide +kernel
theorem dt_length_0 : decode prog_25_method_54_code 0 = .ok (.aload_n 0, 1) := by decide +kernel
theorem dt_length_1 : decode prog_25_method_54_code 1 = .ok (.getfield 9, 3) := by decide +kernel
theorem dt_length_4 : decode prog_25_method_54_code 4 = .ok (.arraylength, 1) := by decide +kernel
theorem dt_length_5 : decode prog_25_method_54_code 5 = .ok (.aload_n 0, 1) := by decide +kernel
theorem dt_length_6 : decode prog_25_method_54_code 6 = .ok (.invokevirtual 335, 3) := by decide +kernel
theorem dt_length_9 : decode prog_25_method_54_code 9 = .ok (.ishr, 1) := by decide +kernel
theorem dt_length_10 : decode prog_25_method_54_code 10 = .ok (.ireturn, 1) := by decide +kernel
theorem dt_pcheck_0 : decode prog_34_method_11_code 0 = .ok (.iload_n 0, 1) := by decide +kernel
theorem dt_pcheck_1 : decode prog_34_method_11_code 1 = .ok (.ifCond .lt 8, 3) := by decide +kernel
theorem dt_pcheck_4 : decode prog_34_method_11_code 4 = .ok (.iload_n 0, 1) := by decide +kernel
theorem dt_pcheck_5 : decode prog_34_method_11_code 5 = .ok (.iload_n 1, 1) := by decide +kernel
theorem dt_pcheck_6 : decode prog_34_method_11_code 6 = .ok (.if_icmp .lt 10, 3) := by decide +kernel
theorem dt_pcheck_16 : decode prog_34_method_11_code 16 = .ok (.iload_n 0, 1) := by decide +kernel
theorem dt_pcheck_17 : decode prog_34_method_11_code 17 = .ok (.ireturn, 1) := by decide +kernel
theorem dt_check_0 : decode prog_25_method_155_code 0 = .ok (.iload_n 0, 1) := by decide +kernel
theorem dt_check_1 : decode prog_25_method_155_code 1 = .ok (.iload_n 1, 1) := by decide +kernel
theorem dt_check_2 : decode prog_25_method_155_code 2 = .ok (.getstatic 1053, 3) := by decide +kernel
theorem dt_check_5 : decode prog_25_method_155_code 5 = .ok (.invokestatic 1059, 3) := by decide +kernel
theorem dt_check_8 : decode prog_25_method_155_code 8 = .ok (.pop, 1) := by decide +kernel
theorem dt_check_9 : decode prog_25_method_155_code 9 = .ok (.return_, 1) := by decide +kernel
theorem dt_lcharAt_0 : decode prog_26_method_2_code 0 = .ok (.iload_n 1, 1) := by decide +kernel
theorem dt_lcharAt_1 : decode prog_26_method_2_code 1 = .ok (.aload_n 0, 1) := by decide +kernel
theorem dt_lcharAt_2 : decode prog_26_method_2_code 2 = .ok (.arraylength, 1) := by decide +kernel
theorem dt_lcharAt_3 : decode prog_26_method_2_code 3 = .ok (.invokestatic 9, 3) := by decide +kernel
theorem dt_lcharAt_6 : decode prog_26_method_2_code 6 = .ok (.aload_n 0, 1) := by decide +kernel
theorem dt_lcharAt_7 : decode prog_26_method_2_code 7 = .ok (.iload_n 1, 1) := by decide +kernel
theorem dt_lcharAt_8 : decode prog_26_method_2_code 8 = .ok (.baload, 1) := by decide +kernel
theorem dt_lcharAt_9 : decode prog_26_method_2_code 9 = .ok (.sipush 255, 3) := by decide +kernel
theorem dt_lcharAt_12 : decode prog_26_method_2_code 12 = .ok (.iand, 1) := by decide +kernel
theorem dt_lcharAt_13 : decode prog_26_method_2_code 13 = .ok (.i2c, 1) := by decide +kernel
theorem dt_lcharAt_14 : decode prog_26_method_2_code 14 = .ok (.ireturn, 1) := by decide +kernel
theorem dt_charAt_0 : decode prog_25_method_56_code 0 = .ok (.aload_n 0, 1) := by decide +kernel
theorem dt_charAt_1 : decode prog_25_method_56_code 1 = .ok (.invokevirtual 492, 3) := by decide +kernel
theorem dt_charAt_4 : decode prog_25_method_56_code 4 = .ok (.ifCond .eq 12, 3) := by decide +kernel
theorem dt_charAt_7 : decode prog_25_method_56_code 7 = .ok (.aload_n 0, 1) := by decide +kernel
theorem dt_charAt_8 : decode prog_25_method_56_code 8 = .ok (.getfield 9, 3) := by decide +kernel
theorem dt_charAt_11 : decode prog_25_method_56_code 11 = .ok (.iload_n 1, 1) := by decide +kernel
theorem dt_charAt_12 : decode prog_25_method_56_code 12 = .ok (.invokestatic 495, 3) := by decide +kernel
theorem dt_charAt_15 : decode prog_25_method_56_code 15 = .ok (.ireturn, 1) := by decide +kernel
theorem dt_canEncode_0 : decode prog_26_method_4_code 0 = .ok (.iload_n 0, 1) := by decide +kernel
theorem dt_canEncode_1 : decode prog_26_method_4_code 1 = .ok (.ifCond .lt 14, 3) := by decide +kernel
theorem dt_canEncode_15 : decode prog_26_method_4_code 15 = .ok (.iconst 0, 1) := by decide +kernel
theorem dt_canEncode_16 : decode prog_26_method_4_code 16 = .ok (.ireturn, 1) := by decide +kernel
theorem dt_canEncode_4 : decode prog_26_method_4_code 4 = .ok (.iload_n 0, 1) := by decide +kernel
theorem dt_canEncode_5 : decode prog_26_method_4_code 5 = .ok (.sipush 255, 3) := by decide +kernel
theorem dt_canEncode_8 : decode prog_26_method_4_code 8 = .ok (.if_icmp .gt 7, 3) := by decide +kernel
theorem dt_canEncode_11 : decode prog_26_method_4_code 11 = .ok (.iconst 1, 1) := by decide +kernel
theorem dt_canEncode_12 : decode prog_26_method_4_code 12 = .ok (.goto 4, 3) := by decide +kernel
theorem dt_ixChar_0 : decode prog_26_method_23_code 0 = .ok (.iload_n 1, 1) := by decide +kernel
theorem dt_ixChar_1 : decode prog_26_method_23_code 1 = .ok (.i2b, 1) := by decide +kernel
theorem dt_ixChar_2 : decode prog_26_method_23_code 2 = .ok (.istore 4, 2) := by decide +kernel
theorem dt_ixChar_4 : decode prog_26_method_23_code 4 = .ok (.iload_n 2, 1) := by decide +kernel
theorem dt_ixChar_5 : decode prog_26_method_23_code 5 = .ok (.istore 5, 2) := by decide +kernel
theorem dt_ixChar_7 : decode prog_26_method_23_code 7 = .ok (.iload 5, 2) := by decide +kernel
theorem dt_ixChar_9 : decode prog_26_method_23_code 9 = .ok (.iload_n 3, 1) := by decide +kernel
theorem dt_ixChar_10 : decode prog_26_method_23_code 10 = .ok (.if_icmp .ge 21, 3) := by decide +kernel
theorem dt_ixChar_31 : decode prog_26_method_23_code 31 = .ok (.iconst (-1), 1) := by decide +kernel
theorem dt_ixChar_32 : decode prog_26_method_23_code 32 = .ok (.ireturn, 1) := by decide +kernel
theorem dt_ixChar_13 : decode prog_26_method_23_code 13 = .ok (.aload_n 0, 1) := by decide +kernel
theorem dt_ixChar_14 : decode prog_26_method_23_code 14 = .ok (.iload 5, 2) := by decide +kernel
theorem dt_ixChar_16 : decode prog_26_method_23_code 16 = .ok (.baload, 1) := by decide +kernel
theorem dt_ixChar_17 : decode prog_26_method_23_code 17 = .ok (.iload 4, 2) := by decide +kernel
theorem dt_ixChar_19 : decode prog_26_method_23_code 19 = .ok (.if_icmp .ne 6, 3) := by decide +kernel
theorem dt_ixChar_25 : decode prog_26_method_23_code 25 = .ok (.iinc 5 1, 3) := by decide +kernel
theorem dt_ixChar_28 : decode prog_26_method_23_code 28 = .ok (.goto (-21), 3) := by decide +kernel
theorem dt_ixChar_22 : decode prog_26_method_23_code 22 = .ok (.iload 5, 2) := by decide +kernel
theorem dt_ixChar_24 : decode prog_26_method_23_code 24 = .ok (.ireturn, 1) := by decide +kernel
theorem dt_lindexOf_0 : decode prog_26_method_22_code 0 = .ok (.iload_n 1, 1) := by decide +kernel
theorem dt_lindexOf_1 : decode prog_26_method_22_code 1 = .ok (.invokestatic 88, 3) := by decide +kernel
theorem dt_lindexOf_4 : decode prog_26_method_22_code 4 = .ok (.ifCond .ne 5, 3) := by decide +kernel
theorem dt_lindexOf_9 : decode prog_26_method_22_code 9 = .ok (.iload_n 2, 1) := by decide +kernel
theorem dt_lindexOf_10 : decode prog_26_method_22_code 10 = .ok (.iconst 0, 1) := by decide +kernel
theorem dt_lindexOf_11 : decode prog_26_method_22_code 11 = .ok (.invokestatic 92, 3) := by decide +kernel
theorem dt_lindexOf_14 : decode prog_26_method_22_code 14 = .ok (.istore_n 2, 1) := by decide +kernel
theorem dt_lindexOf_15 : decode prog_26_method_22_code 15 = .ok (.iload_n 3, 1) := by decide +kernel
theorem dt_lindexOf_16 : decode prog_26_method_22_code 16 = .ok (.aload_n 0, 1) := by decide +kernel
theorem dt_lindexOf_17 : decode prog_26_method_22_code 17 = .ok (.arraylength, 1) := by decide +kernel
theorem dt_lindexOf_18 : decode prog_26_method_22_code 18 = .ok (.invokestatic 38, 3) := by decide +kernel
theorem dt_lindexOf_21 : decode prog_26_method_22_code 21 = .ok (.istore_n 3, 1) := by decide +kernel
theorem dt_lindexOf_22 : decode prog_26_method_22_code 22 = .ok (.iload_n 2, 1) := by decide +kernel
theorem dt_lindexOf_23 : decode prog_26_method_22_code 23 = .ok (.iload_n 3, 1) := by decide +kernel
theorem dt_lindexOf_24 : decode prog_26_method_22_code 24 = .ok (.if_icmp .lt 5, 3) := by decide +kernel
theorem dt_lindexOf_29 : decode prog_26_method_22_code 29 = .ok (.aload_n 0, 1) := by decide +kernel
theorem dt_lindexOf_30 : decode prog_26_method_22_code 30 = .ok (.iload_n 1, 1) := by decide +kernel
theorem dt_lindexOf_31 : decode prog_26_method_22_code 31 = .ok (.iload_n 2, 1) := by decide +kernel
theorem dt_lindexOf_32 : decode prog_26_method_22_code 32 = .ok (.iload_n 3, 1) := by decide +kernel
theorem dt_lindexOf_33 : decode prog_26_method_22_code 33 = .ok (.invokestatic 95, 3) := by decide +kernel
theorem dt_lindexOf_36 : decode prog_26_method_22_code 36 = .ok (.ireturn, 1) := by decide +kernel
theorem dt_lindexOf_27 : decode prog_26_method_22_code 27 = .ok (.iconst (-1), 1) := by decide +kernel
theorem dt_lindexOf_28 : decode prog_26_method_22_code 28 = .ok (.ireturn, 1) := by decide +kernel
theorem dt_lindexOf_7 : decode prog_26_method_22_code 7 = .ok (.iconst (-1), 1) := by decide +kernel
theorem dt_lindexOf_8 : decode prog_26_method_22_code 8 = .ok (.ireturn, 1) := by decide +kernel
theorem dt_indexOf2_0 : decode prog_25_method_80_code 0 = .ok (.aload_n 0, 1) := by decide +kernel
theorem dt_indexOf2_1 : decode prog_25_method_80_code 1 = .ok (.invokevirtual 492, 3) := by decide +kernel
theorem dt_indexOf2_4 : decode prog_25_method_80_code 4 = .ok (.ifCond .eq 19, 3) := by decide +kernel
theorem dt_indexOf2_7 : decode prog_25_method_80_code 7 = .ok (.aload_n 0, 1) := by decide +kernel
theorem dt_indexOf2_8 : decode prog_25_method_80_code 8 = .ok (.getfield 9, 3) := by decide +kernel
theorem dt_indexOf2_11 : decode prog_25_method_80_code 11 = .ok (.iload_n 1, 1) := by decide +kernel
theorem dt_indexOf2_12 : decode prog_25_method_80_code 12 = .ok (.iload_n 2, 1) := by decide +kernel
theorem dt_indexOf2_13 : decode prog_25_method_80_code 13 = .ok (.aload_n 0, 1) := by decide +kernel
theorem dt_indexOf2_14 : decode prog_25_method_80_code 14 = .ok (.invokevirtual 505, 3) := by decide +kernel
theorem dt_indexOf2_17 : decode prog_25_method_80_code 17 = .ok (.invokestatic 637, 3) := by decide +kernel
theorem dt_indexOf2_20 : decode prog_25_method_80_code 20 = .ok (.goto 16, 3) := by decide +kernel
theorem dt_indexOf2_36 : decode prog_25_method_80_code 36 = .ok (.ireturn, 1) := by decide +kernel
theorem dt_indexOf_0 : decode prog_25_method_79_code 0 = .ok (.aload_n 0, 1) := by decide +kernel
theorem dt_indexOf_1 : decode prog_25_method_79_code 1 = .ok (.iload_n 1, 1) := by decide +kernel
theorem dt_indexOf_2 : decode prog_25_method_79_code 2 = .ok (.iconst 0, 1) := by decide +kernel
theorem dt_indexOf_3 : decode prog_25_method_79_code 3 = .ok (.invokevirtual 633, 3) := by decide +kernel
theorem dt_indexOf_6 : decode prog_25_method_79_code 6 = .ok (.ireturn, 1) := by decide +kernel
section TXM
variable {p : Program} {l : Launch} {e : Env} {R : Room} {s : State} {m : MethodId} {args : Array Value} {below : List Frame} {meth : Method} {c : Code} {Q : State → Prop} {b a q n : Nat} {w : Option Nat} {f : Nat → Int32}
theorem tCall_fin {As : Array Value} {st0 rest : List Value} {L0 : Array Slot} {H : Heap} {locs : List Loc} {cells slots pc : Nat} {v : Option Value} (hr : va_Run p l e R s m args below meth c H locs cells slots 0 0 (F0 m pc L0 st0) rest (tQ v As) (fun _ => False))
    (kk : W p l e R s m args below meth c H locs cells slots Q (F0 m (pc + 3) L0 (v.toList ++ rest))) : W p l e R s m args below meth c H locs cells slots Q (F0 m pc L0 st0) := by
  intro T hT X
  obtain ⟨v', st₀, t, T', Ls, h0, X', hL, e1, e2, ⟨hv, hh⟩, st⟩ := hr T hT X
  cases hv
  have hLs : Ls = [] := by
    cases Ls with
    | nil => rfl
    | cons z zs => exact (hL z List.mem_cons_self).elim
  subst hLs
  rw [List.append_nil] at X'
  obtain ⟨t2, a1, b1⟩ := kk T' (by rw [e1, hh, h0]) X'
  exact ⟨t2, st t2 a1, b1⟩
set_option maxRecDepth 4000 in
theorem tm_coder : tM l b a q n f w (⟨"java/lang/String", "coder", "()B"⟩ : MethodName) prog_25_method_152_code 1 (some .byte) 0 [.ref a] (some (.int 0)) := by
  refine Met.ofW (cc := prog_25_method_152_code) (maxL := 1) (ret := (some .byte)) (by decide) rfl ?_
  intro p e s m args below meth c s₁ B hml hP
  obtain ⟨rfl, hX⟩ := hP
  have hts0 := atoms_spec (ws := Jvm.Cond.code (⟨"java/lang/String", "coder", "()B"⟩ : MethodName) prog_25_method_152_code 1 (some .byte) :: aTB) B.pre
  have hts : ∀ w ∈ aTB, w.before _ s = true := fun w hw => hts0 w (List.mem_cons_of_mem _ hw)
  have hown : s.vm.findClass "java/lang/String" = some m.cls := findClass_of_methodNamed B.named
  have hlocks : meth.locks = false := B.notSynchronized
  have hS : va_S (aUp b) s.heap s.heap [] := ⟨Nat.le_refl _, fun _ _ _ => rfl, fun _ h => nomatch h⟩
  rw [lg_entry_eq]
  have hl := lv_entry [.ref a] (n := 1) (Nat.le_of_ble_eq_true rfl)
  generalize (lg_sl [.ref a] ++ List.replicate (1 - (lg_sl [.ref a]).length) Slot.unset).toArray = L at hl ⊢
  refine va_gets B.exec B.bytes hX.2.2.2.2.1 hS hown (hts _ (txW_in (i := 43) rfl)) (fun _ h => h) dt_coder_0 ?_
  refine lv_if_eq (tgt := 13) B.exec B.bytes dt_coder_3 rfl (fun h => absurd h (by decide)) (fun _ => ?_)
  refine lv_aload_n B.exec B.bytes dt_coder_6 rfl (lv_at hl 0 rfl) ?_
  refine vk_getf B.exec B.bytes hX.2.1 hS hown (hts _ (txW_in (i := 44) rfl)) (fun _ h => h) dt_coder_7 ?_
  refine lv_goto (tgt := 14) B.exec B.bytes dt_coder_10 rfl ?_
  exact W.zret B.exec B.bytes B.returns rfl (fun t ht _ => ⟨rfl, ht⟩) (fun _ h => nomatch h) dt_coder_14
set_option maxRecDepth 4000 in
theorem tm_isLatin1 : tM l b a q n f w (⟨"java/lang/String", "isLatin1", "()Z"⟩ : MethodName) prog_25_method_154_code 1 (some .boolean) 0 [.ref a] (some (.int 1)) := by
  refine Met.ofW (cc := prog_25_method_154_code) (maxL := 1) (ret := (some .boolean)) (by decide) rfl ?_
  intro p e s m args below meth c s₁ B hml hP
  obtain ⟨rfl, hX⟩ := hP
  have hts0 := atoms_spec (ws := Jvm.Cond.code (⟨"java/lang/String", "isLatin1", "()Z"⟩ : MethodName) prog_25_method_154_code 1 (some .boolean) :: aTB) B.pre
  have hts : ∀ w ∈ aTB, w.before _ s = true := fun w hw => hts0 w (List.mem_cons_of_mem _ hw)
  have hown : s.vm.findClass "java/lang/String" = some m.cls := findClass_of_methodNamed B.named
  have hlocks : meth.locks = false := B.notSynchronized
  have hS : va_S (aUp b) s.heap s.heap [] := ⟨Nat.le_refl _, fun _ _ _ => rfl, fun _ h => nomatch h⟩
  rw [lg_entry_eq]
  have hl := lv_entry [.ref a] (n := 1) (Nat.le_of_ble_eq_true rfl)
  generalize (lg_sl [.ref a] ++ List.replicate (1 - (lg_sl [.ref a]).length) Slot.unset).toArray = L at hl ⊢
  refine va_gets B.exec B.bytes hX.2.2.2.2.1 hS hown (hts _ (txW_in (i := 43) rfl)) (fun _ h => h) dt_isLatin1_0 ?_
  refine lv_if_eq (tgt := 17) B.exec B.bytes dt_isLatin1_3 rfl (fun h => absurd h (by decide)) (fun _ => ?_)
  refine lv_aload_n B.exec B.bytes dt_isLatin1_6 rfl (lv_at hl 0 rfl) ?_
  refine vk_getf B.exec B.bytes hX.2.1 hS hown (hts _ (txW_in (i := 44) rfl)) (fun _ h => h) dt_isLatin1_7 ?_
  refine lv_if_ne (tgt := 17) B.exec B.bytes dt_isLatin1_10 rfl (fun h => absurd rfl h) (fun _ => ?_)
  refine lv_iconst (v := 1) B.exec B.bytes dt_isLatin1_13 rfl ?_
  refine lv_goto (tgt := 18) B.exec B.bytes dt_isLatin1_14 rfl ?_
  exact W.zret B.exec B.bytes B.returns rfl (fun t ht _ => ⟨rfl, ht⟩) (fun _ h => nomatch h) dt_isLatin1_18
set_option maxRecDepth 4000 in
theorem tm_length : tM l b a q n f w (⟨"java/lang/String", "length", "()I"⟩ : MethodName) prog_25_method_54_code 1 (some .int) 1 [.ref a] (some (.int (Int32.ofNat n))) := by
  refine Met.ofW (cc := prog_25_method_54_code) (maxL := 1) (ret := (some .int)) (by decide) rfl ?_
  intro p e s m args below meth c s₁ B hml hP
  obtain ⟨rfl, hX⟩ := hP
  have hts0 := atoms_spec (ws := Jvm.Cond.code (⟨"java/lang/String", "length", "()I"⟩ : MethodName) prog_25_method_54_code 1 (some .int) :: aTB) B.pre
  have hts : ∀ w ∈ aTB, w.before _ s = true := fun w hw => hts0 w (List.mem_cons_of_mem _ hw)
  have hown : s.vm.findClass "java/lang/String" = some m.cls := findClass_of_methodNamed B.named
  have hlocks : meth.locks = false := B.notSynchronized
  have hS : va_S (aUp b) s.heap s.heap [] := ⟨Nat.le_refl _, fun _ _ _ => rfl, fun _ h => nomatch h⟩
  rw [lg_entry_eq]
  have hl := lv_entry [.ref a] (n := 1) (Nat.le_of_ble_eq_true rfl)
  generalize (lg_sl [.ref a] ++ List.replicate (1 - (lg_sl [.ref a]).length) Slot.unset).toArray = L at hl ⊢
  refine lv_aload_n B.exec B.bytes dt_length_0 rfl (lv_at hl 0 rfl) ?_
  refine vk_getf B.exec B.bytes hX.2.2.1 hS hown (hts _ (txW_in (i := 45) rfl)) (fun _ h => h) dt_length_1 ?_
  refine va_tlen B.exec B.bytes hX.2.2.2.1 hS rfl dt_length_4 ?_
  refine lv_aload_n B.exec B.bytes dt_length_5 rfl (lv_at hl 0 rfl) ?_
  refine tCall_fin (va_runV (As := []) (rest := [.int (Int32.ofNat n)]) (b := a) (C := "java/lang/String") ⟨B.exec, B.bytes, hml, hown, hts⟩ (tm_coder (b := b) (a := a) (q := q) (n := n) (f := f) (w := w)) ⟨callB_of 0 hts (txG (i := 0) rfl) rfl rfl rfl (hts _ (txW_in (i := 1) rfl)) (hts _ (txW_in (i := 33) rfl)) ⟨by decide, by decide, by decide⟩ (by decide), (hts _ (txW_in (i := 15) rfl)), (hts _ (txW_in (i := 16) rfl))⟩ ⟨tX_blind, tX_recv hX, fun U hU hW => tX_pre hU hW hX⟩ rfl rfl hl.1 rfl (Nat.le_of_ble_eq_true rfl) dt_length_6 ⟨Nat.le_refl _, Nat.le_refl _⟩) ?_
  refine lv_ishr B.exec B.bytes dt_length_9 ?_
  rw [tx_shr]
  exact W.iret B.exec B.bytes B.returns (fun t ht _ => ⟨rfl, ht⟩) (fun _ h => nomatch h) dt_length_10
set_option maxRecDepth 4000 in
theorem tm_pcheck0 {k z : Int32} (hk : ¬ k < 0 ∧ k < z) : tM l b a q n f none (⟨"jdk/internal/util/Preconditions", "checkIndex", "(IILjava/util/function/BiFunction;)I"⟩ : MethodName) prog_34_method_11_code 3 (some .int) 0 [.int k, .int z, .null] (some (.int k)) := by
  refine Met.ofW (cc := prog_34_method_11_code) (maxL := 3) (ret := (some .int)) (by decide) rfl ?_
  intro p e s m args below meth c s₁ B hml hP
  obtain ⟨rfl, hX⟩ := hP
  have hts0 := atoms_spec (ws := Jvm.Cond.code (⟨"jdk/internal/util/Preconditions", "checkIndex", "(IILjava/util/function/BiFunction;)I"⟩ : MethodName) prog_34_method_11_code 3 (some .int) :: aTB) B.pre
  have hts : ∀ w ∈ aTB, w.before _ s = true := fun w hw => hts0 w (List.mem_cons_of_mem _ hw)
  have hown : s.vm.findClass "jdk/internal/util/Preconditions" = some m.cls := findClass_of_methodNamed B.named
  have hlocks : meth.locks = false := B.notSynchronized
  have hS : va_S (aUp b) s.heap s.heap [] := ⟨Nat.le_refl _, fun _ _ _ => rfl, fun _ h => nomatch h⟩
  rw [lg_entry_eq]
  have hl := lv_entry [.int k, .int z, .null] (n := 3) (Nat.le_of_ble_eq_true rfl)
  generalize (lg_sl [.int k, .int z, .null] ++ List.replicate (3 - (lg_sl [.int k, .int z, .null]).length) Slot.unset).toArray = L at hl ⊢
  refine lv_iload_n B.exec B.bytes dt_pcheck_0 rfl (lv_at hl 0 rfl) ?_
  refine lv_if_lt (tgt := 9) B.exec B.bytes dt_pcheck_1 rfl (fun h => absurd h hk.1) (fun _ => ?_)
  refine lv_iload_n B.exec B.bytes dt_pcheck_4 rfl (lv_at hl 0 rfl) ?_
  refine lv_iload_n B.exec B.bytes dt_pcheck_5 rfl (lv_at hl 1 rfl) ?_
  refine lv_icmp_lt (tgt := 16) B.exec B.bytes dt_pcheck_6 rfl (fun _ => ?_) (fun h => absurd hk.2 h)
  refine lv_iload_n B.exec B.bytes dt_pcheck_16 rfl (lv_at hl 0 rfl) ?_
  exact W.iret B.exec B.bytes B.returns (fun t ht _ => ⟨rfl, ht⟩) (fun _ h => nomatch h) dt_pcheck_17
set_option maxRecDepth 4000 in
theorem tm_pcheck1 {k z : Int32} {t : Nat} (hk : ¬ k < 0 ∧ k < z) : tM l b a q n f (some t) (⟨"jdk/internal/util/Preconditions", "checkIndex", "(IILjava/util/function/BiFunction;)I"⟩ : MethodName) prog_34_method_11_code 3 (some .int) 0 [.int k, .int z, .ref t] (some (.int k)) := by
  refine Met.ofW (cc := prog_34_method_11_code) (maxL := 3) (ret := (some .int)) (by decide) rfl ?_
  intro p e s m args below meth c s₁ B hml hP
  obtain ⟨rfl, hX⟩ := hP
  have hts0 := atoms_spec (ws := Jvm.Cond.code (⟨"jdk/internal/util/Preconditions", "checkIndex", "(IILjava/util/function/BiFunction;)I"⟩ : MethodName) prog_34_method_11_code 3 (some .int) :: aTB) B.pre
  have hts : ∀ w ∈ aTB, w.before _ s = true := fun w hw => hts0 w (List.mem_cons_of_mem _ hw)
  have hown : s.vm.findClass "jdk/internal/util/Preconditions" = some m.cls := findClass_of_methodNamed B.named
  have hlocks : meth.locks = false := B.notSynchronized
  have hS : va_S (aUp b) s.heap s.heap [] := ⟨Nat.le_refl _, fun _ _ _ => rfl, fun _ h => nomatch h⟩
  rw [lg_entry_eq]
  have hl := lv_entry [.int k, .int z, .ref t] (n := 3) (Nat.le_of_ble_eq_true rfl)
  generalize (lg_sl [.int k, .int z, .ref t] ++ List.replicate (3 - (lg_sl [.int k, .int z, .ref t]).length) Slot.unset).toArray = L at hl ⊢
  refine lv_iload_n B.exec B.bytes dt_pcheck_0 rfl (lv_at hl 0 rfl) ?_
  refine lv_if_lt (tgt := 9) B.exec B.bytes dt_pcheck_1 rfl (fun h => absurd h hk.1) (fun _ => ?_)
  refine lv_iload_n B.exec B.bytes dt_pcheck_4 rfl (lv_at hl 0 rfl) ?_
  refine lv_iload_n B.exec B.bytes dt_pcheck_5 rfl (lv_at hl 1 rfl) ?_
  refine lv_icmp_lt (tgt := 16) B.exec B.bytes dt_pcheck_6 rfl (fun _ => ?_) (fun h => absurd hk.2 h)
  refine lv_iload_n B.exec B.bytes dt_pcheck_16 rfl (lv_at hl 0 rfl) ?_
  exact W.iret B.exec B.bytes B.returns (fun t ht _ => ⟨rfl, ht⟩) (fun _ h => nomatch h) dt_pcheck_17
theorem tm_pcheck {k z : Int32} (hk : ¬ k < 0 ∧ k < z) : tM l b a q n f w (⟨"jdk/internal/util/Preconditions", "checkIndex", "(IILjava/util/function/BiFunction;)I"⟩ : MethodName) prog_34_method_11_code 3 (some .int) 0 [.int k, .int z, cW w] (some (.int k)) := by
  cases w with
  | none => exact tm_pcheck0 hk
  | some t => exact tm_pcheck1 hk
set_option maxRecDepth 4000 in
theorem tm_check {k z : Int32} (hk : ¬ k < 0 ∧ k < z) : tM l b a q n f w (⟨"java/lang/String", "checkIndex", "(II)V"⟩ : MethodName) prog_25_method_155_code 2 (none) 1 [.int k, .int z] (none) := by
  refine Met.ofW (cc := prog_25_method_155_code) (maxL := 2) (ret := (none)) (by decide) rfl ?_
  intro p e s m args below meth c s₁ B hml hP
  obtain ⟨rfl, hX⟩ := hP
  have hts0 := atoms_spec (ws := Jvm.Cond.code (⟨"java/lang/String", "checkIndex", "(II)V"⟩ : MethodName) prog_25_method_155_code 2 (none) :: aTB) B.pre
  have hts : ∀ w ∈ aTB, w.before _ s = true := fun w hw => hts0 w (List.mem_cons_of_mem _ hw)
  have hown : s.vm.findClass "java/lang/String" = some m.cls := findClass_of_methodNamed B.named
  have hlocks : meth.locks = false := B.notSynchronized
  have hS : va_S (aUp b) s.heap s.heap [] := ⟨Nat.le_refl _, fun _ _ _ => rfl, fun _ h => nomatch h⟩
  rw [lg_entry_eq]
  have hl := lv_entry [.int k, .int z] (n := 2) (Nat.le_of_ble_eq_true rfl)
  generalize (lg_sl [.int k, .int z] ++ List.replicate (2 - (lg_sl [.int k, .int z]).length) Slot.unset).toArray = L at hl ⊢
  refine lv_iload_n B.exec B.bytes dt_check_0 rfl (lv_at hl 0 rfl) ?_
  refine lv_iload_n B.exec B.bytes dt_check_1 rfl (lv_at hl 1 rfl) ?_
  refine va_gets B.exec B.bytes hX.2.2.2.2.2 hS hown (hts _ (txW_in (i := 46) rfl)) (fun _ h => h) dt_check_2 ?_
  refine tCall_fin (va_runS (As := [.int k, .int z, cW w]) (rest := []) ⟨B.exec, B.bytes, hml, hown, hts⟩ (tm_pcheck (b := b) (a := a) (q := q) (n := n) (f := f) (w := w) hk) ⟨callB_of 3 hts (txG (i := 4) rfl) rfl rfl rfl (hts _ (txW_in (i := 5) rfl)) (hts _ (txW_in (i := 36) rfl)) ⟨by decide, by decide, by decide⟩ (by decide), (hts _ (txW_in (i := 27) rfl))⟩ ⟨tX_blind, fun U hU hW => tX_pre hU hW hX⟩ rfl rfl hl.1 rfl (Nat.le_of_ble_eq_true rfl) dt_check_5 ⟨Nat.le_refl _, Nat.le_refl _⟩) ?_
  refine lv_pop B.exec B.bytes dt_check_8 rfl ?_
  exact W.vret B.exec B.bytes B.returns (fun t ht _ => ⟨rfl, ht⟩) (fun _ h => nomatch h) dt_check_9
set_option maxRecDepth 4000 in
theorem tm_lcharAt {k : Int32} (hk : vp_in k n) (hn : n < 2 ^ 31) : tM l b a q n f w (⟨"java/lang/StringLatin1", "charAt", "([BI)C"⟩ : MethodName) prog_26_method_2_code 2 (some .char) 2 [.ref q, .int k] (some (.int (f k.toNatClampNeg &&& 255))) := by
  refine Met.ofW (cc := prog_26_method_2_code) (maxL := 2) (ret := (some .char)) (by decide) rfl ?_
  intro p e s m args below meth c s₁ B hml hP
  obtain ⟨rfl, hX⟩ := hP
  have hts0 := atoms_spec (ws := Jvm.Cond.code (⟨"java/lang/StringLatin1", "charAt", "([BI)C"⟩ : MethodName) prog_26_method_2_code 2 (some .char) :: aTB) B.pre
  have hts : ∀ w ∈ aTB, w.before _ s = true := fun w hw => hts0 w (List.mem_cons_of_mem _ hw)
  have hown : s.vm.findClass "java/lang/StringLatin1" = some m.cls := findClass_of_methodNamed B.named
  have hlocks : meth.locks = false := B.notSynchronized
  have hS : va_S (aUp b) s.heap s.heap [] := ⟨Nat.le_refl _, fun _ _ _ => rfl, fun _ h => nomatch h⟩
  rw [lg_entry_eq]
  have hl := lv_entry [.ref q, .int k] (n := 2) (Nat.le_of_ble_eq_true rfl)
  generalize (lg_sl [.ref q, .int k] ++ List.replicate (2 - (lg_sl [.ref q, .int k]).length) Slot.unset).toArray = L at hl ⊢
  refine lv_iload_n B.exec B.bytes dt_lcharAt_0 rfl (lv_at hl 1 rfl) ?_
  refine lv_aload_n B.exec B.bytes dt_lcharAt_1 rfl (lv_at hl 0 rfl) ?_
  refine va_tlen B.exec B.bytes hX.2.2.2.1 hS rfl dt_lcharAt_2 ?_
  refine tCall_fin (va_runS (As := [.int k, .int (Int32.ofNat n)]) (rest := []) ⟨B.exec, B.bytes, hml, hown, hts⟩ (tm_check (b := b) (a := a) (q := q) (n := n) (f := f) (w := w) ⟨tx_in0 hk, tx_in1 hk hn⟩) ⟨callB_of 2 hts (txG (i := 6) rfl) rfl rfl rfl (hts _ (txW_in (i := 1) rfl)) (hts _ (txW_in (i := 37) rfl)) ⟨by decide, by decide, by decide⟩ (by decide), (hts _ (txW_in (i := 28) rfl))⟩ ⟨tX_blind, fun U hU hW => tX_pre hU hW hX⟩ rfl rfl hl.1 rfl (Nat.le_of_ble_eq_true rfl) dt_lcharAt_3 ⟨Nat.le_refl _, Nat.le_refl _⟩) ?_
  refine lv_aload_n B.exec B.bytes dt_lcharAt_6 rfl (lv_at hl 0 rfl) ?_
  refine lv_iload_n B.exec B.bytes dt_lcharAt_7 rfl (lv_at hl 1 rfl) ?_
  refine va_tb B.exec B.bytes hX.2.2.2.1 hS hk rfl dt_lcharAt_8 ?_
  refine lv_sipush (v := 255) B.exec B.bytes dt_lcharAt_9 rfl ?_
  refine lv_iand B.exec B.bytes dt_lcharAt_12 ?_
  refine lv_i2c (v := f k.toNatClampNeg &&& 255) B.exec B.bytes dt_lcharAt_13 (tx_c2 _) ?_
  exact W.zret B.exec B.bytes B.returns (tx_nar _) (fun t ht _ => ⟨rfl, ht⟩) (fun _ h => nomatch h) dt_lcharAt_14
set_option maxRecDepth 4000 in
theorem tm_charAt {k : Int32} (hk : vp_in k n) (hn : n < 2 ^ 31) : tM l b a q n f w (⟨"java/lang/String", "charAt", "(I)C"⟩ : MethodName) prog_25_method_56_code 2 (some .char) 3 [.ref a, .int k] (some (.int (f k.toNatClampNeg &&& 255))) := by
  refine Met.ofW (cc := prog_25_method_56_code) (maxL := 2) (ret := (some .char)) (by decide) rfl ?_
  intro p e s m args below meth c s₁ B hml hP
  obtain ⟨rfl, hX⟩ := hP
  have hts0 := atoms_spec (ws := Jvm.Cond.code (⟨"java/lang/String", "charAt", "(I)C"⟩ : MethodName) prog_25_method_56_code 2 (some .char) :: aTB) B.pre
  have hts : ∀ w ∈ aTB, w.before _ s = true := fun w hw => hts0 w (List.mem_cons_of_mem _ hw)
  have hown : s.vm.findClass "java/lang/String" = some m.cls := findClass_of_methodNamed B.named
  have hlocks : meth.locks = false := B.notSynchronized
  have hS : va_S (aUp b) s.heap s.heap [] := ⟨Nat.le_refl _, fun _ _ _ => rfl, fun _ h => nomatch h⟩
  rw [lg_entry_eq]
  have hl := lv_entry [.ref a, .int k] (n := 2) (Nat.le_of_ble_eq_true rfl)
  generalize (lg_sl [.ref a, .int k] ++ List.replicate (2 - (lg_sl [.ref a, .int k]).length) Slot.unset).toArray = L at hl ⊢
  refine lv_aload_n B.exec B.bytes dt_charAt_0 rfl (lv_at hl 0 rfl) ?_
  refine tCall_fin (va_runV (As := []) (rest := []) (b := a) (C := "java/lang/String") ⟨B.exec, B.bytes, hml, hown, hts⟩ (tm_isLatin1 (b := b) (a := a) (q := q) (n := n) (f := f) (w := w)) ⟨callB_of 0 hts (txG (i := 2) rfl) rfl rfl rfl (hts _ (txW_in (i := 1) rfl)) (hts _ (txW_in (i := 34) rfl)) ⟨by decide, by decide, by decide⟩ (by decide), (hts _ (txW_in (i := 17) rfl)), (hts _ (txW_in (i := 18) rfl))⟩ ⟨tX_blind, tX_recv hX, fun U hU hW => tX_pre hU hW hX⟩ rfl rfl hl.1 rfl (Nat.le_of_ble_eq_true rfl) dt_charAt_1 ⟨Nat.le_refl _, Nat.le_refl _⟩) ?_
  refine lv_if_eq (tgt := 16) B.exec B.bytes dt_charAt_4 rfl (fun h => absurd h (by decide)) (fun _ => ?_)
  refine lv_aload_n B.exec B.bytes dt_charAt_7 rfl (lv_at hl 0 rfl) ?_
  refine vk_getf B.exec B.bytes hX.2.2.1 hS hown (hts _ (txW_in (i := 45) rfl)) (fun _ h => h) dt_charAt_8 ?_
  refine lv_iload_n B.exec B.bytes dt_charAt_11 rfl (lv_at hl 1 rfl) ?_
  refine tCall_fin (va_runS (As := [.ref q, .int k]) (rest := []) ⟨B.exec, B.bytes, hml, hown, hts⟩ (tm_lcharAt (b := b) (a := a) (q := q) (n := n) (f := f) (w := w) hk hn) ⟨callB_of 2 hts (txG (i := 7) rfl) rfl rfl rfl (hts _ (txW_in (i := 8) rfl)) (hts _ (txW_in (i := 38) rfl)) ⟨by decide, by decide, by decide⟩ (by decide), (hts _ (txW_in (i := 29) rfl))⟩ ⟨tX_blind, fun U hU hW => tX_pre hU hW hX⟩ rfl rfl hl.1 rfl (Nat.le_of_ble_eq_true rfl) dt_charAt_12 ⟨Nat.le_refl _, Nat.le_refl _⟩) ?_
  exact W.zret B.exec B.bytes B.returns (tx_nar _) (fun t ht _ => ⟨rfl, ht⟩) (fun _ h => nomatch h) dt_charAt_15
set_option maxRecDepth 4000 in
theorem tm_canEncode {k : Int32} : tM l b a q n f w (⟨"java/lang/StringLatin1", "canEncode", "(I)Z"⟩ : MethodName) prog_26_method_4_code 1 (some .boolean) 0 [.int k] (some (.int (if ¬ k < 0 ∧ ¬ k > 255 then 1 else 0))) := by
  refine Met.ofW (cc := prog_26_method_4_code) (maxL := 1) (ret := (some .boolean)) (by decide) rfl ?_
  intro p e s m args below meth c s₁ B hml hP
  obtain ⟨rfl, hX⟩ := hP
  have hts0 := atoms_spec (ws := Jvm.Cond.code (⟨"java/lang/StringLatin1", "canEncode", "(I)Z"⟩ : MethodName) prog_26_method_4_code 1 (some .boolean) :: aTB) B.pre
  have hts : ∀ w ∈ aTB, w.before _ s = true := fun w hw => hts0 w (List.mem_cons_of_mem _ hw)
  have hown : s.vm.findClass "java/lang/StringLatin1" = some m.cls := findClass_of_methodNamed B.named
  have hlocks : meth.locks = false := B.notSynchronized
  have hS : va_S (aUp b) s.heap s.heap [] := ⟨Nat.le_refl _, fun _ _ _ => rfl, fun _ h => nomatch h⟩
  rw [lg_entry_eq]
  have hl := lv_entry [.int k] (n := 1) (Nat.le_of_ble_eq_true rfl)
  generalize (lg_sl [.int k] ++ List.replicate (1 - (lg_sl [.int k]).length) Slot.unset).toArray = L at hl ⊢
  refine lv_iload_n B.exec B.bytes dt_canEncode_0 rfl (lv_at hl 0 rfl) ?_
  refine lv_if_lt (tgt := 15) B.exec B.bytes dt_canEncode_1 rfl (fun h => ?_) (fun h => ?_)
  · rw [if_neg (fun q => q.1 h)]
    refine lv_iconst (v := 0) B.exec B.bytes dt_canEncode_15 rfl ?_
    exact W.zret B.exec B.bytes B.returns rfl (fun t ht _ => ⟨rfl, ht⟩) (fun _ h => nomatch h) dt_canEncode_16
  · refine lv_iload_n B.exec B.bytes dt_canEncode_4 rfl (lv_at hl 0 rfl) ?_
    refine lv_sipush (v := 255) B.exec B.bytes dt_canEncode_5 rfl ?_
    refine lv_icmp_gt (tgt := 15) B.exec B.bytes dt_canEncode_8 rfl (fun h2 => ?_) (fun h2 => ?_)
    · rw [if_neg (fun q => q.2 h2)]
      refine lv_iconst (v := 0) B.exec B.bytes dt_canEncode_15 rfl ?_
      exact W.zret B.exec B.bytes B.returns rfl (fun t ht _ => ⟨rfl, ht⟩) (fun _ h => nomatch h) dt_canEncode_16
    · rw [if_pos ⟨h, h2⟩]
      refine lv_iconst (v := 1) B.exec B.bytes dt_canEncode_11 rfl ?_
      refine lv_goto (tgt := 16) B.exec B.bytes dt_canEncode_12 rfl ?_
      exact W.zret B.exec B.bytes B.returns rfl (fun t ht _ => ⟨rfl, ht⟩) (fun _ h => nomatch h) dt_canEncode_16
set_option maxRecDepth 4000 in
theorem tm_ixChar {k : Int32} (hn : n < 2 ^ 31) : tM l b a q n f w (⟨"java/lang/StringLatin1", "indexOfChar", "([BIII)I"⟩ : MethodName) prog_26_method_23_code 6 (some .int) 0 [.ref q, .int k, .int 0, .int (Int32.ofNat n)] (some (.int (tIx f k n 0))) := by
  refine Met.ofW (cc := prog_26_method_23_code) (maxL := 6) (ret := (some .int)) (by decide) rfl ?_
  intro p e s m args below meth c s₁ B hml hP
  obtain ⟨rfl, hX⟩ := hP
  have hts0 := atoms_spec (ws := Jvm.Cond.code (⟨"java/lang/StringLatin1", "indexOfChar", "([BIII)I"⟩ : MethodName) prog_26_method_23_code 6 (some .int) :: aTB) B.pre
  have hts : ∀ w ∈ aTB, w.before _ s = true := fun w hw => hts0 w (List.mem_cons_of_mem _ hw)
  have hown : s.vm.findClass "java/lang/StringLatin1" = some m.cls := findClass_of_methodNamed B.named
  have hlocks : meth.locks = false := B.notSynchronized
  have hS : va_S (aUp b) s.heap s.heap [] := ⟨Nat.le_refl _, fun _ _ _ => rfl, fun _ h => nomatch h⟩
  rw [lg_entry_eq]
  have hl := lv_entry [.ref q, .int k, .int 0, .int (Int32.ofNat n)] (n := 6) (Nat.le_of_ble_eq_true rfl)
  generalize (lg_sl [.ref q, .int k, .int 0, .int (Int32.ofNat n)] ++ List.replicate (6 - (lg_sl [.ref q, .int k, .int 0, .int (Int32.ofNat n)]).length) Slot.unset).toArray = L at hl ⊢
  refine lv_iload_n B.exec B.bytes dt_ixChar_0 rfl (lv_at hl 1 rfl) ?_
  refine lv_i2b (v := k.toInt8.toInt32) B.exec B.bytes dt_ixChar_1 rfl ?_
  refine lv_istore B.exec B.bytes dt_ixChar_2 hl (by decide) rfl ?_
  intro L1 hl1
  refine lv_iload_n B.exec B.bytes dt_ixChar_4 rfl (lv_at hl1 3 rfl) ?_
  refine lv_istore B.exec B.bytes dt_ixChar_5 hl1 (by decide) rfl ?_
  intro L2 hl2
  clear hl hl1
  have loop : ∀ (j i : Nat) (L2 : Array Slot), i + j = n → lv_has L2 6 [(5, Value.int (nI i)), (4, Value.int k.toInt8.toInt32), (0, Value.ref q), (1, Value.int k), (2, Value.int 0), (3, Value.int (Int32.ofNat n))] → W p l e (headSpec (Jvm.Cond.code (⟨"java/lang/StringLatin1", "indexOfChar", "([BIII)I"⟩ : MethodName) prog_26_method_23_code 6 (some .int) :: aTB) (tR 0)).room s m (List.toArray [.ref q, .int k, .int 0, .int (Int32.ofNat n)]) below meth c s.heap [] 0 0 (MQ below (tQ (some (.int (tIx f k j i)))) (List.toArray [.ref q, .int k, .int 0, .int (Int32.ofNat n)]) s 0 0 (fun _ => False)) (F0 m 7 L2 []) := by
    intro j
    induction j with
    | zero =>
      intro i L2 hi hl2
      refine lv_iload B.exec B.bytes dt_ixChar_7 (lv_at hl2 0 rfl) ?_
      refine lv_iload_n B.exec B.bytes dt_ixChar_9 rfl (lv_at hl2 5 rfl) ?_
      refine lv_icmp_ge (tgt := 31) B.exec B.bytes dt_ixChar_10 rfl (fun _ => ?_) (fun h => absurd (tx_ge (by omega) hn) h)
      refine lv_iconst (v := (-1)) B.exec B.bytes dt_ixChar_31 rfl ?_
      exact W.iret B.exec B.bytes B.returns (fun t ht _ => ⟨rfl, ht⟩) (fun _ h => nomatch h) dt_ixChar_32
    | succ j ih =>
      intro i L2 hi hl2
      refine lv_iload B.exec B.bytes dt_ixChar_7 (lv_at hl2 0 rfl) ?_
      refine lv_iload_n B.exec B.bytes dt_ixChar_9 rfl (lv_at hl2 5 rfl) ?_
      refine lv_icmp_ge (tgt := 31) B.exec B.bytes dt_ixChar_10 rfl (fun h => absurd h (tx_lt (by omega) hn)) (fun _ => ?_)
      refine lv_aload_n B.exec B.bytes dt_ixChar_13 rfl (lv_at hl2 2 rfl) ?_
      refine lv_iload B.exec B.bytes dt_ixChar_14 (lv_at hl2 0 rfl) ?_
      refine va_tb (v := .int (f i)) B.exec B.bytes hX.2.2.2.1 hS (vp_in_nI (show i < n by omega) hn) (by rw [nI_clamp (by omega)]) dt_ixChar_16 ?_
      refine lv_iload B.exec B.bytes dt_ixChar_17 (lv_at hl2 1 rfl) ?_
      refine lv_icmp_ne (tgt := 25) B.exec B.bytes dt_ixChar_19 rfl (fun h => ?_) (fun h => ?_)
      · rw [tIx, if_neg h]
        refine lv_iinc (k := 0) (v := nI (i + 1)) B.exec B.bytes dt_ixChar_25 hl2 rfl (tx_inc i) (by decide) rfl ?_
        intro L3 hl3
        refine lv_goto (tgt := 7) B.exec B.bytes dt_ixChar_28 rfl ?_
        exact ih (i + 1) L3 (by omega) hl3
      · rw [tIx, if_pos h]
        refine lv_iload B.exec B.bytes dt_ixChar_22 (lv_at hl2 0 rfl) ?_
        exact W.iret B.exec B.bytes B.returns (fun t ht _ => ⟨rfl, ht⟩) (fun _ h => nomatch h) dt_ixChar_24
  exact loop n 0 L2 (Nat.zero_add n) hl2
set_option maxRecDepth 4000 in
theorem tm_lindexOf {k : Int32} (hn : n < 2 ^ 31) : tM l b a q n f w (⟨"java/lang/StringLatin1", "indexOf", "([BIII)I"⟩ : MethodName) prog_26_method_22_code 4 (some .int) 1 [.ref q, .int k, .int 0, .int (Int32.ofNat n)] (some (.int (if ¬ k < 0 ∧ ¬ k > 255 then tIx f k n 0 else -1))) := by
  refine Met.ofW (cc := prog_26_method_22_code) (maxL := 4) (ret := (some .int)) (by decide) rfl ?_
  intro p e s m args below meth c s₁ B hml hP
  obtain ⟨rfl, hX⟩ := hP
  have hts0 := atoms_spec (ws := Jvm.Cond.code (⟨"java/lang/StringLatin1", "indexOf", "([BIII)I"⟩ : MethodName) prog_26_method_22_code 4 (some .int) :: aTB) B.pre
  have hts : ∀ w ∈ aTB, w.before _ s = true := fun w hw => hts0 w (List.mem_cons_of_mem _ hw)
  have hown : s.vm.findClass "java/lang/StringLatin1" = some m.cls := findClass_of_methodNamed B.named
  have hlocks : meth.locks = false := B.notSynchronized
  have hS : va_S (aUp b) s.heap s.heap [] := ⟨Nat.le_refl _, fun _ _ _ => rfl, fun _ h => nomatch h⟩
  rw [lg_entry_eq]
  have hl := lv_entry [.ref q, .int k, .int 0, .int (Int32.ofNat n)] (n := 4) (Nat.le_of_ble_eq_true rfl)
  generalize (lg_sl [.ref q, .int k, .int 0, .int (Int32.ofNat n)] ++ List.replicate (4 - (lg_sl [.ref q, .int k, .int 0, .int (Int32.ofNat n)]).length) Slot.unset).toArray = L at hl ⊢
  refine lv_iload_n B.exec B.bytes dt_lindexOf_0 rfl (lv_at hl 1 rfl) ?_
  refine tCall_fin (va_runS (As := [.int k]) (rest := []) ⟨B.exec, B.bytes, hml, hown, hts⟩ (tm_canEncode (b := b) (a := a) (q := q) (n := n) (f := f) (w := w)) ⟨callB_of 1 hts (txG (i := 10) rfl) rfl rfl rfl (hts _ (txW_in (i := 8) rfl)) (hts _ (txW_in (i := 39) rfl)) ⟨by decide, by decide, by decide⟩ (by decide), (hts _ (txW_in (i := 30) rfl))⟩ ⟨tX_blind, fun U hU hW => tX_pre hU hW hX⟩ rfl rfl hl.1 rfl (Nat.le_of_ble_eq_true rfl) dt_lindexOf_1 ⟨Nat.le_refl _, Nat.le_refl _⟩) ?_
  refine lv_if_ne (tgt := 9) B.exec B.bytes dt_lindexOf_4 rfl (fun h => ?_) (fun h => ?_)
  · have hk : ¬ k < 0 ∧ ¬ k > 255 := by
      by_cases z : ¬ k < 0 ∧ ¬ k > 255
      · exact z
      · rw [if_neg z] at h; exact absurd rfl h
    rw [if_pos hk]
    refine lv_iload_n B.exec B.bytes dt_lindexOf_9 rfl (lv_at hl 2 rfl) ?_
    refine lv_iconst (v := 0) B.exec B.bytes dt_lindexOf_10 rfl ?_
    refine va_mmax B.exec B.bytes (by rw [hml, hl.1]) hown (hts _ (txW_in (i := 47) rfl)) (hts _ (aTB_in aPw.2.1.1 rfl)) (hts _ (aTB_in aPw.2.1.2.2 rfl)) (hts _ (aTB_in aPw.2.2.1.1 rfl)) (by decide) (by decide) (Nat.le_refl _) (Nat.le_refl _) dt_lindexOf_11 ?_
    rw [show (if (0 : Int32) < 0 then (0 : Int32) else 0) = 0 from rfl]
    refine lv_istore_n (i := 2) B.exec B.bytes dt_lindexOf_14 rfl hl (by decide) rfl ?_
    intro L1 hl1
    refine lv_iload_n B.exec B.bytes dt_lindexOf_15 rfl (lv_at hl1 3 rfl) ?_
    refine lv_aload_n B.exec B.bytes dt_lindexOf_16 rfl (lv_at hl1 1 rfl) ?_
    refine va_tlen B.exec B.bytes hX.2.2.2.1 hS rfl dt_lindexOf_17 ?_
    refine va_mmin B.exec B.bytes (by rw [hml, hl1.1]) hown (hts _ (txW_in (i := 48) rfl)) (hts _ (aTB_in aPw.2.1.2.1 rfl)) (hts _ (aTB_in aPw.2.1.2.2 rfl)) (hts _ (aTB_in aPw.2.2.1.2 rfl)) (by decide) (by decide) (Nat.le_refl _) (Nat.le_refl _) dt_lindexOf_18 ?_
    rw [ite_self]
    refine lv_istore_n (i := 3) B.exec B.bytes dt_lindexOf_21 rfl hl1 (by decide) rfl ?_
    intro L2 hl2
    refine lv_iload_n B.exec B.bytes dt_lindexOf_22 rfl (lv_at hl2 1 rfl) ?_
    refine lv_iload_n B.exec B.bytes dt_lindexOf_23 rfl (lv_at hl2 0 rfl) ?_
    refine lv_icmp_lt (tgt := 29) B.exec B.bytes dt_lindexOf_24 rfl (fun h3 => ?_) (fun h3 => ?_)
    · refine lv_aload_n B.exec B.bytes dt_lindexOf_29 rfl (lv_at hl2 2 rfl) ?_
      refine lv_iload_n B.exec B.bytes dt_lindexOf_30 rfl (lv_at hl2 3 rfl) ?_
      refine lv_iload_n B.exec B.bytes dt_lindexOf_31 rfl (lv_at hl2 1 rfl) ?_
      refine lv_iload_n B.exec B.bytes dt_lindexOf_32 rfl (lv_at hl2 0 rfl) ?_
      refine tCall_fin (va_runS (As := [.ref q, .int k, .int 0, .int (Int32.ofNat n)]) (rest := []) ⟨B.exec, B.bytes, hml, hown, hts⟩ (tm_ixChar (b := b) (a := a) (q := q) (n := n) (f := f) (w := w) hn) ⟨callB_of 4 hts (txG (i := 11) rfl) rfl rfl rfl (hts _ (txW_in (i := 8) rfl)) (hts _ (txW_in (i := 40) rfl)) ⟨by decide, by decide, by decide⟩ (by decide), (hts _ (txW_in (i := 31) rfl))⟩ ⟨tX_blind, fun U hU hW => tX_pre hU hW hX⟩ rfl rfl hl2.1 rfl (Nat.le_of_ble_eq_true rfl) dt_lindexOf_33 ⟨Nat.le_refl _, Nat.le_refl _⟩) ?_
      exact W.iret B.exec B.bytes B.returns (fun t ht _ => ⟨rfl, ht⟩) (fun _ h => nomatch h) dt_lindexOf_36
    · have hn0 : n = 0 := tx_n0 h3 hn
      rw [hn0]
      refine lv_iconst (v := (-1)) B.exec B.bytes dt_lindexOf_27 rfl ?_
      exact W.iret B.exec B.bytes B.returns (fun t ht _ => ⟨rfl, ht⟩) (fun _ h => nomatch h) dt_lindexOf_28
  · have hk : ¬ (¬ k < 0 ∧ ¬ k > 255) := by
      intro z
      rw [if_pos z] at h
      exact absurd h (by decide)
    rw [if_neg hk]
    refine lv_iconst (v := (-1)) B.exec B.bytes dt_lindexOf_7 rfl ?_
    exact W.iret B.exec B.bytes B.returns (fun t ht _ => ⟨rfl, ht⟩) (fun _ h => nomatch h) dt_lindexOf_8
set_option maxRecDepth 4000 in
theorem tm_indexOf2 {k : Int32} (hn : n < 2 ^ 31) : tM l b a q n f w (⟨"java/lang/String", "indexOf", "(II)I"⟩ : MethodName) prog_25_method_80_code 3 (some .int) 2 [.ref a, .int k, .int 0] (some (.int (if ¬ k < 0 ∧ ¬ k > 255 then tIx f k n 0 else -1))) := by
  refine Met.ofW (cc := prog_25_method_80_code) (maxL := 3) (ret := (some .int)) (by decide) rfl ?_
  intro p e s m args below meth c s₁ B hml hP
  obtain ⟨rfl, hX⟩ := hP
  have hts0 := atoms_spec (ws := Jvm.Cond.code (⟨"java/lang/String", "indexOf", "(II)I"⟩ : MethodName) prog_25_method_80_code 3 (some .int) :: aTB) B.pre
  have hts : ∀ w ∈ aTB, w.before _ s = true := fun w hw => hts0 w (List.mem_cons_of_mem _ hw)
  have hown : s.vm.findClass "java/lang/String" = some m.cls := findClass_of_methodNamed B.named
  have hlocks : meth.locks = false := B.notSynchronized
  have hS : va_S (aUp b) s.heap s.heap [] := ⟨Nat.le_refl _, fun _ _ _ => rfl, fun _ h => nomatch h⟩
  rw [lg_entry_eq]
  have hl := lv_entry [.ref a, .int k, .int 0] (n := 3) (Nat.le_of_ble_eq_true rfl)
  generalize (lg_sl [.ref a, .int k, .int 0] ++ List.replicate (3 - (lg_sl [.ref a, .int k, .int 0]).length) Slot.unset).toArray = L at hl ⊢
  refine lv_aload_n B.exec B.bytes dt_indexOf2_0 rfl (lv_at hl 0 rfl) ?_
  refine tCall_fin (va_runV (As := []) (rest := []) (b := a) (C := "java/lang/String") ⟨B.exec, B.bytes, hml, hown, hts⟩ (tm_isLatin1 (b := b) (a := a) (q := q) (n := n) (f := f) (w := w)) ⟨callB_of 0 hts (txG (i := 2) rfl) rfl rfl rfl (hts _ (txW_in (i := 1) rfl)) (hts _ (txW_in (i := 34) rfl)) ⟨by decide, by decide, by decide⟩ (by decide), (hts _ (txW_in (i := 17) rfl)), (hts _ (txW_in (i := 18) rfl))⟩ ⟨tX_blind, tX_recv hX, fun U hU hW => tX_pre hU hW hX⟩ rfl rfl hl.1 rfl (Nat.le_of_ble_eq_true rfl) dt_indexOf2_1 ⟨Nat.le_refl _, Nat.le_refl _⟩) ?_
  refine lv_if_eq (tgt := 23) B.exec B.bytes dt_indexOf2_4 rfl (fun h => absurd h (by decide)) (fun _ => ?_)
  refine lv_aload_n B.exec B.bytes dt_indexOf2_7 rfl (lv_at hl 0 rfl) ?_
  refine vk_getf B.exec B.bytes hX.2.2.1 hS hown (hts _ (txW_in (i := 45) rfl)) (fun _ h => h) dt_indexOf2_8 ?_
  refine lv_iload_n B.exec B.bytes dt_indexOf2_11 rfl (lv_at hl 1 rfl) ?_
  refine lv_iload_n B.exec B.bytes dt_indexOf2_12 rfl (lv_at hl 2 rfl) ?_
  refine lv_aload_n B.exec B.bytes dt_indexOf2_13 rfl (lv_at hl 0 rfl) ?_
  refine tCall_fin (va_runV (As := []) (rest := [.int 0, .int k, .ref q]) (b := a) (C := "java/lang/String") ⟨B.exec, B.bytes, hml, hown, hts⟩ (tm_length (b := b) (a := a) (q := q) (n := n) (f := f) (w := w)) ⟨callB_of 0 hts (txG (i := 3) rfl) rfl rfl rfl (hts _ (txW_in (i := 1) rfl)) (hts _ (txW_in (i := 35) rfl)) ⟨by decide, by decide, by decide⟩ (by decide), (hts _ (txW_in (i := 19) rfl)), (hts _ (txW_in (i := 20) rfl))⟩ ⟨tX_blind, tX_recv hX, fun U hU hW => tX_pre hU hW hX⟩ rfl rfl hl.1 rfl (Nat.le_of_ble_eq_true rfl) dt_indexOf2_14 ⟨Nat.le_refl _, Nat.le_refl _⟩) ?_
  refine tCall_fin (va_runS (As := [.ref q, .int k, .int 0, .int (Int32.ofNat n)]) (rest := []) ⟨B.exec, B.bytes, hml, hown, hts⟩ (tm_lindexOf (b := b) (a := a) (q := q) (n := n) (f := f) (w := w) hn) ⟨callB_of 4 hts (txG (i := 12) rfl) rfl rfl rfl (hts _ (txW_in (i := 8) rfl)) (hts _ (txW_in (i := 41) rfl)) ⟨by decide, by decide, by decide⟩ (by decide), (hts _ (txW_in (i := 32) rfl))⟩ ⟨tX_blind, fun U hU hW => tX_pre hU hW hX⟩ rfl rfl hl.1 rfl (Nat.le_of_ble_eq_true rfl) dt_indexOf2_17 ⟨Nat.le_refl _, Nat.le_refl _⟩) ?_
  refine lv_goto (tgt := 36) B.exec B.bytes dt_indexOf2_20 rfl ?_
  exact W.iret B.exec B.bytes B.returns (fun t ht _ => ⟨rfl, ht⟩) (fun _ h => nomatch h) dt_indexOf2_36
set_option maxRecDepth 4000 in
theorem tm_indexOf {k : Int32} (hn : n < 2 ^ 31) : tM l b a q n f w (⟨"java/lang/String", "indexOf", "(I)I"⟩ : MethodName) prog_25_method_79_code 2 (some .int) 3 [.ref a, .int k] (some (.int (if ¬ k < 0 ∧ ¬ k > 255 then tIx f k n 0 else -1))) := by
  refine Met.ofW (cc := prog_25_method_79_code) (maxL := 2) (ret := (some .int)) (by decide) rfl ?_
  intro p e s m args below meth c s₁ B hml hP
  obtain ⟨rfl, hX⟩ := hP
  have hts0 := atoms_spec (ws := Jvm.Cond.code (⟨"java/lang/String", "indexOf", "(I)I"⟩ : MethodName) prog_25_method_79_code 2 (some .int) :: aTB) B.pre
  have hts : ∀ w ∈ aTB, w.before _ s = true := fun w hw => hts0 w (List.mem_cons_of_mem _ hw)
  have hown : s.vm.findClass "java/lang/String" = some m.cls := findClass_of_methodNamed B.named
  have hlocks : meth.locks = false := B.notSynchronized
  have hS : va_S (aUp b) s.heap s.heap [] := ⟨Nat.le_refl _, fun _ _ _ => rfl, fun _ h => nomatch h⟩
  rw [lg_entry_eq]
  have hl := lv_entry [.ref a, .int k] (n := 2) (Nat.le_of_ble_eq_true rfl)
  generalize (lg_sl [.ref a, .int k] ++ List.replicate (2 - (lg_sl [.ref a, .int k]).length) Slot.unset).toArray = L at hl ⊢
  refine lv_aload_n B.exec B.bytes dt_indexOf_0 rfl (lv_at hl 0 rfl) ?_
  refine lv_iload_n B.exec B.bytes dt_indexOf_1 rfl (lv_at hl 1 rfl) ?_
  refine lv_iconst (v := 0) B.exec B.bytes dt_indexOf_2 rfl ?_
  refine tCall_fin (va_runV (As := [.int k, .int 0]) (rest := []) (b := a) (C := "java/lang/String") ⟨B.exec, B.bytes, hml, hown, hts⟩ (tm_indexOf2 (b := b) (a := a) (q := q) (n := n) (f := f) (w := w) hn) ⟨callB_of 2 hts (txG (i := 13) rfl) rfl rfl rfl (hts _ (txW_in (i := 1) rfl)) (hts _ (txW_in (i := 42) rfl)) ⟨by decide, by decide, by decide⟩ (by decide), (hts _ (txW_in (i := 23) rfl)), (hts _ (txW_in (i := 24) rfl))⟩ ⟨tX_blind, tX_recv hX, fun U hU hW => tX_pre hU hW hX⟩ rfl rfl hl.1 rfl (Nat.le_of_ble_eq_true rfl) dt_indexOf_3 ⟨Nat.le_refl _, Nat.le_refl _⟩) ?_
  exact W.iret B.exec B.bytes B.returns (fun t ht _ => ⟨rfl, ht⟩) (fun _ h => nomatch h) dt_indexOf_6
end TXM
