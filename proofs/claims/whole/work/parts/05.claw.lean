/-! THE LAW'S OWN BYTES, some labels at a time (a kernel's memory). -/
theorem aAll_chunks {α : Type} (f : α → Bool) (l : List α) (n m : Nat) (hn : 0 < n) (h : ∀ j, j < m → ((l.drop (n * j)).take n).all f = true) (hl : l.length ≤ n * m) : l.all f = true := by
  refine List.all_eq_true.mpr fun x hx => ?_
  obtain ⟨i, hi⟩ := List.getElem?_of_mem hx
  have hlt : i < l.length := (List.getElem?_eq_some_iff.mp hi).1
  have hj : i / n < m := (Nat.div_lt_iff_lt_mul hn).mpr (by rw [Nat.mul_comm]; omega)
  refine List.all_eq_true.mp (h (i / n) hj) x (List.mem_of_getElem? (i := i % n) ?_)
  rw [List.getElem?_take, if_pos (Nat.mod_lt _ hn), List.getElem?_drop, Nat.div_add_mod]
  exact hi
def aLawF (q : Nat × List Instr) : Bool := aCk (aMe 140).1 140 (aMe 140).2.2.1 q.1 q.2
theorem acl_0 : ((((aLps 140).zip (aLms 140)).drop (3 * 0)).take 3).all aLawF = true := by decide +kernel
theorem acl_1 : ((((aLps 140).zip (aLms 140)).drop (3 * 1)).take 3).all aLawF = true := by decide +kernel
theorem acl_2 : ((((aLps 140).zip (aLms 140)).drop (3 * 2)).take 3).all aLawF = true := by decide +kernel
theorem acl_3 : ((((aLps 140).zip (aLms 140)).drop (3 * 3)).take 3).all aLawF = true := by decide +kernel
theorem acl_4 : ((((aLps 140).zip (aLms 140)).drop (3 * 4)).take 3).all aLawF = true := by decide +kernel
theorem acl_5 : ((((aLps 140).zip (aLms 140)).drop (3 * 5)).take 3).all aLawF = true := by decide +kernel
theorem acl_6 : ((((aLps 140).zip (aLms 140)).drop (3 * 6)).take 3).all aLawF = true := by decide +kernel
theorem acl_7 : ((((aLps 140).zip (aLms 140)).drop (3 * 7)).take 3).all aLawF = true := by decide +kernel
theorem acl_8 : ((((aLps 140).zip (aLms 140)).drop (3 * 8)).take 3).all aLawF = true := by decide +kernel
theorem acl_9 : ((((aLps 140).zip (aLms 140)).drop (3 * 9)).take 3).all aLawF = true := by decide +kernel
theorem acl_10 : ((((aLps 140).zip (aLms 140)).drop (3 * 10)).take 3).all aLawF = true := by decide +kernel
theorem acl_11 : ((((aLps 140).zip (aLms 140)).drop (3 * 11)).take 3).all aLawF = true := by decide +kernel
theorem acl_12 : ((((aLps 140).zip (aLms 140)).drop (3 * 12)).take 3).all aLawF = true := by decide +kernel
theorem acl_13 : ((((aLps 140).zip (aLms 140)).drop (3 * 13)).take 3).all aLawF = true := by decide +kernel
theorem acl_14 : ((((aLps 140).zip (aLms 140)).drop (3 * 14)).take 3).all aLawF = true := by decide +kernel
theorem acl_15 : ((((aLps 140).zip (aLms 140)).drop (3 * 15)).take 3).all aLawF = true := by decide +kernel
theorem acl_16 : ((((aLps 140).zip (aLms 140)).drop (3 * 16)).take 3).all aLawF = true := by decide +kernel
theorem acl_17 : ((((aLps 140).zip (aLms 140)).drop (3 * 17)).take 3).all aLawF = true := by decide +kernel
theorem acl_18 : ((((aLps 140).zip (aLms 140)).drop (3 * 18)).take 3).all aLawF = true := by decide +kernel
theorem ack_law : aChk 140 = true := by
  unfold aChk
  rw [Bool.and_eq_true, Bool.and_eq_true]
  refine ⟨⟨aAll_chunks aLawF _ 3 19 (by decide) (fun j hj => ?_) (by decide +kernel), by decide +kernel⟩, by decide +kernel⟩
  match j, hj with
  | 0, _ => exact acl_0
  | 1, _ => exact acl_1
  | 2, _ => exact acl_2
  | 3, _ => exact acl_3
  | 4, _ => exact acl_4
  | 5, _ => exact acl_5
  | 6, _ => exact acl_6
  | 7, _ => exact acl_7
  | 8, _ => exact acl_8
  | 9, _ => exact acl_9
  | 10, _ => exact acl_10
  | 11, _ => exact acl_11
  | 12, _ => exact acl_12
  | 13, _ => exact acl_13
  | 14, _ => exact acl_14
  | 15, _ => exact acl_15
  | 16, _ => exact acl_16
  | 17, _ => exact acl_17
  | 18, _ => exact acl_18
  | j + 19, hj => exact absurd hj (by omega)
