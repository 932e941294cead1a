/-! What runs ask on the side. From wip/whole/src. -/
theorem aCat_8 {st : List Value} (h : Nat.ble (aCat st) 8 = true) : aCat st ≤ 8 := Nat.le_of_ble_eq_true h
theorem aCat_16 {st : List Value} (h : Nat.ble (aCat st) 16 = true) : aCat st ≤ 16 := Nat.le_of_ble_eq_true h
theorem rk_lt {k r : Nat} (h : Nat.ble (r + 1) (aP.2.1 k).2.2.2.1 = true) : r < (aP.2.1 k).2.2.2.1 := Nat.le_of_ble_eq_true h
theorem rk_eq {k r : Nat} (h : Nat.beq (aP.2.1 k).2.2.2.1 r = true) : (aP.2.1 k).2.2.2.1 = r := Nat.eq_of_beq_eq_true h
theorem id_b {b c : Bool} (h : b = c) : b = c := h
theorem b2n_10 : b2n (¬ (1 : Nat) = 0) = 1 := rfl
theorem b2n_T {i : Decidable True} : @b2n True i = 1 := if_pos trivial
theorem b2n_F {i : Decidable False} : @b2n False i = 0 := if_neg (fun q => q)
