/-! THE BYTES: every label's list against the bytes. -/
theorem ack_0 : aAl0.all aChk = true := by decide +kernel
theorem ack_1 : aAl1.all aChk = true := by decide +kernel
theorem ack_2 : aAl2.all aChk = true := by decide +kernel
theorem ack_3 : aAl3.all aChk = true := by decide +kernel
theorem ack_4 : aAl4.all aChk = true := by decide +kernel
theorem ack_5 : aAl5.all aChk = true := by decide +kernel
theorem ack_6 : aAl6.all aChk = true := by decide +kernel
theorem ack_7 : aAl7.all aChk = true := by decide +kernel
theorem ack_8 : aAl8.all aChk = true := by decide +kernel
theorem ack_9 : aAl9.all aChk = true := by decide +kernel
theorem ack_10 : aAl10.all aChk = true := by decide +kernel
theorem ack_all : aAll.all aChk = true := by
  rw [aAll_eq]
  simp only [List.all_append, Bool.and_eq_true]
  exact ⟨ack_0, ⟨ack_1, ⟨ack_2, ⟨ack_3, ⟨ack_4, ⟨ack_5, ⟨ack_6, ⟨ack_7, ⟨ack_8, ⟨ack_9, ack_10⟩⟩⟩⟩⟩⟩⟩⟩⟩⟩
