/-! ===== slots and the text's size ===== -/
theorem bI_t : bI true = 1 := rfl
