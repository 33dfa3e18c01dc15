theorem ax_pl104 : plainFor (ax_y 104) = true := by decide +kernel
theorem ax_pl105 : plainFor (ax_y 105) = true := by decide +kernel
theorem ax_pl106 : plainFor (ax_y 106) = true := by decide +kernel
theorem ax_pl107 : plainFor (ax_y 107) = true := by decide +kernel
theorem ax_plain {M : Nat} (hM : M < 108) : plainFor (ax_y M) = true := by
  rcases Nat.lt_or_ge M 104 with h | h
  · exact plainFor_of_name ((ax_hwo hM).2.1 h)
  · rcases (show M = 104 ∨ M = 105 ∨ M = 106 ∨ M = 107 by omega) with rfl | rfl | rfl | rfl
    · exact ax_pl104
    · exact ax_pl105
    · exact ax_pl106
    · exact ax_pl107
