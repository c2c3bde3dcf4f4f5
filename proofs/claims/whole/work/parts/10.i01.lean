set_option maxRecDepth 100000 in
theorem aI53 : aC53.all (aIc 53) = true := by decide +kernel
set_option maxRecDepth 100000 in
theorem aI54 : aC54.all (aIc 54) = true := by decide +kernel
set_option maxRecDepth 100000 in
theorem aI55 : aC55.all (aIc 55) = true := by decide +kernel
set_option maxRecDepth 100000 in
theorem aI56 : aC56.all (aIc 56) = true := by decide +kernel
set_option maxRecDepth 100000 in
theorem aI57 : aC57.all (aIc 57) = true := by decide +kernel
set_option maxRecDepth 100000 in
theorem aI58 : aC58.all (aIc 58) = true := by decide +kernel
set_option maxRecDepth 100000 in
theorem aI59 : aC59.all (aIc 59) = true := by decide +kernel
set_option maxRecDepth 100000 in
theorem aI60 : aC60.all (aIc 60) = true := by decide +kernel
set_option maxRecDepth 100000 in
theorem aI61 : aC61.all (aIc 61) = true := by decide +kernel
set_option maxRecDepth 100000 in
theorem aI62 : aC62.all (aIc 62) = true := by decide +kernel
set_option maxRecDepth 100000 in
theorem aI63 : aC63.all (aIc 63) = true := by decide +kernel
set_option maxRecDepth 100000 in
theorem aI64 : aC64.all (aIc 64) = true := by decide +kernel
set_option maxRecDepth 100000 in
theorem aI65 : aC65.all (aIc 65) = true := by decide +kernel
set_option maxRecDepth 100000 in
theorem aI66 : aC66.all (aIc 66) = true := by decide +kernel
set_option maxRecDepth 100000 in
theorem aI67_0 : aC67_0.all (aIc 67) = true := by decide +kernel
set_option maxRecDepth 100000 in
theorem aI67_1 : aC67_1.all (aIc 67) = true := by decide +kernel
theorem aI67 : aC67.all (aIc 67) = true := by
  unfold aC67
  simp only [List.all_append, Bool.and_eq_true]
  exact ⟨aI67_0, aI67_1⟩
set_option maxRecDepth 100000 in
theorem aI68 : aC68.all (aIc 68) = true := by decide +kernel
set_option maxRecDepth 100000 in
theorem aI69 : aC69.all (aIc 69) = true := by decide +kernel
set_option maxRecDepth 100000 in
theorem aI70 : aC70.all (aIc 70) = true := by decide +kernel
set_option maxRecDepth 100000 in
theorem aI71 : aC71.all (aIc 71) = true := by decide +kernel
set_option maxRecDepth 100000 in
theorem aI72 : aC72.all (aIc 72) = true := by decide +kernel
set_option maxRecDepth 100000 in
theorem aI73 : aC73.all (aIc 73) = true := by decide +kernel
set_option maxRecDepth 100000 in
theorem aI74 : aC74.all (aIc 74) = true := by decide +kernel
set_option maxRecDepth 100000 in
theorem aI75 : aC75.all (aIc 75) = true := by decide +kernel
set_option maxRecDepth 100000 in
theorem aI76 : aC76.all (aIc 76) = true := by decide +kernel
set_option maxRecDepth 100000 in
theorem aI77 : aC77.all (aIc 77) = true := by decide +kernel
set_option maxRecDepth 100000 in
theorem aI78 : aC78.all (aIc 78) = true := by decide +kernel
set_option maxRecDepth 100000 in
theorem aI79 : aC79.all (aIc 79) = true := by decide +kernel
set_option maxRecDepth 100000 in
theorem aI80 : aC80.all (aIc 80) = true := by decide +kernel
set_option maxRecDepth 100000 in
theorem aI81 : aC81.all (aIc 81) = true := by decide +kernel
set_option maxRecDepth 100000 in
theorem aI82 : aC82.all (aIc 82) = true := by decide +kernel
set_option maxRecDepth 100000 in
theorem aI83 : aC83.all (aIc 83) = true := by decide +kernel
set_option maxRecDepth 100000 in
theorem aI84 : aC84.all (aIc 84) = true := by decide +kernel
set_option maxRecDepth 100000 in
theorem aI85 : aC85.all (aIc 85) = true := by decide +kernel
set_option maxRecDepth 100000 in
theorem aI86 : aC86.all (aIc 86) = true := by decide +kernel
set_option maxRecDepth 100000 in
theorem aI87 : aC87.all (aIc 87) = true := by decide +kernel
set_option maxRecDepth 100000 in
theorem aI88 : aC88.all (aIc 88) = true := by decide +kernel
set_option maxRecDepth 100000 in
theorem aI89 : aC89.all (aIc 89) = true := by decide +kernel
set_option maxRecDepth 100000 in
theorem aI90 : aC90.all (aIc 90) = true := by decide +kernel
set_option maxRecDepth 100000 in
theorem aI91 : aC91.all (aIc 91) = true := by decide +kernel
set_option maxRecDepth 100000 in
theorem aI92 : aC92.all (aIc 92) = true := by decide +kernel
set_option maxRecDepth 100000 in
theorem aI93 : aC93.all (aIc 93) = true := by decide +kernel
set_option maxRecDepth 100000 in
theorem aI94 : aC94.all (aIc 94) = true := by decide +kernel
set_option maxRecDepth 100000 in
theorem aI95 : aC95.all (aIc 95) = true := by decide +kernel
set_option maxRecDepth 100000 in
theorem aI96 : aC96.all (aIc 96) = true := by decide +kernel
set_option maxRecDepth 100000 in
theorem aI97 : aC97.all (aIc 97) = true := by decide +kernel
set_option maxRecDepth 100000 in
theorem aI98 : aC98.all (aIc 98) = true := by decide +kernel
set_option maxRecDepth 100000 in
theorem aI99 : aC99.all (aIc 99) = true := by decide +kernel
