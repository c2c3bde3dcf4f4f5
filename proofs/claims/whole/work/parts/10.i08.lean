set_option maxRecDepth 100000 in
theorem aI295 : aC295.all (aIc 295) = true := by decide +kernel
set_option maxRecDepth 100000 in
theorem aI296_0 : aC296_0.all (aIc 296) = true := by decide +kernel
set_option maxRecDepth 100000 in
theorem aI296_1 : aC296_1.all (aIc 296) = true := by decide +kernel
set_option maxRecDepth 100000 in
theorem aI296_2 : aC296_2.all (aIc 296) = true := by decide +kernel
set_option maxRecDepth 100000 in
theorem aI296_3 : aC296_3.all (aIc 296) = true := by decide +kernel
set_option maxRecDepth 100000 in
theorem aI296_4 : aC296_4.all (aIc 296) = true := by decide +kernel
set_option maxRecDepth 100000 in
theorem aI296_5 : aC296_5.all (aIc 296) = true := by decide +kernel
set_option maxRecDepth 100000 in
theorem aI296_6 : aC296_6.all (aIc 296) = true := by decide +kernel
set_option maxRecDepth 100000 in
theorem aI296_7 : aC296_7.all (aIc 296) = true := by decide +kernel
set_option maxRecDepth 100000 in
theorem aI296_8 : aC296_8.all (aIc 296) = true := by decide +kernel
set_option maxRecDepth 100000 in
theorem aI296_9 : aC296_9.all (aIc 296) = true := by decide +kernel
set_option maxRecDepth 100000 in
theorem aI296_10 : aC296_10.all (aIc 296) = true := by decide +kernel
theorem aI296 : aC296.all (aIc 296) = true := by
  unfold aC296
  simp only [List.all_append, Bool.and_eq_true]
  exact ⟨aI296_0, aI296_1, aI296_2, aI296_3, aI296_4, aI296_5, aI296_6, aI296_7, aI296_8, aI296_9, aI296_10⟩
set_option maxRecDepth 100000 in
theorem aI297 : aC297.all (aIc 297) = true := by decide +kernel
set_option maxRecDepth 100000 in
theorem aI298 : aC298.all (aIc 298) = true := by decide +kernel
set_option maxRecDepth 100000 in
theorem aI299 : aC299.all (aIc 299) = true := by decide +kernel
set_option maxRecDepth 100000 in
theorem aI300 : aC300.all (aIc 300) = true := by decide +kernel
set_option maxRecDepth 100000 in
theorem aI301 : aC301.all (aIc 301) = true := by decide +kernel
set_option maxRecDepth 100000 in
theorem aI302 : aC302.all (aIc 302) = true := by decide +kernel
