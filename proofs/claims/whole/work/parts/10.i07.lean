set_option maxRecDepth 100000 in
theorem aI266 : aC266.all (aIc 266) = true := by decide +kernel
set_option maxRecDepth 100000 in
theorem aI267 : aC267.all (aIc 267) = true := by decide +kernel
set_option maxRecDepth 100000 in
theorem aI268 : aC268.all (aIc 268) = true := by decide +kernel
set_option maxRecDepth 100000 in
theorem aI269 : aC269.all (aIc 269) = true := by decide +kernel
set_option maxRecDepth 100000 in
theorem aI270 : aC270.all (aIc 270) = true := by decide +kernel
set_option maxRecDepth 100000 in
theorem aI271 : aC271.all (aIc 271) = true := by decide +kernel
set_option maxRecDepth 100000 in
theorem aI272 : aC272.all (aIc 272) = true := by decide +kernel
set_option maxRecDepth 100000 in
theorem aI273 : aC273.all (aIc 273) = true := by decide +kernel
set_option maxRecDepth 100000 in
theorem aI274 : aC274.all (aIc 274) = true := by decide +kernel
set_option maxRecDepth 100000 in
theorem aI275 : aC275.all (aIc 275) = true := by decide +kernel
set_option maxRecDepth 100000 in
theorem aI276 : aC276.all (aIc 276) = true := by decide +kernel
set_option maxRecDepth 100000 in
theorem aI277 : aC277.all (aIc 277) = true := by decide +kernel
set_option maxRecDepth 100000 in
theorem aI278 : aC278.all (aIc 278) = true := by decide +kernel
set_option maxRecDepth 100000 in
theorem aI279 : aC279.all (aIc 279) = true := by decide +kernel
set_option maxRecDepth 100000 in
theorem aI280 : aC280.all (aIc 280) = true := by decide +kernel
set_option maxRecDepth 100000 in
theorem aI281 : aC281.all (aIc 281) = true := by decide +kernel
set_option maxRecDepth 100000 in
theorem aI282 : aC282.all (aIc 282) = true := by decide +kernel
set_option maxRecDepth 100000 in
theorem aI283 : aC283.all (aIc 283) = true := by decide +kernel
set_option maxRecDepth 100000 in
theorem aI284 : aC284.all (aIc 284) = true := by decide +kernel
set_option maxRecDepth 100000 in
theorem aI285 : aC285.all (aIc 285) = true := by decide +kernel
set_option maxRecDepth 100000 in
theorem aI286 : aC286.all (aIc 286) = true := by decide +kernel
set_option maxRecDepth 100000 in
theorem aI287 : aC287.all (aIc 287) = true := by decide +kernel
set_option maxRecDepth 100000 in
theorem aI288 : aC288.all (aIc 288) = true := by decide +kernel
set_option maxRecDepth 100000 in
theorem aI289_0 : aC289_0.all (aIc 289) = true := by decide +kernel
set_option maxRecDepth 100000 in
theorem aI289_1 : aC289_1.all (aIc 289) = true := by decide +kernel
theorem aI289 : aC289.all (aIc 289) = true := by
  unfold aC289
  simp only [List.all_append, Bool.and_eq_true]
  exact ⟨aI289_0, aI289_1⟩
set_option maxRecDepth 100000 in
theorem aI290 : aC290.all (aIc 290) = true := by decide +kernel
set_option maxRecDepth 100000 in
theorem aI291 : aC291.all (aIc 291) = true := by decide +kernel
set_option maxRecDepth 100000 in
theorem aI292 : aC292.all (aIc 292) = true := by decide +kernel
set_option maxRecDepth 100000 in
theorem aI293 : aC293.all (aIc 293) = true := by decide +kernel
set_option maxRecDepth 100000 in
theorem aI294 : aC294.all (aIc 294) = true := by decide +kernel
