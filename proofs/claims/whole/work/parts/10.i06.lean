set_option maxRecDepth 100000 in
theorem aI244 : aC244.all (aIc 244) = true := by decide +kernel
set_option maxRecDepth 100000 in
theorem aI245 : aC245.all (aIc 245) = true := by decide +kernel
set_option maxRecDepth 100000 in
theorem aI246 : aC246.all (aIc 246) = true := by decide +kernel
set_option maxRecDepth 100000 in
theorem aI247 : aC247.all (aIc 247) = true := by decide +kernel
set_option maxRecDepth 100000 in
theorem aI248 : aC248.all (aIc 248) = true := by decide +kernel
set_option maxRecDepth 100000 in
theorem aI249 : aC249.all (aIc 249) = true := by decide +kernel
set_option maxRecDepth 100000 in
theorem aI250 : aC250.all (aIc 250) = true := by decide +kernel
set_option maxRecDepth 100000 in
theorem aI251 : aC251.all (aIc 251) = true := by decide +kernel
set_option maxRecDepth 100000 in
theorem aI252 : aC252.all (aIc 252) = true := by decide +kernel
set_option maxRecDepth 100000 in
theorem aI253 : aC253.all (aIc 253) = true := by decide +kernel
set_option maxRecDepth 100000 in
theorem aI254 : aC254.all (aIc 254) = true := by decide +kernel
set_option maxRecDepth 100000 in
theorem aI255 : aC255.all (aIc 255) = true := by decide +kernel
set_option maxRecDepth 100000 in
theorem aI256 : aC256.all (aIc 256) = true := by decide +kernel
set_option maxRecDepth 100000 in
theorem aI257 : aC257.all (aIc 257) = true := by decide +kernel
set_option maxRecDepth 100000 in
theorem aI258 : aC258.all (aIc 258) = true := by decide +kernel
set_option maxRecDepth 100000 in
theorem aI259 : aC259.all (aIc 259) = true := by decide +kernel
set_option maxRecDepth 100000 in
theorem aI260 : aC260.all (aIc 260) = true := by decide +kernel
set_option maxRecDepth 100000 in
theorem aI261 : aC261.all (aIc 261) = true := by decide +kernel
set_option maxRecDepth 100000 in
theorem aI262 : aC262.all (aIc 262) = true := by decide +kernel
set_option maxRecDepth 100000 in
theorem aI263 : aC263.all (aIc 263) = true := by decide +kernel
set_option maxRecDepth 100000 in
theorem aI264 : aC264.all (aIc 264) = true := by decide +kernel
set_option maxRecDepth 100000 in
theorem aI265 : aC265.all (aIc 265) = true := by decide +kernel
