set_option maxRecDepth 100000 in
theorem aI100 : aC100.all (aIc 100) = true := by decide +kernel
set_option maxRecDepth 100000 in
theorem aI101 : aC101.all (aIc 101) = true := by decide +kernel
set_option maxRecDepth 100000 in
theorem aI102 : aC102.all (aIc 102) = true := by decide +kernel
set_option maxRecDepth 100000 in
theorem aI103 : aC103.all (aIc 103) = true := by decide +kernel
set_option maxRecDepth 100000 in
theorem aI104 : aC104.all (aIc 104) = true := by decide +kernel
set_option maxRecDepth 100000 in
theorem aI105 : aC105.all (aIc 105) = true := by decide +kernel
set_option maxRecDepth 100000 in
theorem aI106 : aC106.all (aIc 106) = true := by decide +kernel
set_option maxRecDepth 100000 in
theorem aI107 : aC107.all (aIc 107) = true := by decide +kernel
set_option maxRecDepth 100000 in
theorem aI108 : aC108.all (aIc 108) = true := by decide +kernel
set_option maxRecDepth 100000 in
theorem aI109 : aC109.all (aIc 109) = true := by decide +kernel
set_option maxRecDepth 100000 in
theorem aI110 : aC110.all (aIc 110) = true := by decide +kernel
set_option maxRecDepth 100000 in
theorem aI111 : aC111.all (aIc 111) = true := by decide +kernel
set_option maxRecDepth 100000 in
theorem aI112 : aC112.all (aIc 112) = true := by decide +kernel
set_option maxRecDepth 100000 in
theorem aI113 : aC113.all (aIc 113) = true := by decide +kernel
set_option maxRecDepth 100000 in
theorem aI114 : aC114.all (aIc 114) = true := by decide +kernel
set_option maxRecDepth 100000 in
theorem aI115 : aC115.all (aIc 115) = true := by decide +kernel
set_option maxRecDepth 100000 in
theorem aI116 : aC116.all (aIc 116) = true := by decide +kernel
set_option maxRecDepth 100000 in
theorem aI117 : aC117.all (aIc 117) = true := by decide +kernel
set_option maxRecDepth 100000 in
theorem aI118 : aC118.all (aIc 118) = true := by decide +kernel
set_option maxRecDepth 100000 in
theorem aI119 : aC119.all (aIc 119) = true := by decide +kernel
set_option maxRecDepth 100000 in
theorem aI120 : aC120.all (aIc 120) = true := by decide +kernel
set_option maxRecDepth 100000 in
theorem aI121 : aC121.all (aIc 121) = true := by decide +kernel
set_option maxRecDepth 100000 in
theorem aI122 : aC122.all (aIc 122) = true := by decide +kernel
set_option maxRecDepth 100000 in
theorem aI123 : aC123.all (aIc 123) = true := by decide +kernel
set_option maxRecDepth 100000 in
theorem aI124 : aC124.all (aIc 124) = true := by decide +kernel
set_option maxRecDepth 100000 in
theorem aI125 : aC125.all (aIc 125) = true := by decide +kernel
set_option maxRecDepth 100000 in
theorem aI126 : aC126.all (aIc 126) = true := by decide +kernel
set_option maxRecDepth 100000 in
theorem aI127 : aC127.all (aIc 127) = true := by decide +kernel
set_option maxRecDepth 100000 in
theorem aI128 : aC128.all (aIc 128) = true := by decide +kernel
set_option maxRecDepth 100000 in
theorem aI129 : aC129.all (aIc 129) = true := by decide +kernel
set_option maxRecDepth 100000 in
theorem aI130 : aC130.all (aIc 130) = true := by decide +kernel
set_option maxRecDepth 100000 in
theorem aI131 : aC131.all (aIc 131) = true := by decide +kernel
set_option maxRecDepth 100000 in
theorem aI132 : aC132.all (aIc 132) = true := by decide +kernel
set_option maxRecDepth 100000 in
theorem aI133 : aC133.all (aIc 133) = true := by decide +kernel
set_option maxRecDepth 100000 in
theorem aI134 : aC134.all (aIc 134) = true := by decide +kernel
set_option maxRecDepth 100000 in
theorem aI135 : aC135.all (aIc 135) = true := by decide +kernel
