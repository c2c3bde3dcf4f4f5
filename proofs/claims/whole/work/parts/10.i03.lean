set_option maxRecDepth 100000 in
theorem aI136 : aC136.all (aIc 136) = true := by decide +kernel
set_option maxRecDepth 100000 in
theorem aI137 : aC137.all (aIc 137) = true := by decide +kernel
set_option maxRecDepth 100000 in
theorem aI138 : aC138.all (aIc 138) = true := by decide +kernel
set_option maxRecDepth 100000 in
theorem aI139 : aC139.all (aIc 139) = true := by decide +kernel
set_option maxRecDepth 100000 in
theorem aI140 : aC140.all (aIc 140) = true := by decide +kernel
set_option maxRecDepth 100000 in
theorem aI141 : aC141.all (aIc 141) = true := by decide +kernel
set_option maxRecDepth 100000 in
theorem aI142 : aC142.all (aIc 142) = true := by decide +kernel
set_option maxRecDepth 100000 in
theorem aI143 : aC143.all (aIc 143) = true := by decide +kernel
set_option maxRecDepth 100000 in
theorem aI144 : aC144.all (aIc 144) = true := by decide +kernel
set_option maxRecDepth 100000 in
theorem aI145 : aC145.all (aIc 145) = true := by decide +kernel
set_option maxRecDepth 100000 in
theorem aI146 : aC146.all (aIc 146) = true := by decide +kernel
set_option maxRecDepth 100000 in
theorem aI147 : aC147.all (aIc 147) = true := by decide +kernel
set_option maxRecDepth 100000 in
theorem aI148 : aC148.all (aIc 148) = true := by decide +kernel
set_option maxRecDepth 100000 in
theorem aI149 : aC149.all (aIc 149) = true := by decide +kernel
set_option maxRecDepth 100000 in
theorem aI150 : aC150.all (aIc 150) = true := by decide +kernel
set_option maxRecDepth 100000 in
theorem aI151 : aC151.all (aIc 151) = true := by decide +kernel
set_option maxRecDepth 100000 in
theorem aI152 : aC152.all (aIc 152) = true := by decide +kernel
set_option maxRecDepth 100000 in
theorem aI153 : aC153.all (aIc 153) = true := by decide +kernel
set_option maxRecDepth 100000 in
theorem aI154 : aC154.all (aIc 154) = true := by decide +kernel
set_option maxRecDepth 100000 in
theorem aI155 : aC155.all (aIc 155) = true := by decide +kernel
set_option maxRecDepth 100000 in
theorem aI156 : aC156.all (aIc 156) = true := by decide +kernel
set_option maxRecDepth 100000 in
theorem aI157 : aC157.all (aIc 157) = true := by decide +kernel
set_option maxRecDepth 100000 in
theorem aI158 : aC158.all (aIc 158) = true := by decide +kernel
set_option maxRecDepth 100000 in
theorem aI159 : aC159.all (aIc 159) = true := by decide +kernel
set_option maxRecDepth 100000 in
theorem aI160 : aC160.all (aIc 160) = true := by decide +kernel
set_option maxRecDepth 100000 in
theorem aI161 : aC161.all (aIc 161) = true := by decide +kernel
set_option maxRecDepth 100000 in
theorem aI162 : aC162.all (aIc 162) = true := by decide +kernel
set_option maxRecDepth 100000 in
theorem aI163 : aC163.all (aIc 163) = true := by decide +kernel
set_option maxRecDepth 100000 in
theorem aI164 : aC164.all (aIc 164) = true := by decide +kernel
set_option maxRecDepth 100000 in
theorem aI165 : aC165.all (aIc 165) = true := by decide +kernel
set_option maxRecDepth 100000 in
theorem aI166 : aC166.all (aIc 166) = true := by decide +kernel
set_option maxRecDepth 100000 in
theorem aI167 : aC167.all (aIc 167) = true := by decide +kernel
set_option maxRecDepth 100000 in
theorem aI168 : aC168.all (aIc 168) = true := by decide +kernel
set_option maxRecDepth 100000 in
theorem aI169 : aC169.all (aIc 169) = true := by decide +kernel
set_option maxRecDepth 100000 in
theorem aI170 : aC170.all (aIc 170) = true := by decide +kernel
set_option maxRecDepth 100000 in
theorem aI171 : aC171.all (aIc 171) = true := by decide +kernel
