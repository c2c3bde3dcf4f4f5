set_option maxRecDepth 100000 in
theorem aI204 : aC204.all (aIc 204) = true := by decide +kernel
set_option maxRecDepth 100000 in
theorem aI205 : aC205.all (aIc 205) = true := by decide +kernel
set_option maxRecDepth 100000 in
theorem aI206 : aC206.all (aIc 206) = true := by decide +kernel
set_option maxRecDepth 100000 in
theorem aI207 : aC207.all (aIc 207) = true := by decide +kernel
set_option maxRecDepth 100000 in
theorem aI208 : aC208.all (aIc 208) = true := by decide +kernel
set_option maxRecDepth 100000 in
theorem aI209 : aC209.all (aIc 209) = true := by decide +kernel
set_option maxRecDepth 100000 in
theorem aI210 : aC210.all (aIc 210) = true := by decide +kernel
set_option maxRecDepth 100000 in
theorem aI211 : aC211.all (aIc 211) = true := by decide +kernel
set_option maxRecDepth 100000 in
theorem aI212 : aC212.all (aIc 212) = true := by decide +kernel
set_option maxRecDepth 100000 in
theorem aI213 : aC213.all (aIc 213) = true := by decide +kernel
set_option maxRecDepth 100000 in
theorem aI214 : aC214.all (aIc 214) = true := by decide +kernel
set_option maxRecDepth 100000 in
theorem aI215 : aC215.all (aIc 215) = true := by decide +kernel
set_option maxRecDepth 100000 in
theorem aI216 : aC216.all (aIc 216) = true := by decide +kernel
set_option maxRecDepth 100000 in
theorem aI217 : aC217.all (aIc 217) = true := by decide +kernel
set_option maxRecDepth 100000 in
theorem aI218 : aC218.all (aIc 218) = true := by decide +kernel
set_option maxRecDepth 100000 in
theorem aI219 : aC219.all (aIc 219) = true := by decide +kernel
set_option maxRecDepth 100000 in
theorem aI220 : aC220.all (aIc 220) = true := by decide +kernel
set_option maxRecDepth 100000 in
theorem aI221 : aC221.all (aIc 221) = true := by decide +kernel
set_option maxRecDepth 100000 in
theorem aI222 : aC222.all (aIc 222) = true := by decide +kernel
set_option maxRecDepth 100000 in
theorem aI223 : aC223.all (aIc 223) = true := by decide +kernel
set_option maxRecDepth 100000 in
theorem aI224 : aC224.all (aIc 224) = true := by decide +kernel
set_option maxRecDepth 100000 in
theorem aI225 : aC225.all (aIc 225) = true := by decide +kernel
set_option maxRecDepth 100000 in
theorem aI226 : aC226.all (aIc 226) = true := by decide +kernel
set_option maxRecDepth 100000 in
theorem aI227 : aC227.all (aIc 227) = true := by decide +kernel
set_option maxRecDepth 100000 in
theorem aI228 : aC228.all (aIc 228) = true := by decide +kernel
set_option maxRecDepth 100000 in
theorem aI229 : aC229.all (aIc 229) = true := by decide +kernel
set_option maxRecDepth 100000 in
theorem aI230 : aC230.all (aIc 230) = true := by decide +kernel
set_option maxRecDepth 100000 in
theorem aI231 : aC231.all (aIc 231) = true := by decide +kernel
set_option maxRecDepth 100000 in
theorem aI232 : aC232.all (aIc 232) = true := by decide +kernel
set_option maxRecDepth 100000 in
theorem aI233 : aC233.all (aIc 233) = true := by decide +kernel
set_option maxRecDepth 100000 in
theorem aI234 : aC234.all (aIc 234) = true := by decide +kernel
set_option maxRecDepth 100000 in
theorem aI235 : aC235.all (aIc 235) = true := by decide +kernel
set_option maxRecDepth 100000 in
theorem aI236 : aC236.all (aIc 236) = true := by decide +kernel
set_option maxRecDepth 100000 in
theorem aI237 : aC237.all (aIc 237) = true := by decide +kernel
set_option maxRecDepth 100000 in
theorem aI238 : aC238.all (aIc 238) = true := by decide +kernel
set_option maxRecDepth 100000 in
theorem aI239 : aC239.all (aIc 239) = true := by decide +kernel
set_option maxRecDepth 100000 in
theorem aI240 : aC240.all (aIc 240) = true := by decide +kernel
set_option maxRecDepth 100000 in
theorem aI241 : aC241.all (aIc 241) = true := by decide +kernel
set_option maxRecDepth 100000 in
theorem aI242 : aC242.all (aIc 242) = true := by decide +kernel
set_option maxRecDepth 100000 in
theorem aI243 : aC243.all (aIc 243) = true := by decide +kernel
