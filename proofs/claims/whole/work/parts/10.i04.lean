set_option maxRecDepth 100000 in
theorem aI172 : aC172.all (aIc 172) = true := by decide +kernel
set_option maxRecDepth 100000 in
theorem aI173 : aC173.all (aIc 173) = true := by decide +kernel
set_option maxRecDepth 100000 in
theorem aI174 : aC174.all (aIc 174) = true := by decide +kernel
set_option maxRecDepth 100000 in
theorem aI175 : aC175.all (aIc 175) = true := by decide +kernel
set_option maxRecDepth 100000 in
theorem aI176 : aC176.all (aIc 176) = true := by decide +kernel
set_option maxRecDepth 100000 in
theorem aI177 : aC177.all (aIc 177) = true := by decide +kernel
set_option maxRecDepth 100000 in
theorem aI178 : aC178.all (aIc 178) = true := by decide +kernel
set_option maxRecDepth 100000 in
theorem aI179 : aC179.all (aIc 179) = true := by decide +kernel
set_option maxRecDepth 100000 in
theorem aI180 : aC180.all (aIc 180) = true := by decide +kernel
set_option maxRecDepth 100000 in
theorem aI181 : aC181.all (aIc 181) = true := by decide +kernel
set_option maxRecDepth 100000 in
theorem aI182_0 : aC182_0.all (aIc 182) = true := by decide +kernel
set_option maxRecDepth 100000 in
theorem aI182_1 : aC182_1.all (aIc 182) = true := by decide +kernel
theorem aI182 : aC182.all (aIc 182) = true := by
  unfold aC182
  simp only [List.all_append, Bool.and_eq_true]
  exact ⟨aI182_0, aI182_1⟩
set_option maxRecDepth 100000 in
theorem aI183 : aC183.all (aIc 183) = true := by decide +kernel
set_option maxRecDepth 100000 in
theorem aI184 : aC184.all (aIc 184) = true := by decide +kernel
set_option maxRecDepth 100000 in
theorem aI185 : aC185.all (aIc 185) = true := by decide +kernel
set_option maxRecDepth 100000 in
theorem aI186 : aC186.all (aIc 186) = true := by decide +kernel
set_option maxRecDepth 100000 in
theorem aI187 : aC187.all (aIc 187) = true := by decide +kernel
set_option maxRecDepth 100000 in
theorem aI188 : aC188.all (aIc 188) = true := by decide +kernel
set_option maxRecDepth 100000 in
theorem aI189 : aC189.all (aIc 189) = true := by decide +kernel
set_option maxRecDepth 100000 in
theorem aI190 : aC190.all (aIc 190) = true := by decide +kernel
set_option maxRecDepth 100000 in
theorem aI191 : aC191.all (aIc 191) = true := by decide +kernel
set_option maxRecDepth 100000 in
theorem aI192 : aC192.all (aIc 192) = true := by decide +kernel
set_option maxRecDepth 100000 in
theorem aI193 : aC193.all (aIc 193) = true := by decide +kernel
set_option maxRecDepth 100000 in
theorem aI194 : aC194.all (aIc 194) = true := by decide +kernel
set_option maxRecDepth 100000 in
theorem aI195 : aC195.all (aIc 195) = true := by decide +kernel
set_option maxRecDepth 100000 in
theorem aI196 : aC196.all (aIc 196) = true := by decide +kernel
set_option maxRecDepth 100000 in
theorem aI197 : aC197.all (aIc 197) = true := by decide +kernel
set_option maxRecDepth 100000 in
theorem aI198 : aC198.all (aIc 198) = true := by decide +kernel
set_option maxRecDepth 100000 in
theorem aI199 : aC199.all (aIc 199) = true := by decide +kernel
set_option maxRecDepth 100000 in
theorem aI200 : aC200.all (aIc 200) = true := by decide +kernel
set_option maxRecDepth 100000 in
theorem aI201 : aC201.all (aIc 201) = true := by decide +kernel
set_option maxRecDepth 100000 in
theorem aI202 : aC202.all (aIc 202) = true := by decide +kernel
set_option maxRecDepth 100000 in
theorem aI203 : aC203.all (aIc 203) = true := by decide +kernel
