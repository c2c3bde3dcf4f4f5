set_option maxRecDepth 100000 in
theorem aI0 : aC0.all (aIc 0) = true := by decide +kernel
set_option maxRecDepth 100000 in
theorem aI1 : aC1.all (aIc 1) = true := by decide +kernel
set_option maxRecDepth 100000 in
theorem aI2 : aC2.all (aIc 2) = true := by decide +kernel
set_option maxRecDepth 100000 in
theorem aI3 : aC3.all (aIc 3) = true := by decide +kernel
set_option maxRecDepth 100000 in
theorem aI4 : aC4.all (aIc 4) = true := by decide +kernel
set_option maxRecDepth 100000 in
theorem aI5 : aC5.all (aIc 5) = true := by decide +kernel
set_option maxRecDepth 100000 in
theorem aI6 : aC6.all (aIc 6) = true := by decide +kernel
set_option maxRecDepth 100000 in
theorem aI7 : aC7.all (aIc 7) = true := by decide +kernel
set_option maxRecDepth 100000 in
theorem aI8 : aC8.all (aIc 8) = true := by decide +kernel
set_option maxRecDepth 100000 in
theorem aI9 : aC9.all (aIc 9) = true := by decide +kernel
set_option maxRecDepth 100000 in
theorem aI10 : aC10.all (aIc 10) = true := by decide +kernel
set_option maxRecDepth 100000 in
theorem aI11 : aC11.all (aIc 11) = true := by decide +kernel
set_option maxRecDepth 100000 in
theorem aI12 : aC12.all (aIc 12) = true := by decide +kernel
set_option maxRecDepth 100000 in
theorem aI13 : aC13.all (aIc 13) = true := by decide +kernel
set_option maxRecDepth 100000 in
theorem aI14 : aC14.all (aIc 14) = true := by decide +kernel
set_option maxRecDepth 100000 in
theorem aI15 : aC15.all (aIc 15) = true := by decide +kernel
set_option maxRecDepth 100000 in
theorem aI16 : aC16.all (aIc 16) = true := by decide +kernel
set_option maxRecDepth 100000 in
theorem aI17 : aC17.all (aIc 17) = true := by decide +kernel
set_option maxRecDepth 100000 in
theorem aI18 : aC18.all (aIc 18) = true := by decide +kernel
set_option maxRecDepth 100000 in
theorem aI19 : aC19.all (aIc 19) = true := by decide +kernel
set_option maxRecDepth 100000 in
theorem aI20 : aC20.all (aIc 20) = true := by decide +kernel
set_option maxRecDepth 100000 in
theorem aI21 : aC21.all (aIc 21) = true := by decide +kernel
set_option maxRecDepth 100000 in
theorem aI22 : aC22.all (aIc 22) = true := by decide +kernel
set_option maxRecDepth 100000 in
theorem aI23 : aC23.all (aIc 23) = true := by decide +kernel
set_option maxRecDepth 100000 in
theorem aI24 : aC24.all (aIc 24) = true := by decide +kernel
set_option maxRecDepth 100000 in
theorem aI25 : aC25.all (aIc 25) = true := by decide +kernel
set_option maxRecDepth 100000 in
theorem aI26 : aC26.all (aIc 26) = true := by decide +kernel
set_option maxRecDepth 100000 in
theorem aI27 : aC27.all (aIc 27) = true := by decide +kernel
set_option maxRecDepth 100000 in
theorem aI28 : aC28.all (aIc 28) = true := by decide +kernel
set_option maxRecDepth 100000 in
theorem aI29 : aC29.all (aIc 29) = true := by decide +kernel
set_option maxRecDepth 100000 in
theorem aI30 : aC30.all (aIc 30) = true := by decide +kernel
set_option maxRecDepth 100000 in
theorem aI31 : aC31.all (aIc 31) = true := by decide +kernel
set_option maxRecDepth 100000 in
theorem aI32 : aC32.all (aIc 32) = true := by decide +kernel
set_option maxRecDepth 100000 in
theorem aI33 : aC33.all (aIc 33) = true := by decide +kernel
set_option maxRecDepth 100000 in
theorem aI34 : aC34.all (aIc 34) = true := by decide +kernel
set_option maxRecDepth 100000 in
theorem aI35 : aC35.all (aIc 35) = true := by decide +kernel
set_option maxRecDepth 100000 in
theorem aI36 : aC36.all (aIc 36) = true := by decide +kernel
set_option maxRecDepth 100000 in
theorem aI37 : aC37.all (aIc 37) = true := by decide +kernel
set_option maxRecDepth 100000 in
theorem aI38 : aC38.all (aIc 38) = true := by decide +kernel
set_option maxRecDepth 100000 in
theorem aI39 : aC39.all (aIc 39) = true := by decide +kernel
set_option maxRecDepth 100000 in
theorem aI40 : aC40.all (aIc 40) = true := by decide +kernel
set_option maxRecDepth 100000 in
theorem aI41 : aC41.all (aIc 41) = true := by decide +kernel
set_option maxRecDepth 100000 in
theorem aI42 : aC42.all (aIc 42) = true := by decide +kernel
set_option maxRecDepth 100000 in
theorem aI43 : aC43.all (aIc 43) = true := by decide +kernel
set_option maxRecDepth 100000 in
theorem aI44 : aC44.all (aIc 44) = true := by decide +kernel
set_option maxRecDepth 100000 in
theorem aI45 : aC45.all (aIc 45) = true := by decide +kernel
set_option maxRecDepth 100000 in
theorem aI46 : aC46.all (aIc 46) = true := by decide +kernel
set_option maxRecDepth 100000 in
theorem aI47 : aC47.all (aIc 47) = true := by decide +kernel
set_option maxRecDepth 100000 in
theorem aI48 : aC48.all (aIc 48) = true := by decide +kernel
set_option maxRecDepth 100000 in
theorem aI49 : aC49.all (aIc 49) = true := by decide +kernel
set_option maxRecDepth 100000 in
theorem aI50 : aC50.all (aIc 50) = true := by decide +kernel
set_option maxRecDepth 100000 in
theorem aI51 : aC51.all (aIc 51) = true := by decide +kernel
set_option maxRecDepth 100000 in
theorem aI52 : aC52.all (aIc 52) = true := by decide +kernel
