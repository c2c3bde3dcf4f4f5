-- 43: BluesAndGreens.sign(I)I
set_option maxRecDepth 100000 in
theorem b43_0 (d : Nat) (g : Nat × Nat × Nat) (I : Nat → Nat → Int32) (J : Nat → Nat → Int64) (sl : Nat) (rd rl : Nat) (a1 : Int32) : aE d 43 0 [.ref 6, .int a1] [] (g, I, J, aP1 sl rd rl) = (aBi (aF d 44 [.ref 7, .int a1] (g, I, J, aP1 sl rd rl)) (fun x0 t0 => aE d 43 8 [.ref 6, .int a1] [.int x0] t0)) := (aBk [8] 200 _ _ _ _ _ _).trans rfl
-- 179: BluesAndGreensModel.sign(I)I
set_option maxRecDepth 100000 in
theorem b179_0 (d : Nat) (g : Nat × Nat × Nat) (I : Nat → Nat → Int32) (J : Nat → Nat → Int64) (sl : Nat) (rd rl : Nat) (a1 : Int32) : aE d 179 0 [.ref 46, .int a1, aNo] [] (g, I, J, aP1 sl rd rl) = (if ((I 46 10) + 4) ≤ 80 then aE d 179 20 [.ref 46, .int a1, .int 3] [] (g, (aU I 46 13 0), J, aP1 sl rd rl) else some (some (some (.int (-1))), (g, (aU I 46 13 0), J, aP1 sl rd rl))) := (aBk [20] 200 _ _ _ _ _ _).trans rfl
-- 45: BluesAndGreens.end(I)Z
set_option maxRecDepth 100000 in
theorem b45_0 (d : Nat) (g : Nat × Nat × Nat) (I : Nat → Nat → Int32) (J : Nat → Nat → Int64) (sl : Nat) (rd rl : Nat) (a1 : Int32) : aE d 45 0 [.ref 6, .int a1] [] (g, I, J, aP1 sl rd rl) = (aBi (aF d 42 [.ref 7, .int a1] (g, I, J, aP1 sl rd rl)) (fun x0 t0 => aE d 45 8 [.ref 6, .int a1] [.int x0] t0)) := (aBk [8] 200 _ _ _ _ _ _).trans rfl
-- 180: BluesAndGreensModel.end(I)Z
set_option maxRecDepth 100000 in
theorem b180_0 (d : Nat) (g : Nat × Nat × Nat) (I : Nat → Nat → Int32) (J : Nat → Nat → Int64) (sl : Nat) (rd rl : Nat) (a1 : Int32) : aE d 180 0 [.ref 46, .int a1] [] (g, I, J, aP1 sl rd rl) = (aBi (aF d 181 [.int a1, .int 0, .int (I 46 10)] (g, (aU I 46 13 0), J, aP1 sl rd rl)) (fun x0 t0 => aE d 180 14 [.ref 46, .int a1] [.int x0] t0)) := (aBk [14] 200 _ _ _ _ _ _).trans rfl
-- 46: BluesAndGreens.drivers()I
set_option maxRecDepth 100000 in
theorem b46_0 (d : Nat) (g : Nat × Nat × Nat) (I : Nat → Nat → Int32) (J : Nat → Nat → Int64) (sl : Nat) (rd rl : Nat) : aE d 46 0 [.ref 6, aNo] [] (g, I, J, aP1 sl rd rl) = (aBi (aF d 47 [.ref 9, .int 100, .int 48, .ref 14, .int (I 14 0)] (g, I, J, aP1 sl rd rl)) (fun x0 t0 => aE d 46 22 [.ref 6, aNo] [.int x0] t0)) := (aBk [22, 31, 48, 65] 200 _ _ _ _ _ _).trans rfl
-- 182: BluesAndGreensModel.drivers()I
set_option maxRecDepth 100000 in
theorem b182_0 (d : Nat) (g : Nat × Nat × Nat) (I : Nat → Nat → Int32) (J : Nat → Nat → Int64) (sl : Nat) (rd rl : Nat) : aE d 182 0 [.ref 46, aNo, aNo, aNo] [] (g, I, J, aP1 sl rd rl) = (aBv (aF d 183 [.ref 46, .int 48] (g, (aU I 46 13 0), J, aP1 sl rd rl)) (fun t0 => aE d 182 11 [.ref 46, aNo, aNo, aNo] [] t0)) := (aBk [11, 24, 32, 54, 72, 89, 103, 113, 121, 133, 242] 200 _ _ _ _ _ _).trans rfl
-- 55: BluesAndGreens.quarters()I
set_option maxRecDepth 100000 in
theorem b55_0 (d : Nat) (g : Nat × Nat × Nat) (I : Nat → Nat → Int32) (J : Nat → Nat → Int64) (sl : Nat) (rd rl : Nat) : aE d 55 0 [.ref 6, aNo] [] (g, I, J, aP1 sl rd rl) = (aBi (aF d 47 [.ref 9, .int 113, .int 76, .ref 14, .int (I 14 4)] (g, I, J, aP1 sl rd rl)) (fun x0 t0 => aE d 55 22 [.ref 6, aNo] [.int x0] t0)) := (aBk [22, 31, 53] 200 _ _ _ _ _ _).trans rfl
-- 195: BluesAndGreensModel.quarters()I
set_option maxRecDepth 100000 in
theorem b195_0 (d : Nat) (g : Nat × Nat × Nat) (I : Nat → Nat → Int32) (J : Nat → Nat → Int64) (sl : Nat) (rd rl : Nat) : aE d 195 0 [.ref 46, aNo, aNo, aNo] [] (g, I, J, aP1 sl rd rl) = (aBv (aF d 183 [.ref 46, .int 76] (g, (aU I 46 13 0), J, aP1 sl rd rl)) (fun t0 => aE d 195 11 [.ref 46, aNo, aNo, aNo] [] t0)) := (aBk [11, 24, 32, 54, 64, 73, 81, 93, 139] 200 _ _ _ _ _ _).trans rfl
-- 56: BluesAndGreens.quarrels()I
set_option maxRecDepth 100000 in
theorem b56_0 (d : Nat) (g : Nat × Nat × Nat) (I : Nat → Nat → Int32) (J : Nat → Nat → Int64) (sl : Nat) (rd rl : Nat) : aE d 56 0 [.ref 6, aNo] [] (g, I, J, aP1 sl rd rl) = (aBi (aF d 47 [.ref 9, .int 115, .int 44, .ref 14, .int (I 14 9)] (g, I, J, aP1 sl rd rl)) (fun x0 t0 => aE d 56 22 [.ref 6, aNo] [.int x0] t0)) := (aBk [22, 31, 53] 200 _ _ _ _ _ _).trans rfl
-- 197: BluesAndGreensModel.quarrels()I
set_option maxRecDepth 100000 in
theorem b197_0 (d : Nat) (g : Nat × Nat × Nat) (I : Nat → Nat → Int32) (J : Nat → Nat → Int64) (sl : Nat) (rd rl : Nat) : aE d 197 0 [.ref 46, aNo, aNo, aNo] [] (g, I, J, aP1 sl rd rl) = (aBv (aF d 183 [.ref 46, .int 44] (g, (aU I 46 13 0), J, aP1 sl rd rl)) (fun t0 => aE d 197 11 [.ref 46, aNo, aNo, aNo] [] t0)) := (aBk [11, 24, 32, 54, 59, 81, 97, 105, 117, 151, 189] 200 _ _ _ _ _ _).trans rfl
-- 57: BluesAndGreens.rule()I
set_option maxRecDepth 100000 in
theorem b57_0 (d : Nat) (g : Nat × Nat × Nat) (I : Nat → Nat → Int32) (J : Nat → Nat → Int64) (sl : Nat) (rd rl : Nat) : aE d 57 0 [.ref 6, aNo] [] (g, I, J, aP1 sl rd rl) = (aBi (aF d 24 [.ref 6, .ref 37] (g, I, J, aP1 sl rd rl)) (fun x0 t0 => aE d 57 8 [.ref 6, aNo] [.int x0] t0)) := (aBk [8, 24] 200 _ _ _ _ _ _).trans rfl
-- 198: BluesAndGreensModel.rule()I
set_option maxRecDepth 100000 in
theorem b198_0 (d : Nat) (g : Nat × Nat × Nat) (I : Nat → Nat → Int32) (J : Nat → Nat → Int64) (sl : Nat) (rd rl : Nat) : aE d 198 0 [.ref 46, aNo, aNo] [] (g, I, J, aP1 sl rd rl) = (aBi (aF d 199 [.ref 46] (g, (aU I 46 13 0), J, aP1 sl rd rl)) (fun x0 t0 => aE d 198 14 [.ref 46, .int (I 46 10), aNo] [.int x0] t0)) := (aBk [14, 26] 200 _ _ _ _ _ _).trans rfl
-- 297: BluesAndGreensLaw.driver(LBluesAndGreens;II[J)I
set_option maxRecDepth 100000 in
theorem b297_0 (d : Nat) (g : Nat × Nat × Nat) (I : Nat → Nat → Int32) (J : Nat → Nat → Int64) (sl : Nat) (rd rl : Nat) (a1 a2 : Int32) : aE d 297 0 [.ref 6, .int a1, .int a2, .ref 67, aNo] [] (g, I, J, aP1 sl rd rl) = (aHi (aF d 169 [.ref 6, .int a1, .int a2] (g, I, J, aP1 sl rd rl)) (fun x0 t0 => aE d 297 8 [.ref 6, .int a1, .int a2, .ref 67, aNo] [.int x0, .int 0, .ref 67] t0) (fun t0 => aE d 297 15 [.ref 6, .int a1, .int a2, .ref 67, aNo] [] t0)) := (aBk [8, 15] 200 _ _ _ _ _ _).trans rfl
-- 205: BluesAndGreensModel.driver(II)I
set_option maxRecDepth 100000 in
theorem b205_0 (d : Nat) (g : Nat × Nat × Nat) (I : Nat → Nat → Int32) (J : Nat → Nat → Int64) (sl : Nat) (rd rl : Nat) (a1 a2 : Int32) : aE d 205 0 [.ref 46, .int a1, .int a2] [] (g, I, J, aP1 sl rd rl) = (aBi (aF d 206 [.ref 46, .int a1] (g, (aU I 46 13 0), J, aP1 sl rd rl)) (fun x0 t0 => aE d 205 10 [.ref 46, .int a1, .int a2] [.int x0] t0)) := (aBk [10, 19, 26] 200 _ _ _ _ _ _).trans rfl
-- 178: BluesAndGreensModel.thrown()I
set_option maxRecDepth 100000 in
theorem b178_0 (d : Nat) (g : Nat × Nat × Nat) (I : Nat → Nat → Int32) (J : Nat → Nat → Int64) (sl : Nat) (rd rl : Nat) : aE d 178 0 [.ref 46] [] (g, I, J, aP1 sl rd rl) = some (some (some (.int (I 46 13))), (g, I, J, aP1 sl rd rl)) := (aBk [] 200 _ _ _ _ _ _).trans rfl
-- 298: BluesAndGreensLaw.strength(LBluesAndGreens;I[J)I
set_option maxRecDepth 100000 in
theorem b298_0 (d : Nat) (g : Nat × Nat × Nat) (I : Nat → Nat → Int32) (J : Nat → Nat → Int64) (sl : Nat) (rd rl : Nat) (a1 : Int32) : aE d 298 0 [.ref 6, .int a1, .ref 67, aNo] [] (g, I, J, aP1 sl rd rl) = (aHi (aF d 170 [.ref 6, .int a1] (g, I, J, aP1 sl rd rl)) (fun x0 t0 => aE d 298 7 [.ref 6, .int a1, .ref 67, aNo] [.int x0, .int 0, .ref 67] t0) (fun t0 => aE d 298 13 [.ref 6, .int a1, .ref 67, aNo] [] t0)) := (aBk [7, 13] 200 _ _ _ _ _ _).trans rfl
-- 208: BluesAndGreensModel.strength(I)I
set_option maxRecDepth 100000 in
theorem b208_0 (d : Nat) (g : Nat × Nat × Nat) (I : Nat → Nat → Int32) (J : Nat → Nat → Int64) (sl : Nat) (rd rl : Nat) (a1 : Int32) : aE d 208 0 [.ref 46, .int a1] [] (g, I, J, aP1 sl rd rl) = (aBi (aF d 206 [.ref 46, .int a1] (g, (aU I 46 13 0), J, aP1 sl rd rl)) (fun x0 t0 => aE d 208 10 [.ref 46, .int a1] [.int x0] t0)) := (aBk [10, 22, 29] 200 _ _ _ _ _ _).trans rfl
-- 299: BluesAndGreensLaw.quarter(LBluesAndGreens;II[J)I
set_option maxRecDepth 100000 in
theorem b299_0 (d : Nat) (g : Nat × Nat × Nat) (I : Nat → Nat → Int32) (J : Nat → Nat → Int64) (sl : Nat) (rd rl : Nat) (a1 a2 : Int32) : aE d 299 0 [.ref 6, .int a1, .int a2, .ref 67, aNo] [] (g, I, J, aP1 sl rd rl) = (aHi (aF d 171 [.ref 6, .int a1, .int a2] (g, I, J, aP1 sl rd rl)) (fun x0 t0 => aE d 299 8 [.ref 6, .int a1, .int a2, .ref 67, aNo] [.int x0, .int 0, .ref 67] t0) (fun t0 => aE d 299 15 [.ref 6, .int a1, .int a2, .ref 67, aNo] [] t0)) := (aBk [8, 15] 200 _ _ _ _ _ _).trans rfl
-- 210: BluesAndGreensModel.quarter(II)I
set_option maxRecDepth 100000 in
theorem b210_0 (d : Nat) (g : Nat × Nat × Nat) (I : Nat → Nat → Int32) (J : Nat → Nat → Int64) (sl : Nat) (rd rl : Nat) (a1 a2 : Int32) : aE d 210 0 [.ref 46, .int a1, .int a2] [] (g, I, J, aP1 sl rd rl) = (aBi (aF d 181 [.int a1, .int 0, .int ((I 46 4) - 1)] (g, (aU I 46 13 0), J, aP1 sl rd rl)) (fun x0 t0 => aE d 210 16 [.ref 46, .int a1, .int a2] [.int x0] t0)) := (aBk [16, 25, 45] 200 _ _ _ _ _ _).trans rfl
-- 300: BluesAndGreensLaw.quarrel(LBluesAndGreens;II[J)I
set_option maxRecDepth 100000 in
theorem b300_0 (d : Nat) (g : Nat × Nat × Nat) (I : Nat → Nat → Int32) (J : Nat → Nat → Int64) (sl : Nat) (rd rl : Nat) (a1 a2 : Int32) : aE d 300 0 [.ref 6, .int a1, .int a2, .ref 67, aNo] [] (g, I, J, aP1 sl rd rl) = (aHi (aF d 172 [.ref 6, .int a1, .int a2] (g, I, J, aP1 sl rd rl)) (fun x0 t0 => aE d 300 8 [.ref 6, .int a1, .int a2, .ref 67, aNo] [.int x0, .int 0, .ref 67] t0) (fun t0 => aE d 300 15 [.ref 6, .int a1, .int a2, .ref 67, aNo] [] t0)) := (aBk [8, 15] 200 _ _ _ _ _ _).trans rfl
-- 211: BluesAndGreensModel.quarrel(II)I
set_option maxRecDepth 100000 in
theorem b211_0 (d : Nat) (g : Nat × Nat × Nat) (I : Nat → Nat → Int32) (J : Nat → Nat → Int64) (sl : Nat) (rd rl : Nat) (a1 a2 : Int32) : aE d 211 0 [.ref 46, .int a1, .int a2] [] (g, I, J, aP1 sl rd rl) = (aBi (aF d 181 [.int a1, .int 0, .int ((I 46 6) - 1)] (g, (aU I 46 13 0), J, aP1 sl rd rl)) (fun x0 t0 => aE d 211 16 [.ref 46, .int a1, .int a2] [.int x0] t0)) := (aBk [16, 25, 32] 200 _ _ _ _ _ _).trans rfl
-- 301: BluesAndGreensLaw.club(LBluesAndGreens;II[J)I
set_option maxRecDepth 100000 in
theorem b301_0 (d : Nat) (g : Nat × Nat × Nat) (I : Nat → Nat → Int32) (J : Nat → Nat → Int64) (sl : Nat) (rd rl : Nat) (a1 a2 : Int32) : aE d 301 0 [.ref 6, .int a1, .int a2, .ref 67, aNo] [] (g, I, J, aP1 sl rd rl) = (aHi (aF d 173 [.ref 6, .int a1, .int a2] (g, I, J, aP1 sl rd rl)) (fun x0 t0 => aE d 301 8 [.ref 6, .int a1, .int a2, .ref 67, aNo] [.int x0, .int 0, .ref 67] t0) (fun t0 => aE d 301 15 [.ref 6, .int a1, .int a2, .ref 67, aNo] [] t0)) := (aBk [8, 15] 200 _ _ _ _ _ _).trans rfl
-- 212: BluesAndGreensModel.club(II)I
set_option maxRecDepth 100000 in
theorem b212_0 (d : Nat) (g : Nat × Nat × Nat) (I : Nat → Nat → Int32) (J : Nat → Nat → Int64) (sl : Nat) (rd rl : Nat) (a1 a2 : Int32) : aE d 212 0 [.ref 46, .int a1, .int a2] [] (g, I, J, aP1 sl rd rl) = (aBi (aF d 213 [.int a1] (g, (aU I 46 13 0), J, aP1 sl rd rl)) (fun x0 t0 => aE d 212 9 [.ref 46, .int a1, .int a2] [.int x0] t0)) := (aBk [9, 18, 25, 56, 69, 78, 81] 200 _ _ _ _ _ _).trans rfl
-- 59: BluesAndGreens.limit(I)I
set_option maxRecDepth 100000 in
theorem b59_0 (d : Nat) (g : Nat × Nat × Nat) (I : Nat → Nat → Int32) (J : Nat → Nat → Int64) (sl : Nat) (rd rl : Nat) (a1 : Int32) : aE d 59 0 [.ref 6, .int a1, aNo] [] (g, I, J, aP1 sl rd rl) = (if a1 < 1 then some (some (some (.int (-1))), (g, I, J, aP1 sl rd rl)) else (if a1 ≤ 99 then some (some (some (.int (I 14 11))), (g, (aU I 14 11 a1), J, aP1 sl rd rl)) else some (some (some (.int (-1))), (g, I, J, aP1 sl rd rl)))) := (aBk [] 200 _ _ _ _ _ _).trans rfl
-- 218: BluesAndGreensModel.limit(I)I
set_option maxRecDepth 100000 in
theorem b218_0 (d : Nat) (g : Nat × Nat × Nat) (I : Nat → Nat → Int32) (J : Nat → Nat → Int64) (sl : Nat) (rd rl : Nat) (a1 : Int32) : aE d 218 0 [.ref 46, .int a1, aNo] [] (g, I, J, aP1 sl rd rl) = (aBi (aF d 181 [.int a1, .int 1, .int 99] (g, (aU I 46 13 0), J, aP1 sl rd rl)) (fun x0 t0 => aE d 218 12 [.ref 46, .int a1, aNo] [.int x0] t0)) := (aBk [12] 200 _ _ _ _ _ _).trans rfl
-- 60: BluesAndGreens.sheet(IIII)I
set_option maxRecDepth 100000 in
theorem b60_0 (d : Nat) (g : Nat × Nat × Nat) (I : Nat → Nat → Int32) (J : Nat → Nat → Int64) (sl : Nat) (rd rl : Nat) (a1 a2 a3 a4 : Int32) : aE d 60 0 [.ref 6, .int a1, .int a2, .int a3, .int a4, aNo, aNo, aNo, aNo] [] (g, I, J, aP1 sl rd rl) = (if a1 < 0 then some (some (some (.int (-1))), (g, I, J, aP1 sl rd rl)) else (if 3 < a1 then some (some (some (.int (-1))), (g, I, J, aP1 sl rd rl)) else (if a2 ≤ 8 then (if 3 ≤ a1 then (if a1 = 3 then aE d 60 47 [.ref 6, .int a1, .int a2, .int a3, .int a4, .int 0, .int 0, .int 0, aNo] [] (g, I, J, aP1 sl rd rl) else aE d 60 47 [.ref 6, .int a1, .int a2, .int a3, .int a4, .int a2, .int 0, .int 0, aNo] [] (g, I, J, aP1 sl rd rl)) else (if 0 ≤ a2 then (if a1 = 3 then aE d 60 47 [.ref 6, .int a1, .int a2, .int a3, .int a4, .int 0, .int 0, .int 0, aNo] [] (g, I, J, aP1 sl rd rl) else aE d 60 47 [.ref 6, .int a1, .int a2, .int a3, .int a4, .int a2, .int 0, .int 0, aNo] [] (g, I, J, aP1 sl rd rl)) else some (some (some (.int (-2))), (g, I, J, aP1 sl rd rl)))) else some (some (some (.int (-1))), (g, I, J, aP1 sl rd rl))))) := (aBk [47, 77] 200 _ _ _ _ _ _).trans rfl
-- 219: BluesAndGreensModel.sheet(IIII)I
set_option maxRecDepth 100000 in
theorem b219_0 (d : Nat) (g : Nat × Nat × Nat) (I : Nat → Nat → Int32) (J : Nat → Nat → Int64) (sl : Nat) (rd rl : Nat) (a1 a2 a3 a4 : Int32) : aE d 219 0 [.ref 46, .int a1, .int a2, .int a3, .int a4, aNo, aNo, aNo, aNo] [] (g, I, J, aP1 sl rd rl) = (aBi (aF d 181 [.int a1, .int 0, .int 3] (g, (aU I 46 13 0), J, aP1 sl rd rl)) (fun x0 t0 => aE d 219 11 [.ref 46, .int a1, .int a2, .int a3, .int a4, aNo, aNo, aNo, aNo] [.int x0] t0)) := (aBk [11, 20, 34, 43, 75, 94, 109, 147] 200 _ _ _ _ _ _).trans rfl
-- 62: BluesAndGreens.race(I)I
set_option maxRecDepth 100000 in
theorem b62_0 (d : Nat) (g : Nat × Nat × Nat) (I : Nat → Nat → Int32) (J : Nat → Nat → Int64) (sl : Nat) (rd rl : Nat) (a1 : Int32) : aE d 62 0 [.ref 6, .int a1, aNo] [] (g, I, J, aP1 sl rd rl) = (if (I 14 0) = 0 then some (some (some (.int (-2))), (g, I, J, aP1 sl rd rl)) else (if a1 < 0 then some (some (some (.int (-1))), (g, I, J, aP1 sl rd rl)) else (if a1 ≤ 60 then (aBv (aF d 63 [.ref 25, .ref 23] (g, I, J, aP1 sl rd rl)) (fun t0 => aE d 62 36 [.ref 6, .int a1, aNo] [] t0)) else some (some (some (.int (-1))), (g, I, J, aP1 sl rd rl))))) := (aBk [36, 56, 72, 95] 200 _ _ _ _ _ _).trans rfl
-- 220: BluesAndGreensModel.race(I)I
set_option maxRecDepth 100000 in
theorem b220_0 (d : Nat) (g : Nat × Nat × Nat) (I : Nat → Nat → Int32) (J : Nat → Nat → Int64) (sl : Nat) (rd rl : Nat) (a1 : Int32) : aE d 220 0 [.ref 46, .int a1] [] (g, I, J, aP1 sl rd rl) = (if (I 46 1) = 0 then some (some (some (.int (-2))), (g, (aU I 46 13 0), J, aP1 sl rd rl)) else (aBi (aF d 181 [.int a1, .int 0, .int 60] (g, (aU I 46 13 0), J, aP1 sl rd rl)) (fun x0 t0 => aE d 220 22 [.ref 46, .int a1] [.int x0] t0))) := (aBk [22, 39, 48, 62, 71] 200 _ _ _ _ _ _).trans rfl
-- 86: BluesAndGreens.buy(II)I
set_option maxRecDepth 100000 in
theorem b86_0 (d : Nat) (g : Nat × Nat × Nat) (I : Nat → Nat → Int32) (J : Nat → Nat → Int64) (sl : Nat) (rd rl : Nat) (a1 a2 : Int32) : aE d 86 0 [.ref 6, .int a1, .int a2] [] (g, I, J, aP1 sl rd rl) = (aBv (aF d 63 [.ref 25, .ref 23] (g, I, J, aP1 sl rd rl)) (fun t0 => aE d 86 11 [.ref 6, .int a1, .int a2] [] t0)) := (aBk [11, 25, 28] 200 _ _ _ _ _ _).trans rfl
-- 230: BluesAndGreensModel.buy(II)I
set_option maxRecDepth 100000 in
theorem b230_0 (d : Nat) (g : Nat × Nat × Nat) (I : Nat → Nat → Int32) (J : Nat → Nat → Int64) (sl : Nat) (rd rl : Nat) (a1 a2 : Int32) : aE d 230 0 [.ref 46, .int a1, .int a2, aNo] [] (g, I, J, aP1 sl rd rl) = (aBi (aF d 231 [.ref 46, .ref 47, .int a1, .int a2] (g, (aU I 46 13 0), J, aP1 sl rd rl)) (fun x0 t0 => aE d 230 15 [.ref 46, .int a1, .int a2, aNo] [.int x0] t0)) := (aBk [15, 30, 40] 200 _ _ _ _ _ _).trans rfl
-- 90: BluesAndGreens.curse(II)I
set_option maxRecDepth 100000 in
theorem b90_0 (d : Nat) (g : Nat × Nat × Nat) (I : Nat → Nat → Int32) (J : Nat → Nat → Int64) (sl : Nat) (rd rl : Nat) (a1 a2 : Int32) : aE d 90 0 [.ref 6, .int a1, .int a2] [] (g, I, J, aP1 sl rd rl) = (aBv (aF d 63 [.ref 25, .ref 23] (g, I, J, aP1 sl rd rl)) (fun t0 => aE d 90 11 [.ref 6, .int a1, .int a2] [] t0)) := (aBk [11, 25, 28] 200 _ _ _ _ _ _).trans rfl
-- 233: BluesAndGreensModel.curse(II)I
set_option maxRecDepth 100000 in
theorem b233_0 (d : Nat) (g : Nat × Nat × Nat) (I : Nat → Nat → Int32) (J : Nat → Nat → Int64) (sl : Nat) (rd rl : Nat) (a1 a2 : Int32) : aE d 233 0 [.ref 46, .int a1, .int a2, aNo] [] (g, I, J, aP1 sl rd rl) = (aBi (aF d 234 [.ref 46, .int a1, .int a2] (g, (aU I 46 13 0), J, aP1 sl rd rl)) (fun x0 t0 => aE d 233 11 [.ref 46, .int a1, .int a2, aNo] [.int x0] t0)) := (aBk [11, 26, 35] 200 _ _ _ _ _ _).trans rfl
-- 94: BluesAndGreens.dig(I)I
set_option maxRecDepth 100000 in
theorem b94_0 (d : Nat) (g : Nat × Nat × Nat) (I : Nat → Nat → Int32) (J : Nat → Nat → Int64) (sl : Nat) (rd rl : Nat) (a1 : Int32) : aE d 94 0 [.ref 6, .int a1] [] (g, I, J, aP1 sl rd rl) = (aBv (aF d 63 [.ref 25, .ref 23] (g, I, J, aP1 sl rd rl)) (fun t0 => aE d 94 11 [.ref 6, .int a1] [] t0)) := (aBk [11, 24, 27] 200 _ _ _ _ _ _).trans rfl
-- 236: BluesAndGreensModel.dig(I)I
set_option maxRecDepth 100000 in
theorem b236_0 (d : Nat) (g : Nat × Nat × Nat) (I : Nat → Nat → Int32) (J : Nat → Nat → Int64) (sl : Nat) (rd rl : Nat) (a1 : Int32) : aE d 236 0 [.ref 46, .int a1, aNo] [] (g, I, J, aP1 sl rd rl) = (aBi (aF d 237 [.ref 46, .int a1] (g, (aU I 46 13 0), J, aP1 sl rd rl)) (fun x0 t0 => aE d 236 10 [.ref 46, .int a1, aNo] [.int x0] t0)) := (aBk [10, 25, 30] 200 _ _ _ _ _ _).trans rfl
-- 96: BluesAndGreens.grain(II)I
set_option maxRecDepth 100000 in
theorem b96_0 (d : Nat) (g : Nat × Nat × Nat) (I : Nat → Nat → Int32) (J : Nat → Nat → Int64) (sl : Nat) (rd rl : Nat) (a1 a2 : Int32) : aE d 96 0 [.ref 6, .int a1, .int a2] [] (g, I, J, aP1 sl rd rl) = (aBv (aF d 63 [.ref 25, .ref 23] (g, I, J, aP1 sl rd rl)) (fun t0 => aE d 96 11 [.ref 6, .int a1, .int a2] [] t0)) := (aBk [11, 21, 24] 200 _ _ _ _ _ _).trans rfl
-- 239: BluesAndGreensModel.grain(II)I
set_option maxRecDepth 100000 in
theorem b239_0 (d : Nat) (g : Nat × Nat × Nat) (I : Nat → Nat → Int32) (J : Nat → Nat → Int64) (sl : Nat) (rd rl : Nat) (a1 a2 : Int32) : aE d 239 0 [.ref 46, .int a1, .int a2] [] (g, I, J, aP1 sl rd rl) = (aBi (aF d 213 [.int a1] (g, (aU I 46 13 0), J, aP1 sl rd rl)) (fun x0 t0 => aE d 239 9 [.ref 46, .int a1, .int a2] [.int x0] t0)) := (aBk [9, 19, 32, 42] 200 _ _ _ _ _ _).trans rfl
-- 98: BluesAndGreens.show(II)I
set_option maxRecDepth 100000 in
theorem b98_0 (d : Nat) (g : Nat × Nat × Nat) (I : Nat → Nat → Int32) (J : Nat → Nat → Int64) (sl : Nat) (rd rl : Nat) (a1 a2 : Int32) : aE d 98 0 [.ref 6, .int a1, .int a2] [] (g, I, J, aP1 sl rd rl) = (aBv (aF d 63 [.ref 25, .ref 23] (g, I, J, aP1 sl rd rl)) (fun t0 => aE d 98 11 [.ref 6, .int a1, .int a2] [] t0)) := (aBk [11, 25, 28] 200 _ _ _ _ _ _).trans rfl
-- 240: BluesAndGreensModel.show(II)I
set_option maxRecDepth 100000 in
theorem b240_0 (d : Nat) (g : Nat × Nat × Nat) (I : Nat → Nat → Int32) (J : Nat → Nat → Int64) (sl : Nat) (rd rl : Nat) (a1 a2 : Int32) : aE d 240 0 [.ref 46, .int a1, .int a2, aNo] [] (g, I, J, aP1 sl rd rl) = (aBi (aF d 241 [.ref 46, .int a1, .int a2] (g, (aU I 46 13 0), J, aP1 sl rd rl)) (fun x0 t0 => aE d 240 11 [.ref 46, .int a1, .int a2, aNo] [.int x0] t0)) := (aBk [11, 26, 36, 44] 200 _ _ _ _ _ _).trans rfl
-- 102: BluesAndGreens.season()I
set_option maxRecDepth 100000 in
theorem b102_0 (d : Nat) (g : Nat × Nat × Nat) (I : Nat → Nat → Int32) (J : Nat → Nat → Int64) (sl : Nat) (rd rl : Nat) : aE d 102 0 [.ref 6, aNo, aNo] [] (g, I, J, aP1 sl rd rl) = (aBi (aF d 103 [.ref 9, .ref 45] (g, I, J, aP1 sl rd rl)) (fun x0 t0 => aE d 102 11 [.ref 6, aNo, aNo] [.int x0] t0)) := (aBk [11, 20, 38, 40, 50, 77, 102, 113] 200 _ _ _ _ _ _).trans rfl
-- 243: BluesAndGreensModel.season()I
set_option maxRecDepth 100000 in
theorem b243_0 (d : Nat) (g : Nat × Nat × Nat) (I : Nat → Nat → Int32) (J : Nat → Nat → Int64) (sl : Nat) (rd rl : Nat) : aE d 243 0 [.ref 46, aNo, aNo] [] (g, I, J, aP1 sl rd rl) = (aBv (aF d 183 [.ref 46, .int 60] (g, (aU I 46 13 0), J, aP1 sl rd rl)) (fun t0 => aE d 243 11 [.ref 46, aNo, aNo] [] t0)) := (aBk [11, 13, 17, 38, 48, 70, 72, 109, 130, 149, 158, 169] 200 _ _ _ _ _ _).trans rfl
-- 105: BluesAndGreens.undo()I
set_option maxRecDepth 100000 in
theorem b105_0 (d : Nat) (g : Nat × Nat × Nat) (I : Nat → Nat → Int32) (J : Nat → Nat → Int64) (sl : Nat) (rd rl : Nat) : aE d 105 0 [.ref 6] [] (g, I, J, aP1 sl rd rl) = (aBi (aF d 106 [.ref 29, .ref 23] (g, I, J, aP1 sl rd rl)) (fun x0 t0 => aE d 105 11 [.ref 6] [.int x0] t0)) := (aBk [11] 200 _ _ _ _ _ _).trans rfl
-- 246: BluesAndGreensModel.undo()I
set_option maxRecDepth 100000 in
theorem b246_0 (d : Nat) (g : Nat × Nat × Nat) (I : Nat → Nat → Int32) (J : Nat → Nat → Int64) (sl : Nat) (rd rl : Nat) : aE d 246 0 [.ref 46, aNo] [] (g, I, J, aP1 sl rd rl) = (if (I 46 26) = 0 then some (some (some (.int (-1))), (g, (aU I 46 13 0), J, aP1 sl rd rl)) else aE d 246 26 [.ref 46, .int 0] [] (g, (aU (aU I 46 13 0) 46 26 ((I 46 26) - 1)), J, aP1 sl rd rl)) := (aBk [26] 200 _ _ _ _ _ _).trans rfl
-- 108: BluesAndGreens.order()I
set_option maxRecDepth 100000 in
theorem b108_0 (d : Nat) (g : Nat × Nat × Nat) (I : Nat → Nat → Int32) (J : Nat → Nat → Int64) (sl : Nat) (rd rl : Nat) : aE d 108 0 [.ref 6, aNo, aNo, aNo] [] (g, I, J, aP1 sl rd rl) = (if (I 14 0) = 0 then some (some (some (.int (-2))), (g, I, J, aP1 sl rd rl)) else (aBv (aF d 84 [.ref 12] (g, I, J, aP1 sl rd rl)) (fun t0 => aE d 108 20 [.ref 6, aNo, aNo, aNo] [] t0))) := (aBk [20, 24, 51, 61, 89] 200 _ _ _ _ _ _).trans rfl
-- 247: BluesAndGreensModel.order()I
set_option maxRecDepth 100000 in
theorem b247_0 (d : Nat) (g : Nat × Nat × Nat) (I : Nat → Nat → Int32) (J : Nat → Nat → Int64) (sl : Nat) (rd rl : Nat) : aE d 247 0 [.ref 46, aNo, aNo, aNo, aNo] [] (g, I, J, aP1 sl rd rl) = (if (I 46 1) = 0 then some (some (some (.int (-2))), (g, (aU I 46 13 0), J, aP1 sl rd rl)) else aE d 247 24 [.ref 46, .int 0, .int 0, aNo, aNo] [] (g, (aU (aU I 46 13 0) 46 12 0), J, aP1 sl rd rl)) := (aBk [24, 37, 52, 70, 79, 97] 200 _ _ _ _ _ _).trans rfl
-- 109: BluesAndGreens.ahead(I)I
set_option maxRecDepth 100000 in
theorem b109_0 (d : Nat) (g : Nat × Nat × Nat) (I : Nat → Nat → Int32) (J : Nat → Nat → Int64) (sl : Nat) (rd rl : Nat) (a1 : Int32) : aE d 109 0 [.ref 6, .int a1, aNo] [] (g, I, J, aP1 sl rd rl) = (if (I 14 0) = 0 then some (some (some (.int (-2))), (g, I, J, aP1 sl rd rl)) else (if a1 < 0 then some (some (some (.int (-1))), (g, I, J, aP1 sl rd rl)) else (if a1 ≤ 99 then (aBv (aF d 63 [.ref 27, .ref 23] (g, I, J, aP1 sl rd rl)) (fun t0 => aE d 109 36 [.ref 6, .int a1, aNo] [] t0)) else some (some (some (.int (-1))), (g, I, J, aP1 sl rd rl))))) := (aBk [36, 56, 88] 200 _ _ _ _ _ _).trans rfl
-- 248: BluesAndGreensModel.ahead(I)I
set_option maxRecDepth 100000 in
theorem b248_0 (d : Nat) (g : Nat × Nat × Nat) (I : Nat → Nat → Int32) (J : Nat → Nat → Int64) (sl : Nat) (rd rl : Nat) (a1 : Int32) : aE d 248 0 [.ref 46, .int a1, aNo, aNo, aNo, aNo, aNo, aNo, aNo, aNo] [] (g, I, J, aP1 sl rd rl) = (if (I 46 1) = 0 then some (some (some (.int (-2))), (g, (aU I 46 13 0), J, aP1 sl rd rl)) else (aBi (aF d 181 [.int a1, .int 0, .int 99] (g, (aU I 46 13 0), J, aP1 sl rd rl)) (fun x0 t0 => aE d 248 22 [.ref 46, .int a1, aNo, aNo, aNo, aNo, aNo, aNo, aNo, aNo] [.int x0] t0))) := (aBk [22, 39, 58, 78, 90, 134, 201, 208, 214] 200 _ _ _ _ _ _).trans rfl
-- 111: BluesAndGreens.joins()I
set_option maxRecDepth 100000 in
theorem b111_0 (d : Nat) (g : Nat × Nat × Nat) (I : Nat → Nat → Int32) (J : Nat → Nat → Int64) (sl : Nat) (rd rl : Nat) : aE d 111 0 [.ref 6, aNo] [] (g, I, J, aP1 sl rd rl) = (aBv (aF d 63 [.ref 27, .ref 23] (g, I, J, aP1 sl rd rl)) (fun t0 => aE d 111 11 [.ref 6, aNo] [] t0)) := (aBk [11, 13, 30, 45, 54, 58, 75] 200 _ _ _ _ _ _).trans rfl
-- 249: BluesAndGreensModel.joins()I
set_option maxRecDepth 100000 in
theorem b249_0 (d : Nat) (g : Nat × Nat × Nat) (I : Nat → Nat → Int32) (J : Nat → Nat → Int64) (sl : Nat) (rd rl : Nat) : aE d 249 0 [.ref 46, aNo] [] (g, I, J, aP1 sl rd rl) = (aBv (aF d 222 [.ref 47, .ref 60, .int 0] (g, (aU I 46 13 0), J, aP1 sl rd rl)) (fun t0 => aE d 249 17 [.ref 46, aNo] [] t0)) := (aBk [17, 19, 33, 52, 63, 83] 200 _ _ _ _ _ _).trans rfl
-- 112: BluesAndGreens.bribe(I)I
set_option maxRecDepth 100000 in
theorem b112_0 (d : Nat) (g : Nat × Nat × Nat) (I : Nat → Nat → Int32) (J : Nat → Nat → Int64) (sl : Nat) (rd rl : Nat) (a1 : Int32) : aE d 112 0 [.ref 6, .int a1, aNo, aNo, aNo] [] (g, I, J, aP1 sl rd rl) = (aBi (aF d 75 [.int a1] (g, I, J, aP1 sl rd rl)) (fun x0 t0 => aE d 112 4 [.ref 6, .int a1, aNo, aNo, aNo] [.int x0] t0)) := (aBk [4, 18, 31, 37, 59, 110, 122, 150] 200 _ _ _ _ _ _).trans rfl
-- 250: BluesAndGreensModel.bribe(I)I
set_option maxRecDepth 100000 in
theorem b250_0 (d : Nat) (g : Nat × Nat × Nat) (I : Nat → Nat → Int32) (J : Nat → Nat → Int64) (sl : Nat) (rd rl : Nat) (a1 : Int32) : aE d 250 0 [.ref 46, .int a1, aNo, aNo] [] (g, I, J, aP1 sl rd rl) = (aBi (aF d 213 [.int a1] (g, (aU I 46 13 0), J, aP1 sl rd rl)) (fun x0 t0 => aE d 250 9 [.ref 46, .int a1, aNo, aNo] [.int x0] t0)) := (aBk [9, 35, 40, 58, 96, 106, 115, 145] 200 _ _ _ _ _ _).trans rfl
-- 114: BluesAndGreens.lead(I)I
set_option maxRecDepth 100000 in
theorem b114_0 (d : Nat) (g : Nat × Nat × Nat) (I : Nat → Nat → Int32) (J : Nat → Nat → Int64) (sl : Nat) (rd rl : Nat) (a1 : Int32) : aE d 114 0 [.ref 6, .int a1, aNo, aNo, aNo, aNo] [] (g, I, J, aP1 sl rd rl) = (aBi (aF d 75 [.int a1] (g, I, J, aP1 sl rd rl)) (fun x0 t0 => aE d 114 4 [.ref 6, .int a1, aNo, aNo, aNo, aNo] [.int x0] t0)) := (aBk [4, 17, 30, 45, 57, 89] 200 _ _ _ _ _ _).trans rfl
-- 252: BluesAndGreensModel.lead(I)I
set_option maxRecDepth 100000 in
theorem b252_0 (d : Nat) (g : Nat × Nat × Nat) (I : Nat → Nat → Int32) (J : Nat → Nat → Int64) (sl : Nat) (rd rl : Nat) (a1 : Int32) : aE d 252 0 [.ref 46, .int a1, aNo, aNo, aNo, aNo] [] (g, I, J, aP1 sl rd rl) = (aBi (aF d 213 [.int a1] (g, (aU I 46 13 0), J, aP1 sl rd rl)) (fun x0 t0 => aE d 252 9 [.ref 46, .int a1, aNo, aNo, aNo, aNo] [.int x0] t0)) := (aBk [9, 28, 42, 68, 77, 95, 98, 113, 126, 141, 171, 175] 200 _ _ _ _ _ _).trans rfl
-- 116: BluesAndGreens.stable(I)I
set_option maxRecDepth 100000 in
theorem b116_0 (d : Nat) (g : Nat × Nat × Nat) (I : Nat → Nat → Int32) (J : Nat → Nat → Int64) (sl : Nat) (rd rl : Nat) (a1 : Int32) : aE d 116 0 [.ref 6, .int a1, aNo, aNo, aNo, aNo, aNo, aNo, aNo, aNo] [] (g, I, J, aP1 sl rd rl) = (aBi (aF d 75 [.int a1] (g, I, J, aP1 sl rd rl)) (fun x0 t0 => aE d 116 4 [.ref 6, .int a1, aNo, aNo, aNo, aNo, aNo, aNo, aNo, aNo] [.int x0] t0)) := (aBk [4, 23, 35, 64, 75, 120, 152] 200 _ _ _ _ _ _).trans rfl
-- 254: BluesAndGreensModel.stable(I)I
set_option maxRecDepth 100000 in
theorem b254_0 (d : Nat) (g : Nat × Nat × Nat) (I : Nat → Nat → Int32) (J : Nat → Nat → Int64) (sl : Nat) (rd rl : Nat) (a1 : Int32) : aE d 254 0 [.ref 46, .int a1, aNo, aNo, aNo, aNo] [] (g, I, J, aP1 sl rd rl) = (aBi (aF d 213 [.int a1] (g, (aU I 46 13 0), J, aP1 sl rd rl)) (fun x0 t0 => aE d 254 9 [.ref 46, .int a1, aNo, aNo, aNo, aNo] [.int x0] t0)) := (aBk [9, 25, 31, 56, 78, 87, 110, 119, 142, 152, 156, 165] 200 _ _ _ _ _ _).trans rfl
-- 121: BluesAndGreens.apart()I
set_option maxRecDepth 100000 in
theorem b121_0 (d : Nat) (g : Nat × Nat × Nat) (I : Nat → Nat → Int32) (J : Nat → Nat → Int64) (sl : Nat) (rd rl : Nat) : aE d 121 0 [.ref 6, aNo, aNo] [] (g, I, J, aP1 sl rd rl) = (aBi (aF d 122 [.ref 23, .ref 14] (g, I, J, aP1 sl rd rl)) (fun x0 t0 => aE d 121 11 [.ref 6, aNo, aNo] [.int x0] t0)) := (aBk [11, 14, 34, 49, 58, 62] 200 _ _ _ _ _ _).trans rfl
-- 256: BluesAndGreensModel.apart()I
set_option maxRecDepth 100000 in
theorem b256_0 (d : Nat) (g : Nat × Nat × Nat) (I : Nat → Nat → Int32) (J : Nat → Nat → Int64) (sl : Nat) (rd rl : Nat) : aE d 256 0 [.ref 46, aNo, aNo] [] (g, I, J, aP1 sl rd rl) = (aBi (aF d 257 [.ref 46] (g, (aU I 46 13 0), J, aP1 sl rd rl)) (fun x0 t0 => aE d 256 9 [.ref 46, aNo, aNo] [.int x0] t0)) := (aBk [9, 12, 31, 53, 64] 200 _ _ _ _ _ _).trans rfl
-- 124: BluesAndGreens.calm()I
set_option maxRecDepth 100000 in
theorem b124_0 (d : Nat) (g : Nat × Nat × Nat) (I : Nat → Nat → Int32) (J : Nat → Nat → Int64) (sl : Nat) (rd rl : Nat) : aE d 124 0 [.ref 6, aNo, aNo, aNo, aNo, aNo, aNo, aNo] [] (g, I, J, aP1 sl rd rl) = (aBi (aF d 122 [.ref 23, .ref 14] (g, I, J, aP1 sl rd rl)) (fun x0 t0 => aE d 124 11 [.ref 6, aNo, aNo, aNo, aNo, aNo, aNo, aNo] [.int x0] t0)) := (aBk [11, 22, 48, 56, 65, 119] 200 _ _ _ _ _ _).trans rfl
-- 259: BluesAndGreensModel.calm()I
set_option maxRecDepth 100000 in
theorem b259_0 (d : Nat) (g : Nat × Nat × Nat) (I : Nat → Nat → Int32) (J : Nat → Nat → Int64) (sl : Nat) (rd rl : Nat) : aE d 259 0 [.ref 46, aNo, aNo, aNo, aNo, aNo, aNo, aNo] [] (g, I, J, aP1 sl rd rl) = (aBi (aF d 257 [.ref 46] (g, (aU I 46 13 0), J, aP1 sl rd rl)) (fun x0 t0 => aE d 259 9 [.ref 46, aNo, aNo, aNo, aNo, aNo, aNo, aNo] [.int x0] t0)) := (aBk [9, 20, 45, 107, 117, 134, 141] 200 _ _ _ _ _ _).trans rfl
-- 126: BluesAndGreens.risky()I
set_option maxRecDepth 100000 in
theorem b126_0 (d : Nat) (g : Nat × Nat × Nat) (I : Nat → Nat → Int32) (J : Nat → Nat → Int64) (sl : Nat) (rd rl : Nat) : aE d 126 0 [.ref 6, aNo, aNo, aNo] [] (g, I, J, aP1 sl rd rl) = (aBi (aF d 122 [.ref 23, .ref 14] (g, I, J, aP1 sl rd rl)) (fun x0 t0 => aE d 126 11 [.ref 6, aNo, aNo, aNo] [.int x0] t0)) := (aBk [11, 16, 36, 57] 200 _ _ _ _ _ _).trans rfl
-- 260: BluesAndGreensModel.risky()I
set_option maxRecDepth 100000 in
theorem b260_0 (d : Nat) (g : Nat × Nat × Nat) (I : Nat → Nat → Int32) (J : Nat → Nat → Int64) (sl : Nat) (rd rl : Nat) : aE d 260 0 [.ref 46, aNo, aNo, aNo] [] (g, I, J, aP1 sl rd rl) = (aBi (aF d 257 [.ref 46] (g, (aU I 46 13 0), J, aP1 sl rd rl)) (fun x0 t0 => aE d 260 9 [.ref 46, aNo, aNo, aNo] [.int x0] t0)) := (aBk [9, 14, 34, 61] 200 _ _ _ _ _ _).trans rfl
-- 127: BluesAndGreens.worst()I
set_option maxRecDepth 100000 in
theorem b127_0 (d : Nat) (g : Nat × Nat × Nat) (I : Nat → Nat → Int32) (J : Nat → Nat → Int64) (sl : Nat) (rd rl : Nat) : aE d 127 0 [.ref 6, aNo, aNo, aNo, aNo, aNo, aNo, aNo] [] (g, I, J, aP1 sl rd rl) = (aBi (aF d 122 [.ref 23, .ref 14] (g, I, J, aP1 sl rd rl)) (fun x0 t0 => aE d 127 11 [.ref 6, aNo, aNo, aNo, aNo, aNo, aNo, aNo] [.int x0] t0)) := (aBk [11, 22, 37, 49, 60, 115] 200 _ _ _ _ _ _).trans rfl
-- 261: BluesAndGreensModel.worst()I
set_option maxRecDepth 100000 in
theorem b261_0 (d : Nat) (g : Nat × Nat × Nat) (I : Nat → Nat → Int32) (J : Nat → Nat → Int64) (sl : Nat) (rd rl : Nat) : aE d 261 0 [.ref 46, aNo, aNo, aNo] [] (g, I, J, aP1 sl rd rl) = aE d 261 11 [.ref 46, .int (-1), .int (-1), .int 0] [] (g, (aU I 46 13 0), J, aP1 sl rd rl) := (aBk [11, 38, 44, 62, 68, 97, 104, 116] 200 _ _ _ _ _ _).trans rfl
-- 129: BluesAndGreens.riots(I)I
set_option maxRecDepth 100000 in
theorem b129_0 (d : Nat) (g : Nat × Nat × Nat) (I : Nat → Nat → Int32) (J : Nat → Nat → Int64) (sl : Nat) (rd rl : Nat) (a1 : Int32) : aE d 129 0 [.ref 6, .int a1, aNo] [] (g, I, J, aP1 sl rd rl) = (aBi (aF d 130 [.ref 14, .int a1] (g, I, J, aP1 sl rd rl)) (fun x0 t0 => aE d 129 8 [.ref 6, .int a1, aNo] [.int x0] t0)) := (aBk [8, 22, 31, 40, 44] 200 _ _ _ _ _ _).trans rfl
-- 263: BluesAndGreensModel.riots(I)I
set_option maxRecDepth 100000 in
theorem b263_0 (d : Nat) (g : Nat × Nat × Nat) (I : Nat → Nat → Int32) (J : Nat → Nat → Int64) (sl : Nat) (rd rl : Nat) (a1 : Int32) : aE d 263 0 [.ref 46, .int a1, aNo] [] (g, I, J, aP1 sl rd rl) = (aBi (aF d 264 [.ref 46, .int a1] (g, (aU I 46 13 0), J, aP1 sl rd rl)) (fun x0 t0 => aE d 263 10 [.ref 46, .int a1, aNo] [.int x0] t0)) := (aBk [10, 21, 32, 36, 42, 46] 200 _ _ _ _ _ _).trans rfl
-- 136: BluesAndGreens.spark()I
set_option maxRecDepth 100000 in
theorem b136_0 (d : Nat) (g : Nat × Nat × Nat) (I : Nat → Nat → Int32) (J : Nat → Nat → Int64) (sl : Nat) (rd rl : Nat) : aE d 136 0 [.ref 6, aNo, aNo, aNo] [] (g, I, J, aP1 sl rd rl) = (aBi (aF d 131 [.ref 14] (g, I, J, aP1 sl rd rl)) (fun x0 t0 => aE d 136 7 [.ref 6, aNo, aNo, aNo] [.int x0] t0)) := (aBk [7, 12, 21, 25, 37, 58, 62] 200 _ _ _ _ _ _).trans rfl
-- 266: BluesAndGreensModel.spark()I
set_option maxRecDepth 100000 in
theorem b266_0 (d : Nat) (g : Nat × Nat × Nat) (I : Nat → Nat → Int32) (J : Nat → Nat → Int64) (sl : Nat) (rd rl : Nat) : aE d 266 0 [.ref 46, aNo, aNo] [] (g, I, J, aP1 sl rd rl) = (aBi (aF d 267 [.ref 46] (g, (aU I 46 13 0), J, aP1 sl rd rl)) (fun x0 t0 => aE d 266 9 [.ref 46, aNo, aNo] [.int x0] t0)) := (aBk [9, 12, 17, 24, 28, 37, 41, 63, 67] 200 _ _ _ _ _ _).trans rfl
-- 137: BluesAndGreens.won(II)I
set_option maxRecDepth 100000 in
theorem b137_0 (d : Nat) (g : Nat × Nat × Nat) (I : Nat → Nat → Int32) (J : Nat → Nat → Int64) (sl : Nat) (rd rl : Nat) (a1 a2 : Int32) : aE d 137 0 [.ref 6, .int a1, .int a2, aNo, aNo, aNo, aNo] [] (g, I, J, aP1 sl rd rl) = (aBi (aF d 130 [.ref 14, .int a1] (g, I, J, aP1 sl rd rl)) (fun x0 t0 => aE d 137 8 [.ref 6, .int a1, .int a2, aNo, aNo, aNo, aNo] [.int x0] t0)) := (aBk [8, 30, 37, 48, 53, 78, 81, 105, 110] 200 _ _ _ _ _ _).trans rfl
-- 268: BluesAndGreensModel.won(II)I
set_option maxRecDepth 100000 in
theorem b268_0 (d : Nat) (g : Nat × Nat × Nat) (I : Nat → Nat → Int32) (J : Nat → Nat → Int64) (sl : Nat) (rd rl : Nat) (a1 a2 : Int32) : aE d 268 0 [.ref 46, .int a1, .int a2, aNo, aNo] [] (g, I, J, aP1 sl rd rl) = (aBi (aF d 264 [.ref 46, .int a1] (g, (aU I 46 13 0), J, aP1 sl rd rl)) (fun x0 t0 => aE d 268 10 [.ref 46, .int a1, .int a2, aNo, aNo] [.int x0] t0)) := (aBk [10, 20, 29, 33, 39, 47, 51, 61, 64, 88, 92] 200 _ _ _ _ _ _).trans rfl
-- 138: BluesAndGreens.gates(II)I
set_option maxRecDepth 100000 in
theorem b138_0 (d : Nat) (g : Nat × Nat × Nat) (I : Nat → Nat → Int32) (J : Nat → Nat → Int64) (sl : Nat) (rd rl : Nat) (a1 a2 : Int32) : aE d 138 0 [.ref 6, .int a1, .int a2, aNo, aNo, aNo, aNo, aNo] [] (g, I, J, aP1 sl rd rl) = (aBi (aF d 130 [.ref 14, .int a1] (g, I, J, aP1 sl rd rl)) (fun x0 t0 => aE d 138 8 [.ref 6, .int a1, .int a2, aNo, aNo, aNo, aNo, aNo] [.int x0] t0)) := (aBk [8, 38, 41, 46, 59, 84, 87, 109, 140, 144] 200 _ _ _ _ _ _).trans rfl
-- 269: BluesAndGreensModel.gates(II)I
set_option maxRecDepth 100000 in
theorem b269_0 (d : Nat) (g : Nat × Nat × Nat) (I : Nat → Nat → Int32) (J : Nat → Nat → Int64) (sl : Nat) (rd rl : Nat) (a1 a2 : Int32) : aE d 269 0 [.ref 46, .int a1, .int a2, aNo, aNo, aNo] [] (g, I, J, aP1 sl rd rl) = (aBi (aF d 264 [.ref 46, .int a1] (g, (aU I 46 13 0), J, aP1 sl rd rl)) (fun x0 t0 => aE d 269 10 [.ref 46, .int a1, .int a2, aNo, aNo, aNo] [.int x0] t0)) := (aBk [10, 20, 30, 43, 58, 61, 68, 71, 89, 93, 116, 123, 127, 134, 137] 200 _ _ _ _ _ _).trans rfl
-- 140: BluesAndGreens.common(I)I
set_option maxRecDepth 100000 in
theorem b140_0 (d : Nat) (g : Nat × Nat × Nat) (I : Nat → Nat → Int32) (J : Nat → Nat → Int64) (sl : Nat) (rd rl : Nat) (a1 : Int32) : aE d 140 0 [.ref 6, .int a1, aNo, aNo, aNo] [] (g, I, J, aP1 sl rd rl) = (aBi (aF d 130 [.ref 14, .int a1] (g, I, J, aP1 sl rd rl)) (fun x0 t0 => aE d 140 8 [.ref 6, .int a1, aNo, aNo, aNo] [.int x0] t0)) := (aBk [8, 22, 40, 84] 200 _ _ _ _ _ _).trans rfl
-- 271: BluesAndGreensModel.common(I)I
set_option maxRecDepth 100000 in
theorem b271_0 (d : Nat) (g : Nat × Nat × Nat) (I : Nat → Nat → Int32) (J : Nat → Nat → Int64) (sl : Nat) (rd rl : Nat) (a1 : Int32) : aE d 271 0 [.ref 46, .int a1, aNo, aNo, aNo] [] (g, I, J, aP1 sl rd rl) = (aBi (aF d 264 [.ref 46, .int a1] (g, (aU I 46 13 0), J, aP1 sl rd rl)) (fun x0 t0 => aE d 271 10 [.ref 46, .int a1, aNo, aNo, aNo] [.int x0] t0)) := (aBk [10, 24, 39, 90] 200 _ _ _ _ _ _).trans rfl
-- 141: BluesAndGreens.lots(III)I
set_option maxRecDepth 100000 in
theorem b141_0 (d : Nat) (g : Nat × Nat × Nat) (I : Nat → Nat → Int32) (J : Nat → Nat → Int64) (sl : Nat) (rd rl : Nat) (a1 a2 a3 : Int32) : aE d 141 0 [.ref 6, .int a1, .int a2, .int a3, aNo, aNo] [] (g, I, J, aP1 sl rd rl) = (if a1 < 1 then some (some (some (.int (-1))), (g, I, J, aP1 sl rd rl)) else (if 12 < a1 then some (some (some (.int (-1))), (g, I, J, aP1 sl rd rl)) else (if a2 < 0 then some (some (some (.int (-1))), (g, I, J, aP1 sl rd rl)) else (if 12 < a2 then some (some (some (.int (-1))), (g, I, J, aP1 sl rd rl)) else (if a3 < 0 then some (some (some (.int (-1))), (g, I, J, aP1 sl rd rl)) else (if a3 ≤ 10 then (if a2 ≤ a1 then (aBl (aF d 142 [.int a1, .int a2] (g, I, J, aP1 sl rd rl)) (fun x0 t0 => aE d 141 47 [.ref 6, .int a1, .int a2, .int a3, aNo, aNo] [.long x0] t0)) else (aBl (aF d 143 [.int 10, .int a1] (g, I, J, aP1 sl rd rl)) (fun x1 t1 => aE d 141 75 [.ref 6, .int a1, .int a2, .int a3, .long 0, aNo] [.long x1, .long 0, .ref 6] t1))) else some (some (some (.int (-1))), (g, I, J, aP1 sl rd rl)))))))) := (aBk [47, 52, 63, 75, 78] 200 _ _ _ _ _ _).trans rfl
-- 272: BluesAndGreensModel.lots(III)I
set_option maxRecDepth 100000 in
theorem b272_0 (d : Nat) (g : Nat × Nat × Nat) (I : Nat → Nat → Int32) (J : Nat → Nat → Int64) (sl : Nat) (rd rl : Nat) (a1 a2 a3 : Int32) : aE d 272 0 [.ref 46, .int a1, .int a2, .int a3, aNo, aNo, aNo] [] (g, I, J, aP1 sl rd rl) = (aBi (aF d 181 [.int a1, .int 1, .int 12] (g, (aU I 46 13 0), J, aP1 sl rd rl)) (fun x0 t0 => aE d 272 12 [.ref 46, .int a1, .int a2, .int a3, aNo, aNo, aNo] [.int x0] t0)) := (aBk [12, 22, 32, 43, 89, 101, 109, 112] 200 _ _ _ _ _ _).trans rfl
-- 146: BluesAndGreens.bent(IIII)I
set_option maxRecDepth 100000 in
theorem b146_0 (d : Nat) (g : Nat × Nat × Nat) (I : Nat → Nat → Int32) (J : Nat → Nat → Int64) (sl : Nat) (rd rl : Nat) (a1 a2 a3 a4 : Int32) : aE d 146 0 [.ref 6, .int a1, .int a2, .int a3, .int a4, aNo, aNo, aNo, aNo] [] (g, I, J, aP1 sl rd rl) = (if a1 < 0 then some (some (some (.int (-1))), (g, I, J, aP1 sl rd rl)) else (if 10 < a1 then some (some (some (.int (-1))), (g, I, J, aP1 sl rd rl)) else (if a2 < 0 then some (some (some (.int (-1))), (g, I, J, aP1 sl rd rl)) else (if 10 < a2 then some (some (some (.int (-1))), (g, I, J, aP1 sl rd rl)) else (if a3 < 0 then some (some (some (.int (-1))), (g, I, J, aP1 sl rd rl)) else (if 10 < a3 then some (some (some (.int (-1))), (g, I, J, aP1 sl rd rl)) else (if a4 < 0 then some (some (some (.int (-1))), (g, I, J, aP1 sl rd rl)) else (if a4 ≤ a3 then (aBl (aF d 143 [.int a2, .int a4] (g, I, J, aP1 sl rd rl)) (fun x0 t0 => aE d 146 51 [.ref 6, .int a1, .int a2, .int a3, .int a4, aNo, aNo, aNo, aNo] [.long x0, .long (Int32.toInt64 a1)] t0)) else some (some (some (.int (-1))), (g, I, J, aP1 sl rd rl)))))))))) := (aBk [51, 63, 78, 100] 200 _ _ _ _ _ _).trans rfl
-- 276: BluesAndGreensModel.bent(IIII)I
set_option maxRecDepth 100000 in
theorem b276_0 (d : Nat) (g : Nat × Nat × Nat) (I : Nat → Nat → Int32) (J : Nat → Nat → Int64) (sl : Nat) (rd rl : Nat) (a1 a2 a3 a4 : Int32) : aE d 276 0 [.ref 46, .int a1, .int a2, .int a3, .int a4, aNo, aNo, aNo, aNo] [] (g, I, J, aP1 sl rd rl) = (aBi (aF d 181 [.int a1, .int 0, .int 10] (g, (aU I 46 13 0), J, aP1 sl rd rl)) (fun x0 t0 => aE d 276 12 [.ref 46, .int a1, .int a2, .int a3, .int a4, aNo, aNo, aNo, aNo] [.int x0] t0)) := (aBk [12, 22, 32, 42, 56, 69, 86, 108] 200 _ _ _ _ _ _).trans rfl
-- 147: BluesAndGreens.heard(II)I
set_option maxRecDepth 100000 in
theorem b147_0 (d : Nat) (g : Nat × Nat × Nat) (I : Nat → Nat → Int32) (J : Nat → Nat → Int64) (sl : Nat) (rd rl : Nat) (a1 a2 : Int32) : aE d 147 0 [.ref 6, .int a1, .int a2] [] (g, I, J, aP1 sl rd rl) = (aBi (aF d 148 [.ref 42, .int a1, .int a2] (g, I, J, aP1 sl rd rl)) (fun x0 t0 => aE d 147 9 [.ref 6, .int a1, .int a2] [.int x0] t0)) := (aBk [9] 200 _ _ _ _ _ _).trans rfl
-- 277: BluesAndGreensModel.heard(II)I
set_option maxRecDepth 100000 in
theorem b277_0 (d : Nat) (g : Nat × Nat × Nat) (I : Nat → Nat → Int32) (J : Nat → Nat → Int64) (sl : Nat) (rd rl : Nat) (a1 a2 : Int32) : aE d 277 0 [.ref 46, .int a1, .int a2, aNo] [] (g, I, J, aP1 sl rd rl) = (if a1 = 0 then (aBi (aF d 181 [.int a1, .int 0, .int 4] (g, (aU I 46 13 0), J, aP1 sl rd rl)) (fun x3 t3 => aE d 277 42 [.ref 46, .int a1, .int a2, .int 1] [.int x3] t3)) else (if a1 = 1 then (aBi (aF d 181 [.int a1, .int 0, .int 4] (g, (aU I 46 13 0), J, aP1 sl rd rl)) (fun x2 t2 => aE d 277 42 [.ref 46, .int a1, .int a2, .int 99] [.int x2] t2)) else (if a1 = 2 then (aBi (aF d 181 [.int a1, .int 0, .int 4] (g, (aU I 46 13 0), J, aP1 sl rd rl)) (fun x1 t1 => aE d 277 42 [.ref 46, .int a1, .int a2, .int 9] [.int x1] t1)) else (aBi (aF d 181 [.int a1, .int 0, .int 4] (g, (aU I 46 13 0), J, aP1 sl rd rl)) (fun x0 t0 => aE d 277 42 [.ref 46, .int a1, .int a2, .int 8] [.int x0] t0))))) := (aBk [42, 51] 200 _ _ _ _ _ _).trans rfl
-- 150: BluesAndGreens.forget()I
set_option maxRecDepth 100000 in
theorem b150_0 (d : Nat) (g : Nat × Nat × Nat) (I : Nat → Nat → Int32) (J : Nat → Nat → Int64) (sl : Nat) (rd rl : Nat) : aE d 150 0 [.ref 6] [] (g, I, J, aP1 sl rd rl) = (aBi (aF d 151 [.ref 42] (g, I, J, aP1 sl rd rl)) (fun x0 t0 => aE d 150 7 [.ref 6] [.int x0] t0)) := (aBk [7] 200 _ _ _ _ _ _).trans rfl
-- 278: BluesAndGreensModel.forget()I
set_option maxRecDepth 100000 in
theorem b278_0 (d : Nat) (g : Nat × Nat × Nat) (I : Nat → Nat → Int32) (J : Nat → Nat → Int64) (sl : Nat) (rd rl : Nat) : aE d 278 0 [.ref 46, aNo] [] (g, I, J, aP1 sl rd rl) = some (some (some (.int (I 46 35))), (g, (aU (aU I 46 13 0) 46 35 0), J, aP1 sl rd rl)) := (aBk [] 200 _ _ _ _ _ _).trans rfl
-- 152: BluesAndGreens.fits()I
set_option maxRecDepth 100000 in
theorem b152_0 (d : Nat) (g : Nat × Nat × Nat) (I : Nat → Nat → Int32) (J : Nat → Nat → Int64) (sl : Nat) (rd rl : Nat) : aE d 152 0 [.ref 6, aNo] [] (g, I, J, aP1 sl rd rl) = (aBi (aF d 153 [.ref 42, .ref 14] (g, I, J, aP1 sl rd rl)) (fun x0 t0 => aE d 152 11 [.ref 6, aNo] [.int x0] t0)) := (aBk [11, 20, 29, 33] 200 _ _ _ _ _ _).trans rfl
-- 279: BluesAndGreensModel.fits()I
set_option maxRecDepth 100000 in
theorem b279_0 (d : Nat) (g : Nat × Nat × Nat) (I : Nat → Nat → Int32) (J : Nat → Nat → Int64) (sl : Nat) (rd rl : Nat) : aE d 279 0 [.ref 46] [] (g, I, J, aP1 sl rd rl) = (aBi (aF d 280 [.ref 46] (g, (aU (aU I 46 13 0) 46 12 0), J, aP1 sl rd rl)) (fun x0 t0 => aE d 279 15 [.ref 46] [.int x0, .ref 46] t0)) := (aBk [15, 18, 22, 28, 31, 35, 39] 200 _ _ _ _ _ _).trans rfl
-- 156: BluesAndGreens.ask()I
set_option maxRecDepth 100000 in
theorem b156_0 (d : Nat) (g : Nat × Nat × Nat) (I : Nat → Nat → Int32) (J : Nat → Nat → Int64) (sl : Nat) (rd rl : Nat) : aE d 156 0 [.ref 6, aNo, aNo, aNo, aNo, aNo, aNo] [] (g, I, J, aP1 sl rd rl) = (aBi (aF d 153 [.ref 42, .ref 14] (g, I, J, aP1 sl rd rl)) (fun x0 t0 => aE d 156 11 [.ref 6, aNo, aNo, aNo, aNo, aNo, aNo] [.int x0] t0)) := (aBk [11, 27, 43, 48, 56, 91] 200 _ _ _ _ _ _).trans rfl
-- 282: BluesAndGreensModel.ask()I
set_option maxRecDepth 100000 in
theorem b282_0 (d : Nat) (g : Nat × Nat × Nat) (I : Nat → Nat → Int32) (J : Nat → Nat → Int64) (sl : Nat) (rd rl : Nat) : aE d 282 0 [.ref 46, aNo, aNo, aNo, aNo, aNo, aNo] [] (g, I, J, aP1 sl rd rl) = (aBi (aF d 280 [.ref 46] (g, (aU I 46 13 0), J, aP1 sl rd rl)) (fun x0 t0 => aE d 282 9 [.ref 46, aNo, aNo, aNo, aNo, aNo, aNo] [.int x0] t0)) := (aBk [9, 26, 39, 56, 68, 91, 131] 200 _ _ _ _ _ _).trans rfl
-- 158: BluesAndGreens.rests(II)I
set_option maxRecDepth 100000 in
theorem b158_0 (d : Nat) (g : Nat × Nat × Nat) (I : Nat → Nat → Int32) (J : Nat → Nat → Int64) (sl : Nat) (rd rl : Nat) (a1 a2 : Int32) : aE d 158 0 [.ref 6, .int a1, .int a2, aNo, aNo, aNo] [] (g, I, J, aP1 sl rd rl) = (if a1 < 0 then some (some (some (.int (-1))), (g, I, J, aP1 sl rd rl)) else (if 10 ≤ a1 then some (some (some (.int (-1))), (g, I, J, aP1 sl rd rl)) else (if a2 < 0 then some (some (some (.int (-1))), (g, I, J, aP1 sl rd rl)) else (if a2 < 10 then (aBv (aF d 84 [.ref 12] (g, I, J, aP1 sl rd rl)) (fun t0 => aE d 158 29 [.ref 6, .int a1, .int a2, aNo, aNo, aNo] [] t0)) else some (some (some (.int (-1))), (g, I, J, aP1 sl rd rl)))))) := (aBk [29, 34, 44, 60, 87] 200 _ _ _ _ _ _).trans rfl
-- 283: BluesAndGreensModel.rests(II)I
set_option maxRecDepth 100000 in
theorem b283_0 (d : Nat) (g : Nat × Nat × Nat) (I : Nat → Nat → Int32) (J : Nat → Nat → Int64) (sl : Nat) (rd rl : Nat) (a1 a2 : Int32) : aE d 283 0 [.ref 46, .int a1, .int a2, aNo, aNo, aNo] [] (g, I, J, aP1 sl rd rl) = (aBi (aF d 181 [.int a1, .int 0, .int 9] (g, (aU I 46 13 0), J, aP1 sl rd rl)) (fun x0 t0 => aE d 283 12 [.ref 46, .int a1, .int a2, aNo, aNo, aNo] [.int x0] t0)) := (aBk [12, 22, 37, 47, 63, 80, 87] 200 _ _ _ _ _ _).trans rfl
-- 162: BluesAndGreens.law()I
set_option maxRecDepth 100000 in
theorem b162_0 (d : Nat) (g : Nat × Nat × Nat) (I : Nat → Nat → Int32) (J : Nat → Nat → Int64) (sl : Nat) (rd rl : Nat) : aE d 162 0 [.ref 6, aNo, aNo, aNo] [] (g, I, J, aP1 sl rd rl) = (aBi (aF d 24 [.ref 6, .ref 37] (g, I, J, aP1 sl rd rl)) (fun x0 t0 => aE d 162 8 [.ref 6, aNo, aNo, aNo] [.int x0] t0)) := (aBk [8, 44, 65, 77, 98, 110] 200 _ _ _ _ _ _).trans rfl
-- 287: BluesAndGreensModel.law()I
set_option maxRecDepth 100000 in
theorem b287_0 (d : Nat) (g : Nat × Nat × Nat) (I : Nat → Nat → Int32) (J : Nat → Nat → Int64) (sl : Nat) (rd rl : Nat) : aE d 287 0 [.ref 46, aNo, aNo, aNo, aNo, aNo] [] (g, I, J, aP1 sl rd rl) = (aBi (aF d 199 [.ref 46] (g, (aU I 46 13 0), J, aP1 sl rd rl)) (fun x0 t0 => aE d 287 14 [.ref 46, .int (I 46 10), aNo, aNo, aNo, aNo] [.int x0] t0)) := (aBk [14, 43, 71, 103, 128, 134] 200 _ _ _ _ _ _).trans rfl
-- 163: BluesAndGreens.years(II)I
set_option maxRecDepth 100000 in
theorem b163_0 (d : Nat) (g : Nat × Nat × Nat) (I : Nat → Nat → Int32) (J : Nat → Nat → Int64) (sl : Nat) (rd rl : Nat) (a1 a2 : Int32) : aE d 163 0 [.ref 6, .int a1, .int a2, aNo, aNo, aNo] [] (g, I, J, aP1 sl rd rl) = (if (I 14 0) = 0 then some (some (some (.int (-2))), (g, I, J, aP1 sl rd rl)) else (if a2 < 1 then some (some (some (.int (-1))), (g, I, J, aP1 sl rd rl)) else (if a2 ≤ 60 then (aBv (aF d 63 [.ref 27, .ref 23] (g, I, J, aP1 sl rd rl)) (fun t0 => aE d 163 37 [.ref 6, .int a1, .int a2, aNo, aNo, aNo] [] t0)) else some (some (some (.int (-1))), (g, I, J, aP1 sl rd rl))))) := (aBk [37, 53, 64, 79, 108, 117, 124] 200 _ _ _ _ _ _).trans rfl
-- 289: BluesAndGreensModel.years(II)I
set_option maxRecDepth 100000 in
theorem b289_0 (d : Nat) (g : Nat × Nat × Nat) (I : Nat → Nat → Int32) (J : Nat → Nat → Int64) (sl : Nat) (rd rl : Nat) (a1 a2 : Int32) : aE d 289 0 [.ref 46, .int a1, .int a2, aNo, aNo, aNo, aNo, aNo, aNo] [] (g, I, J, aP1 sl rd rl) = (if (I 46 1) = 0 then some (some (some (.int (-2))), (g, (aU I 46 13 0), J, aP1 sl rd rl)) else (aBi (aF d 181 [.int a2, .int 1, .int 60] (g, (aU I 46 13 0), J, aP1 sl rd rl)) (fun x0 t0 => aE d 289 22 [.ref 46, .int a1, .int a2, aNo, aNo, aNo, aNo, aNo, aNo] [.int x0] t0))) := (aBk [22, 49, 52, 63, 86, 109, 119, 133, 148, 163, 168, 178, 211, 222, 229] 200 _ _ _ _ _ _).trans rfl
-- 166: BluesAndGreens.keep(I)Z
set_option maxRecDepth 100000 in
theorem b166_0 (d : Nat) (g : Nat × Nat × Nat) (I : Nat → Nat → Int32) (J : Nat → Nat → Int64) (sl : Nat) (rd rl : Nat) (a1 : Int32) : aE d 166 0 [.ref 6, .int a1] [] (g, I, J, aP1 sl rd rl) = (if a1 < 0 then some (some (some (.int 0)), (g, I, J, aP1 sl rd rl)) else (if a1 < 2 then (aBv (aF d 81 [.ref 23, .ref 31, .int a1] (g, I, J, aP1 sl rd rl)) (fun t0 => aE d 166 23 [.ref 6, .int a1] [] t0)) else some (some (some (.int 0)), (g, I, J, aP1 sl rd rl)))) := (aBk [23] 200 _ _ _ _ _ _).trans rfl
-- 291: BluesAndGreensModel.keep(I)Z
set_option maxRecDepth 100000 in
theorem b291_0 (d : Nat) (g : Nat × Nat × Nat) (I : Nat → Nat → Int32) (J : Nat → Nat → Int64) (sl : Nat) (rd rl : Nat) (a1 : Int32) : aE d 291 0 [.ref 46, .int a1] [] (g, I, J, aP1 sl rd rl) = (aBi (aF d 181 [.int a1, .int 0, .int 1] (g, (aU I 46 13 0), J, aP1 sl rd rl)) (fun x0 t0 => aE d 291 11 [.ref 46, .int a1] [.int x0] t0)) := (aBk [11, 48] 200 _ _ _ _ _ _).trans rfl
-- 167: BluesAndGreens.again(I)Z
set_option maxRecDepth 100000 in
theorem b167_0 (d : Nat) (g : Nat × Nat × Nat) (I : Nat → Nat → Int32) (J : Nat → Nat → Int64) (sl : Nat) (rd rl : Nat) (a1 : Int32) : aE d 167 0 [.ref 6, .int a1] [] (g, I, J, aP1 sl rd rl) = (if a1 < 0 then some (some (some (.int 0)), (g, I, J, aP1 sl rd rl)) else (if 2 ≤ a1 then some (some (some (.int 0)), (g, I, J, aP1 sl rd rl)) else (if a1 < 0 ∨ 2 ≤ a1.toNatClampNeg then none else (if (I 32 a1.toNatClampNeg) = 0 then some (some (some (.int 0)), (g, I, J, aP1 sl rd rl)) else (aBv (aF d 107 [.ref 23, .ref 31, .int a1] (g, I, J, aP1 sl rd rl)) (fun t0 => aE d 167 32 [.ref 6, .int a1] [] t0)))))) := (aBk [32, 39] 200 _ _ _ _ _ _).trans rfl
-- 292: BluesAndGreensModel.again(I)Z
set_option maxRecDepth 100000 in
theorem b292_0 (d : Nat) (g : Nat × Nat × Nat) (I : Nat → Nat → Int32) (J : Nat → Nat → Int64) (sl : Nat) (rd rl : Nat) (a1 : Int32) : aE d 292 0 [.ref 46, .int a1, aNo] [] (g, I, J, aP1 sl rd rl) = (aBi (aF d 181 [.int a1, .int 0, .int 1] (g, (aU I 46 13 0), J, aP1 sl rd rl)) (fun x0 t0 => aE d 292 11 [.ref 46, .int a1, aNo] [.int x0] t0)) := (aBk [11, 40] 200 _ _ _ _ _ _).trans rfl
-- 168: BluesAndGreens.count(I)I
set_option maxRecDepth 100000 in
theorem b168_0 (d : Nat) (g : Nat × Nat × Nat) (I : Nat → Nat → Int32) (J : Nat → Nat → Int64) (sl : Nat) (rd rl : Nat) (a1 : Int32) : aE d 168 0 [.ref 6, .int a1] [] (g, I, J, aP1 sl rd rl) = aE d 168 1 [.ref 6, .int a1] [.int a1] (g, I, J, aP1 sl rd rl) := (aBk [1, 103, 115, 131, 142, 153] 200 _ _ _ _ _ _).trans rfl
-- 293: BluesAndGreensModel.count(I)I
set_option maxRecDepth 100000 in
theorem b293_0 (d : Nat) (g : Nat × Nat × Nat) (I : Nat → Nat → Int32) (J : Nat → Nat → Int64) (sl : Nat) (rd rl : Nat) (a1 : Int32) : aE d 293 0 [.ref 46, .int a1] [] (g, I, J, aP1 sl rd rl) = aE d 293 6 [.ref 46, .int a1] [.int a1] (g, (aU I 46 13 0), J, aP1 sl rd rl) := (aBk [6, 104, 117, 130] 200 _ _ _ _ _ _).trans rfl
-- 302: BluesAndGreensLaw.row(LBluesAndGreens;I[J)I
set_option maxRecDepth 100000 in
theorem b302_0 (d : Nat) (g : Nat × Nat × Nat) (I : Nat → Nat → Int32) (J : Nat → Nat → Int64) (sl : Nat) (rd rl : Nat) (a1 : Int32) : aE d 302 0 [.ref 6, .int a1, .ref 67, aNo] [] (g, I, J, aP1 sl rd rl) = (aHl (aF d 176 [.ref 6, .int a1] (g, I, J, aP1 sl rd rl)) (fun x0 t0 => aE d 302 7 [.ref 6, .int a1, .ref 67, aNo] [.long x0, .int 0, .ref 67] t0) (fun t0 => aE d 302 12 [.ref 6, .int a1, .ref 67, aNo] [] t0)) := (aBk [7, 12] 200 _ _ _ _ _ _).trans rfl
-- 295: BluesAndGreensModel.row(I)J
set_option maxRecDepth 100000 in
theorem b295_0 (d : Nat) (g : Nat × Nat × Nat) (I : Nat → Nat → Int32) (J : Nat → Nat → Int64) (sl : Nat) (rd rl : Nat) (a1 : Int32) : aE d 295 0 [.ref 46, .int a1] [] (g, I, J, aP1 sl rd rl) = (aBi (aF d 181 [.int a1, .int 0, .int ((I 46 12) - 1)] (g, (aU I 46 13 0), J, aP1 sl rd rl)) (fun x0 t0 => aE d 295 16 [.ref 46, .int a1] [.int x0] t0)) := (aBk [16, 32] 200 _ _ _ _ _ _).trans rfl
-- 43: BluesAndGreens.sign(I)I
set_option maxRecDepth 100000 in
theorem b43_8 (d : Nat) (g : Nat × Nat × Nat) (I : Nat → Nat → Int32) (J : Nat → Nat → Int64) (sl : Nat) (rd rl : Nat) (y0 : Int32) (w0 w1 : Value) : aE d 43 8 [w0, w1] [.int y0] (g, I, J, aP1 sl rd rl) = some (some (some (.int y0)), (g, I, J, aP1 sl rd rl)) := (aBk [8] 200 _ _ _ _ _ _).trans rfl
-- 44: BluesAndGreens$Text.add(I)I
set_option maxRecDepth 100000 in
theorem b44_0 (d : Nat) (g : Nat × Nat × Nat) (I : Nat → Nat → Int32) (J : Nat → Nat → Int64) (sl : Nat) (rd rl : Nat) (a1 : Int32) : aE d 44 0 [.ref 7, .int a1, aNo] [] (g, I, J, aP1 sl rd rl) = (if ((I 7 1) + 4) ≤ 80 then aE d 44 19 [.ref 7, .int a1, .int 24] [] (g, I, J, aP1 sl rd rl) else some (some (some (.int (-1))), (g, I, J, aP1 sl rd rl))) := (aBk [19, 35] 200 _ _ _ _ _ _).trans rfl
-- 179: BluesAndGreensModel.sign(I)I
set_option maxRecDepth 100000 in
theorem b179_20 (d : Nat) (g : Nat × Nat × Nat) (I : Nat → Nat → Int32) (J : Nat → Nat → Int64) (sl : Nat) (rd rl : Nat) (a1 a2 : Int32) : aE d 179 20 [.ref 46, .int a1, .int a2] [] (g, I, J, aP1 sl rd rl) = (if a2 < 0 then some (some (some (.int (I 46 10))), (g, I, J, aP1 sl rd rl)) else (if (I 46 10) < 0 ∨ 80 ≤ (I 46 10).toNatClampNeg then none else aE d 179 20 [.ref 46, .int a1, .int (a2 + (-1))] [] (g, (aU (aU I 46 10 ((I 46 10) + 1)) 52 (I 46 10).toNatClampNeg (vp_nar .byte (Int8.toInt32 (Int32.toInt8 (a1 >>> ((8 * a2) &&& 31)))))), J, aP1 sl rd rl))) := (aBk [20] 200 _ _ _ _ _ _).trans rfl
-- 45: BluesAndGreens.end(I)Z
set_option maxRecDepth 100000 in
theorem b45_8 (d : Nat) (g : Nat × Nat × Nat) (I : Nat → Nat → Int32) (J : Nat → Nat → Int64) (sl : Nat) (rd rl : Nat) (y0 : Int32) (w0 w1 : Value) : aE d 45 8 [w0, w1] [.int y0] (g, I, J, aP1 sl rd rl) = (if narrow .boolean (.int y0) = .int y0 then some (some (some (.int y0)), (g, I, J, aP1 sl rd rl)) else none) := (aBk [8] 200 _ _ _ _ _ _).trans rfl
-- 42: BluesAndGreens$Text.cut(I)Z
set_option maxRecDepth 100000 in
theorem b42_0 (d : Nat) (g : Nat × Nat × Nat) (I : Nat → Nat → Int32) (J : Nat → Nat → Int64) (sl : Nat) (rd rl : Nat) (a1 : Int32) : aE d 42 0 [.ref 7, .int a1] [] (g, I, J, aP1 sl rd rl) = (if a1 < 0 then some (some (some (.int 0)), (g, I, J, aP1 sl rd rl)) else (if a1 ≤ (I 7 1) then some (some (some (.int 1)), (g, (aU I 7 1 a1), J, aP1 sl rd rl)) else some (some (some (.int 0)), (g, I, J, aP1 sl rd rl)))) := (aBk [] 200 _ _ _ _ _ _).trans rfl
-- 180: BluesAndGreensModel.end(I)Z
set_option maxRecDepth 100000 in
theorem b180_14 (d : Nat) (g : Nat × Nat × Nat) (I : Nat → Nat → Int32) (J : Nat → Nat → Int64) (sl : Nat) (rd rl : Nat) (a1 y0 : Int32) : aE d 180 14 [.ref 46, .int a1] [.int y0] (g, I, J, aP1 sl rd rl) = (if y0 = 0 then some (some (some (.int 0)), (g, I, J, aP1 sl rd rl)) else some (some (some (.int 1)), (g, (aU I 46 10 a1), J, aP1 sl rd rl))) := (aBk [14] 200 _ _ _ _ _ _).trans rfl
-- 181: BluesAndGreensModel.in(III)Z
set_option maxRecDepth 100000 in
theorem b181_0 (d : Nat) (g : Nat × Nat × Nat) (I : Nat → Nat → Int32) (J : Nat → Nat → Int64) (sl : Nat) (rd rl : Nat) (a0 a1 a2 : Int32) : aE d 181 0 [.int a0, .int a1, .int a2] [] (g, I, J, aP1 sl rd rl) = (if a0 < a1 then some (some (some (.int 0)), (g, I, J, aP1 sl rd rl)) else (if a2 < a0 then some (some (some (.int 0)), (g, I, J, aP1 sl rd rl)) else some (some (some (.int 1)), (g, I, J, aP1 sl rd rl)))) := (aBk [] 200 _ _ _ _ _ _).trans rfl
-- 46: BluesAndGreens.drivers()I
set_option maxRecDepth 100000 in
theorem b46_22 (d : Nat) (g : Nat × Nat × Nat) (I : Nat → Nat → Int32) (J : Nat → Nat → Int64) (sl : Nat) (rd rl : Nat) (y0 : Int32) (w1 : Value) : aE d 46 22 [.ref 6, w1] [.int y0] (g, I, J, aP1 sl rd rl) = (aBi (aF d 42 [.ref 7, .int 0] (g, I, J, aP1 sl rd rl)) (fun x0 t0 => aE d 46 31 [.ref 6, .int y0] [.int x0] t0)) := (aBk [22, 31, 48, 65] 200 _ _ _ _ _ _).trans rfl
-- 47: BluesAndGreens$Reader.linesOf(CILBluesAndGreens$City;I)I
set_option maxRecDepth 100000 in
theorem b47_0 (d : Nat) (g : Nat × Nat × Nat) (I : Nat → Nat → Int32) (J : Nat → Nat → Int64) (sl : Nat) (rd rl : Nat) (a1 a2 a4 : Int32) : aE d 47 0 [.ref 9, .int a1, .int a2, .ref 14, .int a4, aNo, aNo] [] (g, I, J, aP1 sl rd rl) = (aBv (aF d 29 [.ref 9, .int a2] (g, I, J, aP1 sl rd rl)) (fun t0 => aE d 47 5 [.ref 9, .int a1, .int a2, .ref 14, .int a4, aNo, aNo] [] t0)) := (aBk [5, 12, 44, 55, 62, 74, 86] 200 _ _ _ _ _ _).trans rfl
-- 182: BluesAndGreensModel.drivers()I
set_option maxRecDepth 100000 in
theorem b182_11 (d : Nat) (g : Nat × Nat × Nat) (I : Nat → Nat → Int32) (J : Nat → Nat → Int64) (sl : Nat) (rd rl : Nat) (w1 w3 : Value) : aE d 182 11 [.ref 46, w1, aNo, w3] [] (g, I, J, aP1 sl rd rl) = (if (I 46 15) = 0 then some (some (some (.int 0)), (g, I, J, aP1 sl rd rl)) else aE d 182 24 [.ref 46, .int 0, .int 1, w3] [] (g, I, J, aP1 sl rd rl)) := (aBk [11, 24, 32, 54, 72, 89, 103, 113, 121, 133, 242] 200 _ _ _ _ _ _).trans rfl
-- 183: BluesAndGreensModel.beginText(I)V
set_option maxRecDepth 100000 in
theorem b183_0 (d : Nat) (g : Nat × Nat × Nat) (I : Nat → Nat → Int32) (J : Nat → Nat → Int64) (sl : Nat) (rd rl : Nat) (a1 : Int32) : aE d 183 0 [.ref 46, .int a1] [] (g, I, J, aP1 sl rd rl) = (aBv (aF d 184 [.ref 46, .ref 52, .int (I 46 10), .int a1] (g, I, J, aP1 sl rd rl)) (fun t0 => aE d 183 13 [.ref 46, .int a1] [] t0)) := (aBk [13] 200 _ _ _ _ _ _).trans rfl
-- 55: BluesAndGreens.quarters()I
set_option maxRecDepth 100000 in
theorem b55_22 (d : Nat) (g : Nat × Nat × Nat) (I : Nat → Nat → Int32) (J : Nat → Nat → Int64) (sl : Nat) (rd rl : Nat) (y0 : Int32) (w1 : Value) : aE d 55 22 [.ref 6, w1] [.int y0] (g, I, J, aP1 sl rd rl) = (aBi (aF d 42 [.ref 7, .int 0] (g, I, J, aP1 sl rd rl)) (fun x0 t0 => aE d 55 31 [.ref 6, .int y0] [.int x0] t0)) := (aBk [22, 31, 53] 200 _ _ _ _ _ _).trans rfl
-- 195: BluesAndGreensModel.quarters()I
set_option maxRecDepth 100000 in
theorem b195_11 (d : Nat) (g : Nat × Nat × Nat) (I : Nat → Nat → Int32) (J : Nat → Nat → Int64) (sl : Nat) (rd rl : Nat) (w1 w3 : Value) : aE d 195 11 [.ref 46, w1, aNo, w3] [] (g, I, J, aP1 sl rd rl) = (if (I 46 15) = 0 then some (some (some (.int 0)), (g, I, J, aP1 sl rd rl)) else aE d 195 24 [.ref 46, .int 0, .int 1, w3] [] (g, I, J, aP1 sl rd rl)) := (aBk [11, 24, 32, 54, 64, 73, 81, 93, 139] 200 _ _ _ _ _ _).trans rfl
-- 56: BluesAndGreens.quarrels()I
set_option maxRecDepth 100000 in
theorem b56_22 (d : Nat) (g : Nat × Nat × Nat) (I : Nat → Nat → Int32) (J : Nat → Nat → Int64) (sl : Nat) (rd rl : Nat) (y0 : Int32) (w1 : Value) : aE d 56 22 [.ref 6, w1] [.int y0] (g, I, J, aP1 sl rd rl) = (aBi (aF d 42 [.ref 7, .int 0] (g, I, J, aP1 sl rd rl)) (fun x0 t0 => aE d 56 31 [.ref 6, .int y0] [.int x0] t0)) := (aBk [22, 31, 53] 200 _ _ _ _ _ _).trans rfl
-- 197: BluesAndGreensModel.quarrels()I
set_option maxRecDepth 100000 in
theorem b197_11 (d : Nat) (g : Nat × Nat × Nat) (I : Nat → Nat → Int32) (J : Nat → Nat → Int64) (sl : Nat) (rd rl : Nat) (w1 w3 : Value) : aE d 197 11 [.ref 46, w1, aNo, w3] [] (g, I, J, aP1 sl rd rl) = (if (I 46 15) = 0 then some (some (some (.int 0)), (g, I, J, aP1 sl rd rl)) else aE d 197 24 [.ref 46, .int 0, .int 1, w3] [] (g, I, J, aP1 sl rd rl)) := (aBk [11, 24, 32, 54, 59, 81, 97, 105, 117, 151, 189] 200 _ _ _ _ _ _).trans rfl
-- 57: BluesAndGreens.rule()I
set_option maxRecDepth 100000 in
theorem b57_8 (d : Nat) (g : Nat × Nat × Nat) (I : Nat → Nat → Int32) (J : Nat → Nat → Int64) (sl : Nat) (rd rl : Nat) (y0 : Int32) (w1 : Value) : aE d 57 8 [.ref 6, w1] [.int y0] (g, I, J, aP1 sl rd rl) = (if y0 = 0 then (aBv (aF d 58 [.ref 33, .ref 37] (g, I, J, aP1 sl rd rl)) (fun t0 => aE d 57 24 [.ref 6, .int y0] [] t0)) else aE d 57 24 [.ref 6, .int y0] [] (g, I, J, aP1 sl rd rl)) := (aBk [8, 24] 200 _ _ _ _ _ _).trans rfl
-- 24: BluesAndGreens.readRule(LBluesAndGreens$Rule;)I
set_option maxRecDepth 100000 in
theorem b24_0 (d : Nat) (g : Nat × Nat × Nat) (I : Nat → Nat → Int32) (J : Nat → Nat → Int64) (sl : Nat) (rd rl : Nat) : aE d 24 0 [.ref 6, .ref 37, aNo] [] (g, I, J, aP1 sl rd rl) = (if (I 7 1) = 0 then (aBv (aF d 25 [.ref 7, .ref 1] (g, I, J, aP1 sl rd rl)) (fun t0 => aE d 24 20 [.ref 6, .ref 37, aNo] [] t0)) else aE d 24 20 [.ref 6, .ref 37, aNo] [] (g, I, J, aP1 sl rd rl)) := (aBk [20, 28, 37] 200 _ _ _ _ _ _).trans rfl
-- 198: BluesAndGreensModel.rule()I
set_option maxRecDepth 100000 in
theorem b198_14 (d : Nat) (g : Nat × Nat × Nat) (I : Nat → Nat → Int32) (J : Nat → Nat → Int64) (sl : Nat) (rd rl : Nat) (a1 y0 : Int32) (w2 : Value) : aE d 198 14 [.ref 46, .int a1, w2] [.int y0] (g, I, J, aP1 sl rd rl) = (if y0 = 0 then some (some (some (.int ((-1) - (I 46 18)))), (g, I, J, aP1 sl rd rl)) else aE d 198 26 [.ref 46, .int a1, .int 0] [] (g, I, J, aP1 sl rd rl)) := (aBk [14, 26] 200 _ _ _ _ _ _).trans rfl
-- 199: BluesAndGreensModel.readRule()Z
set_option maxRecDepth 100000 in
theorem b199_0 (d : Nat) (g : Nat × Nat × Nat) (I : Nat → Nat → Int32) (J : Nat → Nat → Int64) (sl : Nat) (rd rl : Nat) : aE d 199 0 [.ref 46] [] (g, I, J, aP1 sl rd rl) = (aBv (aF d 183 [.ref 46, .int 40] (g, I, J, aP1 sl rd rl)) (fun t0 => aE d 199 6 [.ref 46] [] t0)) := (aBk [6, 23, 28] 200 _ _ _ _ _ _).trans rfl
-- 297: BluesAndGreensLaw.driver(LBluesAndGreens;II[J)I
set_option maxRecDepth 100000 in
theorem b297_8 (d : Nat) (g : Nat × Nat × Nat) (I : Nat → Nat → Int32) (J : Nat → Nat → Int64) (sl : Nat) (rd rl : Nat) (y0 y1 : Int32) (w0 w1 w2 w3 w4 : Value) : aE d 297 8 [w0, w1, w2, w3, w4] [.int y0, .int y1, .ref 67] (g, I, J, aP1 sl rd rl) = (if y1 < 0 ∨ 1 ≤ y1.toNatClampNeg then none else some (some (some (.int 0)), (g, I, (aU J 67 y1.toNatClampNeg (Int32.toInt64 y0)), aP1 sl rd rl))) := (aBk [8, 15] 200 _ _ _ _ _ _).trans rfl
set_option maxRecDepth 100000 in
theorem b297_15 (d : Nat) (g : Nat × Nat × Nat) (I : Nat → Nat → Int32) (J : Nat → Nat → Int64) (sl : Nat) (rd rl : Nat) (w0 w1 w2 w3 w4 : Value) : aE d 297 15 [w0, w1, w2, w3, w4] [] (g, I, J, aP1 sl rd rl) = some (some (some (.int 1)), (g, I, J, aP1 sl rd rl)) := (aBk [8, 15] 200 _ _ _ _ _ _).trans rfl
-- 169: BluesAndGreens.driver(II)I
set_option maxRecDepth 100000 in
theorem b169_0 (d : Nat) (g : Nat × Nat × Nat) (I : Nat → Nat → Int32) (J : Nat → Nat → Int64) (sl : Nat) (rd rl : Nat) (a1 a2 : Int32) : aE d 169 0 [.ref 6, .int a1, .int a2] [] (g, I, J, aP1 sl rd rl) = (aBi (aF d 88 [.ref 14, .int a1] (g, I, J, aP1 sl rd rl)) (fun x0 t0 => aE d 169 8 [.ref 6, .int a1, .int a2] [.int x0] t0)) := (aBk [8, 20, 84, 93, 110] 200 _ _ _ _ _ _).trans rfl
-- 205: BluesAndGreensModel.driver(II)I
set_option maxRecDepth 100000 in
theorem b205_10 (d : Nat) (g : Nat × Nat × Nat) (I : Nat → Nat → Int32) (J : Nat → Nat → Int64) (sl : Nat) (rd rl : Nat) (a1 a2 y0 : Int32) : aE d 205 10 [.ref 46, .int a1, .int a2] [.int y0] (g, I, J, aP1 sl rd rl) = (if y0 = 0 then (aBi (aF d 207 [.ref 46] (g, I, J, aP1 sl rd rl)) (fun x0 t0 => aE d 205 26 [.ref 46, .int a1, .int a2] [.int x0] t0)) else (aBi (aF d 181 [.int a2, .int 0, .int 4] (g, I, J, aP1 sl rd rl)) (fun x1 t1 => aE d 205 19 [.ref 46, .int a1, .int a2] [.int x1] t1))) := (aBk [10, 19, 26] 200 _ _ _ _ _ _).trans rfl
-- 206: BluesAndGreensModel.isDriver(I)Z
set_option maxRecDepth 100000 in
theorem b206_0 (d : Nat) (g : Nat × Nat × Nat) (I : Nat → Nat → Int32) (J : Nat → Nat → Int64) (sl : Nat) (rd rl : Nat) (a1 : Int32) : aE d 206 0 [.ref 46, .int a1] [] (g, I, J, aP1 sl rd rl) = (aBi (aF d 181 [.int a1, .int 0, .int ((I 46 1) - 1)] (g, I, J, aP1 sl rd rl)) (fun x0 t0 => aE d 206 11 [.ref 46, .int a1] [.int x0] t0)) := (aBk [11] 200 _ _ _ _ _ _).trans rfl
-- 298: BluesAndGreensLaw.strength(LBluesAndGreens;I[J)I
set_option maxRecDepth 100000 in
theorem b298_7 (d : Nat) (g : Nat × Nat × Nat) (I : Nat → Nat → Int32) (J : Nat → Nat → Int64) (sl : Nat) (rd rl : Nat) (y0 y1 : Int32) (w0 w1 w2 w3 : Value) : aE d 298 7 [w0, w1, w2, w3] [.int y0, .int y1, .ref 67] (g, I, J, aP1 sl rd rl) = (if y1 < 0 ∨ 1 ≤ y1.toNatClampNeg then none else some (some (some (.int 0)), (g, I, (aU J 67 y1.toNatClampNeg (Int32.toInt64 y0)), aP1 sl rd rl))) := (aBk [7, 13] 200 _ _ _ _ _ _).trans rfl
set_option maxRecDepth 100000 in
theorem b298_13 (d : Nat) (g : Nat × Nat × Nat) (I : Nat → Nat → Int32) (J : Nat → Nat → Int64) (sl : Nat) (rd rl : Nat) (w0 w1 w2 w3 : Value) : aE d 298 13 [w0, w1, w2, w3] [] (g, I, J, aP1 sl rd rl) = some (some (some (.int 1)), (g, I, J, aP1 sl rd rl)) := (aBk [7, 13] 200 _ _ _ _ _ _).trans rfl
-- 170: BluesAndGreens.strength(I)I
set_option maxRecDepth 100000 in
theorem b170_0 (d : Nat) (g : Nat × Nat × Nat) (I : Nat → Nat → Int32) (J : Nat → Nat → Int64) (sl : Nat) (rd rl : Nat) (a1 : Int32) : aE d 170 0 [.ref 6, .int a1] [] (g, I, J, aP1 sl rd rl) = (aBi (aF d 88 [.ref 14, .int a1] (g, I, J, aP1 sl rd rl)) (fun x0 t0 => aE d 170 8 [.ref 6, .int a1] [.int x0] t0)) := (aBk [8, 35] 200 _ _ _ _ _ _).trans rfl
-- 208: BluesAndGreensModel.strength(I)I
set_option maxRecDepth 100000 in
theorem b208_10 (d : Nat) (g : Nat × Nat × Nat) (I : Nat → Nat → Int32) (J : Nat → Nat → Int64) (sl : Nat) (rd rl : Nat) (a1 y0 : Int32) : aE d 208 10 [.ref 46, .int a1] [.int y0] (g, I, J, aP1 sl rd rl) = (if y0 = 0 then (aBi (aF d 207 [.ref 46] (g, I, J, aP1 sl rd rl)) (fun x0 t0 => aE d 208 29 [.ref 46, .int a1] [.int x0] t0)) else (aBi (aF d 209 [.ref 46, .ref 47, .int a1] (g, I, J, aP1 sl rd rl)) (fun x1 t1 => aE d 208 22 [.ref 46, .int a1] [.int x1] t1))) := (aBk [10, 22, 29] 200 _ _ _ _ _ _).trans rfl
-- 299: BluesAndGreensLaw.quarter(LBluesAndGreens;II[J)I
set_option maxRecDepth 100000 in
theorem b299_8 (d : Nat) (g : Nat × Nat × Nat) (I : Nat → Nat → Int32) (J : Nat → Nat → Int64) (sl : Nat) (rd rl : Nat) (y0 y1 : Int32) (w0 w1 w2 w3 w4 : Value) : aE d 299 8 [w0, w1, w2, w3, w4] [.int y0, .int y1, .ref 67] (g, I, J, aP1 sl rd rl) = (if y1 < 0 ∨ 1 ≤ y1.toNatClampNeg then none else some (some (some (.int 0)), (g, I, (aU J 67 y1.toNatClampNeg (Int32.toInt64 y0)), aP1 sl rd rl))) := (aBk [8, 15] 200 _ _ _ _ _ _).trans rfl
set_option maxRecDepth 100000 in
theorem b299_15 (d : Nat) (g : Nat × Nat × Nat) (I : Nat → Nat → Int32) (J : Nat → Nat → Int64) (sl : Nat) (rd rl : Nat) (w0 w1 w2 w3 w4 : Value) : aE d 299 15 [w0, w1, w2, w3, w4] [] (g, I, J, aP1 sl rd rl) = some (some (some (.int 1)), (g, I, J, aP1 sl rd rl)) := (aBk [8, 15] 200 _ _ _ _ _ _).trans rfl
-- 171: BluesAndGreens.quarter(II)I
set_option maxRecDepth 100000 in
theorem b171_0 (d : Nat) (g : Nat × Nat × Nat) (I : Nat → Nat → Int32) (J : Nat → Nat → Int64) (sl : Nat) (rd rl : Nat) (a1 a2 : Int32) : aE d 171 0 [.ref 6, .int a1, .int a2] [] (g, I, J, aP1 sl rd rl) = (if a1 < 0 then some (none, ((g.1 + 0, g.2.1 + 1, g.2.2 + 6), I, J, aP1 sl rd rl)) else (if a1 < (I 14 4) then aE d 171 24 [.ref 6, .int a1, .int a2] [.int a2] (g, I, J, aP1 sl rd rl) else some (none, ((g.1 + 0, g.2.1 + 1, g.2.2 + 6), I, J, aP1 sl rd rl)))) := (aBk [24] 200 _ _ _ _ _ _).trans rfl
-- 210: BluesAndGreensModel.quarter(II)I
set_option maxRecDepth 100000 in
theorem b210_16 (d : Nat) (g : Nat × Nat × Nat) (I : Nat → Nat → Int32) (J : Nat → Nat → Int64) (sl : Nat) (rd rl : Nat) (a1 a2 y0 : Int32) : aE d 210 16 [.ref 46, .int a1, .int a2] [.int y0] (g, I, J, aP1 sl rd rl) = (if y0 = 0 then (aBi (aF d 207 [.ref 46] (g, I, J, aP1 sl rd rl)) (fun x0 t0 => aE d 210 45 [.ref 46, .int a1, .int a2] [.int x0] t0)) else (aBi (aF d 181 [.int a2, .int 0, .int 3] (g, I, J, aP1 sl rd rl)) (fun x1 t1 => aE d 210 25 [.ref 46, .int a1, .int a2] [.int x1] t1))) := (aBk [16, 25, 45] 200 _ _ _ _ _ _).trans rfl
-- 300: BluesAndGreensLaw.quarrel(LBluesAndGreens;II[J)I
set_option maxRecDepth 100000 in
theorem b300_8 (d : Nat) (g : Nat × Nat × Nat) (I : Nat → Nat → Int32) (J : Nat → Nat → Int64) (sl : Nat) (rd rl : Nat) (y0 y1 : Int32) (w0 w1 w2 w3 w4 : Value) : aE d 300 8 [w0, w1, w2, w3, w4] [.int y0, .int y1, .ref 67] (g, I, J, aP1 sl rd rl) = (if y1 < 0 ∨ 1 ≤ y1.toNatClampNeg then none else some (some (some (.int 0)), (g, I, (aU J 67 y1.toNatClampNeg (Int32.toInt64 y0)), aP1 sl rd rl))) := (aBk [8, 15] 200 _ _ _ _ _ _).trans rfl
set_option maxRecDepth 100000 in
theorem b300_15 (d : Nat) (g : Nat × Nat × Nat) (I : Nat → Nat → Int32) (J : Nat → Nat → Int64) (sl : Nat) (rd rl : Nat) (w0 w1 w2 w3 w4 : Value) : aE d 300 15 [w0, w1, w2, w3, w4] [] (g, I, J, aP1 sl rd rl) = some (some (some (.int 1)), (g, I, J, aP1 sl rd rl)) := (aBk [8, 15] 200 _ _ _ _ _ _).trans rfl
-- 172: BluesAndGreens.quarrel(II)I
set_option maxRecDepth 100000 in
theorem b172_0 (d : Nat) (g : Nat × Nat × Nat) (I : Nat → Nat → Int32) (J : Nat → Nat → Int64) (sl : Nat) (rd rl : Nat) (a1 a2 : Int32) : aE d 172 0 [.ref 6, .int a1, .int a2] [] (g, I, J, aP1 sl rd rl) = (aBi (aF d 100 [.ref 14, .int a1] (g, I, J, aP1 sl rd rl)) (fun x0 t0 => aE d 172 8 [.ref 6, .int a1, .int a2] [.int x0] t0)) := (aBk [8, 41] 200 _ _ _ _ _ _).trans rfl
-- 211: BluesAndGreensModel.quarrel(II)I
set_option maxRecDepth 100000 in
theorem b211_16 (d : Nat) (g : Nat × Nat × Nat) (I : Nat → Nat → Int32) (J : Nat → Nat → Int64) (sl : Nat) (rd rl : Nat) (a1 a2 y0 : Int32) : aE d 211 16 [.ref 46, .int a1, .int a2] [.int y0] (g, I, J, aP1 sl rd rl) = (if y0 = 0 then (aBi (aF d 207 [.ref 46] (g, I, J, aP1 sl rd rl)) (fun x0 t0 => aE d 211 32 [.ref 46, .int a1, .int a2] [.int x0] t0)) else (aBi (aF d 181 [.int a2, .int 0, .int 4] (g, I, J, aP1 sl rd rl)) (fun x1 t1 => aE d 211 25 [.ref 46, .int a1, .int a2] [.int x1] t1))) := (aBk [16, 25, 32] 200 _ _ _ _ _ _).trans rfl
-- 301: BluesAndGreensLaw.club(LBluesAndGreens;II[J)I
set_option maxRecDepth 100000 in
theorem b301_8 (d : Nat) (g : Nat × Nat × Nat) (I : Nat → Nat → Int32) (J : Nat → Nat → Int64) (sl : Nat) (rd rl : Nat) (y0 y1 : Int32) (w0 w1 w2 w3 w4 : Value) : aE d 301 8 [w0, w1, w2, w3, w4] [.int y0, .int y1, .ref 67] (g, I, J, aP1 sl rd rl) = (if y1 < 0 ∨ 1 ≤ y1.toNatClampNeg then none else some (some (some (.int 0)), (g, I, (aU J 67 y1.toNatClampNeg (Int32.toInt64 y0)), aP1 sl rd rl))) := (aBk [8, 15] 200 _ _ _ _ _ _).trans rfl
set_option maxRecDepth 100000 in
theorem b301_15 (d : Nat) (g : Nat × Nat × Nat) (I : Nat → Nat → Int32) (J : Nat → Nat → Int64) (sl : Nat) (rd rl : Nat) (w0 w1 w2 w3 w4 : Value) : aE d 301 15 [w0, w1, w2, w3, w4] [] (g, I, J, aP1 sl rd rl) = some (some (some (.int 1)), (g, I, J, aP1 sl rd rl)) := (aBk [8, 15] 200 _ _ _ _ _ _).trans rfl
-- 173: BluesAndGreens.club(II)I
set_option maxRecDepth 100000 in
theorem b173_0 (d : Nat) (g : Nat × Nat × Nat) (I : Nat → Nat → Int32) (J : Nat → Nat → Int64) (sl : Nat) (rd rl : Nat) (a1 a2 : Int32) : aE d 173 0 [.ref 6, .int a1, .int a2] [] (g, I, J, aP1 sl rd rl) = (aBi (aF d 75 [.int a1] (g, I, J, aP1 sl rd rl)) (fun x0 t0 => aE d 173 4 [.ref 6, .int a1, .int a2] [.int x0] t0)) := (aBk [4, 16, 64, 73, 82, 95, 104, 117, 120] 200 _ _ _ _ _ _).trans rfl
-- 212: BluesAndGreensModel.club(II)I
set_option maxRecDepth 100000 in
theorem b212_9 (d : Nat) (g : Nat × Nat × Nat) (I : Nat → Nat → Int32) (J : Nat → Nat → Int64) (sl : Nat) (rd rl : Nat) (a1 a2 y0 : Int32) : aE d 212 9 [.ref 46, .int a1, .int a2] [.int y0] (g, I, J, aP1 sl rd rl) = (if y0 = 0 then (aBi (aF d 207 [.ref 46] (g, I, J, aP1 sl rd rl)) (fun x0 t0 => aE d 212 25 [.ref 46, .int a1, .int a2] [.int x0] t0)) else (aBi (aF d 181 [.int a2, .int 0, .int 5] (g, I, J, aP1 sl rd rl)) (fun x1 t1 => aE d 212 18 [.ref 46, .int a1, .int a2] [.int x1] t1))) := (aBk [9, 18, 25, 56, 69, 78, 81] 200 _ _ _ _ _ _).trans rfl
-- 213: BluesAndGreensModel.isClub(I)Z
set_option maxRecDepth 100000 in
theorem b213_0 (d : Nat) (g : Nat × Nat × Nat) (I : Nat → Nat → Int32) (J : Nat → Nat → Int64) (sl : Nat) (rd rl : Nat) (a0 : Int32) : aE d 213 0 [.int a0] [] (g, I, J, aP1 sl rd rl) = (aBi (aF d 181 [.int a0, .int 0, .int 1] (g, I, J, aP1 sl rd rl)) (fun x0 t0 => aE d 213 6 [.int a0] [.int x0] t0)) := (aBk [6] 200 _ _ _ _ _ _).trans rfl
-- 218: BluesAndGreensModel.limit(I)I
set_option maxRecDepth 100000 in
theorem b218_12 (d : Nat) (g : Nat × Nat × Nat) (I : Nat → Nat → Int32) (J : Nat → Nat → Int64) (sl : Nat) (rd rl : Nat) (a1 y0 : Int32) (w2 : Value) : aE d 218 12 [.ref 46, .int a1, w2] [.int y0] (g, I, J, aP1 sl rd rl) = (if y0 = 0 then some (some (some (.int (-1))), (g, I, J, aP1 sl rd rl)) else some (some (some (.int (I 46 8))), (g, (aU I 46 8 a1), J, aP1 sl rd rl))) := (aBk [12] 200 _ _ _ _ _ _).trans rfl
-- 60: BluesAndGreens.sheet(IIII)I
set_option maxRecDepth 100000 in
theorem b60_47 (d : Nat) (g : Nat × Nat × Nat) (I : Nat → Nat → Int32) (J : Nat → Nat → Int64) (sl : Nat) (rd rl : Nat) (a1 a3 a4 a5 a6 a7 : Int32) (w2 w8 : Value) : aE d 60 47 [.ref 6, .int a1, w2, .int a3, .int a4, .int a5, .int a6, .int a7, w8] [] (g, I, J, aP1 sl rd rl) = (if (I 14 0) ≤ a7 then (if a1 = 3 then some (some (some (.int (-3))), (g, I, J, aP1 sl rd rl)) else some (some (some (.int a6)), (g, I, J, aP1 sl rd rl))) else (if a5 ≤ a7 then (if a7 < 0 ∨ 8 ≤ a7.toNatClampNeg then none else aE d 60 47 [.ref 6, .int a1, w2, .int a3, .int a4, .int a5, .int (a6 + 0), .int (a7 + 1), .int 0] [] (g, (aU I 16 a7.toNatClampNeg 0), J, aP1 sl rd rl)) else (aBi (aF d 61 [.int a1, .int (a3 + (a7 * a4))] (g, I, J, aP1 sl rd rl)) (fun x0 t0 => aE d 60 77 [.ref 6, .int a1, w2, .int a3, .int a4, .int a5, .int a6, .int a7, w8] [.int x0] t0)))) := (aBk [47, 77] 200 _ _ _ _ _ _).trans rfl
-- 219: BluesAndGreensModel.sheet(IIII)I
set_option maxRecDepth 100000 in
theorem b219_11 (d : Nat) (g : Nat × Nat × Nat) (I : Nat → Nat → Int32) (J : Nat → Nat → Int64) (sl : Nat) (rd rl : Nat) (a1 a2 a3 a4 y0 : Int32) (w5 w6 w7 w8 : Value) : aE d 219 11 [.ref 46, .int a1, .int a2, .int a3, .int a4, w5, w6, w7, w8] [.int y0] (g, I, J, aP1 sl rd rl) = (if y0 = 0 then aE d 219 20 [.ref 46, .int a1, .int a2, .int a3, .int a4, w5, w6, w7, w8] [] (g, I, J, aP1 sl rd rl) else (if a2 ≤ 8 then (if 3 ≤ a1 then aE d 219 34 [.ref 46, .int a1, .int a2, .int a3, .int a4, w5, w6, w7, w8] [] (g, I, J, aP1 sl rd rl) else (if 0 ≤ a2 then aE d 219 34 [.ref 46, .int a1, .int a2, .int a3, .int a4, w5, w6, w7, w8] [] (g, I, J, aP1 sl rd rl) else some (some (some (.int (-2))), (g, I, J, aP1 sl rd rl)))) else aE d 219 20 [.ref 46, .int a1, .int a2, .int a3, .int a4, w5, w6, w7, w8] [] (g, I, J, aP1 sl rd rl))) := (aBk [11, 20, 34, 43, 75, 94, 109, 147] 200 _ _ _ _ _ _).trans rfl
-- 62: BluesAndGreens.race(I)I
set_option maxRecDepth 100000 in
theorem b62_36 (d : Nat) (g : Nat × Nat × Nat) (I : Nat → Nat → Int32) (J : Nat → Nat → Int64) (sl : Nat) (rd rl : Nat) (a1 : Int32) (w2 : Value) : aE d 62 36 [.ref 6, .int a1, w2] [] (g, I, J, aP1 sl rd rl) = (aBi (aF d 64 [.ref 41, .ref 14, .ref 23, .ref 33, .int a1] (g, I, J, aP1 sl rd rl)) (fun x0 t0 => aE d 62 56 [.ref 6, .int a1, w2] [.int x0] t0)) := (aBk [36, 56, 72, 95] 200 _ _ _ _ _ _).trans rfl
-- 63: BluesAndGreens$State.copy(LBluesAndGreens$State;)V
set_option maxRecDepth 100000 in
theorem b63_0 (d : Nat) (g : Nat × Nat × Nat) (I : Nat → Nat → Int32) (J : Nat → Nat → Int64) (sl : Nat) (rd rl : Nat) : aE d 63 0 [.ref 25, .ref 23] [] (g, I, J, aP1 sl rd rl) = some (some none, (g, (aCpI I 24 0 26 0 32), J, aP1 sl rd rl)) := (aBk [] 200 _ _ _ _ _ _).trans rfl
-- 220: BluesAndGreensModel.race(I)I
set_option maxRecDepth 100000 in
theorem b220_22 (d : Nat) (g : Nat × Nat × Nat) (I : Nat → Nat → Int32) (J : Nat → Nat → Int64) (sl : Nat) (rd rl : Nat) (a1 y0 : Int32) : aE d 220 22 [.ref 46, .int a1] [.int y0] (g, I, J, aP1 sl rd rl) = (if y0 = 0 then some (some (some (.int (-1))), (g, I, J, aP1 sl rd rl)) else (if a1 ≤ 0 then aE d 220 39 [.ref 46, .int a1] [] (g, I, J, aP1 sl rd rl) else (aBv (aF d 221 [.ref 46, .ref 47] (g, I, J, aP1 sl rd rl)) (fun t0 => aE d 220 39 [.ref 46, .int a1] [] t0)))) := (aBk [22, 39, 48, 62, 71] 200 _ _ _ _ _ _).trans rfl
-- 86: BluesAndGreens.buy(II)I
set_option maxRecDepth 100000 in
theorem b86_11 (d : Nat) (g : Nat × Nat × Nat) (I : Nat → Nat → Int32) (J : Nat → Nat → Int64) (sl : Nat) (rd rl : Nat) (a1 a2 : Int32) : aE d 86 11 [.ref 6, .int a1, .int a2] [] (g, I, J, aP1 sl rd rl) = (aBi (aF d 87 [.ref 23, .ref 14, .int a1, .int a2] (g, I, J, aP1 sl rd rl)) (fun x0 t0 => aE d 86 25 [.ref 6, .int a1, .int a2] [.int x0, .ref 6] t0)) := (aBk [11, 25, 28] 200 _ _ _ _ _ _).trans rfl
-- 230: BluesAndGreensModel.buy(II)I
set_option maxRecDepth 100000 in
theorem b230_15 (d : Nat) (g : Nat × Nat × Nat) (I : Nat → Nat → Int32) (J : Nat → Nat → Int64) (sl : Nat) (rd rl : Nat) (a1 a2 y0 : Int32) (w3 : Value) : aE d 230 15 [.ref 46, .int a1, .int a2, w3] [.int y0] (g, I, J, aP1 sl rd rl) = (if 0 ≤ y0 then (aBv (aF d 221 [.ref 46, .ref 47] (g, I, J, aP1 sl rd rl)) (fun t0 => aE d 230 30 [.ref 46, .int a1, .int a2, .int y0] [] t0)) else some (some (some (.int y0)), (g, I, J, aP1 sl rd rl))) := (aBk [15, 30, 40] 200 _ _ _ _ _ _).trans rfl
-- 231: BluesAndGreensModel.refusesBuy([III)I
set_option maxRecDepth 100000 in
theorem b231_0 (d : Nat) (g : Nat × Nat × Nat) (I : Nat → Nat → Int32) (J : Nat → Nat → Int64) (sl : Nat) (rd rl : Nat) (a2 a3 : Int32) : aE d 231 0 [.ref 46, .ref 47, .int a2, .int a3] [] (g, I, J, aP1 sl rd rl) = (aBi (aF d 213 [.int a2] (g, I, J, aP1 sl rd rl)) (fun x0 t0 => aE d 231 4 [.ref 46, .ref 47, .int a2, .int a3] [.int x0] t0)) := (aBk [4, 12] 200 _ _ _ _ _ _).trans rfl
-- 90: BluesAndGreens.curse(II)I
set_option maxRecDepth 100000 in
theorem b90_11 (d : Nat) (g : Nat × Nat × Nat) (I : Nat → Nat → Int32) (J : Nat → Nat → Int64) (sl : Nat) (rd rl : Nat) (a1 a2 : Int32) : aE d 90 11 [.ref 6, .int a1, .int a2] [] (g, I, J, aP1 sl rd rl) = (aBi (aF d 91 [.ref 23, .ref 14, .int a1, .int a2] (g, I, J, aP1 sl rd rl)) (fun x0 t0 => aE d 90 25 [.ref 6, .int a1, .int a2] [.int x0, .ref 6] t0)) := (aBk [11, 25, 28] 200 _ _ _ _ _ _).trans rfl
-- 233: BluesAndGreensModel.curse(II)I
set_option maxRecDepth 100000 in
theorem b233_11 (d : Nat) (g : Nat × Nat × Nat) (I : Nat → Nat → Int32) (J : Nat → Nat → Int64) (sl : Nat) (rd rl : Nat) (a1 a2 y0 : Int32) (w3 : Value) : aE d 233 11 [.ref 46, .int a1, .int a2, w3] [.int y0] (g, I, J, aP1 sl rd rl) = (if 0 ≤ y0 then (aBv (aF d 221 [.ref 46, .ref 47] (g, I, J, aP1 sl rd rl)) (fun t0 => aE d 233 26 [.ref 46, .int a1, .int a2, .int y0] [] t0)) else some (some (some (.int y0)), (g, I, J, aP1 sl rd rl))) := (aBk [11, 26, 35] 200 _ _ _ _ _ _).trans rfl
-- 234: BluesAndGreensModel.refusesCurse(II)I
set_option maxRecDepth 100000 in
theorem b234_0 (d : Nat) (g : Nat × Nat × Nat) (I : Nat → Nat → Int32) (J : Nat → Nat → Int64) (sl : Nat) (rd rl : Nat) (a1 a2 : Int32) : aE d 234 0 [.ref 46, .int a1, .int a2] [] (g, I, J, aP1 sl rd rl) = (aBi (aF d 213 [.int a1] (g, I, J, aP1 sl rd rl)) (fun x0 t0 => aE d 234 4 [.ref 46, .int a1, .int a2] [.int x0] t0)) := (aBk [4, 12] 200 _ _ _ _ _ _).trans rfl
-- 94: BluesAndGreens.dig(I)I
set_option maxRecDepth 100000 in
theorem b94_11 (d : Nat) (g : Nat × Nat × Nat) (I : Nat → Nat → Int32) (J : Nat → Nat → Int64) (sl : Nat) (rd rl : Nat) (a1 : Int32) : aE d 94 11 [.ref 6, .int a1] [] (g, I, J, aP1 sl rd rl) = (aBi (aF d 95 [.ref 23, .ref 14, .int a1] (g, I, J, aP1 sl rd rl)) (fun x0 t0 => aE d 94 24 [.ref 6, .int a1] [.int x0, .ref 6] t0)) := (aBk [11, 24, 27] 200 _ _ _ _ _ _).trans rfl
-- 236: BluesAndGreensModel.dig(I)I
set_option maxRecDepth 100000 in
theorem b236_10 (d : Nat) (g : Nat × Nat × Nat) (I : Nat → Nat → Int32) (J : Nat → Nat → Int64) (sl : Nat) (rd rl : Nat) (a1 y0 : Int32) (w2 : Value) : aE d 236 10 [.ref 46, .int a1, w2] [.int y0] (g, I, J, aP1 sl rd rl) = (if 0 ≤ y0 then (aBv (aF d 221 [.ref 46, .ref 47] (g, I, J, aP1 sl rd rl)) (fun t0 => aE d 236 25 [.ref 46, .int a1, .int y0] [] t0)) else some (some (some (.int y0)), (g, I, J, aP1 sl rd rl))) := (aBk [10, 25, 30] 200 _ _ _ _ _ _).trans rfl
-- 237: BluesAndGreensModel.refusesDig(I)I
set_option maxRecDepth 100000 in
theorem b237_0 (d : Nat) (g : Nat × Nat × Nat) (I : Nat → Nat → Int32) (J : Nat → Nat → Int64) (sl : Nat) (rd rl : Nat) (a1 : Int32) : aE d 237 0 [.ref 46, .int a1] [] (g, I, J, aP1 sl rd rl) = (aBi (aF d 206 [.ref 46, .int a1] (g, I, J, aP1 sl rd rl)) (fun x0 t0 => aE d 237 5 [.ref 46, .int a1] [.int x0] t0)) := (aBk [5] 200 _ _ _ _ _ _).trans rfl
-- 96: BluesAndGreens.grain(II)I
set_option maxRecDepth 100000 in
theorem b96_11 (d : Nat) (g : Nat × Nat × Nat) (I : Nat → Nat → Int32) (J : Nat → Nat → Int64) (sl : Nat) (rd rl : Nat) (a1 a2 : Int32) : aE d 96 11 [.ref 6, .int a1, .int a2] [] (g, I, J, aP1 sl rd rl) = (aBi (aF d 97 [.ref 23, .int a1, .int a2] (g, I, J, aP1 sl rd rl)) (fun x0 t0 => aE d 96 21 [.ref 6, .int a1, .int a2] [.int x0, .ref 6] t0)) := (aBk [11, 21, 24] 200 _ _ _ _ _ _).trans rfl
-- 239: BluesAndGreensModel.grain(II)I
set_option maxRecDepth 100000 in
theorem b239_9 (d : Nat) (g : Nat × Nat × Nat) (I : Nat → Nat → Int32) (J : Nat → Nat → Int64) (sl : Nat) (rd rl : Nat) (a1 a2 y0 : Int32) : aE d 239 9 [.ref 46, .int a1, .int a2] [.int y0] (g, I, J, aP1 sl rd rl) = (if y0 = 0 then some (some (some (.int (-1))), (g, I, J, aP1 sl rd rl)) else (aBi (aF d 181 [.int a2, .int 1, .int 99] (g, I, J, aP1 sl rd rl)) (fun x0 t0 => aE d 239 19 [.ref 46, .int a1, .int a2] [.int x0] t0))) := (aBk [9, 19, 32, 42] 200 _ _ _ _ _ _).trans rfl
-- 98: BluesAndGreens.show(II)I
set_option maxRecDepth 100000 in
theorem b98_11 (d : Nat) (g : Nat × Nat × Nat) (I : Nat → Nat → Int32) (J : Nat → Nat → Int64) (sl : Nat) (rd rl : Nat) (a1 a2 : Int32) : aE d 98 11 [.ref 6, .int a1, .int a2] [] (g, I, J, aP1 sl rd rl) = (aBi (aF d 99 [.ref 23, .ref 14, .int a1, .int a2] (g, I, J, aP1 sl rd rl)) (fun x0 t0 => aE d 98 25 [.ref 6, .int a1, .int a2] [.int x0, .ref 6] t0)) := (aBk [11, 25, 28] 200 _ _ _ _ _ _).trans rfl
-- 240: BluesAndGreensModel.show(II)I
set_option maxRecDepth 100000 in
theorem b240_11 (d : Nat) (g : Nat × Nat × Nat) (I : Nat → Nat → Int32) (J : Nat → Nat → Int64) (sl : Nat) (rd rl : Nat) (a1 a2 y0 : Int32) (w3 : Value) : aE d 240 11 [.ref 46, .int a1, .int a2, w3] [.int y0] (g, I, J, aP1 sl rd rl) = (if 0 ≤ y0 then (aBv (aF d 221 [.ref 46, .ref 47] (g, I, J, aP1 sl rd rl)) (fun t0 => aE d 240 26 [.ref 46, .int a1, .int a2, .int y0] [] t0)) else some (some (some (.int y0)), (g, I, J, aP1 sl rd rl))) := (aBk [11, 26, 36, 44] 200 _ _ _ _ _ _).trans rfl
-- 241: BluesAndGreensModel.refusesShow(II)I
set_option maxRecDepth 100000 in
theorem b241_0 (d : Nat) (g : Nat × Nat × Nat) (I : Nat → Nat → Int32) (J : Nat → Nat → Int64) (sl : Nat) (rd rl : Nat) (a1 a2 : Int32) : aE d 241 0 [.ref 46, .int a1, .int a2] [] (g, I, J, aP1 sl rd rl) = (aBi (aF d 181 [.int a1, .int 0, .int ((I 46 6) - 1)] (g, I, J, aP1 sl rd rl)) (fun x0 t0 => aE d 241 11 [.ref 46, .int a1, .int a2] [.int x0] t0)) := (aBk [11, 20] 200 _ _ _ _ _ _).trans rfl
-- 102: BluesAndGreens.season()I
set_option maxRecDepth 100000 in
theorem b102_11 (d : Nat) (g : Nat × Nat × Nat) (I : Nat → Nat → Int32) (J : Nat → Nat → Int64) (sl : Nat) (rd rl : Nat) (y0 : Int32) (w1 w2 : Value) : aE d 102 11 [.ref 6, w1, w2] [.int y0] (g, I, J, aP1 sl rd rl) = (aBi (aF d 42 [.ref 7, .int 0] (g, I, J, aP1 sl rd rl)) (fun x0 t0 => aE d 102 20 [.ref 6, .int y0, w2] [.int x0] t0)) := (aBk [11, 20, 38, 40, 50, 77, 102, 113] 200 _ _ _ _ _ _).trans rfl
-- 103: BluesAndGreens$Reader.actsInto([I)I
set_option maxRecDepth 100000 in
theorem b103_0 (d : Nat) (g : Nat × Nat × Nat) (I : Nat → Nat → Int32) (J : Nat → Nat → Int64) (sl : Nat) (rd rl : Nat) : aE d 103 0 [.ref 9, .ref 45, aNo, aNo, aNo] [] (g, I, J, aP1 sl rd rl) = (aBv (aF d 29 [.ref 9, .int 60] (g, I, J, aP1 sl rd rl)) (fun t0 => aE d 103 6 [.ref 9, .ref 45, aNo, aNo, aNo] [] t0)) := (aBk [6, 10, 22, 30, 45, 136, 148, 159, 171, 187, 198, 210, 226, 241, 255] 200 _ _ _ _ _ _).trans rfl
-- 243: BluesAndGreensModel.season()I
set_option maxRecDepth 100000 in
theorem b243_11 (d : Nat) (g : Nat × Nat × Nat) (I : Nat → Nat → Int32) (J : Nat → Nat → Int64) (sl : Nat) (rd rl : Nat) (w1 w2 : Value) : aE d 243 11 [.ref 46, w1, w2] [] (g, I, J, aP1 sl rd rl) = aE d 243 13 [.ref 46, .int 0, w2] [] (g, I, J, aP1 sl rd rl) := (aBk [11, 13, 17, 38, 48, 70, 72, 109, 130, 149, 158, 169] 200 _ _ _ _ _ _).trans rfl
-- 105: BluesAndGreens.undo()I
set_option maxRecDepth 100000 in
theorem b105_11 (d : Nat) (g : Nat × Nat × Nat) (I : Nat → Nat → Int32) (J : Nat → Nat → Int64) (sl : Nat) (rd rl : Nat) (y0 : Int32) (w0 : Value) : aE d 105 11 [w0] [.int y0] (g, I, J, aP1 sl rd rl) = some (some (some (.int y0)), (g, I, J, aP1 sl rd rl)) := (aBk [11] 200 _ _ _ _ _ _).trans rfl
-- 106: BluesAndGreens$Past.pop(LBluesAndGreens$State;)I
set_option maxRecDepth 100000 in
theorem b106_0 (d : Nat) (g : Nat × Nat × Nat) (I : Nat → Nat → Int32) (J : Nat → Nat → Int64) (sl : Nat) (rd rl : Nat) : aE d 106 0 [.ref 29, .ref 23] [] (g, I, J, aP1 sl rd rl) = (if (I 29 1) = 0 then some (some (some (.int (-1))), (g, I, J, aP1 sl rd rl)) else (if (I 29 2) ≤ 0 then (aBv (aF d 107 [.ref 23, .ref 30, .int 11] (g, (aU I 29 2 11), J, aP1 sl rd rl)) (fun t0 => aE d 106 43 [.ref 29, .ref 23] [] t0)) else (aBv (aF d 107 [.ref 23, .ref 30, .int ((I 29 2) - 1)] (g, (aU I 29 2 ((I 29 2) - 1)), J, aP1 sl rd rl)) (fun t1 => aE d 106 43 [.ref 29, .ref 23] [] t1)))) := (aBk [43] 200 _ _ _ _ _ _).trans rfl
-- 246: BluesAndGreensModel.undo()I
set_option maxRecDepth 100000 in
theorem b246_26 (d : Nat) (g : Nat × Nat × Nat) (I : Nat → Nat → Int32) (J : Nat → Nat → Int64) (sl : Nat) (rd rl : Nat) (a1 : Int32) : aE d 246 26 [.ref 46, .int a1] [] (g, I, J, aP1 sl rd rl) = (if 39 ≤ a1 then some (some (some (.int (I 46 26))), (g, I, J, aP1 sl rd rl)) else (if ((39 * (I 46 26)) + a1) < 0 ∨ 468 ≤ ((39 * (I 46 26)) + a1).toNatClampNeg then none else (if a1 < 0 ∨ 39 ≤ a1.toNatClampNeg then none else aE d 246 26 [.ref 46, .int (a1 + 1)] [] (g, (aU I 47 a1.toNatClampNeg (I 58 ((39 * (I 46 26)) + a1).toNatClampNeg)), J, aP1 sl rd rl)))) := (aBk [26] 200 _ _ _ _ _ _).trans rfl
-- 108: BluesAndGreens.order()I
set_option maxRecDepth 100000 in
theorem b108_20 (d : Nat) (g : Nat × Nat × Nat) (I : Nat → Nat → Int32) (J : Nat → Nat → Int64) (sl : Nat) (rd rl : Nat) (w1 w2 w3 : Value) : aE d 108 20 [.ref 6, w1, w2, w3] [] (g, I, J, aP1 sl rd rl) = aE d 108 24 [.ref 6, .int 0, .int 0, w3] [] (g, I, J, aP1 sl rd rl) := (aBk [20, 24, 51, 61, 89] 200 _ _ _ _ _ _).trans rfl
-- 84: BluesAndGreens$Row.clear()V
set_option maxRecDepth 100000 in
theorem b84_0 (d : Nat) (g : Nat × Nat × Nat) (I : Nat → Nat → Int32) (J : Nat → Nat → Int64) (sl : Nat) (rd rl : Nat) : aE d 84 0 [.ref 12] [] (g, I, J, aP1 sl rd rl) = some (some none, (g, (aU I 12 1 0), J, aP1 sl rd rl)) := (aBk [] 200 _ _ _ _ _ _).trans rfl
-- 247: BluesAndGreensModel.order()I
set_option maxRecDepth 100000 in
theorem b247_24 (d : Nat) (g : Nat × Nat × Nat) (I : Nat → Nat → Int32) (J : Nat → Nat → Int64) (sl : Nat) (rd rl : Nat) (a1 a2 : Int32) (w3 w4 : Value) : aE d 247 24 [.ref 46, .int a1, .int a2, w3, w4] [] (g, I, J, aP1 sl rd rl) = (if (I 46 1) ≤ a2 then some (some (some (.int (Int64.toInt32 (J 53 0)))), (g, I, J, aP1 sl rd rl)) else aE d 247 37 [.ref 46, .int a1, .int a2, .int (-1), .int 0] [] (g, I, J, aP1 sl rd rl)) := (aBk [24, 37, 52, 70, 79, 97] 200 _ _ _ _ _ _).trans rfl
-- 109: BluesAndGreens.ahead(I)I
set_option maxRecDepth 100000 in
theorem b109_36 (d : Nat) (g : Nat × Nat × Nat) (I : Nat → Nat → Int32) (J : Nat → Nat → Int64) (sl : Nat) (rd rl : Nat) (a1 : Int32) (w2 : Value) : aE d 109 36 [.ref 6, .int a1, w2] [] (g, I, J, aP1 sl rd rl) = (aBi (aF d 64 [.ref 41, .ref 14, .ref 27, .ref 33, .int a1] (g, I, J, aP1 sl rd rl)) (fun x0 t0 => aE d 109 56 [.ref 6, .int a1, w2] [.int x0] t0)) := (aBk [36, 56, 88] 200 _ _ _ _ _ _).trans rfl
-- 63: BluesAndGreens$State.copy(LBluesAndGreens$State;)V
set_option maxRecDepth 100000 in
theorem b63_0_2 (d : Nat) (g : Nat × Nat × Nat) (I : Nat → Nat → Int32) (J : Nat → Nat → Int64) (sl : Nat) (rd rl : Nat) : aE d 63 0 [.ref 27, .ref 23] [] (g, I, J, aP1 sl rd rl) = some (some none, (g, (aCpI I 24 0 28 0 32), J, aP1 sl rd rl)) := (aBk [] 200 _ _ _ _ _ _).trans rfl
-- 248: BluesAndGreensModel.ahead(I)I
set_option maxRecDepth 100000 in
theorem b248_22 (d : Nat) (g : Nat × Nat × Nat) (I : Nat → Nat → Int32) (J : Nat → Nat → Int64) (sl : Nat) (rd rl : Nat) (a1 y0 : Int32) (w2 w3 w4 w5 w6 w7 w8 w9 : Value) : aE d 248 22 [.ref 46, .int a1, w2, w3, w4, w5, w6, w7, w8, w9] [.int y0] (g, I, J, aP1 sl rd rl) = (if y0 = 0 then some (some (some (.int (-1))), (g, I, J, aP1 sl rd rl)) else (aBv (aF d 222 [.ref 47, .ref 60, .int 0] (g, I, J, aP1 sl rd rl)) (fun t0 => aE d 248 39 [.ref 46, .int a1, w2, w3, w4, w5, w6, w7, w8, w9] [] t0))) := (aBk [22, 39, 58, 78, 90, 134, 201, 208, 214] 200 _ _ _ _ _ _).trans rfl
-- 111: BluesAndGreens.joins()I
set_option maxRecDepth 100000 in
theorem b111_11 (d : Nat) (g : Nat × Nat × Nat) (I : Nat → Nat → Int32) (J : Nat → Nat → Int64) (sl : Nat) (rd rl : Nat) (w1 : Value) : aE d 111 11 [.ref 6, w1] [] (g, I, J, aP1 sl rd rl) = aE d 111 13 [.ref 6, .int 0] [] (g, I, J, aP1 sl rd rl) := (aBk [11, 13, 30, 45, 54, 58, 75] 200 _ _ _ _ _ _).trans rfl
-- 249: BluesAndGreensModel.joins()I
set_option maxRecDepth 100000 in
theorem b249_17 (d : Nat) (g : Nat × Nat × Nat) (I : Nat → Nat → Int32) (J : Nat → Nat → Int64) (sl : Nat) (rd rl : Nat) (w1 : Value) : aE d 249 17 [.ref 46, w1] [] (g, I, J, aP1 sl rd rl) = aE d 249 19 [.ref 46, .int 0] [] (g, I, J, aP1 sl rd rl) := (aBk [17, 19, 33, 52, 63, 83] 200 _ _ _ _ _ _).trans rfl
-- 222: BluesAndGreensModel.lay([I[II)V
set_option maxRecDepth 100000 in
theorem b222_0 (d : Nat) (g : Nat × Nat × Nat) (I : Nat → Nat → Int32) (J : Nat → Nat → Int64) (sl : Nat) (rd rl : Nat) (a2 : Int32) : aE d 222 0 [.ref 47, .ref 60, .int a2, aNo] [] (g, I, J, aP1 sl rd rl) = aE d 222 2 [.ref 47, .ref 60, .int a2, .int 0] [] (g, I, J, aP1 sl rd rl) := (aBk [2] 200 _ _ _ _ _ _).trans rfl
-- 112: BluesAndGreens.bribe(I)I
set_option maxRecDepth 100000 in
theorem b112_4 (d : Nat) (g : Nat × Nat × Nat) (I : Nat → Nat → Int32) (J : Nat → Nat → Int64) (sl : Nat) (rd rl : Nat) (a1 y0 : Int32) (w2 w3 w4 : Value) : aE d 112 4 [.ref 6, .int a1, w2, w3, w4] [.int y0] (g, I, J, aP1 sl rd rl) = (if y0 = 0 then some (some (some (.int (-1))), (g, I, J, aP1 sl rd rl)) else (aBi (aF d 113 [.ref 6, .ref 23, .int a1] (g, I, J, aP1 sl rd rl)) (fun x0 t0 => aE d 112 18 [.ref 6, .int a1, w2, w3, w4] [.int x0] t0))) := (aBk [4, 18, 31, 37, 59, 110, 122, 150] 200 _ _ _ _ _ _).trans rfl
-- 75: BluesAndGreens.isClub(I)Z
set_option maxRecDepth 100000 in
theorem b75_0 (d : Nat) (g : Nat × Nat × Nat) (I : Nat → Nat → Int32) (J : Nat → Nat → Int64) (sl : Nat) (rd rl : Nat) (a0 : Int32) : aE d 75 0 [.int a0] [] (g, I, J, aP1 sl rd rl) = (if a0 = 0 then some (some (some (.int 1)), (g, I, J, aP1 sl rd rl)) else (if a0 = 1 then some (some (some (.int 1)), (g, I, J, aP1 sl rd rl)) else some (some (some (.int 0)), (g, I, J, aP1 sl rd rl)))) := (aBk [] 200 _ _ _ _ _ _).trans rfl
-- 250: BluesAndGreensModel.bribe(I)I
set_option maxRecDepth 100000 in
theorem b250_9 (d : Nat) (g : Nat × Nat × Nat) (I : Nat → Nat → Int32) (J : Nat → Nat → Int64) (sl : Nat) (rd rl : Nat) (a1 y0 : Int32) (w2 w3 : Value) : aE d 250 9 [.ref 46, .int a1, w2, w3] [.int y0] (g, I, J, aP1 sl rd rl) = (if y0 = 0 then some (some (some (.int (-1))), (g, I, J, aP1 sl rd rl)) else (if (I 46 1) = 0 then some (some (some (.int (-2))), (g, I, J, aP1 sl rd rl)) else (aBi (aF d 251 [.ref 46, .ref 47, .int a1] (g, I, J, aP1 sl rd rl)) (fun x0 t0 => aE d 250 35 [.ref 46, .int a1, .int (-1), w3] [.int x0] t0)))) := (aBk [9, 35, 40, 58, 96, 106, 115, 145] 200 _ _ _ _ _ _).trans rfl
-- 114: BluesAndGreens.lead(I)I
set_option maxRecDepth 100000 in
theorem b114_4 (d : Nat) (g : Nat × Nat × Nat) (I : Nat → Nat → Int32) (J : Nat → Nat → Int64) (sl : Nat) (rd rl : Nat) (a1 y0 : Int32) (w2 w3 w4 w5 : Value) : aE d 114 4 [.ref 6, .int a1, w2, w3, w4, w5] [.int y0] (g, I, J, aP1 sl rd rl) = (if y0 = 0 then some (some (some (.int (-1))), (g, I, J, aP1 sl rd rl)) else aE d 114 17 [.ref 6, .int a1, .int (-1), .int 9, .int 0, w5] [] (g, I, J, aP1 sl rd rl)) := (aBk [4, 17, 30, 45, 57, 89] 200 _ _ _ _ _ _).trans rfl
-- 252: BluesAndGreensModel.lead(I)I
set_option maxRecDepth 100000 in
theorem b252_9 (d : Nat) (g : Nat × Nat × Nat) (I : Nat → Nat → Int32) (J : Nat → Nat → Int64) (sl : Nat) (rd rl : Nat) (a1 y0 : Int32) (w2 w3 w5 : Value) : aE d 252 9 [.ref 46, .int a1, w2, w3, aNo, w5] [.int y0] (g, I, J, aP1 sl rd rl) = (if y0 = 0 then some (some (some (.int (-1))), (g, I, J, aP1 sl rd rl)) else (if (I 46 1) = 0 then some (some (some (.int (-2))), (g, I, J, aP1 sl rd rl)) else aE d 252 28 [.ref 46, .int a1, .int (-1), .int 0, aNo, w5] [] (g, I, J, aP1 sl rd rl))) := (aBk [9, 28, 42, 68, 77, 95, 98, 113, 126, 141, 171, 175] 200 _ _ _ _ _ _).trans rfl
