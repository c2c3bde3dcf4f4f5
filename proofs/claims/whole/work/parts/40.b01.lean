-- 116: BluesAndGreens.stable(I)I
set_option maxRecDepth 100000 in
theorem b116_4 (d : Nat) (g : Nat × Nat × Nat) (I : Nat → Nat → Int32) (J : Nat → Nat → Int64) (sl : Nat) (rd rl : Nat) (a1 y0 : Int32) (w2 w3 w4 w5 w6 w7 w8 w9 : Value) : aE d 116 4 [.ref 6, .int a1, w2, w3, w4, w5, w6, w7, w8, w9] [.int y0] (g, I, J, aP1 sl rd rl) = (if y0 = 0 then some (some (some (.int (-1))), (g, I, J, aP1 sl rd rl)) else (aBi (aF d 117 [.ref 23, .ref 14, .int (1 - a1)] (g, I, J, aP1 sl rd rl)) (fun x0 t0 => aE d 116 23 [.ref 6, .int a1, w2, w3, w4, w5, w6, w7, w8, w9] [.int x0] t0))) := (aBk [4, 23, 35, 64, 75, 120, 152] 200 _ _ _ _ _ _).trans rfl
-- 254: BluesAndGreensModel.stable(I)I
set_option maxRecDepth 100000 in
theorem b254_9 (d : Nat) (g : Nat × Nat × Nat) (I : Nat → Nat → Int32) (J : Nat → Nat → Int64) (sl : Nat) (rd rl : Nat) (a1 y0 : Int32) (w2 w3 w4 w5 : Value) : aE d 254 9 [.ref 46, .int a1, w2, w3, w4, w5] [.int y0] (g, I, J, aP1 sl rd rl) = (if y0 = 0 then some (some (some (.int (-1))), (g, I, J, aP1 sl rd rl)) else (aBi (aF d 214 [.ref 46, .ref 47, .int (1 - a1)] (g, I, J, aP1 sl rd rl)) (fun x0 t0 => aE d 254 25 [.ref 46, .int a1, w2, w3, w4, w5] [.int x0] t0))) := (aBk [9, 25, 31, 56, 78, 87, 110, 119, 142, 152, 156, 165] 200 _ _ _ _ _ _).trans rfl
-- 121: BluesAndGreens.apart()I
set_option maxRecDepth 100000 in
theorem b121_11 (d : Nat) (g : Nat × Nat × Nat) (I : Nat → Nat → Int32) (J : Nat → Nat → Int64) (sl : Nat) (rd rl : Nat) (y0 : Int32) (w1 w2 : Value) : aE d 121 11 [.ref 6, w1, w2] [.int y0] (g, I, J, aP1 sl rd rl) = aE d 121 14 [.ref 6, .int y0, .int 0] [] (g, I, J, aP1 sl rd rl) := (aBk [11, 14, 34, 49, 58, 62] 200 _ _ _ _ _ _).trans rfl
-- 122: BluesAndGreens$State.openQuarrels(LBluesAndGreens$City;)I
set_option maxRecDepth 100000 in
theorem b122_0 (d : Nat) (g : Nat × Nat × Nat) (I : Nat → Nat → Int32) (J : Nat → Nat → Int64) (sl : Nat) (rd rl : Nat) : aE d 122 0 [.ref 23, .ref 14, aNo, aNo] [] (g, I, J, aP1 sl rd rl) = aE d 122 4 [.ref 23, .ref 14, .int 0, .int 0] [] (g, I, J, aP1 sl rd rl) := (aBk [4, 17] 200 _ _ _ _ _ _).trans rfl
-- 256: BluesAndGreensModel.apart()I
set_option maxRecDepth 100000 in
theorem b256_9 (d : Nat) (g : Nat × Nat × Nat) (I : Nat → Nat → Int32) (J : Nat → Nat → Int64) (sl : Nat) (rd rl : Nat) (y0 : Int32) (w1 w2 : Value) : aE d 256 9 [.ref 46, w1, w2] [.int y0] (g, I, J, aP1 sl rd rl) = aE d 256 12 [.ref 46, .int y0, .int 0] [] (g, I, J, aP1 sl rd rl) := (aBk [9, 12, 31, 53, 64] 200 _ _ _ _ _ _).trans rfl
-- 257: BluesAndGreensModel.notShown()I
set_option maxRecDepth 100000 in
theorem b257_0 (d : Nat) (g : Nat × Nat × Nat) (I : Nat → Nat → Int32) (J : Nat → Nat → Int64) (sl : Nat) (rd rl : Nat) : aE d 257 0 [.ref 46, aNo, aNo] [] (g, I, J, aP1 sl rd rl) = aE d 257 4 [.ref 46, .int 0, .int 0] [] (g, I, J, aP1 sl rd rl) := (aBk [4] 200 _ _ _ _ _ _).trans rfl
-- 124: BluesAndGreens.calm()I
set_option maxRecDepth 100000 in
theorem b124_11 (d : Nat) (g : Nat × Nat × Nat) (I : Nat → Nat → Int32) (J : Nat → Nat → Int64) (sl : Nat) (rd rl : Nat) (y0 : Int32) (w1 w2 w3 w4 w5 w6 w7 : Value) : aE d 124 11 [.ref 6, w1, w2, w3, w4, w5, w6, w7] [.int y0] (g, I, J, aP1 sl rd rl) = aE d 124 22 [.ref 6, .int y0, .int (-1), .int 0, .int 0, .int 0, w6, w7] [] (g, I, J, aP1 sl rd rl) := (aBk [11, 22, 48, 56, 65, 119] 200 _ _ _ _ _ _).trans rfl
-- 259: BluesAndGreensModel.calm()I
set_option maxRecDepth 100000 in
theorem b259_9 (d : Nat) (g : Nat × Nat × Nat) (I : Nat → Nat → Int32) (J : Nat → Nat → Int64) (sl : Nat) (rd rl : Nat) (y0 : Int32) (w1 w2 w3 w4 w5 w6 w7 : Value) : aE d 259 9 [.ref 46, w1, w2, w3, w4, w5, w6, w7] [.int y0] (g, I, J, aP1 sl rd rl) = aE d 259 20 [.ref 46, .int y0, .int (-1), .int 0, .int 0, .int 0, w6, w7] [] (g, I, J, aP1 sl rd rl) := (aBk [9, 20, 45, 107, 117, 134, 141] 200 _ _ _ _ _ _).trans rfl
-- 126: BluesAndGreens.risky()I
set_option maxRecDepth 100000 in
theorem b126_11 (d : Nat) (g : Nat × Nat × Nat) (I : Nat → Nat → Int32) (J : Nat → Nat → Int64) (sl : Nat) (rd rl : Nat) (y0 : Int32) (w1 w2 w3 : Value) : aE d 126 11 [.ref 6, w1, w2, w3] [.int y0] (g, I, J, aP1 sl rd rl) = aE d 126 16 [.ref 6, .int y0, .int 0, .int 0] [] (g, I, J, aP1 sl rd rl) := (aBk [11, 16, 36, 57] 200 _ _ _ _ _ _).trans rfl
-- 260: BluesAndGreensModel.risky()I
set_option maxRecDepth 100000 in
theorem b260_9 (d : Nat) (g : Nat × Nat × Nat) (I : Nat → Nat → Int32) (J : Nat → Nat → Int64) (sl : Nat) (rd rl : Nat) (y0 : Int32) (w1 w2 w3 : Value) : aE d 260 9 [.ref 46, w1, w2, w3] [.int y0] (g, I, J, aP1 sl rd rl) = aE d 260 14 [.ref 46, .int y0, .int 0, .int 0] [] (g, I, J, aP1 sl rd rl) := (aBk [9, 14, 34, 61] 200 _ _ _ _ _ _).trans rfl
-- 127: BluesAndGreens.worst()I
set_option maxRecDepth 100000 in
theorem b127_11 (d : Nat) (g : Nat × Nat × Nat) (I : Nat → Nat → Int32) (J : Nat → Nat → Int64) (sl : Nat) (rd rl : Nat) (y0 : Int32) (w1 w2 w3 w4 w5 w6 w7 : Value) : aE d 127 11 [.ref 6, w1, w2, w3, w4, w5, w6, w7] [.int y0] (g, I, J, aP1 sl rd rl) = aE d 127 22 [.ref 6, .int y0, .int (-1), .int 0, .int 0, .int 0, w6, w7] [] (g, I, J, aP1 sl rd rl) := (aBk [11, 22, 37, 49, 60, 115] 200 _ _ _ _ _ _).trans rfl
-- 261: BluesAndGreensModel.worst()I
set_option maxRecDepth 100000 in
theorem b261_11 (d : Nat) (g : Nat × Nat × Nat) (I : Nat → Nat → Int32) (J : Nat → Nat → Int64) (sl : Nat) (rd rl : Nat) (a1 a2 a3 : Int32) : aE d 261 11 [.ref 46, .int a1, .int a2, .int a3] [] (g, I, J, aP1 sl rd rl) = (if (I 46 6) ≤ a3 then (if a1 = (-1) then some (some (some (.int (-2))), (g, I, J, aP1 sl rd rl)) else (aBv (aF d 229 [.ref 46, .long (Int32.toInt64 a2)] (g, (aU I 46 12 0), J, aP1 sl rd rl)) (fun t0 => aE d 261 97 [.ref 46, .int a1, .int a2, .int a3] [] t0))) else (if (30 + a3) < 0 ∨ 39 ≤ (30 + a3).toNatClampNeg then none else (if (I 47 (30 + a3).toNatClampNeg) = (-1) then (aBi (aF d 262 [.ref 46, .int a3, .int 0] (g, I, J, aP1 sl rd rl)) (fun x1 t1 => aE d 261 38 [.ref 46, .int a1, .int a2, .int a3] [.int x1] t1)) else aE d 261 11 [.ref 46, .int a1, .int a2, .int (a3 + 1)] [] (g, I, J, aP1 sl rd rl)))) := (aBk [11, 38, 44, 62, 68, 97, 104, 116] 200 _ _ _ _ _ _).trans rfl
-- 129: BluesAndGreens.riots(I)I
set_option maxRecDepth 100000 in
theorem b129_8 (d : Nat) (g : Nat × Nat × Nat) (I : Nat → Nat → Int32) (J : Nat → Nat → Int64) (sl : Nat) (rd rl : Nat) (a1 y0 : Int32) (w2 : Value) : aE d 129 8 [.ref 6, .int a1, w2] [.int y0] (g, I, J, aP1 sl rd rl) = (if y0 = 0 then some (some (some (.int (-1))), (g, I, J, aP1 sl rd rl)) else (aBi (aF d 133 [.ref 14, .int a1, .int 0] (g, I, J, aP1 sl rd rl)) (fun x0 t0 => aE d 129 22 [.ref 6, .int a1, w2] [.int x0] t0))) := (aBk [8, 22, 31, 40, 44] 200 _ _ _ _ _ _).trans rfl
-- 130: BluesAndGreens$City.areQuarters(I)Z
set_option maxRecDepth 100000 in
theorem b130_0 (d : Nat) (g : Nat × Nat × Nat) (I : Nat → Nat → Int32) (J : Nat → Nat → Int64) (sl : Nat) (rd rl : Nat) (a1 : Int32) : aE d 130 0 [.ref 14, .int a1] [] (g, I, J, aP1 sl rd rl) = (aBi (aF d 131 [.ref 14] (g, I, J, aP1 sl rd rl)) (fun x0 t0 => aE d 130 5 [.ref 14, .int a1] [.int x0, .int a1] t0)) := (aBk [5] 200 _ _ _ _ _ _).trans rfl
-- 263: BluesAndGreensModel.riots(I)I
set_option maxRecDepth 100000 in
theorem b263_10 (d : Nat) (g : Nat × Nat × Nat) (I : Nat → Nat → Int32) (J : Nat → Nat → Int64) (sl : Nat) (rd rl : Nat) (a1 y0 : Int32) (w2 : Value) : aE d 263 10 [.ref 46, .int a1, w2] [.int y0] (g, I, J, aP1 sl rd rl) = (if y0 = 0 then some (some (some (.int (-1))), (g, I, J, aP1 sl rd rl)) else (aBi (aF d 265 [.ref 46, .int a1, .int 0] (g, I, J, aP1 sl rd rl)) (fun x0 t0 => aE d 263 21 [.ref 46, .int a1, w2] [.int x0] t0))) := (aBk [10, 21, 32, 36, 42, 46] 200 _ _ _ _ _ _).trans rfl
-- 264: BluesAndGreensModel.areQuarters(I)Z
set_option maxRecDepth 100000 in
theorem b264_0 (d : Nat) (g : Nat × Nat × Nat) (I : Nat → Nat → Int32) (J : Nat → Nat → Int64) (sl : Nat) (rd rl : Nat) (a1 : Int32) : aE d 264 0 [.ref 46, .int a1] [] (g, I, J, aP1 sl rd rl) = (aBi (aF d 181 [.int a1, .int 0, .int ((1 <<< ((I 46 4) &&& 31)) - 1)] (g, I, J, aP1 sl rd rl)) (fun x0 t0 => aE d 264 13 [.ref 46, .int a1] [.int x0] t0)) := (aBk [13] 200 _ _ _ _ _ _).trans rfl
-- 136: BluesAndGreens.spark()I
set_option maxRecDepth 100000 in
theorem b136_7 (d : Nat) (g : Nat × Nat × Nat) (I : Nat → Nat → Int32) (J : Nat → Nat → Int64) (sl : Nat) (rd rl : Nat) (y0 : Int32) (w1 w2 w3 : Value) : aE d 136 7 [.ref 6, w1, w2, w3] [.int y0] (g, I, J, aP1 sl rd rl) = aE d 136 12 [.ref 6, .int y0, .int y0, .int 0] [] (g, I, J, aP1 sl rd rl) := (aBk [7, 12, 21, 25, 37, 58, 62] 200 _ _ _ _ _ _).trans rfl
-- 131: BluesAndGreens$City.allQuarters()I
set_option maxRecDepth 100000 in
theorem b131_0 (d : Nat) (g : Nat × Nat × Nat) (I : Nat → Nat → Int32) (J : Nat → Nat → Int64) (sl : Nat) (rd rl : Nat) : aE d 131 0 [.ref 14] [] (g, I, J, aP1 sl rd rl) = (aBi (aF d 132 [.int (I 14 4)] (g, I, J, aP1 sl rd rl)) (fun x0 t0 => aE d 131 7 [.ref 14] [.int x0] t0)) := (aBk [7] 200 _ _ _ _ _ _).trans rfl
-- 266: BluesAndGreensModel.spark()I
set_option maxRecDepth 100000 in
theorem b266_9 (d : Nat) (g : Nat × Nat × Nat) (I : Nat → Nat → Int32) (J : Nat → Nat → Int64) (sl : Nat) (rd rl : Nat) (y0 : Int32) (w1 w2 : Value) : aE d 266 9 [.ref 46, w1, w2] [.int y0] (g, I, J, aP1 sl rd rl) = aE d 266 12 [.ref 46, .int y0, .int 0] [] (g, I, J, aP1 sl rd rl) := (aBk [9, 12, 17, 24, 28, 37, 41, 63, 67] 200 _ _ _ _ _ _).trans rfl
-- 267: BluesAndGreensModel.allQuarters()I
set_option maxRecDepth 100000 in
theorem b267_0 (d : Nat) (g : Nat × Nat × Nat) (I : Nat → Nat → Int32) (J : Nat → Nat → Int64) (sl : Nat) (rd rl : Nat) : aE d 267 0 [.ref 46] [] (g, I, J, aP1 sl rd rl) = some (some (some (.int ((1 <<< ((I 46 4) &&& 31)) - 1))), (g, I, J, aP1 sl rd rl)) := (aBk [] 200 _ _ _ _ _ _).trans rfl
-- 137: BluesAndGreens.won(II)I
set_option maxRecDepth 100000 in
theorem b137_8 (d : Nat) (g : Nat × Nat × Nat) (I : Nat → Nat → Int32) (J : Nat → Nat → Int64) (sl : Nat) (rd rl : Nat) (a1 a2 y0 : Int32) (w3 w4 w5 w6 : Value) : aE d 137 8 [.ref 6, .int a1, .int a2, w3, w4, w5, w6] [.int y0] (g, I, J, aP1 sl rd rl) = (if y0 = 0 then some (some (some (.int (-1))), (g, I, J, aP1 sl rd rl)) else (if a2 < 0 then some (some (some (.int (-1))), (g, I, J, aP1 sl rd rl)) else (if a2 ≤ 8 then (aBi (aF d 131 [.ref 14] (g, I, J, aP1 sl rd rl)) (fun x0 t0 => aE d 137 30 [.ref 6, .int a1, .int a2, w3, w4, w5, w6] [.int x0] t0)) else some (some (some (.int (-1))), (g, I, J, aP1 sl rd rl))))) := (aBk [8, 30, 37, 48, 53, 78, 81, 105, 110] 200 _ _ _ _ _ _).trans rfl
-- 268: BluesAndGreensModel.won(II)I
set_option maxRecDepth 100000 in
theorem b268_10 (d : Nat) (g : Nat × Nat × Nat) (I : Nat → Nat → Int32) (J : Nat → Nat → Int64) (sl : Nat) (rd rl : Nat) (a1 a2 y0 : Int32) (w3 w4 : Value) : aE d 268 10 [.ref 46, .int a1, .int a2, w3, w4] [.int y0] (g, I, J, aP1 sl rd rl) = (if y0 = 0 then some (some (some (.int (-1))), (g, I, J, aP1 sl rd rl)) else (aBi (aF d 181 [.int a2, .int 0, .int 8] (g, I, J, aP1 sl rd rl)) (fun x0 t0 => aE d 268 20 [.ref 46, .int a1, .int a2, w3, w4] [.int x0] t0))) := (aBk [10, 20, 29, 33, 39, 47, 51, 61, 64, 88, 92] 200 _ _ _ _ _ _).trans rfl
-- 138: BluesAndGreens.gates(II)I
set_option maxRecDepth 100000 in
theorem b138_8 (d : Nat) (g : Nat × Nat × Nat) (I : Nat → Nat → Int32) (J : Nat → Nat → Int64) (sl : Nat) (rd rl : Nat) (a1 a2 y0 : Int32) (w3 w4 w5 w6 w7 : Value) : aE d 138 8 [.ref 6, .int a1, .int a2, w3, w4, w5, w6, w7] [.int y0] (g, I, J, aP1 sl rd rl) = (if y0 = 0 then some (some (some (.int (-1))), (g, I, J, aP1 sl rd rl)) else (if a2 < 0 then some (some (some (.int (-1))), (g, I, J, aP1 sl rd rl)) else (if a2 ≤ 9 then (aBi (aF d 139 [.ref 14, .int a1, .int 0] (g, I, J, aP1 sl rd rl)) (fun x0 t0 => aE d 138 38 [.ref 6, .int a1, .int a2, .int 0, w4, w5, w6, w7] [.int x0, .ref 14] t0)) else some (some (some (.int (-1))), (g, I, J, aP1 sl rd rl))))) := (aBk [8, 38, 41, 46, 59, 84, 87, 109, 140, 144] 200 _ _ _ _ _ _).trans rfl
-- 269: BluesAndGreensModel.gates(II)I
set_option maxRecDepth 100000 in
theorem b269_10 (d : Nat) (g : Nat × Nat × Nat) (I : Nat → Nat → Int32) (J : Nat → Nat → Int64) (sl : Nat) (rd rl : Nat) (a1 a2 y0 : Int32) (w3 w4 w5 : Value) : aE d 269 10 [.ref 46, .int a1, .int a2, w3, w4, w5] [.int y0] (g, I, J, aP1 sl rd rl) = (if y0 = 0 then some (some (some (.int (-1))), (g, I, J, aP1 sl rd rl)) else (aBi (aF d 181 [.int a2, .int 0, .int 9] (g, I, J, aP1 sl rd rl)) (fun x0 t0 => aE d 269 20 [.ref 46, .int a1, .int a2, w3, w4, w5] [.int x0] t0))) := (aBk [10, 20, 30, 43, 58, 61, 68, 71, 89, 93, 116, 123, 127, 134, 137] 200 _ _ _ _ _ _).trans rfl
-- 140: BluesAndGreens.common(I)I
set_option maxRecDepth 100000 in
theorem b140_8 (d : Nat) (g : Nat × Nat × Nat) (I : Nat → Nat → Int32) (J : Nat → Nat → Int64) (sl : Nat) (rd rl : Nat) (a1 y0 : Int32) (w2 w3 w4 : Value) : aE d 140 8 [.ref 6, .int a1, w2, w3, w4] [.int y0] (g, I, J, aP1 sl rd rl) = (if y0 = 0 then some (some (some (.int (-1))), (g, I, J, aP1 sl rd rl)) else aE d 140 22 [.ref 6, .int a1, .int 511, .int 0, .int 0] [] (g, I, J, aP1 sl rd rl)) := (aBk [8, 22, 40, 84] 200 _ _ _ _ _ _).trans rfl
-- 271: BluesAndGreensModel.common(I)I
set_option maxRecDepth 100000 in
theorem b271_10 (d : Nat) (g : Nat × Nat × Nat) (I : Nat → Nat → Int32) (J : Nat → Nat → Int64) (sl : Nat) (rd rl : Nat) (a1 y0 : Int32) (w2 w3 w4 : Value) : aE d 271 10 [.ref 46, .int a1, w2, w3, w4] [.int y0] (g, I, J, aP1 sl rd rl) = (if y0 = 0 then some (some (some (.int (-1))), (g, I, J, aP1 sl rd rl)) else aE d 271 24 [.ref 46, .int a1, .int 511, .int 0, .int 0] [] (g, I, J, aP1 sl rd rl)) := (aBk [10, 24, 39, 90] 200 _ _ _ _ _ _).trans rfl
-- 141: BluesAndGreens.lots(III)I
set_option maxRecDepth 100000 in
theorem b141_47 (d : Nat) (g : Nat × Nat × Nat) (I : Nat → Nat → Int32) (J : Nat → Nat → Int64) (sl : Nat) (rd rl : Nat) (a1 a2 a3 : Int32) (z0 : Int64) (w4 w5 : Value) : aE d 141 47 [.ref 6, .int a1, .int a2, .int a3, w4, w5] [.long z0] (g, I, J, aP1 sl rd rl) = (aBl (aF d 143 [.int a3, .int a2] (g, I, J, aP1 sl rd rl)) (fun x0 t0 => aE d 141 52 [.ref 6, .int a1, .int a2, .int a3, w4, w5] [.long x0, .long z0] t0)) := (aBk [47, 52, 63, 75, 78] 200 _ _ _ _ _ _).trans rfl
set_option maxRecDepth 100000 in
theorem b141_75 (d : Nat) (g : Nat × Nat × Nat) (I : Nat → Nat → Int32) (J : Nat → Nat → Int64) (sl : Nat) (rd rl : Nat) (a3 : Int32) (z0 z1 : Int64) (w0 w1 w2 w4 w5 : Value) : aE d 141 75 [w0, w1, w2, .int a3, w4, w5] [.long z0, .long z1, .ref 6] (g, I, J, aP1 sl rd rl) = (aBv (aF d 144 [.ref 6, .long z1, .long z0] (g, I, J, aP1 sl rd rl)) (fun t0 => aE d 141 78 [w0, w1, w2, .int a3, w4, w5] [] t0)) := (aBk [47, 52, 63, 75, 78] 200 _ _ _ _ _ _).trans rfl
-- 142: BluesAndGreens.ways(II)J
set_option maxRecDepth 100000 in
theorem b142_0 (d : Nat) (g : Nat × Nat × Nat) (I : Nat → Nat → Int32) (J : Nat → Nat → Int64) (sl : Nat) (rd rl : Nat) (a0 a1 : Int32) : aE d 142 0 [.int a0, .int a1, aNo, aNo, aNo] [] (g, I, J, aP1 sl rd rl) = aE d 142 5 [.int a0, .int a1, .long 1, aNo, .int 1] [] (g, I, J, aP1 sl rd rl) := (aBk [5] 200 _ _ _ _ _ _).trans rfl
-- 143: BluesAndGreens.power(II)J
set_option maxRecDepth 100000 in
theorem b143_0 (d : Nat) (g : Nat × Nat × Nat) (I : Nat → Nat → Int32) (J : Nat → Nat → Int64) (sl : Nat) (rd rl : Nat) (a0 a1 : Int32) : aE d 143 0 [.int a0, .int a1, aNo, aNo, aNo] [] (g, I, J, aP1 sl rd rl) = aE d 143 5 [.int a0, .int a1, .long 1, aNo, .int 0] [] (g, I, J, aP1 sl rd rl) := (aBk [5] 200 _ _ _ _ _ _).trans rfl
-- 272: BluesAndGreensModel.lots(III)I
set_option maxRecDepth 100000 in
theorem b272_12 (d : Nat) (g : Nat × Nat × Nat) (I : Nat → Nat → Int32) (J : Nat → Nat → Int64) (sl : Nat) (rd rl : Nat) (a1 a2 a3 y0 : Int32) (w4 w5 w6 : Value) : aE d 272 12 [.ref 46, .int a1, .int a2, .int a3, w4, w5, w6] [.int y0] (g, I, J, aP1 sl rd rl) = (if y0 = 0 then some (some (some (.int (-1))), (g, I, J, aP1 sl rd rl)) else (aBi (aF d 181 [.int a2, .int 0, .int 12] (g, I, J, aP1 sl rd rl)) (fun x0 t0 => aE d 272 22 [.ref 46, .int a1, .int a2, .int a3, w4, w5, w6] [.int x0] t0))) := (aBk [12, 22, 32, 43, 89, 101, 109, 112] 200 _ _ _ _ _ _).trans rfl
-- 146: BluesAndGreens.bent(IIII)I
set_option maxRecDepth 100000 in
theorem b146_51 (d : Nat) (g : Nat × Nat × Nat) (I : Nat → Nat → Int32) (J : Nat → Nat → Int64) (sl : Nat) (rd rl : Nat) (a1 a2 a3 a4 : Int32) (z0 z1 : Int64) (w5 w6 w7 w8 : Value) : aE d 146 51 [.ref 6, .int a1, .int a2, .int a3, .int a4, w5, w6, w7, w8] [.long z0, .long z1] (g, I, J, aP1 sl rd rl) = (aBl (aF d 143 [.int (10 - a2), .int (a3 - a4)] (g, I, J, aP1 sl rd rl)) (fun x0 t0 => aE d 146 63 [.ref 6, .int a1, .int a2, .int a3, .int a4, w5, w6, w7, w8] [.long x0, .long (z1 * z0)] t0)) := (aBk [51, 63, 78, 100] 200 _ _ _ _ _ _).trans rfl
-- 276: BluesAndGreensModel.bent(IIII)I
set_option maxRecDepth 100000 in
theorem b276_12 (d : Nat) (g : Nat × Nat × Nat) (I : Nat → Nat → Int32) (J : Nat → Nat → Int64) (sl : Nat) (rd rl : Nat) (a1 a2 a3 a4 y0 : Int32) (w5 w6 w7 w8 : Value) : aE d 276 12 [.ref 46, .int a1, .int a2, .int a3, .int a4, w5, w6, w7, w8] [.int y0] (g, I, J, aP1 sl rd rl) = (if y0 = 0 then some (some (some (.int (-1))), (g, I, J, aP1 sl rd rl)) else (aBi (aF d 181 [.int a2, .int 0, .int 10] (g, I, J, aP1 sl rd rl)) (fun x0 t0 => aE d 276 22 [.ref 46, .int a1, .int a2, .int a3, .int a4, w5, w6, w7, w8] [.int x0] t0))) := (aBk [12, 22, 32, 42, 56, 69, 86, 108] 200 _ _ _ _ _ _).trans rfl
-- 147: BluesAndGreens.heard(II)I
set_option maxRecDepth 100000 in
theorem b147_9 (d : Nat) (g : Nat × Nat × Nat) (I : Nat → Nat → Int32) (J : Nat → Nat → Int64) (sl : Nat) (rd rl : Nat) (y0 : Int32) (w0 w1 w2 : Value) : aE d 147 9 [w0, w1, w2] [.int y0] (g, I, J, aP1 sl rd rl) = some (some (some (.int y0)), (g, I, J, aP1 sl rd rl)) := (aBk [9] 200 _ _ _ _ _ _).trans rfl
-- 148: BluesAndGreens$Heard.add(II)I
set_option maxRecDepth 100000 in
theorem b148_0 (d : Nat) (g : Nat × Nat × Nat) (I : Nat → Nat → Int32) (J : Nat → Nat → Int64) (sl : Nat) (rd rl : Nat) (a1 a2 : Int32) : aE d 148 0 [.ref 42, .int a1, .int a2] [] (g, I, J, aP1 sl rd rl) = (if 12 ≤ (I 42 2) then some (some (some (.int (-1))), (g, I, J, aP1 sl rd rl)) else (if a2 < 0 then some (some (some (.int (-1))), (g, I, J, aP1 sl rd rl)) else (aBi (aF d 149 [.int a1] (g, I, J, aP1 sl rd rl)) (fun x0 t0 => aE d 148 18 [.ref 42, .int a1, .int a2] [.int x0, .int a2] t0)))) := (aBk [18] 200 _ _ _ _ _ _).trans rfl
-- 277: BluesAndGreensModel.heard(II)I
set_option maxRecDepth 100000 in
theorem b277_42 (d : Nat) (g : Nat × Nat × Nat) (I : Nat → Nat → Int32) (J : Nat → Nat → Int64) (sl : Nat) (rd rl : Nat) (a1 a2 a3 y0 : Int32) : aE d 277 42 [.ref 46, .int a1, .int a2, .int a3] [.int y0] (g, I, J, aP1 sl rd rl) = (if y0 = 0 then some (some (some (.int (-1))), (g, I, J, aP1 sl rd rl)) else (aBi (aF d 181 [.int a2, .int 0, .int a3] (g, I, J, aP1 sl rd rl)) (fun x0 t0 => aE d 277 51 [.ref 46, .int a1, .int a2, .int a3] [.int x0] t0))) := (aBk [42, 51] 200 _ _ _ _ _ _).trans rfl
-- 150: BluesAndGreens.forget()I
set_option maxRecDepth 100000 in
theorem b150_7 (d : Nat) (g : Nat × Nat × Nat) (I : Nat → Nat → Int32) (J : Nat → Nat → Int64) (sl : Nat) (rd rl : Nat) (y0 : Int32) (w0 : Value) : aE d 150 7 [w0] [.int y0] (g, I, J, aP1 sl rd rl) = some (some (some (.int y0)), (g, I, J, aP1 sl rd rl)) := (aBk [7] 200 _ _ _ _ _ _).trans rfl
-- 151: BluesAndGreens$Heard.clear()I
set_option maxRecDepth 100000 in
theorem b151_0 (d : Nat) (g : Nat × Nat × Nat) (I : Nat → Nat → Int32) (J : Nat → Nat → Int64) (sl : Nat) (rd rl : Nat) : aE d 151 0 [.ref 42, aNo] [] (g, I, J, aP1 sl rd rl) = some (some (some (.int (I 42 2))), (g, (aU I 42 2 0), J, aP1 sl rd rl)) := (aBk [] 200 _ _ _ _ _ _).trans rfl
-- 152: BluesAndGreens.fits()I
set_option maxRecDepth 100000 in
theorem b152_11 (d : Nat) (g : Nat × Nat × Nat) (I : Nat → Nat → Int32) (J : Nat → Nat → Int64) (sl : Nat) (rd rl : Nat) (y0 : Int32) (w1 : Value) : aE d 152 11 [.ref 6, w1] [.int y0] (g, I, J, aP1 sl rd rl) = (aBi (aF d 12 [.int y0] (g, I, J, aP1 sl rd rl)) (fun x0 t0 => aE d 152 20 [.ref 6, .int y0] [.int x0, .ref 12] t0)) := (aBk [11, 20, 29, 33] 200 _ _ _ _ _ _).trans rfl
-- 153: BluesAndGreens$Heard.fitting(LBluesAndGreens$City;)I
set_option maxRecDepth 100000 in
theorem b153_0 (d : Nat) (g : Nat × Nat × Nat) (I : Nat → Nat → Int32) (J : Nat → Nat → Int64) (sl : Nat) (rd rl : Nat) : aE d 153 0 [.ref 42, .ref 14, aNo, aNo] [] (g, I, J, aP1 sl rd rl) = aE d 153 4 [.ref 42, .ref 14, .int 0, .int 0] [] (g, I, J, aP1 sl rd rl) := (aBk [4, 18] 200 _ _ _ _ _ _).trans rfl
-- 279: BluesAndGreensModel.fits()I
set_option maxRecDepth 100000 in
theorem b279_15 (d : Nat) (g : Nat × Nat × Nat) (I : Nat → Nat → Int32) (J : Nat → Nat → Int64) (sl : Nat) (rd rl : Nat) (y0 : Int32) : aE d 279 15 [.ref 46] [.int y0, .ref 46] (g, I, J, aP1 sl rd rl) = (aBi (aF d 12 [.int y0] (g, I, J, aP1 sl rd rl)) (fun x0 t0 => aE d 279 18 [.ref 46] [.int x0, .ref 46] t0)) := (aBk [15, 18, 22, 28, 31, 35, 39] 200 _ _ _ _ _ _).trans rfl
-- 280: BluesAndGreensModel.fitting()I
set_option maxRecDepth 100000 in
theorem b280_0 (d : Nat) (g : Nat × Nat × Nat) (I : Nat → Nat → Int32) (J : Nat → Nat → Int64) (sl : Nat) (rd rl : Nat) : aE d 280 0 [.ref 46, aNo, aNo, aNo, aNo] [] (g, I, J, aP1 sl rd rl) = aE d 280 4 [.ref 46, .int 0, .int 0, aNo, aNo] [] (g, I, J, aP1 sl rd rl) := (aBk [4, 17, 49] 200 _ _ _ _ _ _).trans rfl
-- 156: BluesAndGreens.ask()I
set_option maxRecDepth 100000 in
theorem b156_11 (d : Nat) (g : Nat × Nat × Nat) (I : Nat → Nat → Int32) (J : Nat → Nat → Int64) (sl : Nat) (rd rl : Nat) (y0 : Int32) (w1 w2 w3 w4 w5 w6 : Value) : aE d 156 11 [.ref 6, w1, w2, w3, w4, w5, w6] [.int y0] (g, I, J, aP1 sl rd rl) = (if y0 = 0 then some (some (some (.int (-2))), (g, I, J, aP1 sl rd rl)) else aE d 156 27 [.ref 6, .int y0, .int 0, .int 9, .int 0, w5, w6] [] (g, I, J, aP1 sl rd rl)) := (aBk [11, 27, 43, 48, 56, 91] 200 _ _ _ _ _ _).trans rfl
-- 282: BluesAndGreensModel.ask()I
set_option maxRecDepth 100000 in
theorem b282_9 (d : Nat) (g : Nat × Nat × Nat) (I : Nat → Nat → Int32) (J : Nat → Nat → Int64) (sl : Nat) (rd rl : Nat) (y0 : Int32) (w1 w2 w3 w4 w5 w6 : Value) : aE d 282 9 [.ref 46, w1, w2, w3, w4, w5, w6] [.int y0] (g, I, J, aP1 sl rd rl) = (if y0 = 0 then some (some (some (.int (-2))), (g, I, J, aP1 sl rd rl)) else aE d 282 26 [.ref 46, .int y0, .int (-1), .int 1000000, .int 0, w5, w6] [] (g, I, J, aP1 sl rd rl)) := (aBk [9, 26, 39, 56, 68, 91, 131] 200 _ _ _ _ _ _).trans rfl
-- 158: BluesAndGreens.rests(II)I
set_option maxRecDepth 100000 in
theorem b158_29 (d : Nat) (g : Nat × Nat × Nat) (I : Nat → Nat → Int32) (J : Nat → Nat → Int64) (sl : Nat) (rd rl : Nat) (a1 a2 : Int32) (w3 w4 w5 : Value) : aE d 158 29 [.ref 6, .int a1, .int a2, w3, w4, w5] [] (g, I, J, aP1 sl rd rl) = aE d 158 34 [.ref 6, .int a1, .int a2, .int 0, .int 0, w5] [] (g, I, J, aP1 sl rd rl) := (aBk [29, 34, 44, 60, 87] 200 _ _ _ _ _ _).trans rfl
-- 283: BluesAndGreensModel.rests(II)I
set_option maxRecDepth 100000 in
theorem b283_12 (d : Nat) (g : Nat × Nat × Nat) (I : Nat → Nat → Int32) (J : Nat → Nat → Int64) (sl : Nat) (rd rl : Nat) (a1 a2 y0 : Int32) (w3 w4 w5 : Value) : aE d 283 12 [.ref 46, .int a1, .int a2, w3, w4, w5] [.int y0] (g, I, J, aP1 sl rd rl) = (if y0 = 0 then some (some (some (.int (-1))), (g, I, J, aP1 sl rd rl)) else (aBi (aF d 181 [.int a2, .int 0, .int 9] (g, I, J, aP1 sl rd rl)) (fun x0 t0 => aE d 283 22 [.ref 46, .int a1, .int a2, w3, w4, w5] [.int x0] t0))) := (aBk [12, 22, 37, 47, 63, 80, 87] 200 _ _ _ _ _ _).trans rfl
-- 162: BluesAndGreens.law()I
set_option maxRecDepth 100000 in
theorem b162_8 (d : Nat) (g : Nat × Nat × Nat) (I : Nat → Nat → Int32) (J : Nat → Nat → Int64) (sl : Nat) (rd rl : Nat) (y0 : Int32) (w2 w3 : Value) : aE d 162 8 [.ref 6, aNo, w2, w3] [.int y0] (g, I, J, aP1 sl rd rl) = (if y0 = 0 then (if (I 14 0) = 0 then some (some (some (.int (-20000))), (g, I, J, aP1 sl rd rl)) else (aBv (aF d 63 [.ref 27, .ref 23] (g, I, J, aP1 sl rd rl)) (fun t0 => aE d 162 44 [.ref 6, .int y0, w2, w3] [] t0))) else some (some (some (.int (y0 - 9999))), (g, I, J, aP1 sl rd rl))) := (aBk [8, 44, 65, 77, 98, 110] 200 _ _ _ _ _ _).trans rfl
-- 287: BluesAndGreensModel.law()I
set_option maxRecDepth 100000 in
theorem b287_14 (d : Nat) (g : Nat × Nat × Nat) (I : Nat → Nat → Int32) (J : Nat → Nat → Int64) (sl : Nat) (rd rl : Nat) (a1 y0 : Int32) (w2 w3 w4 w5 : Value) : aE d 287 14 [.ref 46, .int a1, w2, w3, w4, w5] [.int y0] (g, I, J, aP1 sl rd rl) = (if y0 = 0 then some (some (some (.int ((-10000) - (I 46 18)))), (g, I, J, aP1 sl rd rl)) else (if (I 46 1) = 0 then some (some (some (.int (-20000))), (g, I, J, aP1 sl rd rl)) else (aBi (aF d 288 [.ref 46, .int 20] (g, I, J, aP1 sl rd rl)) (fun x0 t0 => aE d 287 43 [.ref 46, .int a1, w2, w3, w4, w5] [.int x0] t0)))) := (aBk [14, 43, 71, 103, 128, 134] 200 _ _ _ _ _ _).trans rfl
-- 163: BluesAndGreens.years(II)I
set_option maxRecDepth 100000 in
theorem b163_37 (d : Nat) (g : Nat × Nat × Nat) (I : Nat → Nat → Int32) (J : Nat → Nat → Int64) (sl : Nat) (rd rl : Nat) (a1 a2 : Int32) (w3 w4 w5 : Value) : aE d 163 37 [.ref 6, .int a1, .int a2, w3, w4, w5] [] (g, I, J, aP1 sl rd rl) = aE d 163 53 [.ref 6, .int a1, .int a2, .int 0, .int 0, .int 0] [] (g, (aU I 41 4 a1), J, aP1 sl rd rl) := (aBk [37, 53, 64, 79, 108, 117, 124] 200 _ _ _ _ _ _).trans rfl
-- 289: BluesAndGreensModel.years(II)I
set_option maxRecDepth 100000 in
theorem b289_22 (d : Nat) (g : Nat × Nat × Nat) (I : Nat → Nat → Int32) (J : Nat → Nat → Int64) (sl : Nat) (rd rl : Nat) (a1 a2 y0 : Int32) (w3 w4 w5 w6 w7 w8 : Value) : aE d 289 22 [.ref 46, .int a1, .int a2, w3, w4, w5, w6, w7, w8] [.int y0] (g, I, J, aP1 sl rd rl) = (if y0 = 0 then some (some (some (.int (-1))), (g, I, J, aP1 sl rd rl)) else (aBv (aF d 222 [.ref 47, .ref 60, .int 0] (g, (aU I 46 36 a1), J, aP1 sl rd rl)) (fun t0 => aE d 289 49 [.ref 46, .int a1, .int a2, .int 0, .int 0, w5, w6, w7, w8] [] t0))) := (aBk [22, 49, 52, 63, 86, 109, 119, 133, 148, 163, 168, 178, 211, 222, 229] 200 _ _ _ _ _ _).trans rfl
-- 166: BluesAndGreens.keep(I)Z
set_option maxRecDepth 100000 in
theorem b166_23 (d : Nat) (g : Nat × Nat × Nat) (I : Nat → Nat → Int32) (J : Nat → Nat → Int64) (sl : Nat) (rd rl : Nat) (a1 : Int32) : aE d 166 23 [.ref 6, .int a1] [] (g, I, J, aP1 sl rd rl) = (if a1 < 0 ∨ 2 ≤ a1.toNatClampNeg then none else some (some (some (.int 1)), (g, (aU I 32 a1.toNatClampNeg (vp_nar .boolean 1)), J, aP1 sl rd rl))) := (aBk [23] 200 _ _ _ _ _ _).trans rfl
-- 81: BluesAndGreens$State.write([II)V
set_option maxRecDepth 100000 in
theorem b81_0 (d : Nat) (g : Nat × Nat × Nat) (I : Nat → Nat → Int32) (J : Nat → Nat → Int64) (sl : Nat) (rd rl : Nat) (a2 : Int32) : aE d 81 0 [.ref 23, .ref 31, .int a2] [] (g, I, J, aP1 sl rd rl) = (if a2 < 0 then some (some none, (g, I, J, aP1 sl rd rl)) else (if 64 < ((a2 + 1) * 32) then some (some none, (g, I, J, aP1 sl rd rl)) else (if aKd 24 = 14 ∧ aKd 31 = 14 ∧ ¬ (0 : Int32) < 0 ∧ ¬ (a2 * 32) < 0 ∧ ¬ (32 : Int32) < 0 ∧ (0 : Int32).toNatClampNeg + (32 : Int32).toNatClampNeg ≤ aLn 24 ∧ (a2 * 32).toNatClampNeg + (32 : Int32).toNatClampNeg ≤ aLn 31 ∧ ¬ 24 = 31 ∧ aW [] ≤ 8 then some (some none, (g, (aCpI I 24 0 31 (a2 * 32).toNatClampNeg 32), J, aP1 sl rd rl)) else none))) := (aBk [] 200 _ _ _ _ _ _).trans rfl
-- 291: BluesAndGreensModel.keep(I)Z
set_option maxRecDepth 100000 in
theorem b291_11 (d : Nat) (g : Nat × Nat × Nat) (I : Nat → Nat → Int32) (J : Nat → Nat → Int64) (sl : Nat) (rd rl : Nat) (a1 y0 : Int32) : aE d 291 11 [.ref 46, .int a1] [.int y0] (g, I, J, aP1 sl rd rl) = (if y0 = 0 then some (some (some (.int 0)), (g, I, J, aP1 sl rd rl)) else (if a1 < 0 ∨ 2 ≤ a1.toNatClampNeg then none else (if a1 < 0 ∨ 2 ≤ a1.toNatClampNeg then none else (aBv (aF d 222 [.ref 47, .ref 64, .int (39 * a1)] (g, (aU (aU I 65 a1.toNatClampNeg (vp_nar .boolean 1)) 66 a1.toNatClampNeg (I 46 37)), J, aP1 sl rd rl)) (fun t0 => aE d 291 48 [.ref 46, .int a1] [] t0))))) := (aBk [11, 48] 200 _ _ _ _ _ _).trans rfl
-- 167: BluesAndGreens.again(I)Z
set_option maxRecDepth 100000 in
theorem b167_32 (d : Nat) (g : Nat × Nat × Nat) (I : Nat → Nat → Int32) (J : Nat → Nat → Int64) (sl : Nat) (rd rl : Nat) (w1 : Value) : aE d 167 32 [.ref 6, w1] [] (g, I, J, aP1 sl rd rl) = (aBv (aF d 54 [.ref 29] (g, I, J, aP1 sl rd rl)) (fun t0 => aE d 167 39 [.ref 6, w1] [] t0)) := (aBk [32, 39] 200 _ _ _ _ _ _).trans rfl
-- 107: BluesAndGreens$State.read([II)V
set_option maxRecDepth 100000 in
theorem b107_0 (d : Nat) (g : Nat × Nat × Nat) (I : Nat → Nat → Int32) (J : Nat → Nat → Int64) (sl : Nat) (rd rl : Nat) (a2 : Int32) : aE d 107 0 [.ref 23, .ref 31, .int a2] [] (g, I, J, aP1 sl rd rl) = (if a2 < 0 then some (some none, (g, I, J, aP1 sl rd rl)) else (if 64 < ((a2 + 1) * 32) then some (some none, (g, I, J, aP1 sl rd rl)) else (if aKd 31 = 14 ∧ aKd 24 = 14 ∧ ¬ (a2 * 32) < 0 ∧ ¬ (0 : Int32) < 0 ∧ ¬ (32 : Int32) < 0 ∧ (a2 * 32).toNatClampNeg + (32 : Int32).toNatClampNeg ≤ aLn 31 ∧ (0 : Int32).toNatClampNeg + (32 : Int32).toNatClampNeg ≤ aLn 24 ∧ ¬ 31 = 24 ∧ aW [] ≤ 8 then some (some none, (g, (aCpI I 31 (a2 * 32).toNatClampNeg 24 0 32), J, aP1 sl rd rl)) else none))) := (aBk [] 200 _ _ _ _ _ _).trans rfl
-- 292: BluesAndGreensModel.again(I)Z
set_option maxRecDepth 100000 in
theorem b292_11 (d : Nat) (g : Nat × Nat × Nat) (I : Nat → Nat → Int32) (J : Nat → Nat → Int64) (sl : Nat) (rd rl : Nat) (a1 y0 : Int32) (w2 : Value) : aE d 292 11 [.ref 46, .int a1, w2] [.int y0] (g, I, J, aP1 sl rd rl) = (if y0 = 0 then some (some (some (.int 0)), (g, I, J, aP1 sl rd rl)) else (if a1 < 0 ∨ 2 ≤ a1.toNatClampNeg then none else (if (I 65 a1.toNatClampNeg) = 0 then some (some (some (.int 0)), (g, I, J, aP1 sl rd rl)) else (if a1 < 0 ∨ 2 ≤ a1.toNatClampNeg then none else (if (I 66 a1.toNatClampNeg) = (I 46 37) then aE d 292 40 [.ref 46, .int a1, .int 0] [] (g, I, J, aP1 sl rd rl) else some (some (some (.int 0)), (g, I, J, aP1 sl rd rl))))))) := (aBk [11, 40] 200 _ _ _ _ _ _).trans rfl
-- 168: BluesAndGreens.count(I)I
set_option maxRecDepth 100000 in
theorem b168_1_c0 (d : Nat) (g : Nat × Nat × Nat) (I : Nat → Nat → Int32) (J : Nat → Nat → Int64) (sl : Nat) (rd rl : Nat) (w1 : Value) : aE d 168 1 [.ref 6, w1] [.int 0] (g, I, J, aP1 sl rd rl) = some (some (some (.int (I 14 0))), (g, I, J, aP1 sl rd rl)) := (aBk [1, 103, 115, 131, 142, 153] 200 _ _ _ _ _ _).trans rfl
set_option maxRecDepth 100000 in
theorem b168_1_c1 (d : Nat) (g : Nat × Nat × Nat) (I : Nat → Nat → Int32) (J : Nat → Nat → Int64) (sl : Nat) (rd rl : Nat) (w1 : Value) : aE d 168 1 [.ref 6, w1] [.int 1] (g, I, J, aP1 sl rd rl) = some (some (some (.int (I 14 4))), (g, I, J, aP1 sl rd rl)) := (aBk [1, 103, 115, 131, 142, 153] 200 _ _ _ _ _ _).trans rfl
set_option maxRecDepth 100000 in
theorem b168_1_c2 (d : Nat) (g : Nat × Nat × Nat) (I : Nat → Nat → Int32) (J : Nat → Nat → Int64) (sl : Nat) (rd rl : Nat) (w1 : Value) : aE d 168 1 [.ref 6, w1] [.int 2] (g, I, J, aP1 sl rd rl) = some (some (some (.int (I 14 9))), (g, I, J, aP1 sl rd rl)) := (aBk [1, 103, 115, 131, 142, 153] 200 _ _ _ _ _ _).trans rfl
set_option maxRecDepth 100000 in
theorem b168_1_c3 (d : Nat) (g : Nat × Nat × Nat) (I : Nat → Nat → Int32) (J : Nat → Nat → Int64) (sl : Nat) (rd rl : Nat) (w1 : Value) : aE d 168 1 [.ref 6, w1] [.int 3] (g, I, J, aP1 sl rd rl) = some (some (some (.int (I 14 11))), (g, I, J, aP1 sl rd rl)) := (aBk [1, 103, 115, 131, 142, 153] 200 _ _ _ _ _ _).trans rfl
set_option maxRecDepth 100000 in
theorem b168_1_c4 (d : Nat) (g : Nat × Nat × Nat) (I : Nat → Nat → Int32) (J : Nat → Nat → Int64) (sl : Nat) (rd rl : Nat) (w1 : Value) : aE d 168 1 [.ref 6, w1] [.int 4] (g, I, J, aP1 sl rd rl) = (aBi (aF d 71 [.ref 23] (g, I, J, aP1 sl rd rl)) (fun x0 t0 => aE d 168 103 [.ref 6, w1] [.int x0] t0)) := (aBk [1, 103, 115, 131, 142, 153] 200 _ _ _ _ _ _).trans rfl
set_option maxRecDepth 100000 in
theorem b168_1_c5 (d : Nat) (g : Nat × Nat × Nat) (I : Nat → Nat → Int32) (J : Nat → Nat → Int64) (sl : Nat) (rd rl : Nat) (w1 : Value) : aE d 168 1 [.ref 6, w1] [.int 5] (g, I, J, aP1 sl rd rl) = (aBi (aF d 78 [.ref 23, .ref 14] (g, I, J, aP1 sl rd rl)) (fun x0 t0 => aE d 168 115 [.ref 6, w1] [.int x0] t0)) := (aBk [1, 103, 115, 131, 142, 153] 200 _ _ _ _ _ _).trans rfl
set_option maxRecDepth 100000 in
theorem b168_1_c6 (d : Nat) (g : Nat × Nat × Nat) (I : Nat → Nat → Int32) (J : Nat → Nat → Int64) (sl : Nat) (rd rl : Nat) (w1 : Value) : aE d 168 1 [.ref 6, w1] [.int 6] (g, I, J, aP1 sl rd rl) = (aBi (aF d 69 [.ref 23] (g, I, J, aP1 sl rd rl)) (fun x0 t0 => aE d 168 131 [.ref 6, w1] [.int x0] t0)) := (aBk [1, 103, 115, 131, 142, 153] 200 _ _ _ _ _ _).trans rfl
set_option maxRecDepth 100000 in
theorem b168_1_c7 (d : Nat) (g : Nat × Nat × Nat) (I : Nat → Nat → Int32) (J : Nat → Nat → Int64) (sl : Nat) (rd rl : Nat) (w1 : Value) : aE d 168 1 [.ref 6, w1] [.int 7] (g, I, J, aP1 sl rd rl) = (aBi (aF d 132 [.int (I 14 9)] (g, I, J, aP1 sl rd rl)) (fun x0 t0 => aE d 168 142 [.ref 6, w1] [.int x0] t0)) := (aBk [1, 103, 115, 131, 142, 153] 200 _ _ _ _ _ _).trans rfl
set_option maxRecDepth 100000 in
theorem b168_1_c8 (d : Nat) (g : Nat × Nat × Nat) (I : Nat → Nat → Int32) (J : Nat → Nat → Int64) (sl : Nat) (rd rl : Nat) (w1 : Value) : aE d 168 1 [.ref 6, w1] [.int 8] (g, I, J, aP1 sl rd rl) = some (some (some (.int (I 42 2))), (g, I, J, aP1 sl rd rl)) := (aBk [1, 103, 115, 131, 142, 153] 200 _ _ _ _ _ _).trans rfl
set_option maxRecDepth 100000 in
theorem b168_1_c9 (d : Nat) (g : Nat × Nat × Nat) (I : Nat → Nat → Int32) (J : Nat → Nat → Int64) (sl : Nat) (rd rl : Nat) (w1 : Value) : aE d 168 1 [.ref 6, w1] [.int 9] (g, I, J, aP1 sl rd rl) = some (some (some (.int (I 29 1))), (g, I, J, aP1 sl rd rl)) := (aBk [1, 103, 115, 131, 142, 153] 200 _ _ _ _ _ _).trans rfl
set_option maxRecDepth 100000 in
theorem b168_1_c10 (d : Nat) (g : Nat × Nat × Nat) (I : Nat → Nat → Int32) (J : Nat → Nat → Int64) (sl : Nat) (rd rl : Nat) (w1 : Value) : aE d 168 1 [.ref 6, w1] [.int 10] (g, I, J, aP1 sl rd rl) = some (some (some (.int (I 12 1))), (g, I, J, aP1 sl rd rl)) := (aBk [1, 103, 115, 131, 142, 153] 200 _ _ _ _ _ _).trans rfl
set_option maxRecDepth 100000 in
theorem b168_1_c11 (d : Nat) (g : Nat × Nat × Nat) (I : Nat → Nat → Int32) (J : Nat → Nat → Int64) (sl : Nat) (rd rl : Nat) (w1 : Value) : aE d 168 1 [.ref 6, w1] [.int 11] (g, I, J, aP1 sl rd rl) = some (some (some (.int (I 7 1))), (g, I, J, aP1 sl rd rl)) := (aBk [1, 103, 115, 131, 142, 153] 200 _ _ _ _ _ _).trans rfl
-- 293: BluesAndGreensModel.count(I)I
set_option maxRecDepth 100000 in
theorem b293_6_c0 (d : Nat) (g : Nat × Nat × Nat) (I : Nat → Nat → Int32) (J : Nat → Nat → Int64) (sl : Nat) (rd rl : Nat) (w1 : Value) : aE d 293 6 [.ref 46, w1] [.int 0] (g, I, J, aP1 sl rd rl) = some (some (some (.int (I 46 1))), (g, I, J, aP1 sl rd rl)) := (aBk [6, 104, 117, 130] 200 _ _ _ _ _ _).trans rfl
set_option maxRecDepth 100000 in
theorem b293_6_c1 (d : Nat) (g : Nat × Nat × Nat) (I : Nat → Nat → Int32) (J : Nat → Nat → Int64) (sl : Nat) (rd rl : Nat) (w1 : Value) : aE d 293 6 [.ref 46, w1] [.int 1] (g, I, J, aP1 sl rd rl) = some (some (some (.int (I 46 4))), (g, I, J, aP1 sl rd rl)) := (aBk [6, 104, 117, 130] 200 _ _ _ _ _ _).trans rfl
set_option maxRecDepth 100000 in
theorem b293_6_c2 (d : Nat) (g : Nat × Nat × Nat) (I : Nat → Nat → Int32) (J : Nat → Nat → Int64) (sl : Nat) (rd rl : Nat) (w1 : Value) : aE d 293 6 [.ref 46, w1] [.int 2] (g, I, J, aP1 sl rd rl) = some (some (some (.int (I 46 6))), (g, I, J, aP1 sl rd rl)) := (aBk [6, 104, 117, 130] 200 _ _ _ _ _ _).trans rfl
set_option maxRecDepth 100000 in
theorem b293_6_c3 (d : Nat) (g : Nat × Nat × Nat) (I : Nat → Nat → Int32) (J : Nat → Nat → Int64) (sl : Nat) (rd rl : Nat) (w1 : Value) : aE d 293 6 [.ref 46, w1] [.int 3] (g, I, J, aP1 sl rd rl) = some (some (some (.int (I 46 8))), (g, I, J, aP1 sl rd rl)) := (aBk [6, 104, 117, 130] 200 _ _ _ _ _ _).trans rfl
set_option maxRecDepth 100000 in
theorem b293_6_c4 (d : Nat) (g : Nat × Nat × Nat) (I : Nat → Nat → Int32) (J : Nat → Nat → Int64) (sl : Nat) (rd rl : Nat) (w1 : Value) : aE d 293 6 [.ref 46, w1] [.int 4] (g, I, J, aP1 sl rd rl) = some (some (some (.int (I 47 38))), (g, I, J, aP1 sl rd rl)) := (aBk [6, 104, 117, 130] 200 _ _ _ _ _ _).trans rfl
set_option maxRecDepth 100000 in
theorem b293_6_c5 (d : Nat) (g : Nat × Nat × Nat) (I : Nat → Nat → Int32) (J : Nat → Nat → Int64) (sl : Nat) (rd rl : Nat) (w1 : Value) : aE d 293 6 [.ref 46, w1] [.int 5] (g, I, J, aP1 sl rd rl) = (aBi (aF d 228 [.ref 46, .ref 47] (g, I, J, aP1 sl rd rl)) (fun x0 t0 => aE d 293 104 [.ref 46, w1] [.int x0] t0)) := (aBk [6, 104, 117, 130] 200 _ _ _ _ _ _).trans rfl
set_option maxRecDepth 100000 in
theorem b293_6_c6 (d : Nat) (g : Nat × Nat × Nat) (I : Nat → Nat → Int32) (J : Nat → Nat → Int64) (sl : Nat) (rd rl : Nat) (w1 : Value) : aE d 293 6 [.ref 46, w1] [.int 6] (g, I, J, aP1 sl rd rl) = (aBi (aF d 294 [.ref 46] (g, I, J, aP1 sl rd rl)) (fun x0 t0 => aE d 293 117 [.ref 46, w1] [.int x0] t0)) := (aBk [6, 104, 117, 130] 200 _ _ _ _ _ _).trans rfl
set_option maxRecDepth 100000 in
theorem b293_6_c7 (d : Nat) (g : Nat × Nat × Nat) (I : Nat → Nat → Int32) (J : Nat → Nat → Int64) (sl : Nat) (rd rl : Nat) (w1 : Value) : aE d 293 6 [.ref 46, w1] [.int 7] (g, I, J, aP1 sl rd rl) = (aBi (aF d 257 [.ref 46] (g, I, J, aP1 sl rd rl)) (fun x0 t0 => aE d 293 130 [.ref 46, w1] [.int x0, .int ((1 <<< ((I 46 6) &&& 31)) - 1)] t0)) := (aBk [6, 104, 117, 130] 200 _ _ _ _ _ _).trans rfl
set_option maxRecDepth 100000 in
theorem b293_6_c8 (d : Nat) (g : Nat × Nat × Nat) (I : Nat → Nat → Int32) (J : Nat → Nat → Int64) (sl : Nat) (rd rl : Nat) (w1 : Value) : aE d 293 6 [.ref 46, w1] [.int 8] (g, I, J, aP1 sl rd rl) = some (some (some (.int (I 46 35))), (g, I, J, aP1 sl rd rl)) := (aBk [6, 104, 117, 130] 200 _ _ _ _ _ _).trans rfl
set_option maxRecDepth 100000 in
theorem b293_6_c9 (d : Nat) (g : Nat × Nat × Nat) (I : Nat → Nat → Int32) (J : Nat → Nat → Int64) (sl : Nat) (rd rl : Nat) (w1 : Value) : aE d 293 6 [.ref 46, w1] [.int 9] (g, I, J, aP1 sl rd rl) = some (some (some (.int (I 46 26))), (g, I, J, aP1 sl rd rl)) := (aBk [6, 104, 117, 130] 200 _ _ _ _ _ _).trans rfl
set_option maxRecDepth 100000 in
theorem b293_6_c10 (d : Nat) (g : Nat × Nat × Nat) (I : Nat → Nat → Int32) (J : Nat → Nat → Int64) (sl : Nat) (rd rl : Nat) (w1 : Value) : aE d 293 6 [.ref 46, w1] [.int 10] (g, I, J, aP1 sl rd rl) = some (some (some (.int (I 46 12))), (g, I, J, aP1 sl rd rl)) := (aBk [6, 104, 117, 130] 200 _ _ _ _ _ _).trans rfl
set_option maxRecDepth 100000 in
theorem b293_6_c11 (d : Nat) (g : Nat × Nat × Nat) (I : Nat → Nat → Int32) (J : Nat → Nat → Int64) (sl : Nat) (rd rl : Nat) (w1 : Value) : aE d 293 6 [.ref 46, w1] [.int 11] (g, I, J, aP1 sl rd rl) = some (some (some (.int (I 46 10))), (g, I, J, aP1 sl rd rl)) := (aBk [6, 104, 117, 130] 200 _ _ _ _ _ _).trans rfl
-- 302: BluesAndGreensLaw.row(LBluesAndGreens;I[J)I
set_option maxRecDepth 100000 in
theorem b302_7 (d : Nat) (g : Nat × Nat × Nat) (I : Nat → Nat → Int32) (J : Nat → Nat → Int64) (sl : Nat) (rd rl : Nat) (y1 : Int32) (z0 : Int64) (w0 w1 w2 w3 : Value) : aE d 302 7 [w0, w1, w2, w3] [.long z0, .int y1, .ref 67] (g, I, J, aP1 sl rd rl) = (if y1 < 0 ∨ 1 ≤ y1.toNatClampNeg then none else some (some (some (.int 0)), (g, I, (aU J 67 y1.toNatClampNeg z0), aP1 sl rd rl))) := (aBk [7, 12] 200 _ _ _ _ _ _).trans rfl
set_option maxRecDepth 100000 in
theorem b302_12 (d : Nat) (g : Nat × Nat × Nat) (I : Nat → Nat → Int32) (J : Nat → Nat → Int64) (sl : Nat) (rd rl : Nat) (w0 w1 w2 w3 : Value) : aE d 302 12 [w0, w1, w2, w3] [] (g, I, J, aP1 sl rd rl) = some (some (some (.int 1)), (g, I, J, aP1 sl rd rl)) := (aBk [7, 12] 200 _ _ _ _ _ _).trans rfl
-- 176: BluesAndGreens.row(I)J
set_option maxRecDepth 100000 in
theorem b176_0 (d : Nat) (g : Nat × Nat × Nat) (I : Nat → Nat → Int32) (J : Nat → Nat → Int64) (sl : Nat) (rd rl : Nat) (a1 : Int32) : aE d 176 0 [.ref 6, .int a1] [] (g, I, J, aP1 sl rd rl) = (if a1 < 0 then some (none, ((g.1 + 0, g.2.1 + 1, g.2.2 + 6), I, J, aP1 sl rd rl)) else (if a1 < (I 12 1) then (if a1 < 0 ∨ 8 ≤ a1.toNatClampNeg then none else some (some (some (.long (J 13 a1.toNatClampNeg))), (g, I, J, aP1 sl rd rl))) else some (none, ((g.1 + 0, g.2.1 + 1, g.2.2 + 6), I, J, aP1 sl rd rl)))) := (aBk [] 200 _ _ _ _ _ _).trans rfl
-- 295: BluesAndGreensModel.row(I)J
set_option maxRecDepth 100000 in
theorem b295_16 (d : Nat) (g : Nat × Nat × Nat) (I : Nat → Nat → Int32) (J : Nat → Nat → Int64) (sl : Nat) (rd rl : Nat) (a1 y0 : Int32) : aE d 295 16 [.ref 46, .int a1] [.int y0] (g, I, J, aP1 sl rd rl) = (if y0 = 0 then (aBi (aF d 207 [.ref 46] (g, I, J, aP1 sl rd rl)) (fun x0 t0 => aE d 295 32 [.ref 46, .int a1] [.int x0] t0)) else (if a1 < 0 ∨ 16 ≤ a1.toNatClampNeg then none else some (some (some (.long (J 53 a1.toNatClampNeg))), (g, I, J, aP1 sl rd rl)))) := (aBk [16, 32] 200 _ _ _ _ _ _).trans rfl
-- 44: BluesAndGreens$Text.add(I)I
set_option maxRecDepth 100000 in
theorem b44_19 (d : Nat) (g : Nat × Nat × Nat) (I : Nat → Nat → Int32) (J : Nat → Nat → Int64) (sl : Nat) (rd rl : Nat) (a1 a2 : Int32) : aE d 44 19 [.ref 7, .int a1, .int a2] [] (g, I, J, aP1 sl rd rl) = (if a2 < 0 then some (some (some (.int (I 7 1))), (g, I, J, aP1 sl rd rl)) else (aBv (aF d 26 [.ref 7, .int (UInt32.toInt32 (Int32.toUInt32 ((a1.toUInt32 >>> (Int32.toUInt32 a2 &&& Int32.toUInt32 31)).toInt32 &&& 255) % 65536))] (g, I, J, aP1 sl rd rl)) (fun t0 => aE d 44 35 [.ref 7, .int a1, .int a2] [] t0))) := (aBk [19, 35] 200 _ _ _ _ _ _).trans rfl
-- 46: BluesAndGreens.drivers()I
set_option maxRecDepth 100000 in
theorem b46_31 (d : Nat) (g : Nat × Nat × Nat) (I : Nat → Nat → Int32) (J : Nat → Nat → Int64) (sl : Nat) (rd rl : Nat) (a1 y0 : Int32) : aE d 46 31 [.ref 6, .int a1] [.int y0] (g, I, J, aP1 sl rd rl) = (if a1 ≤ 0 then aE d 46 65 [.ref 6, .int a1] [] (g, I, J, aP1 sl rd rl) else (aBv (aF d 52 [.ref 23, .ref 14, .int a1] (g, I, J, aP1 sl rd rl)) (fun t0 => aE d 46 48 [.ref 6, .int a1] [] t0))) := (aBk [22, 31, 48, 65] 200 _ _ _ _ _ _).trans rfl
-- 47: BluesAndGreens$Reader.linesOf(CILBluesAndGreens$City;I)I
set_option maxRecDepth 100000 in
theorem b47_5 (d : Nat) (g : Nat × Nat × Nat) (I : Nat → Nat → Int32) (J : Nat → Nat → Int64) (sl : Nat) (rd rl : Nat) (a1 a4 : Int32) (w2 w5 w6 : Value) : aE d 47 5 [.ref 9, .int a1, w2, .ref 14, .int a4, w5, w6] [] (g, I, J, aP1 sl rd rl) = aE d 47 12 [.ref 9, .int a1, w2, .ref 14, .int a4, .int 0, .int a4] [] (g, I, J, aP1 sl rd rl) := (aBk [5, 12, 44, 55, 62, 74, 86] 200 _ _ _ _ _ _).trans rfl
-- 29: BluesAndGreens$Reader.open(I)V
set_option maxRecDepth 100000 in
theorem b29_0 (d : Nat) (g : Nat × Nat × Nat) (I : Nat → Nat → Int32) (J : Nat → Nat → Int64) (sl : Nat) (rd rl : Nat) (a1 : Int32) : aE d 29 0 [.ref 9, .int a1] [] (g, I, J, aP1 sl rd rl) = some (some none, (g, (aU (aU (aU I 9 1 a1) 9 2 0) 9 3 (-1)), J, aP1 sl rd rl)) := (aBk [] 200 _ _ _ _ _ _).trans rfl
-- 182: BluesAndGreensModel.drivers()I
set_option maxRecDepth 100000 in
theorem b182_24 (d : Nat) (g : Nat × Nat × Nat) (I : Nat → Nat → Int32) (J : Nat → Nat → Int64) (sl : Nat) (rd rl : Nat) (a1 a2 : Int32) (w3 : Value) : aE d 182 24 [.ref 46, .int a1, .int a2, w3] [] (g, I, J, aP1 sl rd rl) = (if a2 = 0 then (aBi (aF d 193 [.ref 46] (g, I, J, aP1 sl rd rl)) (fun x0 t0 => aE d 182 121 [.ref 46, .int a1, .int a2, w3] [.int x0] t0)) else (aBi (aF d 185 [.ref 46] (g, I, J, aP1 sl rd rl)) (fun x1 t1 => aE d 182 32 [.ref 46, .int a1, .int a2, w3] [.int x1] t1))) := (aBk [11, 24, 32, 54, 72, 89, 103, 113, 121, 133, 242] 200 _ _ _ _ _ _).trans rfl
-- 183: BluesAndGreensModel.beginText(I)V
set_option maxRecDepth 100000 in
theorem b183_13 (d : Nat) (g : Nat × Nat × Nat) (I : Nat → Nat → Int32) (J : Nat → Nat → Int64) (sl : Nat) (rd rl : Nat) (w1 : Value) : aE d 183 13 [.ref 46, w1] [] (g, I, J, aP1 sl rd rl) = some (some none, (g, (aU I 46 10 0), J, aP1 sl rd rl)) := (aBk [13] 200 _ _ _ _ _ _).trans rfl
-- 184: BluesAndGreensModel.begin([BII)V
set_option maxRecDepth 100000 in
theorem b184_0 (d : Nat) (g : Nat × Nat × Nat) (I : Nat → Nat → Int32) (J : Nat → Nat → Int64) (sl : Nat) (rd rl : Nat) (a2 a3 : Int32) : aE d 184 0 [.ref 46, .ref 52, .int a2, .int a3] [] (g, I, J, aP1 sl rd rl) = some (some none, (g, (aU (aU (aU (aU I 46 15 a2) 46 16 a3) 46 17 0) 46 18 (-1)), J, aU (aP1 sl rd rl) 46 14 53)) := (aBk [] 200 _ _ _ _ _ _).trans rfl
-- 55: BluesAndGreens.quarters()I
set_option maxRecDepth 100000 in
theorem b55_31 (d : Nat) (g : Nat × Nat × Nat) (I : Nat → Nat → Int32) (J : Nat → Nat → Int64) (sl : Nat) (rd rl : Nat) (a1 y0 : Int32) : aE d 55 31 [.ref 6, .int a1] [.int y0] (g, I, J, aP1 sl rd rl) = (if a1 ≤ 0 then aE d 55 53 [.ref 6, .int a1] [] (g, I, J, aP1 sl rd rl) else (aBv (aF d 53 [.ref 6] (g, (aU I 14 4 ((I 14 4) + a1)), J, aP1 sl rd rl)) (fun t0 => aE d 55 53 [.ref 6, .int a1] [] t0))) := (aBk [22, 31, 53] 200 _ _ _ _ _ _).trans rfl
-- 195: BluesAndGreensModel.quarters()I
set_option maxRecDepth 100000 in
theorem b195_24 (d : Nat) (g : Nat × Nat × Nat) (I : Nat → Nat → Int32) (J : Nat → Nat → Int64) (sl : Nat) (rd rl : Nat) (a1 a2 : Int32) (w3 : Value) : aE d 195 24 [.ref 46, .int a1, .int a2, w3] [] (g, I, J, aP1 sl rd rl) = (if a2 = 0 then (aBi (aF d 193 [.ref 46] (g, I, J, aP1 sl rd rl)) (fun x0 t0 => aE d 195 81 [.ref 46, .int a1, .int a2, w3] [.int x0] t0)) else (aBi (aF d 185 [.ref 46] (g, I, J, aP1 sl rd rl)) (fun x1 t1 => aE d 195 32 [.ref 46, .int a1, .int a2, w3] [.int x1] t1))) := (aBk [11, 24, 32, 54, 64, 73, 81, 93, 139] 200 _ _ _ _ _ _).trans rfl
-- 56: BluesAndGreens.quarrels()I
set_option maxRecDepth 100000 in
theorem b56_31 (d : Nat) (g : Nat × Nat × Nat) (I : Nat → Nat → Int32) (J : Nat → Nat → Int64) (sl : Nat) (rd rl : Nat) (a1 y0 : Int32) : aE d 56 31 [.ref 6, .int a1] [.int y0] (g, I, J, aP1 sl rd rl) = (if a1 ≤ 0 then aE d 56 53 [.ref 6, .int a1] [] (g, I, J, aP1 sl rd rl) else (aBv (aF d 53 [.ref 6] (g, (aU I 14 9 ((I 14 9) + a1)), J, aP1 sl rd rl)) (fun t0 => aE d 56 53 [.ref 6, .int a1] [] t0))) := (aBk [22, 31, 53] 200 _ _ _ _ _ _).trans rfl
-- 197: BluesAndGreensModel.quarrels()I
set_option maxRecDepth 100000 in
theorem b197_24 (d : Nat) (g : Nat × Nat × Nat) (I : Nat → Nat → Int32) (J : Nat → Nat → Int64) (sl : Nat) (rd rl : Nat) (a1 a2 : Int32) (w3 : Value) : aE d 197 24 [.ref 46, .int a1, .int a2, w3] [] (g, I, J, aP1 sl rd rl) = (if a2 = 0 then (aBi (aF d 193 [.ref 46] (g, I, J, aP1 sl rd rl)) (fun x0 t0 => aE d 197 105 [.ref 46, .int a1, .int a2, w3] [.int x0] t0)) else (aBi (aF d 185 [.ref 46] (g, I, J, aP1 sl rd rl)) (fun x1 t1 => aE d 197 32 [.ref 46, .int a1, .int a2, w3] [.int x1] t1))) := (aBk [11, 24, 32, 54, 59, 81, 97, 105, 117, 151, 189] 200 _ _ _ _ _ _).trans rfl
-- 57: BluesAndGreens.rule()I
set_option maxRecDepth 100000 in
theorem b57_24 (d : Nat) (g : Nat × Nat × Nat) (I : Nat → Nat → Int32) (J : Nat → Nat → Int64) (sl : Nat) (rd rl : Nat) (a1 : Int32) (w0 : Value) : aE d 57 24 [w0, .int a1] [] (g, I, J, aP1 sl rd rl) = some (some (some (.int a1)), (g, I, J, aP1 sl rd rl)) := (aBk [8, 24] 200 _ _ _ _ _ _).trans rfl
-- 58: BluesAndGreens$Rule.copy(LBluesAndGreens$Rule;)V
set_option maxRecDepth 100000 in
theorem b58_0 (d : Nat) (g : Nat × Nat × Nat) (I : Nat → Nat → Int32) (J : Nat → Nat → Int64) (sl : Nat) (rd rl : Nat) : aE d 58 0 [.ref 33, .ref 37] [] (g, I, J, aP1 sl rd rl) = some (some none, (g, (aU (aCpI I 38 0 34 0 40) 33 1 (I 37 1)), J, aP1 sl rd rl)) := (aBk [] 200 _ _ _ _ _ _).trans rfl
-- 24: BluesAndGreens.readRule(LBluesAndGreens$Rule;)I
set_option maxRecDepth 100000 in
theorem b24_20 (d : Nat) (g : Nat × Nat × Nat) (I : Nat → Nat → Int32) (J : Nat → Nat → Int64) (sl : Nat) (rd rl : Nat) (w2 : Value) : aE d 24 20 [.ref 6, .ref 37, w2] [] (g, I, J, aP1 sl rd rl) = (aBi (aF d 27 [.ref 10, .ref 37] (g, I, J, aP1 sl rd rl)) (fun x0 t0 => aE d 24 28 [.ref 6, .ref 37, w2] [.int x0] t0)) := (aBk [20, 28, 37] 200 _ _ _ _ _ _).trans rfl
-- 25: BluesAndGreens$Text.put(Ljava/lang/String;)V
set_option maxRecDepth 100000 in
theorem b25_0 (d : Nat) (g : Nat × Nat × Nat) (I : Nat → Nat → Int32) (J : Nat → Nat → Int64) (sl : Nat) (rd rl : Nat) : aE d 25 0 [.ref 7, .ref 1, aNo] [] (g, I, J, aP1 sl rd rl) = aE d 25 7 [.ref 7, .ref 1, .int 0] [] (g, (aU I 7 1 0), J, aP1 sl rd rl) := (aBk [7, 12, 21, 24] 200 _ _ _ _ _ _).trans rfl
-- 198: BluesAndGreensModel.rule()I
set_option maxRecDepth 100000 in
theorem b198_26_r5356 (d : Nat) (g : Nat × Nat × Nat) (I : Nat → Nat → Int32) (J : Nat → Nat → Int64) (sl : Nat) (a1 a2 : Int32) : aE d 198 26 [.ref 46, .int a1, .int a2] [] (g, I, J, aP1 sl 53 56) = (if a1 ≤ a2 then some (some (some (.int 0)), (g, (aU I 46 22 a1), J, aP1 sl 53 56)) else (if a2 < 0 ∨ 80 ≤ a2.toNatClampNeg then none else (if a2 < 0 ∨ 40 ≤ a2.toNatClampNeg then none else aE d 198 26 [.ref 46, .int a1, .int (a2 + 1)] [] (g, (aU I 55 a2.toNatClampNeg (vp_nar .byte (I 52 a2.toNatClampNeg))), J, aP1 sl 53 56)))) := (aBk [14, 26] 200 _ _ _ _ _ _).trans rfl
set_option maxRecDepth 100000 in
theorem b198_26_r5656 (d : Nat) (g : Nat × Nat × Nat) (I : Nat → Nat → Int32) (J : Nat → Nat → Int64) (sl : Nat) (a1 a2 : Int32) : aE d 198 26 [.ref 46, .int a1, .int a2] [] (g, I, J, aP1 sl 56 56) = (if a1 ≤ a2 then some (some (some (.int 0)), (g, (aU I 46 22 a1), J, aP1 sl 56 56)) else (if a2 < 0 ∨ 80 ≤ a2.toNatClampNeg then none else (if a2 < 0 ∨ 40 ≤ a2.toNatClampNeg then none else aE d 198 26 [.ref 46, .int a1, .int (a2 + 1)] [] (g, (aU I 55 a2.toNatClampNeg (vp_nar .byte (I 52 a2.toNatClampNeg))), J, aP1 sl 56 56)))) := (aBk [14, 26] 200 _ _ _ _ _ _).trans rfl
set_option maxRecDepth 100000 in
theorem b198_26_r5757 (d : Nat) (g : Nat × Nat × Nat) (I : Nat → Nat → Int32) (J : Nat → Nat → Int64) (sl : Nat) (a1 a2 : Int32) : aE d 198 26 [.ref 46, .int a1, .int a2] [] (g, I, J, aP1 sl 57 57) = (if a1 ≤ a2 then some (some (some (.int 0)), (g, (aU I 46 22 a1), J, aP1 sl 57 57)) else (if a2 < 0 ∨ 80 ≤ a2.toNatClampNeg then none else (if a2 < 0 ∨ 40 ≤ a2.toNatClampNeg then none else aE d 198 26 [.ref 46, .int a1, .int (a2 + 1)] [] (g, (aU I 56 a2.toNatClampNeg (vp_nar .byte (I 52 a2.toNatClampNeg))), J, aP1 sl 57 57)))) := (aBk [14, 26] 200 _ _ _ _ _ _).trans rfl
-- 199: BluesAndGreensModel.readRule()Z
set_option maxRecDepth 100000 in
theorem b199_6 (d : Nat) (g : Nat × Nat × Nat) (I : Nat → Nat → Int32) (J : Nat → Nat → Int64) (sl : Nat) (rd rl : Nat) : aE d 199 6 [.ref 46] [] (g, I, J, aP1 sl rd rl) = (if (I 46 15) ≤ 0 then (aBi (aF d 193 [.ref 46] (g, (aU I 46 23 0), J, aP1 sl rd rl)) (fun x0 t0 => aE d 199 28 [.ref 46] [.int x0] t0)) else (aBi (aF d 200 [.ref 46, .int 0] (g, (aU I 46 23 0), J, aP1 sl rd rl)) (fun x1 t1 => aE d 199 23 [.ref 46] [.int x1] t1))) := (aBk [6, 23, 28] 200 _ _ _ _ _ _).trans rfl
-- 169: BluesAndGreens.driver(II)I
set_option maxRecDepth 100000 in
theorem b169_8 (d : Nat) (g : Nat × Nat × Nat) (I : Nat → Nat → Int32) (J : Nat → Nat → Int64) (sl : Nat) (rd rl : Nat) (a1 a2 y0 : Int32) : aE d 169 8 [.ref 6, .int a1, .int a2] [.int y0] (g, I, J, aP1 sl rd rl) = (if y0 = 0 then some (none, ((g.1 + 0, g.2.1 + 1, g.2.2 + 6), I, J, aP1 sl rd rl)) else aE d 169 20 [.ref 6, .int a1, .int a2] [.int a2] (g, I, J, aP1 sl rd rl)) := (aBk [8, 20, 84, 93, 110] 200 _ _ _ _ _ _).trans rfl
-- 88: BluesAndGreens$City.hasDriver(I)Z
set_option maxRecDepth 100000 in
theorem b88_0 (d : Nat) (g : Nat × Nat × Nat) (I : Nat → Nat → Int32) (J : Nat → Nat → Int64) (sl : Nat) (rd rl : Nat) (a1 : Int32) : aE d 88 0 [.ref 14, .int a1] [] (g, I, J, aP1 sl rd rl) = (if a1 < 0 then some (some (some (.int 0)), (g, I, J, aP1 sl rd rl)) else (if (I 14 0) ≤ a1 then some (some (some (.int 0)), (g, I, J, aP1 sl rd rl)) else some (some (some (.int 1)), (g, I, J, aP1 sl rd rl)))) := (aBk [] 200 _ _ _ _ _ _).trans rfl
-- 205: BluesAndGreensModel.driver(II)I
set_option maxRecDepth 100000 in
theorem b205_26 (d : Nat) (g : Nat × Nat × Nat) (I : Nat → Nat → Int32) (J : Nat → Nat → Int64) (sl : Nat) (rd rl : Nat) (y0 : Int32) (w0 w1 w2 : Value) : aE d 205 26 [w0, w1, w2] [.int y0] (g, I, J, aP1 sl rd rl) = some (some (some (.int y0)), (g, I, J, aP1 sl rd rl)) := (aBk [10, 19, 26] 200 _ _ _ _ _ _).trans rfl
set_option maxRecDepth 100000 in
theorem b205_19 (d : Nat) (g : Nat × Nat × Nat) (I : Nat → Nat → Int32) (J : Nat → Nat → Int64) (sl : Nat) (rd rl : Nat) (a1 a2 y0 : Int32) : aE d 205 19 [.ref 46, .int a1, .int a2] [.int y0] (g, I, J, aP1 sl rd rl) = (if y0 = 0 then (aBi (aF d 207 [.ref 46] (g, I, J, aP1 sl rd rl)) (fun x0 t0 => aE d 205 26 [.ref 46, .int a1, .int a2] [.int x0] t0)) else (if a2 = 0 then (if a1 < 0 ∨ 8 ≤ a1.toNatClampNeg then none else some (some (some (.int (I 48 a1.toNatClampNeg))), (g, I, J, aP1 sl rd rl))) else (if a2 = 1 then (if a1 < 0 ∨ 8 ≤ a1.toNatClampNeg then none else some (some (some (.int (I 49 a1.toNatClampNeg))), (g, I, J, aP1 sl rd rl))) else (if a2 = 2 then (if (6 + a1) < 0 ∨ 39 ≤ (6 + a1).toNatClampNeg then none else some (some (some (.int (I 47 (6 + a1).toNatClampNeg))), (g, I, J, aP1 sl rd rl))) else (if a2 = 3 then (if (14 + a1) < 0 ∨ 39 ≤ (14 + a1).toNatClampNeg then none else some (some (some (.int (I 47 (14 + a1).toNatClampNeg))), (g, I, J, aP1 sl rd rl))) else (if (22 + a1) < 0 ∨ 39 ≤ (22 + a1).toNatClampNeg then none else some (some (some (.int (I 47 (22 + a1).toNatClampNeg))), (g, I, J, aP1 sl rd rl)))))))) := (aBk [10, 19, 26] 200 _ _ _ _ _ _).trans rfl
-- 207: BluesAndGreensModel.lost()I
set_option maxRecDepth 100000 in
theorem b207_0 (d : Nat) (g : Nat × Nat × Nat) (I : Nat → Nat → Int32) (J : Nat → Nat → Int64) (sl : Nat) (rd rl : Nat) : aE d 207 0 [.ref 46] [] (g, I, J, aP1 sl rd rl) = some (some (some (.int 0)), (g, (aU I 46 13 1), J, aP1 sl rd rl)) := (aBk [] 200 _ _ _ _ _ _).trans rfl
-- 206: BluesAndGreensModel.isDriver(I)Z
set_option maxRecDepth 100000 in
theorem b206_11 (d : Nat) (g : Nat × Nat × Nat) (I : Nat → Nat → Int32) (J : Nat → Nat → Int64) (sl : Nat) (rd rl : Nat) (y0 : Int32) (w0 w1 : Value) : aE d 206 11 [w0, w1] [.int y0] (g, I, J, aP1 sl rd rl) = (if narrow .boolean (.int y0) = .int y0 then some (some (some (.int y0)), (g, I, J, aP1 sl rd rl)) else none) := (aBk [11] 200 _ _ _ _ _ _).trans rfl
-- 170: BluesAndGreens.strength(I)I
set_option maxRecDepth 100000 in
theorem b170_8 (d : Nat) (g : Nat × Nat × Nat) (I : Nat → Nat → Int32) (J : Nat → Nat → Int64) (sl : Nat) (rd rl : Nat) (a1 y0 : Int32) : aE d 170 8 [.ref 6, .int a1] [.int y0] (g, I, J, aP1 sl rd rl) = (if y0 = 0 then some (none, ((g.1 + 0, g.2.1 + 1, g.2.2 + 6), I, J, aP1 sl rd rl)) else (aBi (aF d 67 [.ref 33, .ref 14, .ref 23, .int a1] (g, I, J, aP1 sl rd rl)) (fun x0 t0 => aE d 170 35 [.ref 6, .int a1] [.int x0] t0))) := (aBk [8, 35] 200 _ _ _ _ _ _).trans rfl
-- 208: BluesAndGreensModel.strength(I)I
set_option maxRecDepth 100000 in
theorem b208_29 (d : Nat) (g : Nat × Nat × Nat) (I : Nat → Nat → Int32) (J : Nat → Nat → Int64) (sl : Nat) (rd rl : Nat) (y0 : Int32) (w0 w1 : Value) : aE d 208 29 [w0, w1] [.int y0] (g, I, J, aP1 sl rd rl) = some (some (some (.int y0)), (g, I, J, aP1 sl rd rl)) := (aBk [10, 22, 29] 200 _ _ _ _ _ _).trans rfl
set_option maxRecDepth 100000 in
theorem b208_22 (d : Nat) (g : Nat × Nat × Nat) (I : Nat → Nat → Int32) (J : Nat → Nat → Int64) (sl : Nat) (rd rl : Nat) (y0 : Int32) (w0 w1 : Value) : aE d 208 22 [w0, w1] [.int y0] (g, I, J, aP1 sl rd rl) = aE d 208 29 [w0, w1] [.int y0] (g, I, J, aP1 sl rd rl) := (aBk [10, 22, 29] 200 _ _ _ _ _ _).trans rfl
-- 209: BluesAndGreensModel.strengthOf([II)I
set_option maxRecDepth 100000 in
theorem b209_0_r5356 (d : Nat) (g : Nat × Nat × Nat) (I : Nat → Nat → Int32) (J : Nat → Nat → Int64) (sl : Nat) (a2 : Int32) : aE d 209 0 [.ref 46, .ref 47, .int a2, aNo, aNo] [] (g, I, J, aP1 sl 53 56) = (if (6 + a2) < 0 ∨ 39 ≤ (6 + a2).toNatClampNeg then none else (if (I 46 22) = 0 then (if a2 < 0 ∨ 8 ≤ a2.toNatClampNeg then none else (if (14 + a2) < 0 ∨ 39 ≤ (14 + a2).toNatClampNeg then none else some (some (some (.int ((((I 48 a2.toNatClampNeg) * 10) - ((I 47 (14 + a2).toNatClampNeg) * 15)) + ((((I 47 38) - (I 47 38) / 8 * 8) + a2) / 3)))), (g, I, J, aP1 sl 53 56)))) else (if a2 < 0 ∨ 8 ≤ a2.toNatClampNeg then none else (if (14 + a2) < 0 ∨ 39 ≤ (14 + a2).toNatClampNeg then none else (if (22 + a2) < 0 ∨ 39 ≤ (22 + a2).toNatClampNeg then none else (if (I 47 (6 + a2).toNatClampNeg) < 0 ∨ 39 ≤ (I 47 (6 + a2).toNatClampNeg).toNatClampNeg then none else (if (2 + (I 47 (6 + a2).toNatClampNeg)) < 0 ∨ 39 ≤ (2 + (I 47 (6 + a2).toNatClampNeg)).toNatClampNeg then none else (aBv (aF d 184 [.ref 46, .ref 55, .int (I 46 22), .int 40] (g, (aU (aU (aU (aU (aU (aU (aU (aU I 57 0 (I 48 a2.toNatClampNeg)) 57 1 (I 47 (14 + a2).toNatClampNeg)) 57 2 a2) 57 3 (I 47 (22 + a2).toNatClampNeg)) 57 4 ((I 47 38) - (I 47 38) / 8 * 8)) 57 5 (I 47 (6 + a2).toNatClampNeg)) 57 6 ((I 47 (I 47 (6 + a2).toNatClampNeg).toNatClampNeg) / 10)) 57 7 (I 47 (2 + (I 47 (6 + a2).toNatClampNeg)).toNatClampNeg)), J, aP1 sl 53 56)) (fun t0 => aE d 209 148 [.ref 46, .ref 47, .int a2, .int (I 47 (6 + a2).toNatClampNeg), aNo] [] t0))))))))) := (aBk [148, 158] 200 _ _ _ _ _ _).trans rfl
set_option maxRecDepth 100000 in
theorem b209_0_r5656 (d : Nat) (g : Nat × Nat × Nat) (I : Nat → Nat → Int32) (J : Nat → Nat → Int64) (sl : Nat) (a2 : Int32) : aE d 209 0 [.ref 46, .ref 47, .int a2, aNo, aNo] [] (g, I, J, aP1 sl 56 56) = (if (6 + a2) < 0 ∨ 39 ≤ (6 + a2).toNatClampNeg then none else (if (I 46 22) = 0 then (if a2 < 0 ∨ 8 ≤ a2.toNatClampNeg then none else (if (14 + a2) < 0 ∨ 39 ≤ (14 + a2).toNatClampNeg then none else some (some (some (.int ((((I 48 a2.toNatClampNeg) * 10) - ((I 47 (14 + a2).toNatClampNeg) * 15)) + ((((I 47 38) - (I 47 38) / 8 * 8) + a2) / 3)))), (g, I, J, aP1 sl 56 56)))) else (if a2 < 0 ∨ 8 ≤ a2.toNatClampNeg then none else (if (14 + a2) < 0 ∨ 39 ≤ (14 + a2).toNatClampNeg then none else (if (22 + a2) < 0 ∨ 39 ≤ (22 + a2).toNatClampNeg then none else (if (I 47 (6 + a2).toNatClampNeg) < 0 ∨ 39 ≤ (I 47 (6 + a2).toNatClampNeg).toNatClampNeg then none else (if (2 + (I 47 (6 + a2).toNatClampNeg)) < 0 ∨ 39 ≤ (2 + (I 47 (6 + a2).toNatClampNeg)).toNatClampNeg then none else (aBv (aF d 184 [.ref 46, .ref 55, .int (I 46 22), .int 40] (g, (aU (aU (aU (aU (aU (aU (aU (aU I 57 0 (I 48 a2.toNatClampNeg)) 57 1 (I 47 (14 + a2).toNatClampNeg)) 57 2 a2) 57 3 (I 47 (22 + a2).toNatClampNeg)) 57 4 ((I 47 38) - (I 47 38) / 8 * 8)) 57 5 (I 47 (6 + a2).toNatClampNeg)) 57 6 ((I 47 (I 47 (6 + a2).toNatClampNeg).toNatClampNeg) / 10)) 57 7 (I 47 (2 + (I 47 (6 + a2).toNatClampNeg)).toNatClampNeg)), J, aP1 sl 56 56)) (fun t0 => aE d 209 148 [.ref 46, .ref 47, .int a2, .int (I 47 (6 + a2).toNatClampNeg), aNo] [] t0))))))))) := (aBk [148, 158] 200 _ _ _ _ _ _).trans rfl
set_option maxRecDepth 100000 in
theorem b209_0_r5757 (d : Nat) (g : Nat × Nat × Nat) (I : Nat → Nat → Int32) (J : Nat → Nat → Int64) (sl : Nat) (a2 : Int32) : aE d 209 0 [.ref 46, .ref 47, .int a2, aNo, aNo] [] (g, I, J, aP1 sl 57 57) = (if (6 + a2) < 0 ∨ 39 ≤ (6 + a2).toNatClampNeg then none else (if (I 46 22) = 0 then (if a2 < 0 ∨ 8 ≤ a2.toNatClampNeg then none else (if (14 + a2) < 0 ∨ 39 ≤ (14 + a2).toNatClampNeg then none else some (some (some (.int ((((I 48 a2.toNatClampNeg) * 10) - ((I 47 (14 + a2).toNatClampNeg) * 15)) + ((((I 47 38) - (I 47 38) / 8 * 8) + a2) / 3)))), (g, I, J, aP1 sl 57 57)))) else (if a2 < 0 ∨ 8 ≤ a2.toNatClampNeg then none else (if (14 + a2) < 0 ∨ 39 ≤ (14 + a2).toNatClampNeg then none else (if (22 + a2) < 0 ∨ 39 ≤ (22 + a2).toNatClampNeg then none else (if (I 47 (6 + a2).toNatClampNeg) < 0 ∨ 39 ≤ (I 47 (6 + a2).toNatClampNeg).toNatClampNeg then none else (if (2 + (I 47 (6 + a2).toNatClampNeg)) < 0 ∨ 39 ≤ (2 + (I 47 (6 + a2).toNatClampNeg)).toNatClampNeg then none else (aBv (aF d 184 [.ref 46, .ref 56, .int (I 46 22), .int 40] (g, (aU (aU (aU (aU (aU (aU (aU (aU I 57 0 (I 48 a2.toNatClampNeg)) 57 1 (I 47 (14 + a2).toNatClampNeg)) 57 2 a2) 57 3 (I 47 (22 + a2).toNatClampNeg)) 57 4 ((I 47 38) - (I 47 38) / 8 * 8)) 57 5 (I 47 (6 + a2).toNatClampNeg)) 57 6 ((I 47 (I 47 (6 + a2).toNatClampNeg).toNatClampNeg) / 10)) 57 7 (I 47 (2 + (I 47 (6 + a2).toNatClampNeg)).toNatClampNeg)), J, aP1 sl 57 57)) (fun t0 => aE d 209 148 [.ref 46, .ref 47, .int a2, .int (I 47 (6 + a2).toNatClampNeg), aNo] [] t0))))))))) := (aBk [148, 158] 200 _ _ _ _ _ _).trans rfl
-- 171: BluesAndGreens.quarter(II)I
set_option maxRecDepth 100000 in
theorem b171_24_c0 (d : Nat) (g : Nat × Nat × Nat) (I : Nat → Nat → Int32) (J : Nat → Nat → Int64) (sl : Nat) (rd rl : Nat) (a1 : Int32) (w2 : Value) : aE d 171 24 [.ref 6, .int a1, w2] [.int 0] (g, I, J, aP1 sl rd rl) = (if a1 < 0 ∨ 8 ≤ a1.toNatClampNeg then none else some (some (some (.int (I 18 a1.toNatClampNeg))), (g, I, J, aP1 sl rd rl))) := (aBk [24] 200 _ _ _ _ _ _).trans rfl
set_option maxRecDepth 100000 in
theorem b171_24_c1 (d : Nat) (g : Nat × Nat × Nat) (I : Nat → Nat → Int32) (J : Nat → Nat → Int64) (sl : Nat) (rd rl : Nat) (a1 : Int32) (w2 : Value) : aE d 171 24 [.ref 6, .int a1, w2] [.int 1] (g, I, J, aP1 sl rd rl) = (if a1 < 0 ∨ 8 ≤ a1.toNatClampNeg then none else some (some (some (.int (I 19 a1.toNatClampNeg))), (g, I, J, aP1 sl rd rl))) := (aBk [24] 200 _ _ _ _ _ _).trans rfl
set_option maxRecDepth 100000 in
theorem b171_24_c2 (d : Nat) (g : Nat × Nat × Nat) (I : Nat → Nat → Int32) (J : Nat → Nat → Int64) (sl : Nat) (rd rl : Nat) (a1 : Int32) (w2 : Value) : aE d 171 24 [.ref 6, .int a1, w2] [.int 2] (g, I, J, aP1 sl rd rl) = (if a1 < 0 ∨ 8 ≤ a1.toNatClampNeg then none else some (some (some (.int (I 20 a1.toNatClampNeg))), (g, I, J, aP1 sl rd rl))) := (aBk [24] 200 _ _ _ _ _ _).trans rfl
set_option maxRecDepth 100000 in
theorem b171_24_c3 (d : Nat) (g : Nat × Nat × Nat) (I : Nat → Nat → Int32) (J : Nat → Nat → Int64) (sl : Nat) (rd rl : Nat) (a1 : Int32) (w2 : Value) : aE d 171 24 [.ref 6, .int a1, w2] [.int 3] (g, I, J, aP1 sl rd rl) = (if a1 < 0 ∨ 8 ≤ a1.toNatClampNeg then none else some (some (some (.int (I 21 a1.toNatClampNeg))), (g, I, J, aP1 sl rd rl))) := (aBk [24] 200 _ _ _ _ _ _).trans rfl
-- 210: BluesAndGreensModel.quarter(II)I
set_option maxRecDepth 100000 in
theorem b210_45 (d : Nat) (g : Nat × Nat × Nat) (I : Nat → Nat → Int32) (J : Nat → Nat → Int64) (sl : Nat) (rd rl : Nat) (y0 : Int32) (w0 w1 w2 : Value) : aE d 210 45 [w0, w1, w2] [.int y0] (g, I, J, aP1 sl rd rl) = some (some (some (.int y0)), (g, I, J, aP1 sl rd rl)) := (aBk [16, 25, 45] 200 _ _ _ _ _ _).trans rfl
set_option maxRecDepth 100000 in
theorem b210_25 (d : Nat) (g : Nat × Nat × Nat) (I : Nat → Nat → Int32) (J : Nat → Nat → Int64) (sl : Nat) (rd rl : Nat) (a1 a2 y0 : Int32) : aE d 210 25 [.ref 46, .int a1, .int a2] [.int y0] (g, I, J, aP1 sl rd rl) = (if y0 = 0 then (aBi (aF d 207 [.ref 46] (g, I, J, aP1 sl rd rl)) (fun x0 t0 => aE d 210 45 [.ref 46, .int a1, .int a2] [.int x0] t0)) else (if ((4 * a1) + a2) < 0 ∨ 32 ≤ ((4 * a1) + a2).toNatClampNeg then none else aE d 210 45 [.ref 46, .int a1, .int a2] [.int (I 50 ((4 * a1) + a2).toNatClampNeg)] (g, I, J, aP1 sl rd rl))) := (aBk [16, 25, 45] 200 _ _ _ _ _ _).trans rfl
-- 172: BluesAndGreens.quarrel(II)I
set_option maxRecDepth 100000 in
theorem b172_8 (d : Nat) (g : Nat × Nat × Nat) (I : Nat → Nat → Int32) (J : Nat → Nat → Int64) (sl : Nat) (rd rl : Nat) (a1 a2 y0 : Int32) : aE d 172 8 [.ref 6, .int a1, .int a2] [.int y0] (g, I, J, aP1 sl rd rl) = (if y0 = 0 then some (none, ((g.1 + 0, g.2.1 + 1, g.2.2 + 6), I, J, aP1 sl rd rl)) else (if a2 < 0 then some (none, ((g.1 + 0, g.2.1 + 1, g.2.2 + 6), I, J, aP1 sl rd rl)) else (if a2 ≤ 4 then (if a2 = 4 then (aBi (aF d 101 [.ref 23, .int a1] (g, I, J, aP1 sl rd rl)) (fun x0 t0 => aE d 172 41 [.ref 6, .int a1, .int a2] [.int x0] t0)) else (if ((4 * a1) + a2) < 0 ∨ 32 ≤ ((4 * a1) + a2).toNatClampNeg then none else some (some (some (.int (I 22 ((4 * a1) + a2).toNatClampNeg))), (g, I, J, aP1 sl rd rl)))) else some (none, ((g.1 + 0, g.2.1 + 1, g.2.2 + 6), I, J, aP1 sl rd rl))))) := (aBk [8, 41] 200 _ _ _ _ _ _).trans rfl
-- 100: BluesAndGreens$City.hasQuarrel(I)Z
set_option maxRecDepth 100000 in
theorem b100_0 (d : Nat) (g : Nat × Nat × Nat) (I : Nat → Nat → Int32) (J : Nat → Nat → Int64) (sl : Nat) (rd rl : Nat) (a1 : Int32) : aE d 100 0 [.ref 14, .int a1] [] (g, I, J, aP1 sl rd rl) = (if a1 < 0 then some (some (some (.int 0)), (g, I, J, aP1 sl rd rl)) else (if (I 14 9) ≤ a1 then some (some (some (.int 0)), (g, I, J, aP1 sl rd rl)) else some (some (some (.int 1)), (g, I, J, aP1 sl rd rl)))) := (aBk [] 200 _ _ _ _ _ _).trans rfl
-- 211: BluesAndGreensModel.quarrel(II)I
set_option maxRecDepth 100000 in
theorem b211_32 (d : Nat) (g : Nat × Nat × Nat) (I : Nat → Nat → Int32) (J : Nat → Nat → Int64) (sl : Nat) (rd rl : Nat) (y0 : Int32) (w0 w1 w2 : Value) : aE d 211 32 [w0, w1, w2] [.int y0] (g, I, J, aP1 sl rd rl) = some (some (some (.int y0)), (g, I, J, aP1 sl rd rl)) := (aBk [16, 25, 32] 200 _ _ _ _ _ _).trans rfl
set_option maxRecDepth 100000 in
theorem b211_25 (d : Nat) (g : Nat × Nat × Nat) (I : Nat → Nat → Int32) (J : Nat → Nat → Int64) (sl : Nat) (rd rl : Nat) (a1 a2 y0 : Int32) : aE d 211 25 [.ref 46, .int a1, .int a2] [.int y0] (g, I, J, aP1 sl rd rl) = (if y0 = 0 then (aBi (aF d 207 [.ref 46] (g, I, J, aP1 sl rd rl)) (fun x0 t0 => aE d 211 32 [.ref 46, .int a1, .int a2] [.int x0] t0)) else (if 4 ≤ a2 then (if (30 + a1) < 0 ∨ 39 ≤ (30 + a1).toNatClampNeg then none else some (some (some (.int (I 47 (30 + a1).toNatClampNeg))), (g, I, J, aP1 sl rd rl))) else (if ((4 * a1) + a2) < 0 ∨ 32 ≤ ((4 * a1) + a2).toNatClampNeg then none else some (some (some (.int (I 51 ((4 * a1) + a2).toNatClampNeg))), (g, I, J, aP1 sl rd rl))))) := (aBk [16, 25, 32] 200 _ _ _ _ _ _).trans rfl
-- 173: BluesAndGreens.club(II)I
set_option maxRecDepth 100000 in
theorem b173_4 (d : Nat) (g : Nat × Nat × Nat) (I : Nat → Nat → Int32) (J : Nat → Nat → Int64) (sl : Nat) (rd rl : Nat) (a1 a2 y0 : Int32) : aE d 173 4 [.ref 6, .int a1, .int a2] [.int y0] (g, I, J, aP1 sl rd rl) = (if y0 = 0 then some (none, ((g.1 + 0, g.2.1 + 1, g.2.2 + 6), I, J, aP1 sl rd rl)) else aE d 173 16 [.ref 6, .int a1, .int a2] [.int a2] (g, I, J, aP1 sl rd rl)) := (aBk [4, 16, 64, 73, 82, 95, 104, 117, 120] 200 _ _ _ _ _ _).trans rfl
-- 212: BluesAndGreensModel.club(II)I
set_option maxRecDepth 100000 in
theorem b212_25 (d : Nat) (g : Nat × Nat × Nat) (I : Nat → Nat → Int32) (J : Nat → Nat → Int64) (sl : Nat) (rd rl : Nat) (y0 : Int32) (w0 w1 w2 : Value) : aE d 212 25 [w0, w1, w2] [.int y0] (g, I, J, aP1 sl rd rl) = some (some (some (.int y0)), (g, I, J, aP1 sl rd rl)) := (aBk [9, 18, 25, 56, 69, 78, 81] 200 _ _ _ _ _ _).trans rfl
set_option maxRecDepth 100000 in
theorem b212_18 (d : Nat) (g : Nat × Nat × Nat) (I : Nat → Nat → Int32) (J : Nat → Nat → Int64) (sl : Nat) (rd rl : Nat) (a1 a2 y0 : Int32) : aE d 212 18 [.ref 46, .int a1, .int a2] [.int y0] (g, I, J, aP1 sl rd rl) = (if y0 = 0 then (aBi (aF d 207 [.ref 46] (g, I, J, aP1 sl rd rl)) (fun x3 t3 => aE d 212 25 [.ref 46, .int a1, .int a2] [.int x3] t3)) else (if 3 ≤ a2 then (if a2 = 3 then (aBi (aF d 214 [.ref 46, .ref 47, .int a1] (g, I, J, aP1 sl rd rl)) (fun x2 t2 => aE d 212 56 [.ref 46, .int a1, .int a2] [.int x2] t2)) else (if a2 = 4 then (aBi (aF d 215 [.ref 46, .int a1] (g, I, J, aP1 sl rd rl)) (fun x1 t1 => aE d 212 69 [.ref 46, .int a1, .int a2] [.int x1] t1)) else (aBi (aF d 215 [.ref 46, .int a1] (g, I, J, aP1 sl rd rl)) (fun x0 t0 => aE d 212 78 [.ref 46, .int a1, .int a2] [.int x0, .ref 46] t0)))) else (if ((2 * a2) + a1) < 0 ∨ 39 ≤ ((2 * a2) + a1).toNatClampNeg then none else some (some (some (.int (I 47 ((2 * a2) + a1).toNatClampNeg))), (g, I, J, aP1 sl rd rl))))) := (aBk [9, 18, 25, 56, 69, 78, 81] 200 _ _ _ _ _ _).trans rfl
-- 213: BluesAndGreensModel.isClub(I)Z
set_option maxRecDepth 100000 in
theorem b213_6 (d : Nat) (g : Nat × Nat × Nat) (I : Nat → Nat → Int32) (J : Nat → Nat → Int64) (sl : Nat) (rd rl : Nat) (y0 : Int32) (w0 : Value) : aE d 213 6 [w0] [.int y0] (g, I, J, aP1 sl rd rl) = (if narrow .boolean (.int y0) = .int y0 then some (some (some (.int y0)), (g, I, J, aP1 sl rd rl)) else none) := (aBk [6] 200 _ _ _ _ _ _).trans rfl
-- 60: BluesAndGreens.sheet(IIII)I
set_option maxRecDepth 100000 in
theorem b60_77 (d : Nat) (g : Nat × Nat × Nat) (I : Nat → Nat → Int32) (J : Nat → Nat → Int64) (sl : Nat) (rd rl : Nat) (a1 a3 a4 a5 a6 a7 y0 : Int32) (w2 w8 : Value) : aE d 60 77 [.ref 6, .int a1, w2, .int a3, .int a4, .int a5, .int a6, .int a7, w8] [.int y0] (g, I, J, aP1 sl rd rl) = (if a7 < 0 ∨ 8 ≤ a7.toNatClampNeg then none else aE d 60 47 [.ref 6, .int a1, w2, .int a3, .int a4, .int a5, .int (a6 + y0), .int (a7 + 1), .int y0] [] (g, (aU I 16 a7.toNatClampNeg y0), J, aP1 sl rd rl)) := (aBk [47, 77] 200 _ _ _ _ _ _).trans rfl
-- 61: BluesAndGreens.sheetPrice(II)I
set_option maxRecDepth 100000 in
theorem b61_0 (d : Nat) (g : Nat × Nat × Nat) (I : Nat → Nat → Int32) (J : Nat → Nat → Int64) (sl : Nat) (rd rl : Nat) (a0 a1 : Int32) : aE d 61 0 [.int a0, .int a1, aNo] [] (g, I, J, aP1 sl rd rl) = (if a0 = 0 then some (some (some (.int (if 0 < (if (Int8.toInt32 (Int32.toInt8 a1)) < 99 then (Int8.toInt32 (Int32.toInt8 a1)) else 99) then (if (Int8.toInt32 (Int32.toInt8 a1)) < 99 then (Int8.toInt32 (Int32.toInt8 a1)) else 99) else 0))), (g, I, J, aP1 sl rd rl)) else (if a0 = 1 then some (some (some (.int (if 0 < (if (Int16.toInt32 (Int32.toInt16 a1)) < 99 then (Int16.toInt32 (Int32.toInt16 a1)) else 99) then (if (Int16.toInt32 (Int32.toInt16 a1)) < 99 then (Int16.toInt32 (Int32.toInt16 a1)) else 99) else 0))), (g, I, J, aP1 sl rd rl)) else some (some (some (.int (if 0 < (if a1 < 99 then a1 else 99) then (if a1 < 99 then a1 else 99) else 0))), (g, I, J, aP1 sl rd rl)))) := (aBk [] 200 _ _ _ _ _ _).trans rfl
-- 219: BluesAndGreensModel.sheet(IIII)I
set_option maxRecDepth 100000 in
theorem b219_20 (d : Nat) (g : Nat × Nat × Nat) (I : Nat → Nat → Int32) (J : Nat → Nat → Int64) (sl : Nat) (rd rl : Nat) (w0 w1 w2 w3 w4 w5 w6 w7 w8 : Value) : aE d 219 20 [w0, w1, w2, w3, w4, w5, w6, w7, w8] [] (g, I, J, aP1 sl rd rl) = some (some (some (.int (-1))), (g, I, J, aP1 sl rd rl)) := (aBk [11, 20, 34, 43, 75, 94, 109, 147] 200 _ _ _ _ _ _).trans rfl
set_option maxRecDepth 100000 in
theorem b219_34 (d : Nat) (g : Nat × Nat × Nat) (I : Nat → Nat → Int32) (J : Nat → Nat → Int64) (sl : Nat) (rd rl : Nat) (a1 a2 a3 a4 : Int32) (w5 w6 w7 w8 : Value) : aE d 219 34 [.ref 46, .int a1, .int a2, .int a3, .int a4, w5, w6, w7, w8] [] (g, I, J, aP1 sl rd rl) = aE d 219 43 [.ref 46, .int a1, .int a2, .int a3, .int a4, .int 0, .int a3, .int 0, w8] [] (g, I, J, aP1 sl rd rl) := (aBk [11, 20, 34, 43, 75, 94, 109, 147] 200 _ _ _ _ _ _).trans rfl
-- 62: BluesAndGreens.race(I)I
set_option maxRecDepth 100000 in
theorem b62_56 (d : Nat) (g : Nat × Nat × Nat) (I : Nat → Nat → Int32) (J : Nat → Nat → Int64) (sl : Nat) (rd rl : Nat) (a1 y0 : Int32) (w2 : Value) : aE d 62 56 [.ref 6, .int a1, w2] [.int y0] (g, I, J, aP1 sl rd rl) = (if a1 ≤ 0 then aE d 62 72 [.ref 6, .int a1, .int y0] [] (g, I, J, aP1 sl rd rl) else (aBv (aF d 80 [.ref 29, .ref 25] (g, I, J, aP1 sl rd rl)) (fun t0 => aE d 62 72 [.ref 6, .int a1, .int y0] [] t0))) := (aBk [36, 56, 72, 95] 200 _ _ _ _ _ _).trans rfl
-- 64: BluesAndGreens$Runs.run(LBluesAndGreens$City;LBluesAndGreens$State;LBluesAndGreens$Rule;I)I
set_option maxRecDepth 100000 in
theorem b64_0 (d : Nat) (g : Nat × Nat × Nat) (I : Nat → Nat → Int32) (J : Nat → Nat → Int64) (sl : Nat) (rd rl : Nat) (a4 : Int32) : aE d 64 0 [.ref 41, .ref 14, .ref 23, .ref 33, .int a4, aNo, aNo, aNo, aNo, aNo] [] (g, I, J, aP1 sl rd rl) = aE d 64 32 [.ref 41, .ref 14, .ref 23, .ref 33, .int a4, .int 0, .int 0, .int 0, .int 0, aNo] [] (g, (aU (aU (aU (aU I 41 0 (-1)) 41 1 0) 41 2 0) 41 3 0), J, aP1 sl rd rl) := (aBk [32, 46, 57, 148] 200 _ _ _ _ _ _).trans rfl
-- 220: BluesAndGreensModel.race(I)I
set_option maxRecDepth 100000 in
theorem b220_39 (d : Nat) (g : Nat × Nat × Nat) (I : Nat → Nat → Int32) (J : Nat → Nat → Int64) (sl : Nat) (rd rl : Nat) (a1 : Int32) : aE d 220 39 [.ref 46, .int a1] [] (g, I, J, aP1 sl rd rl) = (aBv (aF d 223 [.ref 46, .ref 47, .int a1] (g, I, J, aP1 sl rd rl)) (fun t0 => aE d 220 48 [.ref 46, .int a1] [] t0)) := (aBk [22, 39, 48, 62, 71] 200 _ _ _ _ _ _).trans rfl
-- 221: BluesAndGreensModel.remember([I)V
set_option maxRecDepth 100000 in
theorem b221_0 (d : Nat) (g : Nat × Nat × Nat) (I : Nat → Nat → Int32) (J : Nat → Nat → Int64) (sl : Nat) (rd rl : Nat) : aE d 221 0 [.ref 46, .ref 47, aNo] [] (g, I, J, aP1 sl rd rl) = (if (I 46 26) = 12 then aE d 221 11 [.ref 46, .ref 47, .int 0] [] (g, I, J, aP1 sl rd rl) else (aBv (aF d 222 [.ref 47, .ref 58, .int (39 * (I 46 26))] (g, I, J, aP1 sl rd rl)) (fun t0 => aE d 221 64 [.ref 46, .ref 47, aNo] [] t0))) := (aBk [11, 64] 200 _ _ _ _ _ _).trans rfl
-- 86: BluesAndGreens.buy(II)I
set_option maxRecDepth 100000 in
theorem b86_25 (d : Nat) (g : Nat × Nat × Nat) (I : Nat → Nat → Int32) (J : Nat → Nat → Int64) (sl : Nat) (rd rl : Nat) (y0 : Int32) (w0 w1 w2 : Value) : aE d 86 25 [w0, w1, w2] [.int y0, .ref 6] (g, I, J, aP1 sl rd rl) = (aBi (aF d 89 [.ref 6, .int y0] (g, I, J, aP1 sl rd rl)) (fun x0 t0 => aE d 86 28 [w0, w1, w2] [.int x0] t0)) := (aBk [11, 25, 28] 200 _ _ _ _ _ _).trans rfl
-- 87: BluesAndGreens$State.purchase(LBluesAndGreens$City;II)I
set_option maxRecDepth 100000 in
theorem b87_0 (d : Nat) (g : Nat × Nat × Nat) (I : Nat → Nat → Int32) (J : Nat → Nat → Int64) (sl : Nat) (rd rl : Nat) (a2 a3 : Int32) : aE d 87 0 [.ref 23, .ref 14, .int a2, .int a3, aNo] [] (g, I, J, aP1 sl rd rl) = (aBi (aF d 75 [.int a2] (g, I, J, aP1 sl rd rl)) (fun x0 t0 => aE d 87 4 [.ref 23, .ref 14, .int a2, .int a3, aNo] [.int x0] t0)) := (aBk [4, 12, 22, 42, 58, 67, 82] 200 _ _ _ _ _ _).trans rfl
-- 230: BluesAndGreensModel.buy(II)I
set_option maxRecDepth 100000 in
theorem b230_30 (d : Nat) (g : Nat × Nat × Nat) (I : Nat → Nat → Int32) (J : Nat → Nat → Int64) (sl : Nat) (rd rl : Nat) (a1 a2 : Int32) (w3 : Value) : aE d 230 30 [.ref 46, .int a1, .int a2, w3] [] (g, I, J, aP1 sl rd rl) = (aBv (aF d 232 [.ref 46, .ref 47, .int a1, .int a2] (g, I, J, aP1 sl rd rl)) (fun t0 => aE d 230 40 [.ref 46, .int a1, .int a2, w3] [] t0)) := (aBk [15, 30, 40] 200 _ _ _ _ _ _).trans rfl
-- 231: BluesAndGreensModel.refusesBuy([III)I
set_option maxRecDepth 100000 in
theorem b231_4 (d : Nat) (g : Nat × Nat × Nat) (I : Nat → Nat → Int32) (J : Nat → Nat → Int64) (sl : Nat) (rd rl : Nat) (a2 a3 y0 : Int32) : aE d 231 4 [.ref 46, .ref 47, .int a2, .int a3] [.int y0] (g, I, J, aP1 sl rd rl) = (if y0 = 0 then some (some (some (.int (-1))), (g, I, J, aP1 sl rd rl)) else (aBi (aF d 206 [.ref 46, .int a3] (g, I, J, aP1 sl rd rl)) (fun x0 t0 => aE d 231 12 [.ref 46, .ref 47, .int a2, .int a3] [.int x0] t0))) := (aBk [4, 12] 200 _ _ _ _ _ _).trans rfl
-- 90: BluesAndGreens.curse(II)I
set_option maxRecDepth 100000 in
theorem b90_25 (d : Nat) (g : Nat × Nat × Nat) (I : Nat → Nat → Int32) (J : Nat → Nat → Int64) (sl : Nat) (rd rl : Nat) (y0 : Int32) (w0 w1 w2 : Value) : aE d 90 25 [w0, w1, w2] [.int y0, .ref 6] (g, I, J, aP1 sl rd rl) = (aBi (aF d 89 [.ref 6, .int y0] (g, I, J, aP1 sl rd rl)) (fun x0 t0 => aE d 90 28 [w0, w1, w2] [.int x0] t0)) := (aBk [11, 25, 28] 200 _ _ _ _ _ _).trans rfl
-- 91: BluesAndGreens$State.hex(LBluesAndGreens$City;II)I
set_option maxRecDepth 100000 in
theorem b91_0 (d : Nat) (g : Nat × Nat × Nat) (I : Nat → Nat → Int32) (J : Nat → Nat → Int64) (sl : Nat) (rd rl : Nat) (a2 a3 : Int32) : aE d 91 0 [.ref 23, .ref 14, .int a2, .int a3] [] (g, I, J, aP1 sl rd rl) = (aBi (aF d 75 [.int a2] (g, I, J, aP1 sl rd rl)) (fun x0 t0 => aE d 91 4 [.ref 23, .ref 14, .int a2, .int a3] [.int x0] t0)) := (aBk [4, 12, 22, 34, 45, 59, 77] 200 _ _ _ _ _ _).trans rfl
-- 233: BluesAndGreensModel.curse(II)I
set_option maxRecDepth 100000 in
theorem b233_26 (d : Nat) (g : Nat × Nat × Nat) (I : Nat → Nat → Int32) (J : Nat → Nat → Int64) (sl : Nat) (rd rl : Nat) (a1 a2 : Int32) (w3 : Value) : aE d 233 26 [.ref 46, .int a1, .int a2, w3] [] (g, I, J, aP1 sl rd rl) = (aBv (aF d 235 [.ref 47, .int a1, .int a2] (g, I, J, aP1 sl rd rl)) (fun t0 => aE d 233 35 [.ref 46, .int a1, .int a2, w3] [] t0)) := (aBk [11, 26, 35] 200 _ _ _ _ _ _).trans rfl
-- 234: BluesAndGreensModel.refusesCurse(II)I
set_option maxRecDepth 100000 in
theorem b234_4 (d : Nat) (g : Nat × Nat × Nat) (I : Nat → Nat → Int32) (J : Nat → Nat → Int64) (sl : Nat) (rd rl : Nat) (a1 a2 y0 : Int32) : aE d 234 4 [.ref 46, .int a1, .int a2] [.int y0] (g, I, J, aP1 sl rd rl) = (if y0 = 0 then some (some (some (.int (-1))), (g, I, J, aP1 sl rd rl)) else (aBi (aF d 206 [.ref 46, .int a2] (g, I, J, aP1 sl rd rl)) (fun x0 t0 => aE d 234 12 [.ref 46, .int a1, .int a2] [.int x0] t0))) := (aBk [4, 12] 200 _ _ _ _ _ _).trans rfl
-- 94: BluesAndGreens.dig(I)I
set_option maxRecDepth 100000 in
theorem b94_24 (d : Nat) (g : Nat × Nat × Nat) (I : Nat → Nat → Int32) (J : Nat → Nat → Int64) (sl : Nat) (rd rl : Nat) (y0 : Int32) (w0 w1 : Value) : aE d 94 24 [w0, w1] [.int y0, .ref 6] (g, I, J, aP1 sl rd rl) = (aBi (aF d 89 [.ref 6, .int y0] (g, I, J, aP1 sl rd rl)) (fun x0 t0 => aE d 94 27 [w0, w1] [.int x0] t0)) := (aBk [11, 24, 27] 200 _ _ _ _ _ _).trans rfl
-- 95: BluesAndGreens$State.cleanse(LBluesAndGreens$City;I)I
set_option maxRecDepth 100000 in
theorem b95_0 (d : Nat) (g : Nat × Nat × Nat) (I : Nat → Nat → Int32) (J : Nat → Nat → Int64) (sl : Nat) (rd rl : Nat) (a2 : Int32) : aE d 95 0 [.ref 23, .ref 14, .int a2, aNo] [] (g, I, J, aP1 sl rd rl) = (aBi (aF d 88 [.ref 14, .int a2] (g, I, J, aP1 sl rd rl)) (fun x0 t0 => aE d 95 5 [.ref 23, .ref 14, .int a2, aNo] [.int x0] t0)) := (aBk [5, 15, 26, 31, 39, 53, 73] 200 _ _ _ _ _ _).trans rfl
-- 236: BluesAndGreensModel.dig(I)I
set_option maxRecDepth 100000 in
theorem b236_25 (d : Nat) (g : Nat × Nat × Nat) (I : Nat → Nat → Int32) (J : Nat → Nat → Int64) (sl : Nat) (rd rl : Nat) (a1 : Int32) (w2 : Value) : aE d 236 25 [.ref 46, .int a1, w2] [] (g, I, J, aP1 sl rd rl) = (aBv (aF d 238 [.ref 46, .int a1] (g, I, J, aP1 sl rd rl)) (fun t0 => aE d 236 30 [.ref 46, .int a1, w2] [] t0)) := (aBk [10, 25, 30] 200 _ _ _ _ _ _).trans rfl
-- 237: BluesAndGreensModel.refusesDig(I)I
set_option maxRecDepth 100000 in
theorem b237_5 (d : Nat) (g : Nat × Nat × Nat) (I : Nat → Nat → Int32) (J : Nat → Nat → Int64) (sl : Nat) (rd rl : Nat) (a1 y0 : Int32) : aE d 237 5 [.ref 46, .int a1] [.int y0] (g, I, J, aP1 sl rd rl) = (if y0 = 0 then some (some (some (.int (-1))), (g, I, J, aP1 sl rd rl)) else (if (14 + a1) < 0 ∨ 39 ≤ (14 + a1).toNatClampNeg then none else (if (I 47 (14 + a1).toNatClampNeg) = 0 then some (some (some (.int (-2))), (g, I, J, aP1 sl rd rl)) else (if (6 + a1) < 0 ∨ 39 ≤ (6 + a1).toNatClampNeg then none else (if (I 47 (6 + a1).toNatClampNeg) < 0 ∨ 39 ≤ (I 47 (6 + a1).toNatClampNeg).toNatClampNeg then none else (if 3 ≤ (I 47 (I 47 (6 + a1).toNatClampNeg).toNatClampNeg) then some (some (some (.int 0)), (g, I, J, aP1 sl rd rl)) else some (some (some (.int (-3))), (g, I, J, aP1 sl rd rl)))))))) := (aBk [5] 200 _ _ _ _ _ _).trans rfl
-- 96: BluesAndGreens.grain(II)I
set_option maxRecDepth 100000 in
theorem b96_21 (d : Nat) (g : Nat × Nat × Nat) (I : Nat → Nat → Int32) (J : Nat → Nat → Int64) (sl : Nat) (rd rl : Nat) (y0 : Int32) (w0 w1 w2 : Value) : aE d 96 21 [w0, w1, w2] [.int y0, .ref 6] (g, I, J, aP1 sl rd rl) = (aBi (aF d 89 [.ref 6, .int y0] (g, I, J, aP1 sl rd rl)) (fun x0 t0 => aE d 96 24 [w0, w1, w2] [.int x0] t0)) := (aBk [11, 21, 24] 200 _ _ _ _ _ _).trans rfl
-- 97: BluesAndGreens$State.feed(II)I
set_option maxRecDepth 100000 in
theorem b97_0 (d : Nat) (g : Nat × Nat × Nat) (I : Nat → Nat → Int32) (J : Nat → Nat → Int64) (sl : Nat) (rd rl : Nat) (a1 a2 : Int32) : aE d 97 0 [.ref 23, .int a1, .int a2] [] (g, I, J, aP1 sl rd rl) = (aBi (aF d 75 [.int a1] (g, I, J, aP1 sl rd rl)) (fun x0 t0 => aE d 97 4 [.ref 23, .int a1, .int a2] [.int x0] t0)) := (aBk [4, 27, 32] 200 _ _ _ _ _ _).trans rfl
-- 239: BluesAndGreensModel.grain(II)I
set_option maxRecDepth 100000 in
theorem b239_19 (d : Nat) (g : Nat × Nat × Nat) (I : Nat → Nat → Int32) (J : Nat → Nat → Int64) (sl : Nat) (rd rl : Nat) (a1 a2 y0 : Int32) : aE d 239 19 [.ref 46, .int a1, .int a2] [.int y0] (g, I, J, aP1 sl rd rl) = (if y0 = 0 then some (some (some (.int (-1))), (g, I, J, aP1 sl rd rl)) else (aBv (aF d 221 [.ref 46, .ref 47] (g, I, J, aP1 sl rd rl)) (fun t0 => aE d 239 32 [.ref 46, .int a1, .int a2] [] t0))) := (aBk [9, 19, 32, 42] 200 _ _ _ _ _ _).trans rfl
-- 98: BluesAndGreens.show(II)I
set_option maxRecDepth 100000 in
theorem b98_25 (d : Nat) (g : Nat × Nat × Nat) (I : Nat → Nat → Int32) (J : Nat → Nat → Int64) (sl : Nat) (rd rl : Nat) (y0 : Int32) (w0 w1 w2 : Value) : aE d 98 25 [w0, w1, w2] [.int y0, .ref 6] (g, I, J, aP1 sl rd rl) = (aBi (aF d 89 [.ref 6, .int y0] (g, I, J, aP1 sl rd rl)) (fun x0 t0 => aE d 98 28 [w0, w1, w2] [.int x0] t0)) := (aBk [11, 25, 28] 200 _ _ _ _ _ _).trans rfl
-- 99: BluesAndGreens$State.takeSide(LBluesAndGreens$City;II)I
set_option maxRecDepth 100000 in
theorem b99_0 (d : Nat) (g : Nat × Nat × Nat) (I : Nat → Nat → Int32) (J : Nat → Nat → Int64) (sl : Nat) (rd rl : Nat) (a2 a3 : Int32) : aE d 99 0 [.ref 23, .ref 14, .int a2, .int a3] [] (g, I, J, aP1 sl rd rl) = (aBi (aF d 100 [.ref 14, .int a2] (g, I, J, aP1 sl rd rl)) (fun x0 t0 => aE d 99 5 [.ref 23, .ref 14, .int a2, .int a3] [.int x0] t0)) := (aBk [5, 24, 46, 63, 78] 200 _ _ _ _ _ _).trans rfl
-- 240: BluesAndGreensModel.show(II)I
set_option maxRecDepth 100000 in
theorem b240_26 (d : Nat) (g : Nat × Nat × Nat) (I : Nat → Nat → Int32) (J : Nat → Nat → Int64) (sl : Nat) (rd rl : Nat) (a1 a2 : Int32) (w3 : Value) : aE d 240 26 [.ref 46, .int a1, .int a2, w3] [] (g, I, J, aP1 sl rd rl) = (aBv (aF d 242 [.ref 46, .ref 47, .int a1, .int a2] (g, I, J, aP1 sl rd rl)) (fun t0 => aE d 240 36 [.ref 46, .int a1, .int a2, w3] [] t0)) := (aBk [11, 26, 36, 44] 200 _ _ _ _ _ _).trans rfl
-- 241: BluesAndGreensModel.refusesShow(II)I
set_option maxRecDepth 100000 in
theorem b241_11 (d : Nat) (g : Nat × Nat × Nat) (I : Nat → Nat → Int32) (J : Nat → Nat → Int64) (sl : Nat) (rd rl : Nat) (a1 a2 y0 : Int32) : aE d 241 11 [.ref 46, .int a1, .int a2] [.int y0] (g, I, J, aP1 sl rd rl) = (if y0 = 0 then some (some (some (.int (-1))), (g, I, J, aP1 sl rd rl)) else (aBi (aF d 181 [.int a2, .int 0, .int 1] (g, I, J, aP1 sl rd rl)) (fun x0 t0 => aE d 241 20 [.ref 46, .int a1, .int a2] [.int x0] t0))) := (aBk [11, 20] 200 _ _ _ _ _ _).trans rfl
-- 102: BluesAndGreens.season()I
set_option maxRecDepth 100000 in
theorem b102_20 (d : Nat) (g : Nat × Nat × Nat) (I : Nat → Nat → Int32) (J : Nat → Nat → Int64) (sl : Nat) (rd rl : Nat) (a1 y0 : Int32) (w2 : Value) : aE d 102 20 [.ref 6, .int a1, w2] [.int y0] (g, I, J, aP1 sl rd rl) = (if 0 ≤ a1 then (aBv (aF d 63 [.ref 25, .ref 23] (g, I, J, aP1 sl rd rl)) (fun t0 => aE d 102 38 [.ref 6, .int a1, w2] [] t0)) else some (some (some (.int a1)), (g, I, J, aP1 sl rd rl))) := (aBk [11, 20, 38, 40, 50, 77, 102, 113] 200 _ _ _ _ _ _).trans rfl
-- 103: BluesAndGreens$Reader.actsInto([I)I
set_option maxRecDepth 100000 in
theorem b103_6 (d : Nat) (g : Nat × Nat × Nat) (I : Nat → Nat → Int32) (J : Nat → Nat → Int64) (sl : Nat) (rd rl : Nat) (w2 w3 w4 : Value) : aE d 103 6 [.ref 9, .ref 45, w2, w3, w4] [] (g, I, J, aP1 sl rd rl) = aE d 103 10 [.ref 9, .ref 45, .int 0, .int 0, w4] [] (g, I, J, aP1 sl rd rl) := (aBk [6, 10, 22, 30, 45, 136, 148, 159, 171, 187, 198, 210, 226, 241, 255] 200 _ _ _ _ _ _).trans rfl
-- 243: BluesAndGreensModel.season()I
set_option maxRecDepth 100000 in
theorem b243_13 (d : Nat) (g : Nat × Nat × Nat) (I : Nat → Nat → Int32) (J : Nat → Nat → Int64) (sl : Nat) (rd rl : Nat) (a1 : Int32) (w2 : Value) : aE d 243 13 [.ref 46, .int a1, w2] [] (g, I, J, aP1 sl rd rl) = (aBi (aF d 185 [.ref 46] (g, I, J, aP1 sl rd rl)) (fun x0 t0 => aE d 243 17 [.ref 46, .int a1, w2] [.int x0] t0)) := (aBk [11, 13, 17, 38, 48, 70, 72, 109, 130, 149, 158, 169] 200 _ _ _ _ _ _).trans rfl
-- 106: BluesAndGreens$Past.pop(LBluesAndGreens$State;)I
set_option maxRecDepth 100000 in
theorem b106_43 (d : Nat) (g : Nat × Nat × Nat) (I : Nat → Nat → Int32) (J : Nat → Nat → Int64) (sl : Nat) (rd rl : Nat) (w1 : Value) : aE d 106 43 [.ref 29, w1] [] (g, I, J, aP1 sl rd rl) = some (some (some (.int ((I 29 1) - 1))), (g, (aU I 29 1 ((I 29 1) - 1)), J, aP1 sl rd rl)) := (aBk [43] 200 _ _ _ _ _ _).trans rfl
-- 107: BluesAndGreens$State.read([II)V
set_option maxRecDepth 100000 in
theorem b107_0_2 (d : Nat) (g : Nat × Nat × Nat) (I : Nat → Nat → Int32) (J : Nat → Nat → Int64) (sl : Nat) (rd rl : Nat) (a2 : Int32) : aE d 107 0 [.ref 23, .ref 30, .int a2] [] (g, I, J, aP1 sl rd rl) = (if a2 < 0 then some (some none, (g, I, J, aP1 sl rd rl)) else (if 384 < ((a2 + 1) * 32) then some (some none, (g, I, J, aP1 sl rd rl)) else (if aKd 30 = 14 ∧ aKd 24 = 14 ∧ ¬ (a2 * 32) < 0 ∧ ¬ (0 : Int32) < 0 ∧ ¬ (32 : Int32) < 0 ∧ (a2 * 32).toNatClampNeg + (32 : Int32).toNatClampNeg ≤ aLn 30 ∧ (0 : Int32).toNatClampNeg + (32 : Int32).toNatClampNeg ≤ aLn 24 ∧ ¬ 30 = 24 ∧ aW [] ≤ 8 then some (some none, (g, (aCpI I 30 (a2 * 32).toNatClampNeg 24 0 32), J, aP1 sl rd rl)) else none))) := (aBk [] 200 _ _ _ _ _ _).trans rfl
-- 108: BluesAndGreens.order()I
set_option maxRecDepth 100000 in
theorem b108_24 (d : Nat) (g : Nat × Nat × Nat) (I : Nat → Nat → Int32) (J : Nat → Nat → Int64) (sl : Nat) (rd rl : Nat) (a1 a2 : Int32) (w3 : Value) : aE d 108 24 [.ref 6, .int a1, .int a2, w3] [] (g, I, J, aP1 sl rd rl) = (if (I 14 0) ≤ a2 then (aBi (aF d 66 [.ref 33, .ref 14, .ref 23, .int 0] (g, I, J, aP1 sl rd rl)) (fun x0 t0 => aE d 108 89 [.ref 6, .int a1, .int a2, w3] [.int x0] t0)) else (aBi (aF d 66 [.ref 33, .ref 14, .ref 23, .int a1] (g, I, J, aP1 sl rd rl)) (fun x1 t1 => aE d 108 51 [.ref 6, .int a1, .int a2, w3] [.int x1] t1))) := (aBk [20, 24, 51, 61, 89] 200 _ _ _ _ _ _).trans rfl
-- 247: BluesAndGreensModel.order()I
set_option maxRecDepth 100000 in
theorem b247_37 (d : Nat) (g : Nat × Nat × Nat) (I : Nat → Nat → Int32) (J : Nat → Nat → Int64) (sl : Nat) (rd rl : Nat) (a1 a2 a3 a4 : Int32) : aE d 247 37 [.ref 46, .int a1, .int a2, .int a3, .int a4] [] (g, I, J, aP1 sl rd rl) = (if (I 46 1) ≤ a4 then (aBv (aF d 229 [.ref 46, .long (Int32.toInt64 a3)] (g, I, J, aP1 sl rd rl)) (fun t0 => aE d 247 97 [.ref 46, .int a1, .int a2, .int a3, .int a4] [] t0)) else (aBi (aF d 217 [.int a1, .int a4] (g, I, J, aP1 sl rd rl)) (fun x1 t1 => aE d 247 52 [.ref 46, .int a1, .int a2, .int a3, .int a4] [.int x1] t1))) := (aBk [24, 37, 52, 70, 79, 97] 200 _ _ _ _ _ _).trans rfl
-- 109: BluesAndGreens.ahead(I)I
set_option maxRecDepth 100000 in
theorem b109_56 (d : Nat) (g : Nat × Nat × Nat) (I : Nat → Nat → Int32) (J : Nat → Nat → Int64) (sl : Nat) (rd rl : Nat) (a1 y0 : Int32) (w2 : Value) : aE d 109 56 [.ref 6, .int a1, w2] [.int y0] (g, I, J, aP1 sl rd rl) = (aBv (aF d 110 [.ref 12, .long (Int32.toInt64 (I 41 2)), .long (Int32.toInt64 (I 41 3)), .long (Int32.toInt64 (I 41 1))] (g, I, J, aP1 sl rd rl)) (fun t0 => aE d 109 88 [.ref 6, .int a1, .int y0] [] t0)) := (aBk [36, 56, 88] 200 _ _ _ _ _ _).trans rfl
-- 64: BluesAndGreens$Runs.run(LBluesAndGreens$City;LBluesAndGreens$State;LBluesAndGreens$Rule;I)I
set_option maxRecDepth 100000 in
theorem b64_0_2 (d : Nat) (g : Nat × Nat × Nat) (I : Nat → Nat → Int32) (J : Nat → Nat → Int64) (sl : Nat) (rd rl : Nat) (a4 : Int32) : aE d 64 0 [.ref 41, .ref 14, .ref 27, .ref 33, .int a4, aNo, aNo, aNo, aNo, aNo] [] (g, I, J, aP1 sl rd rl) = aE d 64 32 [.ref 41, .ref 14, .ref 27, .ref 33, .int a4, .int 0, .int 0, .int 0, .int 0, aNo] [] (g, (aU (aU (aU (aU I 41 0 (-1)) 41 1 0) 41 2 0) 41 3 0), J, aP1 sl rd rl) := (aBk [32, 46, 57, 148] 200 _ _ _ _ _ _).trans rfl
-- 248: BluesAndGreensModel.ahead(I)I
set_option maxRecDepth 100000 in
theorem b248_39 (d : Nat) (g : Nat × Nat × Nat) (I : Nat → Nat → Int32) (J : Nat → Nat → Int64) (sl : Nat) (rd rl : Nat) (a1 : Int32) (w2 w3 w4 w5 w6 w7 w8 w9 : Value) : aE d 248 39 [.ref 46, .int a1, w2, w3, w4, w5, w6, w7, w8, w9] [] (g, I, J, aP1 sl rd rl) = aE d 248 58 [.ref 46, .int a1, .int 0, .int 0, .int 0, .int (-1), .int 0, .int 0, .int 0, w9] [] (g, I, J, aP1 sl rd rl) := (aBk [22, 39, 58, 78, 90, 134, 201, 208, 214] 200 _ _ _ _ _ _).trans rfl
-- 111: BluesAndGreens.joins()I
set_option maxRecDepth 100000 in
theorem b111_13 (d : Nat) (g : Nat × Nat × Nat) (I : Nat → Nat → Int32) (J : Nat → Nat → Int64) (sl : Nat) (rd rl : Nat) (a1 : Int32) : aE d 111 13 [.ref 6, .int a1] [] (g, I, J, aP1 sl rd rl) = (if 99 < a1 then some (some (some (.int (-2))), (g, I, J, aP1 sl rd rl)) else (aBi (aF d 78 [.ref 27, .ref 14] (g, I, J, aP1 sl rd rl)) (fun x0 t0 => aE d 111 30 [.ref 6, .int a1] [.int x0] t0))) := (aBk [11, 13, 30, 45, 54, 58, 75] 200 _ _ _ _ _ _).trans rfl
-- 249: BluesAndGreensModel.joins()I
set_option maxRecDepth 100000 in
theorem b249_19 (d : Nat) (g : Nat × Nat × Nat) (I : Nat → Nat → Int32) (J : Nat → Nat → Int64) (sl : Nat) (rd rl : Nat) (a1 : Int32) : aE d 249 19 [.ref 46, .int a1] [] (g, I, J, aP1 sl rd rl) = (if 99 < a1 then some (some (some (.int (-2))), (g, I, J, aP1 sl rd rl)) else (aBi (aF d 228 [.ref 46, .ref 60] (g, I, J, aP1 sl rd rl)) (fun x0 t0 => aE d 249 33 [.ref 46, .int a1] [.int x0] t0))) := (aBk [17, 19, 33, 52, 63, 83] 200 _ _ _ _ _ _).trans rfl
-- 222: BluesAndGreensModel.lay([I[II)V
set_option maxRecDepth 100000 in
theorem b222_2 (d : Nat) (g : Nat × Nat × Nat) (I : Nat → Nat → Int32) (J : Nat → Nat → Int64) (sl : Nat) (rd rl : Nat) (a2 a3 : Int32) : aE d 222 2 [.ref 47, .ref 60, .int a2, .int a3] [] (g, I, J, aP1 sl rd rl) = (if 39 ≤ a3 then some (some none, (g, I, J, aP1 sl rd rl)) else (if a3 < 0 ∨ 39 ≤ a3.toNatClampNeg then none else (if (a2 + a3) < 0 ∨ 39 ≤ (a2 + a3).toNatClampNeg then none else aE d 222 2 [.ref 47, .ref 60, .int a2, .int (a3 + 1)] [] (g, (aU I 60 (a2 + a3).toNatClampNeg (I 47 a3.toNatClampNeg)), J, aP1 sl rd rl)))) := (aBk [2] 200 _ _ _ _ _ _).trans rfl
-- 112: BluesAndGreens.bribe(I)I
set_option maxRecDepth 100000 in
theorem b112_18 (d : Nat) (g : Nat × Nat × Nat) (I : Nat → Nat → Int32) (J : Nat → Nat → Int64) (sl : Nat) (rd rl : Nat) (a1 y0 : Int32) (w2 w3 w4 : Value) : aE d 112 18 [.ref 6, .int a1, w2, w3, w4] [.int y0] (g, I, J, aP1 sl rd rl) = (if y0 = 0 then aE d 112 37 [.ref 6, .int a1, .int (-1), .int 0, w4] [] (g, I, J, aP1 sl rd rl) else (aBv (aF d 83 [.ref 12, .long (-1)] (g, I, J, aP1 sl rd rl)) (fun t0 => aE d 112 31 [.ref 6, .int a1, w2, w3, w4] [] t0))) := (aBk [4, 18, 31, 37, 59, 110, 122, 150] 200 _ _ _ _ _ _).trans rfl
-- 113: BluesAndGreens.wins(LBluesAndGreens$State;I)Z
set_option maxRecDepth 100000 in
theorem b113_0 (d : Nat) (g : Nat × Nat × Nat) (I : Nat → Nat → Int32) (J : Nat → Nat → Int64) (sl : Nat) (rd rl : Nat) (a2 : Int32) : aE d 113 0 [.ref 6, .ref 23, .int a2, aNo] [] (g, I, J, aP1 sl rd rl) = (aBi (aF d 66 [.ref 33, .ref 14, .ref 23, .int 0] (g, I, J, aP1 sl rd rl)) (fun x0 t0 => aE d 113 13 [.ref 6, .ref 23, .int a2, aNo] [.int x0] t0)) := (aBk [13, 24] 200 _ _ _ _ _ _).trans rfl
-- 250: BluesAndGreensModel.bribe(I)I
set_option maxRecDepth 100000 in
theorem b250_35 (d : Nat) (g : Nat × Nat × Nat) (I : Nat → Nat → Int32) (J : Nat → Nat → Int64) (sl : Nat) (rd rl : Nat) (a1 a2 y0 : Int32) (w3 : Value) : aE d 250 35 [.ref 46, .int a1, .int a2, w3] [.int y0] (g, I, J, aP1 sl rd rl) = (if y0 = 0 then aE d 250 40 [.ref 46, .int a1, .int a2, .int 0] [] (g, I, J, aP1 sl rd rl) else (aBv (aF d 229 [.ref 46, .long (Int32.toInt64 a2)] (g, (aU I 46 12 0), J, aP1 sl rd rl)) (fun t0 => aE d 250 145 [.ref 46, .int a1, .int a2, w3] [] t0))) := (aBk [9, 35, 40, 58, 96, 106, 115, 145] 200 _ _ _ _ _ _).trans rfl
-- 251: BluesAndGreensModel.doesWin([II)Z
set_option maxRecDepth 100000 in
theorem b251_0 (d : Nat) (g : Nat × Nat × Nat) (I : Nat → Nat → Int32) (J : Nat → Nat → Int64) (sl : Nat) (rd rl : Nat) (a2 : Int32) : aE d 251 0 [.ref 46, .ref 47, .int a2] [] (g, I, J, aP1 sl rd rl) = (aBi (aF d 225 [.ref 46, .ref 47] (g, I, J, aP1 sl rd rl)) (fun x0 t0 => aE d 251 8 [.ref 46, .ref 47, .int a2] [.int x0, .int 6, .ref 47] t0)) := (aBk [8] 200 _ _ _ _ _ _).trans rfl
-- 114: BluesAndGreens.lead(I)I
set_option maxRecDepth 100000 in
theorem b114_17 (d : Nat) (g : Nat × Nat × Nat) (I : Nat → Nat → Int32) (J : Nat → Nat → Int64) (sl : Nat) (rd rl : Nat) (a1 a2 a3 a4 : Int32) (w5 : Value) : aE d 114 17 [.ref 6, .int a1, .int a2, .int a3, .int a4, w5] [] (g, I, J, aP1 sl rd rl) = (if 256 ≤ a4 then (if a2 = (-1) then some (some (some (.int (-2))), (g, I, J, aP1 sl rd rl)) else (aBv (aF d 83 [.ref 12, .long (Int32.toInt64 a2)] (g, I, J, aP1 sl rd rl)) (fun t0 => aE d 114 89 [.ref 6, .int a1, .int a2, .int a3, .int a4, w5] [] t0))) else (aBi (aF d 12 [.int a4] (g, I, J, aP1 sl rd rl)) (fun x1 t1 => aE d 114 30 [.ref 6, .int a1, .int a2, .int a3, .int a4, w5] [.int x1] t1))) := (aBk [4, 17, 30, 45, 57, 89] 200 _ _ _ _ _ _).trans rfl
-- 252: BluesAndGreensModel.lead(I)I
set_option maxRecDepth 100000 in
theorem b252_28 (d : Nat) (g : Nat × Nat × Nat) (I : Nat → Nat → Int32) (J : Nat → Nat → Int64) (sl : Nat) (rd rl : Nat) (a1 a2 a3 : Int32) (w5 : Value) : aE d 252 28 [.ref 46, .int a1, .int a2, .int a3, aNo, w5] [] (g, I, J, aP1 sl rd rl) = (if (1 <<< ((I 46 1) &&& 31)) ≤ a3 then (if a2 = (-1) then some (some (some (.int (-2))), (g, I, J, aP1 sl rd rl)) else (aBv (aF d 229 [.ref 46, .long (Int32.toInt64 a2)] (g, (aU I 46 12 0), J, aP1 sl rd rl)) (fun t0 => aE d 252 171 [.ref 46, .int a1, .int a2, .int a3, aNo, w5] [] t0))) else (aBi (aF d 12 [.int a3] (g, I, J, aP1 sl rd rl)) (fun x1 t1 => aE d 252 42 [.ref 46, .int a1, .int a2, .int a3, aNo, w5] [.int x1] t1))) := (aBk [9, 28, 42, 68, 77, 95, 98, 113, 126, 141, 171, 175] 200 _ _ _ _ _ _).trans rfl
-- 116: BluesAndGreens.stable(I)I
set_option maxRecDepth 100000 in
theorem b116_23 (d : Nat) (g : Nat × Nat × Nat) (I : Nat → Nat → Int32) (J : Nat → Nat → Int64) (sl : Nat) (rd rl : Nat) (a1 y0 : Int32) (w2 w3 w4 w5 w6 w7 w8 w9 : Value) : aE d 116 23 [.ref 6, .int a1, w2, w3, w4, w5, w6, w7, w8, w9] [.int y0] (g, I, J, aP1 sl rd rl) = aE d 116 35 [.ref 6, .int a1, .int y0, .int 0, .int 0, .int 0, .int 1, w7, w8, w9] [] (g, I, J, aP1 sl rd rl) := (aBk [4, 23, 35, 64, 75, 120, 152] 200 _ _ _ _ _ _).trans rfl
-- 117: BluesAndGreens$State.driversOf(LBluesAndGreens$City;I)I
set_option maxRecDepth 100000 in
theorem b117_0 (d : Nat) (g : Nat × Nat × Nat) (I : Nat → Nat → Int32) (J : Nat → Nat → Int64) (sl : Nat) (rd rl : Nat) (a2 : Int32) : aE d 117 0 [.ref 23, .ref 14, .int a2, aNo, aNo] [] (g, I, J, aP1 sl rd rl) = aE d 117 5 [.ref 23, .ref 14, .int a2, .int 0, .int 0] [] (g, I, J, aP1 sl rd rl) := (aBk [5, 20] 200 _ _ _ _ _ _).trans rfl
-- 254: BluesAndGreensModel.stable(I)I
set_option maxRecDepth 100000 in
theorem b254_25 (d : Nat) (g : Nat × Nat × Nat) (I : Nat → Nat → Int32) (J : Nat → Nat → Int64) (sl : Nat) (rd rl : Nat) (a1 y0 : Int32) (w2 w3 w4 w5 : Value) : aE d 254 25 [.ref 46, .int a1, w2, w3, w4, w5] [.int y0] (g, I, J, aP1 sl rd rl) = aE d 254 31 [.ref 46, .int a1, .int y0, .int 0, .int 1, w5] [] (g, I, J, aP1 sl rd rl) := (aBk [9, 25, 31, 56, 78, 87, 110, 119, 142, 152, 156, 165] 200 _ _ _ _ _ _).trans rfl
-- 214: BluesAndGreensModel.driversOf([II)I
set_option maxRecDepth 100000 in
theorem b214_0 (d : Nat) (g : Nat × Nat × Nat) (I : Nat → Nat → Int32) (J : Nat → Nat → Int64) (sl : Nat) (rd rl : Nat) (a2 : Int32) : aE d 214 0 [.ref 46, .ref 47, .int a2, aNo, aNo] [] (g, I, J, aP1 sl rd rl) = aE d 214 5 [.ref 46, .ref 47, .int a2, .int 0, .int 0] [] (g, I, J, aP1 sl rd rl) := (aBk [5] 200 _ _ _ _ _ _).trans rfl
-- 121: BluesAndGreens.apart()I
set_option maxRecDepth 100000 in
theorem b121_14 (d : Nat) (g : Nat × Nat × Nat) (I : Nat → Nat → Int32) (J : Nat → Nat → Int64) (sl : Nat) (rd rl : Nat) (a1 a2 : Int32) : aE d 121 14 [.ref 6, .int a1, .int a2] [] (g, I, J, aP1 sl rd rl) = (if 256 ≤ a2 then some (some (some (.int (-2))), (g, I, J, aP1 sl rd rl)) else (if (a2 &&& (a1 ^^^ (-1))) = 0 then (aBi (aF d 123 [.ref 6, .int a2] (g, I, J, aP1 sl rd rl)) (fun x0 t0 => aE d 121 34 [.ref 6, .int a1, .int a2] [.int x0] t0)) else aE d 121 14 [.ref 6, .int a1, .int (a2 + 1)] [] (g, I, J, aP1 sl rd rl))) := (aBk [11, 14, 34, 49, 58, 62] 200 _ _ _ _ _ _).trans rfl
