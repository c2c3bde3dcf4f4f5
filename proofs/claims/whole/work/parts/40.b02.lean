-- 122: BluesAndGreens$State.openQuarrels(LBluesAndGreens$City;)I
set_option maxRecDepth 100000 in
theorem b122_4 (d : Nat) (g : Nat × Nat × Nat) (I : Nat → Nat → Int32) (J : Nat → Nat → Int64) (sl : Nat) (rd rl : Nat) (a2 a3 : Int32) : aE d 122 4 [.ref 23, .ref 14, .int a2, .int a3] [] (g, I, J, aP1 sl rd rl) = (if (I 14 9) ≤ a3 then some (some (some (.int a2)), (g, I, J, aP1 sl rd rl)) else (aBi (aF d 101 [.ref 23, .int a3] (g, I, J, aP1 sl rd rl)) (fun x0 t0 => aE d 122 17 [.ref 23, .ref 14, .int a2, .int a3] [.int x0] t0))) := (aBk [4, 17] 200 _ _ _ _ _ _).trans rfl
-- 256: BluesAndGreensModel.apart()I
set_option maxRecDepth 100000 in
theorem b256_12 (d : Nat) (g : Nat × Nat × Nat) (I : Nat → Nat → Int32) (J : Nat → Nat → Int64) (sl : Nat) (rd rl : Nat) (a1 a2 : Int32) : aE d 256 12 [.ref 46, .int a1, .int a2] [] (g, I, J, aP1 sl rd rl) = (if a1 < a2 then some (some (some (.int (-2))), (g, I, J, aP1 sl rd rl)) else (if (a2 &&& (a1 ^^^ (-1))) = 0 then (aBi (aF d 258 [.ref 46, .int a1, .int a2] (g, I, J, aP1 sl rd rl)) (fun x0 t0 => aE d 256 31 [.ref 46, .int a1, .int a2] [.int x0] t0)) else aE d 256 12 [.ref 46, .int a1, .int (a2 + 1)] [] (g, I, J, aP1 sl rd rl))) := (aBk [9, 12, 31, 53, 64] 200 _ _ _ _ _ _).trans rfl
-- 257: BluesAndGreensModel.notShown()I
set_option maxRecDepth 100000 in
theorem b257_4 (d : Nat) (g : Nat × Nat × Nat) (I : Nat → Nat → Int32) (J : Nat → Nat → Int64) (sl : Nat) (rd rl : Nat) (a1 a2 : Int32) : aE d 257 4 [.ref 46, .int a1, .int a2] [] (g, I, J, aP1 sl rd rl) = (if (I 46 6) ≤ a2 then some (some (some (.int a1)), (g, I, J, aP1 sl rd rl)) else (if (30 + a2) < 0 ∨ 39 ≤ (30 + a2).toNatClampNeg then none else (if (I 47 (30 + a2).toNatClampNeg) = (-1) then aE d 257 4 [.ref 46, .int (a1 ||| (1 <<< (a2 &&& 31))), .int (a2 + 1)] [] (g, I, J, aP1 sl rd rl) else aE d 257 4 [.ref 46, .int (a1 ||| 0), .int (a2 + 1)] [] (g, I, J, aP1 sl rd rl)))) := (aBk [4] 200 _ _ _ _ _ _).trans rfl
-- 124: BluesAndGreens.calm()I
set_option maxRecDepth 100000 in
theorem b124_22 (d : Nat) (g : Nat × Nat × Nat) (I : Nat → Nat → Int32) (J : Nat → Nat → Int64) (sl : Nat) (rd rl : Nat) (a1 a2 a3 a4 a5 : Int32) (w6 w7 : Value) : aE d 124 22 [.ref 6, .int a1, .int a2, .int a3, .int a4, .int a5, w6, w7] [] (g, I, J, aP1 sl rd rl) = (if 256 ≤ a5 then (aBv (aF d 82 [.ref 12, .long (Int32.toInt64 a3), .long (Int32.toInt64 a4)] (g, I, J, aP1 sl rd rl)) (fun t0 => aE d 124 119 [.ref 6, .int a1, .int a2, .int a3, .int a4, .int a5, w6, w7] [] t0)) else (if (a5 &&& (a1 ^^^ (-1))) = 0 then (aBi (aF d 123 [.ref 6, .int a5] (g, I, J, aP1 sl rd rl)) (fun x1 t1 => aE d 124 48 [.ref 6, .int a1, .int a2, .int a3, .int a4, .int a5, w6, w7] [.int x1] t1)) else aE d 124 22 [.ref 6, .int a1, .int a2, .int a3, .int a4, .int (a5 + 1), w6, w7] [] (g, I, J, aP1 sl rd rl))) := (aBk [11, 22, 48, 56, 65, 119] 200 _ _ _ _ _ _).trans rfl
-- 259: BluesAndGreensModel.calm()I
set_option maxRecDepth 100000 in
theorem b259_20 (d : Nat) (g : Nat × Nat × Nat) (I : Nat → Nat → Int32) (J : Nat → Nat → Int64) (sl : Nat) (rd rl : Nat) (a1 a2 a3 a4 a5 : Int32) (w6 w7 : Value) : aE d 259 20 [.ref 46, .int a1, .int a2, .int a3, .int a4, .int a5, w6, w7] [] (g, I, J, aP1 sl rd rl) = (if a1 < a5 then (aBv (aF d 229 [.ref 46, .long (Int32.toInt64 a3)] (g, (aU I 46 12 0), J, aP1 sl rd rl)) (fun t0 => aE d 259 134 [.ref 46, .int a1, .int a2, .int a3, .int a4, .int a5, w6, w7] [] t0)) else (if (a5 &&& (a1 ^^^ (-1))) = 0 then (aBi (aF d 258 [.ref 46, .int a1, .int a5] (g, I, J, aP1 sl rd rl)) (fun x1 t1 => aE d 259 45 [.ref 46, .int a1, .int a2, .int a3, .int a4, .int a5, w6, w7] [.int x1] t1)) else aE d 259 117 [.ref 46, .int a1, .int a2, .int a3, .int a4, .int a5, w6, w7] [] (g, I, J, aP1 sl rd rl))) := (aBk [9, 20, 45, 107, 117, 134, 141] 200 _ _ _ _ _ _).trans rfl
-- 126: BluesAndGreens.risky()I
set_option maxRecDepth 100000 in
theorem b126_16 (d : Nat) (g : Nat × Nat × Nat) (I : Nat → Nat → Int32) (J : Nat → Nat → Int64) (sl : Nat) (rd rl : Nat) (a1 a2 a3 : Int32) : aE d 126 16 [.ref 6, .int a1, .int a2, .int a3] [] (g, I, J, aP1 sl rd rl) = (if 256 ≤ a3 then (aBv (aF d 83 [.ref 12, .long (Int32.toInt64 a1)] (g, I, J, aP1 sl rd rl)) (fun t0 => aE d 126 57 [.ref 6, .int a1, .int a2, .int a3] [] t0)) else (if (a3 &&& (a1 ^^^ (-1))) = 0 then (aBi (aF d 123 [.ref 6, .int a3] (g, I, J, aP1 sl rd rl)) (fun x1 t1 => aE d 126 36 [.ref 6, .int a1, .int a2, .int a3] [.int x1] t1)) else aE d 126 16 [.ref 6, .int a1, .int a2, .int (a3 + 1)] [] (g, I, J, aP1 sl rd rl))) := (aBk [11, 16, 36, 57] 200 _ _ _ _ _ _).trans rfl
-- 260: BluesAndGreensModel.risky()I
set_option maxRecDepth 100000 in
theorem b260_14 (d : Nat) (g : Nat × Nat × Nat) (I : Nat → Nat → Int32) (J : Nat → Nat → Int64) (sl : Nat) (rd rl : Nat) (a1 a2 a3 : Int32) : aE d 260 14 [.ref 46, .int a1, .int a2, .int a3] [] (g, I, J, aP1 sl rd rl) = (if a1 < a3 then (aBv (aF d 229 [.ref 46, .long (Int32.toInt64 a1)] (g, (aU I 46 12 0), J, aP1 sl rd rl)) (fun t0 => aE d 260 61 [.ref 46, .int a1, .int a2, .int a3] [] t0)) else (if (a3 &&& (a1 ^^^ (-1))) = 0 then (aBi (aF d 258 [.ref 46, .int a1, .int a3] (g, I, J, aP1 sl rd rl)) (fun x1 t1 => aE d 260 34 [.ref 46, .int a1, .int a2, .int a3] [.int x1, .int a2] t1)) else aE d 260 14 [.ref 46, .int a1, .int (a2 + 0), .int (a3 + 1)] [] (g, I, J, aP1 sl rd rl))) := (aBk [9, 14, 34, 61] 200 _ _ _ _ _ _).trans rfl
-- 127: BluesAndGreens.worst()I
set_option maxRecDepth 100000 in
theorem b127_22 (d : Nat) (g : Nat × Nat × Nat) (I : Nat → Nat → Int32) (J : Nat → Nat → Int64) (sl : Nat) (rd rl : Nat) (a1 a2 a3 a4 a5 : Int32) (w6 w7 : Value) : aE d 127 22 [.ref 6, .int a1, .int a2, .int a3, .int a4, .int a5, w6, w7] [] (g, I, J, aP1 sl rd rl) = (if (I 14 9) ≤ a5 then (if a2 = (-1) then some (some (some (.int (-2))), (g, I, J, aP1 sl rd rl)) else (aBv (aF d 82 [.ref 12, .long (Int32.toInt64 a3), .long (Int32.toInt64 a4)] (g, I, J, aP1 sl rd rl)) (fun t0 => aE d 127 115 [.ref 6, .int a1, .int a2, .int a3, .int a4, .int a5, w6, w7] [] t0))) else aE d 127 37 [.ref 6, .int a1, .int a2, .int a3, .int a4, .int a5, .int 0, w7] [] (g, I, J, aP1 sl rd rl)) := (aBk [11, 22, 37, 49, 60, 115] 200 _ _ _ _ _ _).trans rfl
-- 261: BluesAndGreensModel.worst()I
set_option maxRecDepth 100000 in
theorem b261_97 (d : Nat) (g : Nat × Nat × Nat) (I : Nat → Nat → Int32) (J : Nat → Nat → Int64) (sl : Nat) (rd rl : Nat) (a1 a2 : Int32) (w3 : Value) : aE d 261 97 [.ref 46, .int a1, .int a2, w3] [] (g, I, J, aP1 sl rd rl) = (aBi (aF d 262 [.ref 46, .int a1, .int 0] (g, I, J, aP1 sl rd rl)) (fun x0 t0 => aE d 261 104 [.ref 46, .int a1, .int a2, w3] [.int x0, .ref 46] t0)) := (aBk [11, 38, 44, 62, 68, 97, 104, 116] 200 _ _ _ _ _ _).trans rfl
set_option maxRecDepth 100000 in
theorem b261_38 (d : Nat) (g : Nat × Nat × Nat) (I : Nat → Nat → Int32) (J : Nat → Nat → Int64) (sl : Nat) (rd rl : Nat) (a1 a2 a3 y0 : Int32) : aE d 261 38 [.ref 46, .int a1, .int a2, .int a3] [.int y0] (g, I, J, aP1 sl rd rl) = (aBi (aF d 262 [.ref 46, .int a3, .int 1] (g, I, J, aP1 sl rd rl)) (fun x0 t0 => aE d 261 44 [.ref 46, .int a1, .int a2, .int a3] [.int x0, .int y0] t0)) := (aBk [11, 38, 44, 62, 68, 97, 104, 116] 200 _ _ _ _ _ _).trans rfl
-- 229: BluesAndGreensModel.tell(J)V
set_option maxRecDepth 100000 in
theorem b229_0 (d : Nat) (g : Nat × Nat × Nat) (I : Nat → Nat → Int32) (J : Nat → Nat → Int64) (sl : Nat) (rd rl : Nat) (b1 : Int64) : aE d 229 0 [.ref 46, .long b1, aNo] [] (g, I, J, aP1 sl rd rl) = (if (I 46 12) < 0 ∨ 16 ≤ (I 46 12).toNatClampNeg then none else some (some none, (g, (aU I 46 12 ((I 46 12) + 1)), (aU J 53 (I 46 12).toNatClampNeg b1), aP1 sl rd rl))) := (aBk [] 200 _ _ _ _ _ _).trans rfl
-- 262: BluesAndGreensModel.adds(II)I
set_option maxRecDepth 100000 in
theorem b262_0 (d : Nat) (g : Nat × Nat × Nat) (I : Nat → Nat → Int32) (J : Nat → Nat → Int64) (sl : Nat) (rd rl : Nat) (a1 a2 : Int32) : aE d 262 0 [.ref 46, .int a1, .int a2] [] (g, I, J, aP1 sl rd rl) = (aBv (aF d 222 [.ref 47, .ref 60, .int 0] (g, I, J, aP1 sl rd rl)) (fun t0 => aE d 262 12 [.ref 46, .int a1, .int a2] [] t0)) := (aBk [12, 22] 200 _ _ _ _ _ _).trans rfl
-- 129: BluesAndGreens.riots(I)I
set_option maxRecDepth 100000 in
theorem b129_22 (d : Nat) (g : Nat × Nat × Nat) (I : Nat → Nat → Int32) (J : Nat → Nat → Int64) (sl : Nat) (rd rl : Nat) (a1 y0 : Int32) (w2 : Value) : aE d 129 22 [.ref 6, .int a1, w2] [.int y0] (g, I, J, aP1 sl rd rl) = (aBi (aF d 12 [.int y0] (g, I, J, aP1 sl rd rl)) (fun x0 t0 => aE d 129 31 [.ref 6, .int a1, .int y0] [.int x0, .ref 12] t0)) := (aBk [8, 22, 31, 40, 44] 200 _ _ _ _ _ _).trans rfl
-- 133: BluesAndGreens$City.spread(II)I
set_option maxRecDepth 100000 in
theorem b133_0 (d : Nat) (g : Nat × Nat × Nat) (I : Nat → Nat → Int32) (J : Nat → Nat → Int64) (sl : Nat) (rd rl : Nat) (a1 a2 : Int32) : aE d 133 0 [.ref 14, .int a1, .int a2, aNo, aNo, aNo] [] (g, I, J, aP1 sl rd rl) = aE d 133 9 [.ref 14, .int a1, .int a2, .int (a1 &&& (a2 ^^^ (-1))), .int 0, aNo] [] (g, I, J, aP1 sl rd rl) := (aBk [9, 22, 25] 200 _ _ _ _ _ _).trans rfl
-- 130: BluesAndGreens$City.areQuarters(I)Z
set_option maxRecDepth 100000 in
theorem b130_5 (d : Nat) (g : Nat × Nat × Nat) (I : Nat → Nat → Int32) (J : Nat → Nat → Int64) (sl : Nat) (rd rl : Nat) (y0 y1 : Int32) (w0 w1 : Value) : aE d 130 5 [w0, w1] [.int y0, .int y1] (g, I, J, aP1 sl rd rl) = (if (y1 &&& (y0 ^^^ (-1))) = 0 then some (some (some (.int 1)), (g, I, J, aP1 sl rd rl)) else some (some (some (.int 0)), (g, I, J, aP1 sl rd rl))) := (aBk [5] 200 _ _ _ _ _ _).trans rfl
-- 263: BluesAndGreensModel.riots(I)I
set_option maxRecDepth 100000 in
theorem b263_21 (d : Nat) (g : Nat × Nat × Nat) (I : Nat → Nat → Int32) (J : Nat → Nat → Int64) (sl : Nat) (rd rl : Nat) (a1 y0 : Int32) (w2 : Value) : aE d 263 21 [.ref 46, .int a1, w2] [.int y0] (g, I, J, aP1 sl rd rl) = (aBi (aF d 12 [.int y0] (g, (aU I 46 12 0), J, aP1 sl rd rl)) (fun x0 t0 => aE d 263 32 [.ref 46, .int a1, .int y0] [.int x0, .ref 46] t0)) := (aBk [10, 21, 32, 36, 42, 46] 200 _ _ _ _ _ _).trans rfl
-- 265: BluesAndGreensModel.riotsBy(II)I
set_option maxRecDepth 100000 in
theorem b265_0 (d : Nat) (g : Nat × Nat × Nat) (I : Nat → Nat → Int32) (J : Nat → Nat → Int64) (sl : Nat) (rd rl : Nat) (a1 a2 : Int32) : aE d 265 0 [.ref 46, .int a1, .int a2, aNo, aNo, aNo] [] (g, I, J, aP1 sl rd rl) = aE d 265 9 [.ref 46, .int a1, .int a2, .int (a1 &&& (a2 ^^^ (-1))), .int (-1), aNo] [] (g, I, J, aP1 sl rd rl) := (aBk [9, 21, 37, 52] 200 _ _ _ _ _ _).trans rfl
-- 264: BluesAndGreensModel.areQuarters(I)Z
set_option maxRecDepth 100000 in
theorem b264_13 (d : Nat) (g : Nat × Nat × Nat) (I : Nat → Nat → Int32) (J : Nat → Nat → Int64) (sl : Nat) (rd rl : Nat) (y0 : Int32) (w0 w1 : Value) : aE d 264 13 [w0, w1] [.int y0] (g, I, J, aP1 sl rd rl) = (if narrow .boolean (.int y0) = .int y0 then some (some (some (.int y0)), (g, I, J, aP1 sl rd rl)) else none) := (aBk [13] 200 _ _ _ _ _ _).trans rfl
-- 136: BluesAndGreens.spark()I
set_option maxRecDepth 100000 in
theorem b136_12 (d : Nat) (g : Nat × Nat × Nat) (I : Nat → Nat → Int32) (J : Nat → Nat → Int64) (sl : Nat) (rd rl : Nat) (a1 a2 a3 : Int32) : aE d 136 12 [.ref 6, .int a1, .int a2, .int a3] [] (g, I, J, aP1 sl rd rl) = (if a1 ≤ a3 then (aBv (aF d 83 [.ref 12, .long (Int32.toInt64 a2)] (g, I, J, aP1 sl rd rl)) (fun t0 => aE d 136 58 [.ref 6, .int a1, .int a2, .int a3] [] t0)) else (aBi (aF d 12 [.int a3] (g, I, J, aP1 sl rd rl)) (fun x1 t1 => aE d 136 21 [.ref 6, .int a1, .int a2, .int a3] [.int x1] t1))) := (aBk [7, 12, 21, 25, 37, 58, 62] 200 _ _ _ _ _ _).trans rfl
-- 131: BluesAndGreens$City.allQuarters()I
set_option maxRecDepth 100000 in
theorem b131_7 (d : Nat) (g : Nat × Nat × Nat) (I : Nat → Nat → Int32) (J : Nat → Nat → Int64) (sl : Nat) (rd rl : Nat) (y0 : Int32) (w0 : Value) : aE d 131 7 [w0] [.int y0] (g, I, J, aP1 sl rd rl) = some (some (some (.int y0)), (g, I, J, aP1 sl rd rl)) := (aBk [7] 200 _ _ _ _ _ _).trans rfl
-- 132: BluesAndGreens.firstOnes(I)I
set_option maxRecDepth 100000 in
theorem b132_0 (d : Nat) (g : Nat × Nat × Nat) (I : Nat → Nat → Int32) (J : Nat → Nat → Int64) (sl : Nat) (rd rl : Nat) (a0 : Int32) : aE d 132 0 [.int a0] [] (g, I, J, aP1 sl rd rl) = some (some (some (.int ((1 <<< (a0 &&& 31)) - 1))), (g, I, J, aP1 sl rd rl)) := (aBk [] 200 _ _ _ _ _ _).trans rfl
-- 266: BluesAndGreensModel.spark()I
set_option maxRecDepth 100000 in
theorem b266_12 (d : Nat) (g : Nat × Nat × Nat) (I : Nat → Nat → Int32) (J : Nat → Nat → Int64) (sl : Nat) (rd rl : Nat) (a1 a2 : Int32) : aE d 266 12 [.ref 46, .int a1, .int a2] [] (g, I, J, aP1 sl rd rl) = (aBi (aF d 267 [.ref 46] (g, I, J, aP1 sl rd rl)) (fun x0 t0 => aE d 266 17 [.ref 46, .int a1, .int a2] [.int x0, .int a2] t0)) := (aBk [9, 12, 17, 24, 28, 37, 41, 63, 67] 200 _ _ _ _ _ _).trans rfl
-- 137: BluesAndGreens.won(II)I
set_option maxRecDepth 100000 in
theorem b137_30 (d : Nat) (g : Nat × Nat × Nat) (I : Nat → Nat → Int32) (J : Nat → Nat → Int64) (sl : Nat) (rd rl : Nat) (a1 a2 y0 : Int32) (w3 w4 w5 w6 : Value) : aE d 137 30 [.ref 6, .int a1, .int a2, w3, w4, w5, w6] [.int y0] (g, I, J, aP1 sl rd rl) = aE d 137 37 [.ref 6, .int a1, .int a2, .int y0, .int y0, .int 0, w6] [] (g, I, J, aP1 sl rd rl) := (aBk [8, 30, 37, 48, 53, 78, 81, 105, 110] 200 _ _ _ _ _ _).trans rfl
-- 268: BluesAndGreensModel.won(II)I
set_option maxRecDepth 100000 in
theorem b268_20 (d : Nat) (g : Nat × Nat × Nat) (I : Nat → Nat → Int32) (J : Nat → Nat → Int64) (sl : Nat) (rd rl : Nat) (a1 a2 y0 : Int32) (w3 w4 : Value) : aE d 268 20 [.ref 46, .int a1, .int a2, w3, w4] [.int y0] (g, I, J, aP1 sl rd rl) = (if y0 = 0 then some (some (some (.int (-1))), (g, I, J, aP1 sl rd rl)) else (aBi (aF d 267 [.ref 46] (g, I, J, aP1 sl rd rl)) (fun x0 t0 => aE d 268 29 [.ref 46, .int a1, .int a2, w3, w4] [.int x0] t0))) := (aBk [10, 20, 29, 33, 39, 47, 51, 61, 64, 88, 92] 200 _ _ _ _ _ _).trans rfl
-- 138: BluesAndGreens.gates(II)I
set_option maxRecDepth 100000 in
theorem b138_38 (d : Nat) (g : Nat × Nat × Nat) (I : Nat → Nat → Int32) (J : Nat → Nat → Int64) (sl : Nat) (rd rl : Nat) (a1 a2 a3 y0 : Int32) (w4 w5 w6 w7 : Value) : aE d 138 38 [.ref 6, .int a1, .int a2, .int a3, w4, w5, w6, w7] [.int y0, .ref 14] (g, I, J, aP1 sl rd rl) = (aBi (aF d 135 [.ref 14, .int y0] (g, I, J, aP1 sl rd rl)) (fun x0 t0 => aE d 138 41 [.ref 6, .int a1, .int a2, .int a3, w4, w5, w6, w7] [.int x0] t0)) := (aBk [8, 38, 41, 46, 59, 84, 87, 109, 140, 144] 200 _ _ _ _ _ _).trans rfl
-- 139: BluesAndGreens$City.keptIn(II)I
set_option maxRecDepth 100000 in
theorem b139_0 (d : Nat) (g : Nat × Nat × Nat) (I : Nat → Nat → Int32) (J : Nat → Nat → Int64) (sl : Nat) (rd rl : Nat) (a1 a2 : Int32) : aE d 139 0 [.ref 14, .int a1, .int a2, aNo, aNo] [] (g, I, J, aP1 sl rd rl) = aE d 139 5 [.ref 14, .int a1, .int a2, .int 0, .int 0] [] (g, I, J, aP1 sl rd rl) := (aBk [5, 20] 200 _ _ _ _ _ _).trans rfl
-- 269: BluesAndGreensModel.gates(II)I
set_option maxRecDepth 100000 in
theorem b269_20 (d : Nat) (g : Nat × Nat × Nat) (I : Nat → Nat → Int32) (J : Nat → Nat → Int64) (sl : Nat) (rd rl : Nat) (a1 a2 y0 : Int32) (w3 w4 w5 : Value) : aE d 269 20 [.ref 46, .int a1, .int a2, w3, w4, w5] [.int y0] (g, I, J, aP1 sl rd rl) = (if y0 = 0 then some (some (some (.int (-1))), (g, I, J, aP1 sl rd rl)) else aE d 269 30 [.ref 46, .int a1, .int a2, .int 0, .int 1, w5] [] (g, I, J, aP1 sl rd rl)) := (aBk [10, 20, 30, 43, 58, 61, 68, 71, 89, 93, 116, 123, 127, 134, 137] 200 _ _ _ _ _ _).trans rfl
-- 140: BluesAndGreens.common(I)I
set_option maxRecDepth 100000 in
theorem b140_22 (d : Nat) (g : Nat × Nat × Nat) (I : Nat → Nat → Int32) (J : Nat → Nat → Int64) (sl : Nat) (rd rl : Nat) (a1 a2 a3 a4 : Int32) : aE d 140 22 [.ref 6, .int a1, .int a2, .int a3, .int a4] [] (g, I, J, aP1 sl rd rl) = (if (I 14 4) ≤ a4 then (aBv (aF d 83 [.ref 12, .long (Int32.toInt64 a3)] (g, I, J, aP1 sl rd rl)) (fun t0 => aE d 140 84 [.ref 6, .int a1, .int a2, .int a3, .int a4] [] t0)) else (aBi (aF d 93 [.int a1, .int a4] (g, I, J, aP1 sl rd rl)) (fun x1 t1 => aE d 140 40 [.ref 6, .int a1, .int a2, .int a3, .int a4] [.int x1] t1))) := (aBk [8, 22, 40, 84] 200 _ _ _ _ _ _).trans rfl
-- 271: BluesAndGreensModel.common(I)I
set_option maxRecDepth 100000 in
theorem b271_24 (d : Nat) (g : Nat × Nat × Nat) (I : Nat → Nat → Int32) (J : Nat → Nat → Int64) (sl : Nat) (rd rl : Nat) (a1 a2 a3 a4 : Int32) : aE d 271 24 [.ref 46, .int a1, .int a2, .int a3, .int a4] [] (g, I, J, aP1 sl rd rl) = (if (I 46 4) ≤ a4 then (aBv (aF d 229 [.ref 46, .long (Int32.toInt64 a3)] (g, (aU I 46 12 0), J, aP1 sl rd rl)) (fun t0 => aE d 271 90 [.ref 46, .int a1, .int a2, .int a3, .int a4] [] t0)) else (aBi (aF d 217 [.int a1, .int a4] (g, I, J, aP1 sl rd rl)) (fun x1 t1 => aE d 271 39 [.ref 46, .int a1, .int a2, .int a3, .int a4] [.int x1] t1))) := (aBk [10, 24, 39, 90] 200 _ _ _ _ _ _).trans rfl
-- 141: BluesAndGreens.lots(III)I
set_option maxRecDepth 100000 in
theorem b141_52 (d : Nat) (g : Nat × Nat × Nat) (I : Nat → Nat → Int32) (J : Nat → Nat → Int64) (sl : Nat) (rd rl : Nat) (a1 a2 a3 : Int32) (z0 z1 : Int64) (w4 w5 : Value) : aE d 141 52 [.ref 6, .int a1, .int a2, .int a3, w4, w5] [.long z0, .long z1] (g, I, J, aP1 sl rd rl) = (aBl (aF d 143 [.int (10 - a3), .int (a1 - a2)] (g, I, J, aP1 sl rd rl)) (fun x0 t0 => aE d 141 63 [.ref 6, .int a1, .int a2, .int a3, w4, w5] [.long x0, .long (z1 * z0)] t0)) := (aBk [47, 52, 63, 75, 78] 200 _ _ _ _ _ _).trans rfl
set_option maxRecDepth 100000 in
theorem b141_78 (d : Nat) (g : Nat × Nat × Nat) (I : Nat → Nat → Int32) (J : Nat → Nat → Int64) (sl : Nat) (rd rl : Nat) (a3 : Int32) (w0 w1 w2 w4 w5 : Value) : aE d 141 78 [w0, w1, w2, .int a3, w4, w5] [] (g, I, J, aP1 sl rd rl) = some (some (some (.int 0)), (g, I, J, aP1 sl rd rl)) := (aBk [47, 52, 63, 75, 78] 200 _ _ _ _ _ _).trans rfl
-- 144: BluesAndGreens.tellFraction(JJ)V
set_option maxRecDepth 100000 in
theorem b144_0 (d : Nat) (g : Nat × Nat × Nat) (I : Nat → Nat → Int32) (J : Nat → Nat → Int64) (sl : Nat) (rd rl : Nat) (b1 b3 : Int64) : aE d 144 0 [.ref 6, .long b1, aNo, .long b3, aNo, aNo, aNo] [] (g, I, J, aP1 sl rd rl) = (aBl (aF d 145 [.long b1, .long b3] (g, I, J, aP1 sl rd rl)) (fun x0 t0 => aE d 144 5 [.ref 6, .long b1, aNo, .long b3, aNo, aNo, aNo] [.long x0] t0)) := (aBk [5, 29] 200 _ _ _ _ _ _).trans rfl
-- 142: BluesAndGreens.ways(II)J
set_option maxRecDepth 100000 in
theorem b142_5 (d : Nat) (g : Nat × Nat × Nat) (I : Nat → Nat → Int32) (J : Nat → Nat → Int64) (sl : Nat) (rd rl : Nat) (a0 a1 a4 : Int32) (b2 : Int64) : aE d 142 5 [.int a0, .int a1, .long b2, aNo, .int a4] [] (g, I, J, aP1 sl rd rl) = (if a1 < a4 then some (some (some (.long b2)), (g, I, J, aP1 sl rd rl)) else (if (Int32.toInt64 a4) = 0 then none else aE d 142 5 [.int a0, .int a1, .long ((b2 * (Int32.toInt64 ((a0 - a1) + a4))) / (Int32.toInt64 a4)), aNo, .int (a4 + 1)] [] (g, I, J, aP1 sl rd rl))) := (aBk [5] 200 _ _ _ _ _ _).trans rfl
-- 143: BluesAndGreens.power(II)J
set_option maxRecDepth 100000 in
theorem b143_5 (d : Nat) (g : Nat × Nat × Nat) (I : Nat → Nat → Int32) (J : Nat → Nat → Int64) (sl : Nat) (rd rl : Nat) (a0 a1 a4 : Int32) (b2 : Int64) : aE d 143 5 [.int a0, .int a1, .long b2, aNo, .int a4] [] (g, I, J, aP1 sl rd rl) = (if a1 ≤ a4 then some (some (some (.long b2)), (g, I, J, aP1 sl rd rl)) else aE d 143 5 [.int a0, .int a1, .long (b2 * (Int32.toInt64 a0)), aNo, .int (a4 + 1)] [] (g, I, J, aP1 sl rd rl)) := (aBk [5] 200 _ _ _ _ _ _).trans rfl
-- 272: BluesAndGreensModel.lots(III)I
set_option maxRecDepth 100000 in
theorem b272_22 (d : Nat) (g : Nat × Nat × Nat) (I : Nat → Nat → Int32) (J : Nat → Nat → Int64) (sl : Nat) (rd rl : Nat) (a1 a2 a3 y0 : Int32) (w4 w5 w6 : Value) : aE d 272 22 [.ref 46, .int a1, .int a2, .int a3, w4, w5, w6] [.int y0] (g, I, J, aP1 sl rd rl) = (if y0 = 0 then some (some (some (.int (-1))), (g, I, J, aP1 sl rd rl)) else (aBi (aF d 181 [.int a3, .int 0, .int 10] (g, I, J, aP1 sl rd rl)) (fun x0 t0 => aE d 272 32 [.ref 46, .int a1, .int a2, .int a3, w4, w5, w6] [.int x0] t0))) := (aBk [12, 22, 32, 43, 89, 101, 109, 112] 200 _ _ _ _ _ _).trans rfl
-- 146: BluesAndGreens.bent(IIII)I
set_option maxRecDepth 100000 in
theorem b146_63 (d : Nat) (g : Nat × Nat × Nat) (I : Nat → Nat → Int32) (J : Nat → Nat → Int64) (sl : Nat) (rd rl : Nat) (a1 a3 a4 : Int32) (z0 z1 : Int64) (w2 w5 w6 w7 w8 : Value) : aE d 146 63 [.ref 6, .int a1, w2, .int a3, .int a4, w5, w6, w7, w8] [.long z0, .long z1] (g, I, J, aP1 sl rd rl) = (aBl (aF d 143 [.int 5, .int a3] (g, I, J, aP1 sl rd rl)) (fun x0 t0 => aE d 146 78 [.ref 6, .int a1, w2, .int a3, .int a4, .long (z1 * z0), aNo, w7, w8] [.long x0, .long (Int32.toInt64 (10 - a1)), .long (z1 * z0)] t0)) := (aBk [51, 63, 78, 100] 200 _ _ _ _ _ _).trans rfl
-- 276: BluesAndGreensModel.bent(IIII)I
set_option maxRecDepth 100000 in
theorem b276_22 (d : Nat) (g : Nat × Nat × Nat) (I : Nat → Nat → Int32) (J : Nat → Nat → Int64) (sl : Nat) (rd rl : Nat) (a1 a2 a3 a4 y0 : Int32) (w5 w6 w7 w8 : Value) : aE d 276 22 [.ref 46, .int a1, .int a2, .int a3, .int a4, w5, w6, w7, w8] [.int y0] (g, I, J, aP1 sl rd rl) = (if y0 = 0 then some (some (some (.int (-1))), (g, I, J, aP1 sl rd rl)) else (aBi (aF d 181 [.int a3, .int 0, .int 10] (g, I, J, aP1 sl rd rl)) (fun x0 t0 => aE d 276 32 [.ref 46, .int a1, .int a2, .int a3, .int a4, w5, w6, w7, w8] [.int x0] t0))) := (aBk [12, 22, 32, 42, 56, 69, 86, 108] 200 _ _ _ _ _ _).trans rfl
-- 148: BluesAndGreens$Heard.add(II)I
set_option maxRecDepth 100000 in
theorem b148_18 (d : Nat) (g : Nat × Nat × Nat) (I : Nat → Nat → Int32) (J : Nat → Nat → Int64) (sl : Nat) (rd rl : Nat) (a1 a2 y0 y1 : Int32) : aE d 148 18 [.ref 42, .int a1, .int a2] [.int y0, .int y1] (g, I, J, aP1 sl rd rl) = (if y1 ≤ y0 then (if (I 42 2) < 0 ∨ 12 ≤ (I 42 2).toNatClampNeg then none else (if (I 42 2) < 0 ∨ 12 ≤ (I 42 2).toNatClampNeg then none else some (some (some (.int ((I 42 2) + 1))), (g, (aU (aU (aU I 43 (I 42 2).toNatClampNeg a1) 44 (I 42 2).toNatClampNeg a2) 42 2 ((I 42 2) + 1)), J, aP1 sl rd rl)))) else some (some (some (.int (-1))), (g, I, J, aP1 sl rd rl))) := (aBk [18] 200 _ _ _ _ _ _).trans rfl
-- 149: BluesAndGreens$Heard.mostOf(I)I
set_option maxRecDepth 100000 in
theorem b149_0 (d : Nat) (g : Nat × Nat × Nat) (I : Nat → Nat → Int32) (J : Nat → Nat → Int64) (sl : Nat) (rd rl : Nat) (a0 : Int32) : aE d 149 0 [.int a0] [] (g, I, J, aP1 sl rd rl) = aE d 149 1 [.int a0] [.int a0] (g, I, J, aP1 sl rd rl) := (aBk [1] 200 _ _ _ _ _ _).trans rfl
-- 277: BluesAndGreensModel.heard(II)I
set_option maxRecDepth 100000 in
theorem b277_51 (d : Nat) (g : Nat × Nat × Nat) (I : Nat → Nat → Int32) (J : Nat → Nat → Int64) (sl : Nat) (rd rl : Nat) (a1 a2 y0 : Int32) (w3 : Value) : aE d 277 51 [.ref 46, .int a1, .int a2, w3] [.int y0] (g, I, J, aP1 sl rd rl) = (if y0 = 0 then some (some (some (.int (-1))), (g, I, J, aP1 sl rd rl)) else (if (I 46 35) = 12 then some (some (some (.int (-1))), (g, I, J, aP1 sl rd rl)) else (if (I 46 35) < 0 ∨ 12 ≤ (I 46 35).toNatClampNeg then none else (if (I 46 35) < 0 ∨ 12 ≤ (I 46 35).toNatClampNeg then none else some (some (some (.int ((I 46 35) + 1))), (g, (aU (aU (aU I 62 (I 46 35).toNatClampNeg a1) 63 (I 46 35).toNatClampNeg a2) 46 35 ((I 46 35) + 1)), J, aP1 sl rd rl)))))) := (aBk [42, 51] 200 _ _ _ _ _ _).trans rfl
-- 152: BluesAndGreens.fits()I
set_option maxRecDepth 100000 in
theorem b152_20 (d : Nat) (g : Nat × Nat × Nat) (I : Nat → Nat → Int32) (J : Nat → Nat → Int64) (sl : Nat) (rd rl : Nat) (a1 y0 : Int32) : aE d 152 20 [.ref 6, .int a1] [.int y0, .ref 12] (g, I, J, aP1 sl rd rl) = (aBi (aF d 135 [.ref 14, .int a1] (g, I, J, aP1 sl rd rl)) (fun x0 t0 => aE d 152 29 [.ref 6, .int a1] [.int x0, .long (Int32.toInt64 y0), .ref 12] t0)) := (aBk [11, 20, 29, 33] 200 _ _ _ _ _ _).trans rfl
-- 12: java/lang/Integer.bitCount(I)I
set_option maxRecDepth 100000 in
theorem b12_0 (d : Nat) (g : Nat × Nat × Nat) (I : Nat → Nat → Int32) (J : Nat → Nat → Int64) (sl : Nat) (rd rl : Nat) (a0 : Int32) : aE d 12 0 [.int a0] [] (g, I, J, aP1 sl rd rl) = some (some (some (.int ((((((((a0 - ((a0.toUInt32 >>> (Int32.toUInt32 1 &&& Int32.toUInt32 31)).toInt32 &&& 1431655765)) &&& 858993459) + (((a0 - ((a0.toUInt32 >>> (Int32.toUInt32 1 &&& Int32.toUInt32 31)).toInt32 &&& 1431655765)).toUInt32 >>> (Int32.toUInt32 2 &&& Int32.toUInt32 31)).toInt32 &&& 858993459)) + ((((a0 - ((a0.toUInt32 >>> (Int32.toUInt32 1 &&& Int32.toUInt32 31)).toInt32 &&& 1431655765)) &&& 858993459) + (((a0 - ((a0.toUInt32 >>> (Int32.toUInt32 1 &&& Int32.toUInt32 31)).toInt32 &&& 1431655765)).toUInt32 >>> (Int32.toUInt32 2 &&& Int32.toUInt32 31)).toInt32 &&& 858993459)).toUInt32 >>> (Int32.toUInt32 4 &&& Int32.toUInt32 31)).toInt32) &&& 252645135) + ((((((a0 - ((a0.toUInt32 >>> (Int32.toUInt32 1 &&& Int32.toUInt32 31)).toInt32 &&& 1431655765)) &&& 858993459) + (((a0 - ((a0.toUInt32 >>> (Int32.toUInt32 1 &&& Int32.toUInt32 31)).toInt32 &&& 1431655765)).toUInt32 >>> (Int32.toUInt32 2 &&& Int32.toUInt32 31)).toInt32 &&& 858993459)) + ((((a0 - ((a0.toUInt32 >>> (Int32.toUInt32 1 &&& Int32.toUInt32 31)).toInt32 &&& 1431655765)) &&& 858993459) + (((a0 - ((a0.toUInt32 >>> (Int32.toUInt32 1 &&& Int32.toUInt32 31)).toInt32 &&& 1431655765)).toUInt32 >>> (Int32.toUInt32 2 &&& Int32.toUInt32 31)).toInt32 &&& 858993459)).toUInt32 >>> (Int32.toUInt32 4 &&& Int32.toUInt32 31)).toInt32) &&& 252645135).toUInt32 >>> (Int32.toUInt32 8 &&& Int32.toUInt32 31)).toInt32) + (((((((a0 - ((a0.toUInt32 >>> (Int32.toUInt32 1 &&& Int32.toUInt32 31)).toInt32 &&& 1431655765)) &&& 858993459) + (((a0 - ((a0.toUInt32 >>> (Int32.toUInt32 1 &&& Int32.toUInt32 31)).toInt32 &&& 1431655765)).toUInt32 >>> (Int32.toUInt32 2 &&& Int32.toUInt32 31)).toInt32 &&& 858993459)) + ((((a0 - ((a0.toUInt32 >>> (Int32.toUInt32 1 &&& Int32.toUInt32 31)).toInt32 &&& 1431655765)) &&& 858993459) + (((a0 - ((a0.toUInt32 >>> (Int32.toUInt32 1 &&& Int32.toUInt32 31)).toInt32 &&& 1431655765)).toUInt32 >>> (Int32.toUInt32 2 &&& Int32.toUInt32 31)).toInt32 &&& 858993459)).toUInt32 >>> (Int32.toUInt32 4 &&& Int32.toUInt32 31)).toInt32) &&& 252645135) + ((((((a0 - ((a0.toUInt32 >>> (Int32.toUInt32 1 &&& Int32.toUInt32 31)).toInt32 &&& 1431655765)) &&& 858993459) + (((a0 - ((a0.toUInt32 >>> (Int32.toUInt32 1 &&& Int32.toUInt32 31)).toInt32 &&& 1431655765)).toUInt32 >>> (Int32.toUInt32 2 &&& Int32.toUInt32 31)).toInt32 &&& 858993459)) + ((((a0 - ((a0.toUInt32 >>> (Int32.toUInt32 1 &&& Int32.toUInt32 31)).toInt32 &&& 1431655765)) &&& 858993459) + (((a0 - ((a0.toUInt32 >>> (Int32.toUInt32 1 &&& Int32.toUInt32 31)).toInt32 &&& 1431655765)).toUInt32 >>> (Int32.toUInt32 2 &&& Int32.toUInt32 31)).toInt32 &&& 858993459)).toUInt32 >>> (Int32.toUInt32 4 &&& Int32.toUInt32 31)).toInt32) &&& 252645135).toUInt32 >>> (Int32.toUInt32 8 &&& Int32.toUInt32 31)).toInt32).toUInt32 >>> (Int32.toUInt32 16 &&& Int32.toUInt32 31)).toInt32) &&& 63))), (g, I, J, aP1 sl rd rl)) := (aBk [] 200 _ _ _ _ _ _).trans rfl
-- 153: BluesAndGreens$Heard.fitting(LBluesAndGreens$City;)I
set_option maxRecDepth 100000 in
theorem b153_4 (d : Nat) (g : Nat × Nat × Nat) (I : Nat → Nat → Int32) (J : Nat → Nat → Int64) (sl : Nat) (rd rl : Nat) (a2 a3 : Int32) : aE d 153 4 [.ref 42, .ref 14, .int a2, .int a3] [] (g, I, J, aP1 sl rd rl) = (if (I 14 4) ≤ a3 then some (some (some (.int a2)), (g, I, J, aP1 sl rd rl)) else (aBi (aF d 154 [.ref 42, .ref 14, .int a3] (g, I, J, aP1 sl rd rl)) (fun x0 t0 => aE d 153 18 [.ref 42, .ref 14, .int a2, .int a3] [.int x0] t0))) := (aBk [4, 18] 200 _ _ _ _ _ _).trans rfl
-- 279: BluesAndGreensModel.fits()I
set_option maxRecDepth 100000 in
theorem b279_18 (d : Nat) (g : Nat × Nat × Nat) (I : Nat → Nat → Int32) (J : Nat → Nat → Int64) (sl : Nat) (rd rl : Nat) (y0 : Int32) : aE d 279 18 [.ref 46] [.int y0, .ref 46] (g, I, J, aP1 sl rd rl) = (aBv (aF d 229 [.ref 46, .long (Int32.toInt64 y0)] (g, I, J, aP1 sl rd rl)) (fun t0 => aE d 279 22 [.ref 46] [] t0)) := (aBk [15, 18, 22, 28, 31, 35, 39] 200 _ _ _ _ _ _).trans rfl
-- 280: BluesAndGreensModel.fitting()I
set_option maxRecDepth 100000 in
theorem b280_4 (d : Nat) (g : Nat × Nat × Nat) (I : Nat → Nat → Int32) (J : Nat → Nat → Int64) (sl : Nat) (rd rl : Nat) (a1 a2 : Int32) (w3 w4 : Value) : aE d 280 4 [.ref 46, .int a1, .int a2, w3, w4] [] (g, I, J, aP1 sl rd rl) = (if (I 46 4) ≤ a2 then some (some (some (.int a1)), (g, I, J, aP1 sl rd rl)) else aE d 280 17 [.ref 46, .int a1, .int a2, .int 1, .int 0] [] (g, I, J, aP1 sl rd rl)) := (aBk [4, 17, 49] 200 _ _ _ _ _ _).trans rfl
-- 156: BluesAndGreens.ask()I
set_option maxRecDepth 100000 in
theorem b156_27 (d : Nat) (g : Nat × Nat × Nat) (I : Nat → Nat → Int32) (J : Nat → Nat → Int64) (sl : Nat) (rd rl : Nat) (a1 a2 a3 a4 : Int32) (w5 w6 : Value) : aE d 156 27 [.ref 6, .int a1, .int a2, .int a3, .int a4, w5, w6] [] (g, I, J, aP1 sl rd rl) = (if 9 ≤ a4 then (aBv (aF d 83 [.ref 12, .long (Int32.toInt64 a3)] (g, I, J, aP1 sl rd rl)) (fun t0 => aE d 156 91 [.ref 6, .int a1, .int a2, .int a3, .int a4, w5, w6] [] t0)) else (aBi (aF d 157 [.ref 14, .int a4] (g, I, J, aP1 sl rd rl)) (fun x1 t1 => aE d 156 43 [.ref 6, .int a1, .int a2, .int a3, .int a4, w5, w6] [.int x1] t1))) := (aBk [11, 27, 43, 48, 56, 91] 200 _ _ _ _ _ _).trans rfl
-- 282: BluesAndGreensModel.ask()I
set_option maxRecDepth 100000 in
theorem b282_26 (d : Nat) (g : Nat × Nat × Nat) (I : Nat → Nat → Int32) (J : Nat → Nat → Int64) (sl : Nat) (rd rl : Nat) (a1 a2 a3 a4 : Int32) (w5 w6 : Value) : aE d 282 26 [.ref 46, .int a1, .int a2, .int a3, .int a4, w5, w6] [] (g, I, J, aP1 sl rd rl) = (if 9 ≤ a4 then (aBv (aF d 229 [.ref 46, .long (Int32.toInt64 a3)] (g, (aU I 46 12 0), J, aP1 sl rd rl)) (fun t0 => aE d 282 131 [.ref 46, .int a1, .int a2, .int a3, .int a4, w5, w6] [] t0)) else aE d 282 39 [.ref 46, .int a1, .int a2, .int a3, .int a4, .int 0, .int 0] [] (g, I, J, aP1 sl rd rl)) := (aBk [9, 26, 39, 56, 68, 91, 131] 200 _ _ _ _ _ _).trans rfl
-- 158: BluesAndGreens.rests(II)I
set_option maxRecDepth 100000 in
theorem b158_34 (d : Nat) (g : Nat × Nat × Nat) (I : Nat → Nat → Int32) (J : Nat → Nat → Int64) (sl : Nat) (rd rl : Nat) (a1 a2 a3 a4 : Int32) (w5 : Value) : aE d 158 34 [.ref 6, .int a1, .int a2, .int a3, .int a4, w5] [] (g, I, J, aP1 sl rd rl) = (if 10 ≤ a4 then some (some (some (.int a3)), (g, I, J, aP1 sl rd rl)) else aE d 158 44 [.ref 6, .int a1, .int a2, .int a3, .int a4, .int 0] [] (g, I, J, aP1 sl rd rl)) := (aBk [29, 34, 44, 60, 87] 200 _ _ _ _ _ _).trans rfl
-- 283: BluesAndGreensModel.rests(II)I
set_option maxRecDepth 100000 in
theorem b283_22 (d : Nat) (g : Nat × Nat × Nat) (I : Nat → Nat → Int32) (J : Nat → Nat → Int64) (sl : Nat) (rd rl : Nat) (a1 a2 y0 : Int32) (w3 w4 w5 : Value) : aE d 283 22 [.ref 46, .int a1, .int a2, w3, w4, w5] [.int y0] (g, I, J, aP1 sl rd rl) = (if y0 = 0 then some (some (some (.int (-1))), (g, I, J, aP1 sl rd rl)) else aE d 283 37 [.ref 46, .int a1, .int a2, .int 0, .int 0, w5] [] (g, (aU I 46 12 0), J, aP1 sl rd rl)) := (aBk [12, 22, 37, 47, 63, 80, 87] 200 _ _ _ _ _ _).trans rfl
-- 162: BluesAndGreens.law()I
set_option maxRecDepth 100000 in
theorem b162_44 (d : Nat) (g : Nat × Nat × Nat) (I : Nat → Nat → Int32) (J : Nat → Nat → Int64) (sl : Nat) (rd rl : Nat) (a1 : Int32) (w2 w3 : Value) : aE d 162 44 [.ref 6, .int a1, w2, w3] [] (g, I, J, aP1 sl rd rl) = (aBi (aF d 64 [.ref 41, .ref 14, .ref 27, .ref 37, .int 20] (g, I, J, aP1 sl rd rl)) (fun x0 t0 => aE d 162 65 [.ref 6, .int a1, w2, w3] [.int x0] t0)) := (aBk [8, 44, 65, 77, 98, 110] 200 _ _ _ _ _ _).trans rfl
-- 287: BluesAndGreensModel.law()I
set_option maxRecDepth 100000 in
theorem b287_43_r5356 (d : Nat) (g : Nat × Nat × Nat) (I : Nat → Nat → Int32) (J : Nat → Nat → Int64) (sl : Nat) (a1 y0 : Int32) (w2 w3 w4 w5 : Value) : aE d 287 43 [.ref 46, .int a1, w2, w3, w4, w5] [.int y0] (g, I, J, aP1 sl 53 56) = aE d 287 71 [.ref 46, .int a1, .int y0, .ref 55, .int (I 46 22), .int 0] [] (g, (aU I 46 22 a1), J, aU (aP1 sl 53 56) 46 20 57) := (aBk [14, 43, 71, 103, 128, 134] 200 _ _ _ _ _ _).trans rfl
set_option maxRecDepth 100000 in
theorem b287_43_r5656 (d : Nat) (g : Nat × Nat × Nat) (I : Nat → Nat → Int32) (J : Nat → Nat → Int64) (sl : Nat) (a1 y0 : Int32) (w2 w3 w4 w5 : Value) : aE d 287 43 [.ref 46, .int a1, w2, w3, w4, w5] [.int y0] (g, I, J, aP1 sl 56 56) = aE d 287 71 [.ref 46, .int a1, .int y0, .ref 55, .int (I 46 22), .int 0] [] (g, (aU I 46 22 a1), J, aU (aP1 sl 56 56) 46 20 57) := (aBk [14, 43, 71, 103, 128, 134] 200 _ _ _ _ _ _).trans rfl
set_option maxRecDepth 100000 in
theorem b287_43_r5757 (d : Nat) (g : Nat × Nat × Nat) (I : Nat → Nat → Int32) (J : Nat → Nat → Int64) (sl : Nat) (a1 y0 : Int32) (w2 w3 w4 w5 : Value) : aE d 287 43 [.ref 46, .int a1, w2, w3, w4, w5] [.int y0] (g, I, J, aP1 sl 57 57) = aE d 287 71 [.ref 46, .int a1, .int y0, .ref 56, .int (I 46 22), .int 0] [] (g, (aU I 46 22 a1), J, aU (aP1 sl 57 57) 46 20 57) := (aBk [14, 43, 71, 103, 128, 134] 200 _ _ _ _ _ _).trans rfl
-- 288: BluesAndGreensModel.bluesOf(I)I
set_option maxRecDepth 100000 in
theorem b288_0 (d : Nat) (g : Nat × Nat × Nat) (I : Nat → Nat → Int32) (J : Nat → Nat → Int64) (sl : Nat) (rd rl : Nat) (a1 : Int32) : aE d 288 0 [.ref 46, .int a1] [] (g, I, J, aP1 sl rd rl) = (aBv (aF d 222 [.ref 47, .ref 60, .int 0] (g, I, J, aP1 sl rd rl)) (fun t0 => aE d 288 12 [.ref 46, .int a1] [] t0)) := (aBk [12, 21] 200 _ _ _ _ _ _).trans rfl
-- 163: BluesAndGreens.years(II)I
set_option maxRecDepth 100000 in
theorem b163_53 (d : Nat) (g : Nat × Nat × Nat) (I : Nat → Nat → Int32) (J : Nat → Nat → Int64) (sl : Nat) (rd rl : Nat) (a2 a3 a4 a5 : Int32) (w1 : Value) : aE d 163 53 [.ref 6, w1, .int a2, .int a3, .int a4, .int a5] [] (g, I, J, aP1 sl rd rl) = (if a2 ≤ a5 then (aBi (aF d 72 [.ref 27, .int 0] (g, I, J, aP1 sl rd rl)) (fun x0 t0 => aE d 163 108 [.ref 6, w1, .int a2, .int a3, .int a4, .int a5] [.int x0, .ref 12] t0)) else (aBi (aF d 164 [.ref 6] (g, I, J, aP1 sl rd rl)) (fun x1 t1 => aE d 163 64 [.ref 6, w1, .int a2, .int a3, .int a4, .int a5] [.int x1, .int a3] t1))) := (aBk [37, 53, 64, 79, 108, 117, 124] 200 _ _ _ _ _ _).trans rfl
-- 289: BluesAndGreensModel.years(II)I
set_option maxRecDepth 100000 in
theorem b289_49 (d : Nat) (g : Nat × Nat × Nat) (I : Nat → Nat → Int32) (J : Nat → Nat → Int64) (sl : Nat) (rd rl : Nat) (a2 a3 a4 : Int32) (w1 w5 w6 w7 w8 : Value) : aE d 289 49 [.ref 46, w1, .int a2, .int a3, .int a4, w5, w6, w7, w8] [] (g, I, J, aP1 sl rd rl) = aE d 289 52 [.ref 46, w1, .int a2, .int a3, .int a4, .int 0, w6, w7, w8] [] (g, I, J, aP1 sl rd rl) := (aBk [22, 49, 52, 63, 86, 109, 119, 133, 148, 163, 168, 178, 211, 222, 229] 200 _ _ _ _ _ _).trans rfl
-- 291: BluesAndGreensModel.keep(I)Z
set_option maxRecDepth 100000 in
theorem b291_48 (d : Nat) (g : Nat × Nat × Nat) (I : Nat → Nat → Int32) (J : Nat → Nat → Int64) (sl : Nat) (rd rl : Nat) (w0 w1 : Value) : aE d 291 48 [w0, w1] [] (g, I, J, aP1 sl rd rl) = some (some (some (.int 1)), (g, I, J, aP1 sl rd rl)) := (aBk [11, 48] 200 _ _ _ _ _ _).trans rfl
-- 222: BluesAndGreensModel.lay([I[II)V
set_option maxRecDepth 100000 in
theorem b222_0_2 (d : Nat) (g : Nat × Nat × Nat) (I : Nat → Nat → Int32) (J : Nat → Nat → Int64) (sl : Nat) (rd rl : Nat) (a2 : Int32) : aE d 222 0 [.ref 47, .ref 64, .int a2, aNo] [] (g, I, J, aP1 sl rd rl) = aE d 222 2 [.ref 47, .ref 64, .int a2, .int 0] [] (g, I, J, aP1 sl rd rl) := (aBk [2] 200 _ _ _ _ _ _).trans rfl
-- 167: BluesAndGreens.again(I)Z
set_option maxRecDepth 100000 in
theorem b167_39 (d : Nat) (g : Nat × Nat × Nat) (I : Nat → Nat → Int32) (J : Nat → Nat → Int64) (sl : Nat) (rd rl : Nat) (w0 w1 : Value) : aE d 167 39 [w0, w1] [] (g, I, J, aP1 sl rd rl) = some (some (some (.int 1)), (g, I, J, aP1 sl rd rl)) := (aBk [32, 39] 200 _ _ _ _ _ _).trans rfl
-- 54: BluesAndGreens$Past.clear()V
set_option maxRecDepth 100000 in
theorem b54_0 (d : Nat) (g : Nat × Nat × Nat) (I : Nat → Nat → Int32) (J : Nat → Nat → Int64) (sl : Nat) (rd rl : Nat) : aE d 54 0 [.ref 29] [] (g, I, J, aP1 sl rd rl) = some (some none, (g, (aU I 29 1 0), J, aP1 sl rd rl)) := (aBk [] 200 _ _ _ _ _ _).trans rfl
-- 292: BluesAndGreensModel.again(I)Z
set_option maxRecDepth 100000 in
theorem b292_40 (d : Nat) (g : Nat × Nat × Nat) (I : Nat → Nat → Int32) (J : Nat → Nat → Int64) (sl : Nat) (rd rl : Nat) (a1 a2 : Int32) : aE d 292 40 [.ref 46, .int a1, .int a2] [] (g, I, J, aP1 sl rd rl) = (if 39 ≤ a2 then some (some (some (.int 1)), (g, (aU I 46 26 0), J, aP1 sl rd rl)) else (if ((39 * a1) + a2) < 0 ∨ 78 ≤ ((39 * a1) + a2).toNatClampNeg then none else (if a2 < 0 ∨ 39 ≤ a2.toNatClampNeg then none else aE d 292 40 [.ref 46, .int a1, .int (a2 + 1)] [] (g, (aU I 47 a2.toNatClampNeg (I 64 ((39 * a1) + a2).toNatClampNeg)), J, aP1 sl rd rl)))) := (aBk [11, 40] 200 _ _ _ _ _ _).trans rfl
-- 168: BluesAndGreens.count(I)I
set_option maxRecDepth 100000 in
theorem b168_103 (d : Nat) (g : Nat × Nat × Nat) (I : Nat → Nat → Int32) (J : Nat → Nat → Int64) (sl : Nat) (rd rl : Nat) (y0 : Int32) (w0 w1 : Value) : aE d 168 103 [w0, w1] [.int y0] (g, I, J, aP1 sl rd rl) = some (some (some (.int y0)), (g, I, J, aP1 sl rd rl)) := (aBk [1, 103, 115, 131, 142, 153] 200 _ _ _ _ _ _).trans rfl
-- 71: BluesAndGreens$State.racesRun()I
set_option maxRecDepth 100000 in
theorem b71_0 (d : Nat) (g : Nat × Nat × Nat) (I : Nat → Nat → Int32) (J : Nat → Nat → Int64) (sl : Nat) (rd rl : Nat) : aE d 71 0 [.ref 23] [] (g, I, J, aP1 sl rd rl) = some (some (some (.int (I 24 6))), (g, I, J, aP1 sl rd rl)) := (aBk [] 200 _ _ _ _ _ _).trans rfl
-- 168: BluesAndGreens.count(I)I
set_option maxRecDepth 100000 in
theorem b168_115 (d : Nat) (g : Nat × Nat × Nat) (I : Nat → Nat → Int32) (J : Nat → Nat → Int64) (sl : Nat) (rd rl : Nat) (y0 : Int32) (w0 w1 : Value) : aE d 168 115 [w0, w1] [.int y0] (g, I, J, aP1 sl rd rl) = (if y0 = 0 then some (some (some (.int 0)), (g, I, J, aP1 sl rd rl)) else some (some (some (.int 1)), (g, I, J, aP1 sl rd rl))) := (aBk [1, 103, 115, 131, 142, 153] 200 _ _ _ _ _ _).trans rfl
-- 78: BluesAndGreens$State.areJoined(LBluesAndGreens$City;)Z
set_option maxRecDepth 100000 in
theorem b78_0 (d : Nat) (g : Nat × Nat × Nat) (I : Nat → Nat → Int32) (J : Nat → Nat → Int64) (sl : Nat) (rd rl : Nat) : aE d 78 0 [.ref 23, .ref 14] [] (g, I, J, aP1 sl rd rl) = (aBi (aF d 79 [.ref 23] (g, I, J, aP1 sl rd rl)) (fun x0 t0 => aE d 78 4 [.ref 23, .ref 14] [.int x0] t0)) := (aBk [4] 200 _ _ _ _ _ _).trans rfl
-- 168: BluesAndGreens.count(I)I
set_option maxRecDepth 100000 in
theorem b168_131 (d : Nat) (g : Nat × Nat × Nat) (I : Nat → Nat → Int32) (J : Nat → Nat → Int64) (sl : Nat) (rd rl : Nat) (y0 : Int32) (w0 w1 : Value) : aE d 168 131 [w0, w1] [.int y0] (g, I, J, aP1 sl rd rl) = some (some (some (.int y0)), (g, I, J, aP1 sl rd rl)) := (aBk [1, 103, 115, 131, 142, 153] 200 _ _ _ _ _ _).trans rfl
-- 69: BluesAndGreens$State.cursedOnes()I
set_option maxRecDepth 100000 in
theorem b69_0 (d : Nat) (g : Nat × Nat × Nat) (I : Nat → Nat → Int32) (J : Nat → Nat → Int64) (sl : Nat) (rd rl : Nat) : aE d 69 0 [.ref 23] [] (g, I, J, aP1 sl rd rl) = some (some (some (.int (I 24 7))), (g, I, J, aP1 sl rd rl)) := (aBk [] 200 _ _ _ _ _ _).trans rfl
-- 168: BluesAndGreens.count(I)I
set_option maxRecDepth 100000 in
theorem b168_142 (d : Nat) (g : Nat × Nat × Nat) (I : Nat → Nat → Int32) (J : Nat → Nat → Int64) (sl : Nat) (rd rl : Nat) (y0 : Int32) (w1 : Value) : aE d 168 142 [.ref 6, w1] [.int y0] (g, I, J, aP1 sl rd rl) = (aBi (aF d 122 [.ref 23, .ref 14] (g, I, J, aP1 sl rd rl)) (fun x0 t0 => aE d 168 153 [.ref 6, w1] [.int x0, .int y0] t0)) := (aBk [1, 103, 115, 131, 142, 153] 200 _ _ _ _ _ _).trans rfl
set_option maxRecDepth 100000 in
theorem b168_189 (d : Nat) (g : Nat × Nat × Nat) (I : Nat → Nat → Int32) (J : Nat → Nat → Int64) (sl : Nat) (rd rl : Nat) (w0 w1 : Value) : aE d 168 189 [w0, w1] [] (g, I, J, aP1 sl rd rl) = some (some (some (.int (-1))), (g, I, J, aP1 sl rd rl)) := (aBk [1, 103, 115, 131, 142, 153] 200 _ _ _ _ _ _).trans rfl
-- 293: BluesAndGreensModel.count(I)I
set_option maxRecDepth 100000 in
theorem b293_104 (d : Nat) (g : Nat × Nat × Nat) (I : Nat → Nat → Int32) (J : Nat → Nat → Int64) (sl : Nat) (rd rl : Nat) (y0 : Int32) (w0 w1 : Value) : aE d 293 104 [w0, w1] [.int y0] (g, I, J, aP1 sl rd rl) = (if y0 = 0 then some (some (some (.int 0)), (g, I, J, aP1 sl rd rl)) else some (some (some (.int 1)), (g, I, J, aP1 sl rd rl))) := (aBk [6, 104, 117, 130] 200 _ _ _ _ _ _).trans rfl
-- 228: BluesAndGreensModel.doJoin([I)Z
set_option maxRecDepth 100000 in
theorem b228_0 (d : Nat) (g : Nat × Nat × Nat) (I : Nat → Nat → Int32) (J : Nat → Nat → Int64) (sl : Nat) (rd rl : Nat) : aE d 228 0 [.ref 46, .ref 47] [] (g, I, J, aP1 sl rd rl) = (if (I 47 2) < (I 46 8) then some (some (some (.int 0)), (g, I, J, aP1 sl rd rl)) else (if (I 47 3) < (I 46 8) then some (some (some (.int 0)), (g, I, J, aP1 sl rd rl)) else some (some (some (.int 1)), (g, I, J, aP1 sl rd rl)))) := (aBk [] 200 _ _ _ _ _ _).trans rfl
-- 293: BluesAndGreensModel.count(I)I
set_option maxRecDepth 100000 in
theorem b293_117 (d : Nat) (g : Nat × Nat × Nat) (I : Nat → Nat → Int32) (J : Nat → Nat → Int64) (sl : Nat) (rd rl : Nat) (y0 : Int32) (w0 w1 : Value) : aE d 293 117 [w0, w1] [.int y0] (g, I, J, aP1 sl rd rl) = some (some (some (.int y0)), (g, I, J, aP1 sl rd rl)) := (aBk [6, 104, 117, 130] 200 _ _ _ _ _ _).trans rfl
-- 294: BluesAndGreensModel.cursedBits()I
set_option maxRecDepth 100000 in
theorem b294_0 (d : Nat) (g : Nat × Nat × Nat) (I : Nat → Nat → Int32) (J : Nat → Nat → Int64) (sl : Nat) (rd rl : Nat) : aE d 294 0 [.ref 46, aNo, aNo] [] (g, I, J, aP1 sl rd rl) = aE d 294 4 [.ref 46, .int 0, .int 0] [] (g, I, J, aP1 sl rd rl) := (aBk [4] 200 _ _ _ _ _ _).trans rfl
-- 293: BluesAndGreensModel.count(I)I
set_option maxRecDepth 100000 in
theorem b293_130 (d : Nat) (g : Nat × Nat × Nat) (I : Nat → Nat → Int32) (J : Nat → Nat → Int64) (sl : Nat) (rd rl : Nat) (y0 y1 : Int32) (w0 w1 : Value) : aE d 293 130 [w0, w1] [.int y0, .int y1] (g, I, J, aP1 sl rd rl) = some (some (some (.int (y1 &&& (y0 ^^^ (-1))))), (g, I, J, aP1 sl rd rl)) := (aBk [6, 104, 117, 130] 200 _ _ _ _ _ _).trans rfl
set_option maxRecDepth 100000 in
theorem b293_154 (d : Nat) (g : Nat × Nat × Nat) (I : Nat → Nat → Int32) (J : Nat → Nat → Int64) (sl : Nat) (rd rl : Nat) (w0 w1 : Value) : aE d 293 154 [w0, w1] [] (g, I, J, aP1 sl rd rl) = some (some (some (.int (-1))), (g, I, J, aP1 sl rd rl)) := (aBk [6, 104, 117, 130] 200 _ _ _ _ _ _).trans rfl
-- 295: BluesAndGreensModel.row(I)J
set_option maxRecDepth 100000 in
theorem b295_32 (d : Nat) (g : Nat × Nat × Nat) (I : Nat → Nat → Int32) (J : Nat → Nat → Int64) (sl : Nat) (rd rl : Nat) (y0 : Int32) (w0 w1 : Value) : aE d 295 32 [w0, w1] [.int y0] (g, I, J, aP1 sl rd rl) = some (some (some (.long (Int32.toInt64 y0))), (g, I, J, aP1 sl rd rl)) := (aBk [16, 32] 200 _ _ _ _ _ _).trans rfl
-- 44: BluesAndGreens$Text.add(I)I
set_option maxRecDepth 100000 in
theorem b44_35 (d : Nat) (g : Nat × Nat × Nat) (I : Nat → Nat → Int32) (J : Nat → Nat → Int64) (sl : Nat) (rd rl : Nat) (a1 a2 : Int32) : aE d 44 35 [.ref 7, .int a1, .int a2] [] (g, I, J, aP1 sl rd rl) = aE d 44 19 [.ref 7, .int a1, .int (a2 + (-8))] [] (g, I, J, aP1 sl rd rl) := (aBk [19, 35] 200 _ _ _ _ _ _).trans rfl
-- 26: BluesAndGreens$Text.append(C)V
set_option maxRecDepth 100000 in
theorem b26_0 (d : Nat) (g : Nat × Nat × Nat) (I : Nat → Nat → Int32) (J : Nat → Nat → Int64) (sl : Nat) (rd rl : Nat) (a1 : Int32) : aE d 26 0 [.ref 7, .int a1] [] (g, I, J, aP1 sl rd rl) = (if (I 7 1) < 0 then some (some none, (g, I, J, aP1 sl rd rl)) else (if 80 ≤ (I 7 1) then some (some none, (g, I, J, aP1 sl rd rl)) else (if (I 7 1) < 0 ∨ 80 ≤ (I 7 1).toNatClampNeg then none else some (some none, (g, (aU (aU I 8 (I 7 1).toNatClampNeg (vp_nar .char a1)) 7 1 ((I 7 1) + 1)), J, aP1 sl rd rl))))) := (aBk [] 200 _ _ _ _ _ _).trans rfl
-- 46: BluesAndGreens.drivers()I
set_option maxRecDepth 100000 in
theorem b46_65 (d : Nat) (g : Nat × Nat × Nat) (I : Nat → Nat → Int32) (J : Nat → Nat → Int64) (sl : Nat) (rd rl : Nat) (a1 : Int32) (w0 : Value) : aE d 46 65 [w0, .int a1] [] (g, I, J, aP1 sl rd rl) = some (some (some (.int a1)), (g, I, J, aP1 sl rd rl)) := (aBk [22, 31, 48, 65] 200 _ _ _ _ _ _).trans rfl
set_option maxRecDepth 100000 in
theorem b46_48 (d : Nat) (g : Nat × Nat × Nat) (I : Nat → Nat → Int32) (J : Nat → Nat → Int64) (sl : Nat) (rd rl : Nat) (a1 : Int32) : aE d 46 48 [.ref 6, .int a1] [] (g, I, J, aP1 sl rd rl) = (aBv (aF d 53 [.ref 6] (g, (aU I 14 0 ((I 14 0) + a1)), J, aP1 sl rd rl)) (fun t0 => aE d 46 65 [.ref 6, .int a1] [] t0)) := (aBk [22, 31, 48, 65] 200 _ _ _ _ _ _).trans rfl
-- 52: BluesAndGreens$State.enter(LBluesAndGreens$City;I)V
set_option maxRecDepth 100000 in
theorem b52_0 (d : Nat) (g : Nat × Nat × Nat) (I : Nat → Nat → Int32) (J : Nat → Nat → Int64) (sl : Nat) (rd rl : Nat) (a2 : Int32) : aE d 52 0 [.ref 23, .ref 14, .int a2, aNo, aNo] [] (g, I, J, aP1 sl rd rl) = aE d 52 2 [.ref 23, .ref 14, .int a2, .int 0, aNo] [] (g, I, J, aP1 sl rd rl) := (aBk [2] 200 _ _ _ _ _ _).trans rfl
-- 47: BluesAndGreens$Reader.linesOf(CILBluesAndGreens$City;I)I
set_option maxRecDepth 100000 in
theorem b47_12 (d : Nat) (g : Nat × Nat × Nat) (I : Nat → Nat → Int32) (J : Nat → Nat → Int64) (sl : Nat) (rd rl : Nat) (a1 a4 a5 a6 : Int32) (w2 : Value) : aE d 47 12 [.ref 9, .int a1, w2, .ref 14, .int a4, .int a5, .int a6] [] (g, I, J, aP1 sl rd rl) = (if 8 < a6 then (aBi (aF d 41 [.ref 9, .int a5] (g, I, J, aP1 sl rd rl)) (fun x0 t0 => aE d 47 86 [.ref 9, .int a1, w2, .ref 14, .int a4, .int a5, .int a6] [.int x0] t0)) else (if (I 7 1) ≤ 0 then (aBi (aF d 41 [.ref 9, .int a5] (g, I, J, aP1 sl rd rl)) (fun x1 t1 => aE d 47 86 [.ref 9, .int a1, w2, .ref 14, .int a4, .int a5, .int a6] [.int x1] t1)) else (if a6 = 8 then (aBv (aF d 37 [.ref 9, .int (I 9 2)] (g, I, J, aP1 sl rd rl)) (fun t3 => aE d 47 44 [.ref 9, .int a1, w2, .ref 14, .int a4, .int a5, .int a6] [] t3)) else (aBv (aF d 48 [.ref 9, .int a1, .ref 14, .int a6] (g, I, J, aP1 sl rd rl)) (fun t2 => aE d 47 55 [.ref 9, .int a1, w2, .ref 14, .int a4, .int a5, .int a6] [] t2))))) := (aBk [5, 12, 44, 55, 62, 74, 86] 200 _ _ _ _ _ _).trans rfl
-- 182: BluesAndGreensModel.drivers()I
set_option maxRecDepth 100000 in
theorem b182_121 (d : Nat) (g : Nat × Nat × Nat) (I : Nat → Nat → Int32) (J : Nat → Nat → Int64) (sl : Nat) (rd rl : Nat) (a1 a2 y0 : Int32) (w3 : Value) : aE d 182 121 [.ref 46, .int a1, .int a2, w3] [.int y0] (g, I, J, aP1 sl rd rl) = (if y0 = 0 then some (some (some (.int ((-1) - (I 46 18)))), (g, I, J, aP1 sl rd rl)) else aE d 182 133 [.ref 46, .int a1, .int a2, .int 0] [] (g, I, J, aP1 sl rd rl)) := (aBk [11, 24, 32, 54, 72, 89, 103, 113, 121, 133, 242] 200 _ _ _ _ _ _).trans rfl
set_option maxRecDepth 100000 in
theorem b182_32 (d : Nat) (g : Nat × Nat × Nat) (I : Nat → Nat → Int32) (J : Nat → Nat → Int64) (sl : Nat) (rd rl : Nat) (a1 a2 y0 : Int32) (w3 : Value) : aE d 182 32 [.ref 46, .int a1, .int a2, w3] [.int y0] (g, I, J, aP1 sl rd rl) = (if y0 = 0 then (aBi (aF d 193 [.ref 46] (g, I, J, aP1 sl rd rl)) (fun x0 t0 => aE d 182 121 [.ref 46, .int a1, .int a2, w3] [.int x0] t0)) else (if ((I 46 1) + a1) = 8 then (aBv (aF d 186 [.ref 46, .int (I 46 17)] (g, I, J, aP1 sl rd rl)) (fun t2 => aE d 182 54 [.ref 46, .int a1, .int a2, w3] [] t2)) else (aBi (aF d 187 [.ref 46, .int 49, .int 9] (g, I, J, aP1 sl rd rl)) (fun x1 t1 => aE d 182 72 [.ref 46, .int a1, .int a2, w3] [.int x1, .int (3 * a1), .ref 54] t1)))) := (aBk [11, 24, 32, 54, 72, 89, 103, 113, 121, 133, 242] 200 _ _ _ _ _ _).trans rfl
-- 193: BluesAndGreensModel.wasRight()Z
set_option maxRecDepth 100000 in
theorem b193_0 (d : Nat) (g : Nat × Nat × Nat) (I : Nat → Nat → Int32) (J : Nat → Nat → Int64) (sl : Nat) (rd rl : Nat) : aE d 193 0 [.ref 46] [] (g, I, J, aP1 sl rd rl) = (if (I 46 15) ≤ (I 46 17) then aE d 193 19 [.ref 46] [] (g, I, J, aP1 sl rd rl) else (aBv (aF d 186 [.ref 46, .int (I 46 17)] (g, I, J, aP1 sl rd rl)) (fun t0 => aE d 193 19 [.ref 46] [] t0))) := (aBk [19, 23] 200 _ _ _ _ _ _).trans rfl
-- 185: BluesAndGreensModel.fine()Z
set_option maxRecDepth 100000 in
theorem b185_0 (d : Nat) (g : Nat × Nat × Nat) (I : Nat → Nat → Int32) (J : Nat → Nat → Int64) (sl : Nat) (rd rl : Nat) : aE d 185 0 [.ref 46] [] (g, I, J, aP1 sl rd rl) = (if (I 46 18) = (-1) then some (some (some (.int 1)), (g, I, J, aP1 sl rd rl)) else some (some (some (.int 0)), (g, I, J, aP1 sl rd rl))) := (aBk [] 200 _ _ _ _ _ _).trans rfl
-- 55: BluesAndGreens.quarters()I
set_option maxRecDepth 100000 in
theorem b55_53 (d : Nat) (g : Nat × Nat × Nat) (I : Nat → Nat → Int32) (J : Nat → Nat → Int64) (sl : Nat) (rd rl : Nat) (a1 : Int32) (w0 : Value) : aE d 55 53 [w0, .int a1] [] (g, I, J, aP1 sl rd rl) = some (some (some (.int a1)), (g, I, J, aP1 sl rd rl)) := (aBk [22, 31, 53] 200 _ _ _ _ _ _).trans rfl
-- 53: BluesAndGreens.forgetStates()V
set_option maxRecDepth 100000 in
theorem b53_0 (d : Nat) (g : Nat × Nat × Nat) (I : Nat → Nat → Int32) (J : Nat → Nat → Int64) (sl : Nat) (rd rl : Nat) : aE d 53 0 [.ref 6, aNo] [] (g, I, J, aP1 sl rd rl) = (aBv (aF d 54 [.ref 29] (g, I, J, aP1 sl rd rl)) (fun t0 => aE d 53 7 [.ref 6, aNo] [] t0)) := (aBk [7, 9] 200 _ _ _ _ _ _).trans rfl
-- 195: BluesAndGreensModel.quarters()I
set_option maxRecDepth 100000 in
theorem b195_81 (d : Nat) (g : Nat × Nat × Nat) (I : Nat → Nat → Int32) (J : Nat → Nat → Int64) (sl : Nat) (rd rl : Nat) (a1 a2 y0 : Int32) (w3 : Value) : aE d 195 81 [.ref 46, .int a1, .int a2, w3] [.int y0] (g, I, J, aP1 sl rd rl) = (if y0 = 0 then some (some (some (.int ((-1) - (I 46 18)))), (g, I, J, aP1 sl rd rl)) else aE d 195 93 [.ref 46, .int a1, .int a2, .int 0] [] (g, I, J, aP1 sl rd rl)) := (aBk [11, 24, 32, 54, 64, 73, 81, 93, 139] 200 _ _ _ _ _ _).trans rfl
set_option maxRecDepth 100000 in
theorem b195_32 (d : Nat) (g : Nat × Nat × Nat) (I : Nat → Nat → Int32) (J : Nat → Nat → Int64) (sl : Nat) (rd rl : Nat) (a1 a2 y0 : Int32) (w3 : Value) : aE d 195 32 [.ref 46, .int a1, .int a2, w3] [.int y0] (g, I, J, aP1 sl rd rl) = (if y0 = 0 then (aBi (aF d 193 [.ref 46] (g, I, J, aP1 sl rd rl)) (fun x0 t0 => aE d 195 81 [.ref 46, .int a1, .int a2, w3] [.int x0] t0)) else (if ((I 46 4) + a1) = 8 then (aBv (aF d 186 [.ref 46, .int (I 46 17)] (g, I, J, aP1 sl rd rl)) (fun t2 => aE d 195 54 [.ref 46, .int a1, .int a2, w3] [] t2)) else (aBv (aF d 196 [.ref 46, .int (4 * a1)] (g, I, J, aP1 sl rd rl)) (fun t1 => aE d 195 64 [.ref 46, .int a1, .int a2, w3] [] t1)))) := (aBk [11, 24, 32, 54, 64, 73, 81, 93, 139] 200 _ _ _ _ _ _).trans rfl
-- 56: BluesAndGreens.quarrels()I
set_option maxRecDepth 100000 in
theorem b56_53 (d : Nat) (g : Nat × Nat × Nat) (I : Nat → Nat → Int32) (J : Nat → Nat → Int64) (sl : Nat) (rd rl : Nat) (a1 : Int32) (w0 : Value) : aE d 56 53 [w0, .int a1] [] (g, I, J, aP1 sl rd rl) = some (some (some (.int a1)), (g, I, J, aP1 sl rd rl)) := (aBk [22, 31, 53] 200 _ _ _ _ _ _).trans rfl
-- 197: BluesAndGreensModel.quarrels()I
set_option maxRecDepth 100000 in
theorem b197_105 (d : Nat) (g : Nat × Nat × Nat) (I : Nat → Nat → Int32) (J : Nat → Nat → Int64) (sl : Nat) (rd rl : Nat) (a1 a2 y0 : Int32) (w3 : Value) : aE d 197 105 [.ref 46, .int a1, .int a2, w3] [.int y0] (g, I, J, aP1 sl rd rl) = (if y0 = 0 then some (some (some (.int ((-1) - (I 46 18)))), (g, I, J, aP1 sl rd rl)) else aE d 197 117 [.ref 46, .int a1, .int a2, .int 0] [] (g, I, J, aP1 sl rd rl)) := (aBk [11, 24, 32, 54, 59, 81, 97, 105, 117, 151, 189] 200 _ _ _ _ _ _).trans rfl
set_option maxRecDepth 100000 in
theorem b197_32 (d : Nat) (g : Nat × Nat × Nat) (I : Nat → Nat → Int32) (J : Nat → Nat → Int64) (sl : Nat) (rd rl : Nat) (a1 a2 y0 : Int32) (w3 : Value) : aE d 197 32 [.ref 46, .int a1, .int a2, w3] [.int y0] (g, I, J, aP1 sl rd rl) = (if y0 = 0 then (aBi (aF d 193 [.ref 46] (g, I, J, aP1 sl rd rl)) (fun x0 t0 => aE d 197 105 [.ref 46, .int a1, .int a2, w3] [.int x0] t0)) else (if ((I 46 6) + a1) = 8 then (aBv (aF d 186 [.ref 46, .int (I 46 17)] (g, I, J, aP1 sl rd rl)) (fun t1 => aE d 197 54 [.ref 46, .int a1, .int a2, w3] [] t1)) else aE d 197 59 [.ref 46, .int a1, .int a2, .int 0] [] (g, I, J, aP1 sl rd rl))) := (aBk [11, 24, 32, 54, 59, 81, 97, 105, 117, 151, 189] 200 _ _ _ _ _ _).trans rfl
-- 24: BluesAndGreens.readRule(LBluesAndGreens$Rule;)I
set_option maxRecDepth 100000 in
theorem b24_28 (d : Nat) (g : Nat × Nat × Nat) (I : Nat → Nat → Int32) (J : Nat → Nat → Int64) (sl : Nat) (rd rl : Nat) (y0 : Int32) (w2 : Value) : aE d 24 28 [.ref 6, .ref 37, w2] [.int y0] (g, I, J, aP1 sl rd rl) = (aBi (aF d 42 [.ref 7, .int 0] (g, I, J, aP1 sl rd rl)) (fun x0 t0 => aE d 24 37 [.ref 6, .ref 37, .int y0] [.int x0] t0)) := (aBk [20, 28, 37] 200 _ _ _ _ _ _).trans rfl
-- 27: BluesAndGreens$RuleReader.readInto(LBluesAndGreens$Rule;)I
set_option maxRecDepth 100000 in
theorem b27_0 (d : Nat) (g : Nat × Nat × Nat) (I : Nat → Nat → Int32) (J : Nat → Nat → Int64) (sl : Nat) (rd rl : Nat) : aE d 27 0 [.ref 10, .ref 37, aNo, aNo] [] (g, I, J, aP1 sl rd rl) = (aBv (aF d 28 [.ref 37] (g, I, J, aP1 sl rd rl)) (fun t0 => aE d 27 4 [.ref 10, .ref 37, aNo, aNo] [] t0)) := (aBk [4, 13, 32, 45, 58, 66, 98, 104, 112] 200 _ _ _ _ _ _).trans rfl
-- 25: BluesAndGreens$Text.put(Ljava/lang/String;)V
set_option maxRecDepth 100000 in
theorem b25_7 (d : Nat) (g : Nat × Nat × Nat) (I : Nat → Nat → Int32) (J : Nat → Nat → Int64) (sl : Nat) (rd rl : Nat) (a2 : Int32) : aE d 25 7 [.ref 7, .ref 1, .int a2] [] (g, I, J, aP1 sl rd rl) = (aBi (aF d 0 [.ref 1] (g, I, J, aP1 sl rd rl)) (fun x0 t0 => aE d 25 12 [.ref 7, .ref 1, .int a2] [.int x0, .int a2] t0)) := (aBk [7, 12, 21, 24] 200 _ _ _ _ _ _).trans rfl
-- 199: BluesAndGreensModel.readRule()Z
set_option maxRecDepth 100000 in
theorem b199_28 (d : Nat) (g : Nat × Nat × Nat) (I : Nat → Nat → Int32) (J : Nat → Nat → Int64) (sl : Nat) (rd rl : Nat) (y0 : Int32) (w0 : Value) : aE d 199 28 [w0] [.int y0] (g, I, J, aP1 sl rd rl) = (if narrow .boolean (.int y0) = .int y0 then some (some (some (.int y0)), (g, I, J, aP1 sl rd rl)) else none) := (aBk [6, 23, 28] 200 _ _ _ _ _ _).trans rfl
set_option maxRecDepth 100000 in
theorem b199_23 (d : Nat) (g : Nat × Nat × Nat) (I : Nat → Nat → Int32) (J : Nat → Nat → Int64) (sl : Nat) (rd rl : Nat) (y0 : Int32) : aE d 199 23 [.ref 46] [.int y0] (g, I, J, aP1 sl rd rl) = (aBi (aF d 193 [.ref 46] (g, I, J, aP1 sl rd rl)) (fun x0 t0 => aE d 199 28 [.ref 46] [.int x0] t0)) := (aBk [6, 23, 28] 200 _ _ _ _ _ _).trans rfl
-- 200: BluesAndGreensModel.held(I)I
set_option maxRecDepth 100000 in
theorem b200_0 (d : Nat) (g : Nat × Nat × Nat) (I : Nat → Nat → Int32) (J : Nat → Nat → Int64) (sl : Nat) (rd rl : Nat) (a1 : Int32) : aE d 200 0 [.ref 46, .int a1, aNo] [] (g, I, J, aP1 sl rd rl) = (aBi (aF d 201 [.ref 46, .int a1] (g, I, J, aP1 sl rd rl)) (fun x0 t0 => aE d 200 5 [.ref 46, .int a1, aNo] [.int x0] t0)) := (aBk [5, 12, 21, 36, 45, 60, 69] 200 _ _ _ _ _ _).trans rfl
-- 169: BluesAndGreens.driver(II)I
set_option maxRecDepth 100000 in
theorem b169_20_c0 (d : Nat) (g : Nat × Nat × Nat) (I : Nat → Nat → Int32) (J : Nat → Nat → Int64) (sl : Nat) (rd rl : Nat) (a1 : Int32) (w2 : Value) : aE d 169 20 [.ref 6, .int a1, w2] [.int 0] (g, I, J, aP1 sl rd rl) = (if a1 < 0 ∨ 8 ≤ a1.toNatClampNeg then none else some (some (some (.int (I 15 a1.toNatClampNeg))), (g, I, J, aP1 sl rd rl))) := (aBk [8, 20, 84, 93, 110] 200 _ _ _ _ _ _).trans rfl
set_option maxRecDepth 100000 in
theorem b169_20_c1 (d : Nat) (g : Nat × Nat × Nat) (I : Nat → Nat → Int32) (J : Nat → Nat → Int64) (sl : Nat) (rd rl : Nat) (a1 : Int32) (w2 : Value) : aE d 169 20 [.ref 6, .int a1, w2] [.int 1] (g, I, J, aP1 sl rd rl) = (if a1 < 0 ∨ 8 ≤ a1.toNatClampNeg then none else some (some (some (.int (I 16 a1.toNatClampNeg))), (g, I, J, aP1 sl rd rl))) := (aBk [8, 20, 84, 93, 110] 200 _ _ _ _ _ _).trans rfl
set_option maxRecDepth 100000 in
theorem b169_20_c2 (d : Nat) (g : Nat × Nat × Nat) (I : Nat → Nat → Int32) (J : Nat → Nat → Int64) (sl : Nat) (rd rl : Nat) (a1 : Int32) (w2 : Value) : aE d 169 20 [.ref 6, .int a1, w2] [.int 2] (g, I, J, aP1 sl rd rl) = (aBi (aF d 68 [.ref 23, .int a1] (g, I, J, aP1 sl rd rl)) (fun x0 t0 => aE d 169 84 [.ref 6, .int a1, w2] [.int x0] t0)) := (aBk [8, 20, 84, 93, 110] 200 _ _ _ _ _ _).trans rfl
set_option maxRecDepth 100000 in
theorem b169_20_c3 (d : Nat) (g : Nat × Nat × Nat) (I : Nat → Nat → Int32) (J : Nat → Nat → Int64) (sl : Nat) (rd rl : Nat) (a1 : Int32) (w2 : Value) : aE d 169 20 [.ref 6, .int a1, w2] [.int 3] (g, I, J, aP1 sl rd rl) = (aBi (aF d 92 [.ref 23, .int a1] (g, I, J, aP1 sl rd rl)) (fun x0 t0 => aE d 169 93 [.ref 6, .int a1, w2] [.int x0] t0)) := (aBk [8, 20, 84, 93, 110] 200 _ _ _ _ _ _).trans rfl
set_option maxRecDepth 100000 in
theorem b169_20_c4 (d : Nat) (g : Nat × Nat × Nat) (I : Nat → Nat → Int32) (J : Nat → Nat → Int64) (sl : Nat) (rd rl : Nat) (a1 : Int32) (w2 : Value) : aE d 169 20 [.ref 6, .int a1, w2] [.int 4] (g, I, J, aP1 sl rd rl) = (aBi (aF d 70 [.ref 23, .int a1] (g, I, J, aP1 sl rd rl)) (fun x0 t0 => aE d 169 110 [.ref 6, .int a1, w2] [.int x0] t0)) := (aBk [8, 20, 84, 93, 110] 200 _ _ _ _ _ _).trans rfl
-- 170: BluesAndGreens.strength(I)I
set_option maxRecDepth 100000 in
theorem b170_35 (d : Nat) (g : Nat × Nat × Nat) (I : Nat → Nat → Int32) (J : Nat → Nat → Int64) (sl : Nat) (rd rl : Nat) (y0 : Int32) (w0 w1 : Value) : aE d 170 35 [w0, w1] [.int y0] (g, I, J, aP1 sl rd rl) = some (some (some (.int y0)), (g, I, J, aP1 sl rd rl)) := (aBk [8, 35] 200 _ _ _ _ _ _).trans rfl
-- 67: BluesAndGreens$Rule.strengthOf(LBluesAndGreens$City;LBluesAndGreens$State;I)I
set_option maxRecDepth 100000 in
theorem b67_0 (d : Nat) (g : Nat × Nat × Nat) (I : Nat → Nat → Int32) (J : Nat → Nat → Int64) (sl : Nat) (rd rl : Nat) (a3 : Int32) : aE d 67 0 [.ref 33, .ref 14, .ref 23, .int a3, aNo, aNo, aNo, aNo, aNo] [] (g, I, J, aP1 sl rd rl) = (if a3 < 0 then aE d 67 12 [.ref 33, .ref 14, .ref 23, .int a3, aNo, aNo, aNo, aNo, aNo] [] (g, I, J, aP1 sl rd rl) else (if a3 < (I 14 0) then (aBi (aF d 68 [.ref 23, .int a3] (g, I, J, aP1 sl rd rl)) (fun x0 t0 => aE d 67 19 [.ref 33, .ref 14, .ref 23, .int a3, aNo, aNo, aNo, aNo, aNo] [.int x0] t0)) else aE d 67 12 [.ref 33, .ref 14, .ref 23, .int a3, aNo, aNo, aNo, aNo, aNo] [] (g, I, J, aP1 sl rd rl))) := (aBk [12, 19, 42, 64, 74, 98, 114, 121, 206, 208, 215, 250, 281, 300, 301, 307] 200 _ _ _ _ _ _).trans rfl
-- 209: BluesAndGreensModel.strengthOf([II)I
set_option maxRecDepth 100000 in
theorem b209_148 (d : Nat) (g : Nat × Nat × Nat) (I : Nat → Nat → Int32) (J : Nat → Nat → Int64) (sl : Nat) (rd rl : Nat) (a3 : Int32) (w1 w2 w4 : Value) : aE d 209 148 [.ref 46, w1, w2, .int a3, w4] [] (g, I, J, aP1 sl rd rl) = (aBi (aF d 200 [.ref 46, .int 0] (g, (aU I 46 23 1), J, aP1 sl rd rl)) (fun x0 t0 => aE d 209 158 [.ref 46, w1, w2, .int a3, w4] [.int x0] t0)) := (aBk [148, 158] 200 _ _ _ _ _ _).trans rfl
-- 184: BluesAndGreensModel.begin([BII)V
set_option maxRecDepth 100000 in
theorem b184_0_2 (d : Nat) (g : Nat × Nat × Nat) (I : Nat → Nat → Int32) (J : Nat → Nat → Int64) (sl : Nat) (rd rl : Nat) (a2 a3 : Int32) : aE d 184 0 [.ref 46, .ref 55, .int a2, .int a3] [] (g, I, J, aP1 sl rd rl) = some (some none, (g, (aU (aU (aU (aU I 46 15 a2) 46 16 a3) 46 17 0) 46 18 (-1)), J, aU (aP1 sl rd rl) 46 14 56)) := (aBk [] 200 _ _ _ _ _ _).trans rfl
set_option maxRecDepth 100000 in
theorem b184_0_3 (d : Nat) (g : Nat × Nat × Nat) (I : Nat → Nat → Int32) (J : Nat → Nat → Int64) (sl : Nat) (rd rl : Nat) (a2 a3 : Int32) : aE d 184 0 [.ref 46, .ref 56, .int a2, .int a3] [] (g, I, J, aP1 sl rd rl) = some (some none, (g, (aU (aU (aU (aU I 46 15 a2) 46 16 a3) 46 17 0) 46 18 (-1)), J, aU (aP1 sl rd rl) 46 14 57)) := (aBk [] 200 _ _ _ _ _ _).trans rfl
-- 171: BluesAndGreens.quarter(II)I
set_option maxRecDepth 100000 in
theorem b171_96 (d : Nat) (g : Nat × Nat × Nat) (I : Nat → Nat → Int32) (J : Nat → Nat → Int64) (sl : Nat) (rd rl : Nat) (w0 w1 w2 : Value) : aE d 171 96 [w0, w1, w2] [] (g, I, J, aP1 sl rd rl) = some (none, ((g.1 + 0, g.2.1 + 1, g.2.2 + 6), I, J, aP1 sl rd rl)) := (aBk [24] 200 _ _ _ _ _ _).trans rfl
-- 172: BluesAndGreens.quarrel(II)I
set_option maxRecDepth 100000 in
theorem b172_41 (d : Nat) (g : Nat × Nat × Nat) (I : Nat → Nat → Int32) (J : Nat → Nat → Int64) (sl : Nat) (rd rl : Nat) (y0 : Int32) (w0 w1 w2 : Value) : aE d 172 41 [w0, w1, w2] [.int y0] (g, I, J, aP1 sl rd rl) = some (some (some (.int y0)), (g, I, J, aP1 sl rd rl)) := (aBk [8, 41] 200 _ _ _ _ _ _).trans rfl
-- 101: BluesAndGreens$State.sideOf(I)I
set_option maxRecDepth 100000 in
theorem b101_0 (d : Nat) (g : Nat × Nat × Nat) (I : Nat → Nat → Int32) (J : Nat → Nat → Int64) (sl : Nat) (rd rl : Nat) (a1 : Int32) : aE d 101 0 [.ref 23, .int a1] [] (g, I, J, aP1 sl rd rl) = (if a1 < 0 then some (some (some (.int (-1))), (g, I, J, aP1 sl rd rl)) else (if 8 ≤ a1 then some (some (some (.int (-1))), (g, I, J, aP1 sl rd rl)) else (if (24 + a1) < 0 ∨ 32 ≤ (24 + a1).toNatClampNeg then none else some (some (some (.int (I 24 (24 + a1).toNatClampNeg))), (g, I, J, aP1 sl rd rl))))) := (aBk [] 200 _ _ _ _ _ _).trans rfl
-- 173: BluesAndGreens.club(II)I
set_option maxRecDepth 100000 in
theorem b173_16_c0 (d : Nat) (g : Nat × Nat × Nat) (I : Nat → Nat → Int32) (J : Nat → Nat → Int64) (sl : Nat) (rd rl : Nat) (a1 : Int32) (w2 : Value) : aE d 173 16 [.ref 6, .int a1, w2] [.int 0] (g, I, J, aP1 sl rd rl) = (aBi (aF d 72 [.ref 23, .int a1] (g, I, J, aP1 sl rd rl)) (fun x0 t0 => aE d 173 64 [.ref 6, .int a1, w2] [.int x0] t0)) := (aBk [4, 16, 64, 73, 82, 95, 104, 117, 120] 200 _ _ _ _ _ _).trans rfl
set_option maxRecDepth 100000 in
theorem b173_16_c1 (d : Nat) (g : Nat × Nat × Nat) (I : Nat → Nat → Int32) (J : Nat → Nat → Int64) (sl : Nat) (rd rl : Nat) (a1 : Int32) (w2 : Value) : aE d 173 16 [.ref 6, .int a1, w2] [.int 1] (g, I, J, aP1 sl rd rl) = (aBi (aF d 73 [.ref 23, .int a1] (g, I, J, aP1 sl rd rl)) (fun x0 t0 => aE d 173 73 [.ref 6, .int a1, w2] [.int x0] t0)) := (aBk [4, 16, 64, 73, 82, 95, 104, 117, 120] 200 _ _ _ _ _ _).trans rfl
set_option maxRecDepth 100000 in
theorem b173_16_c2 (d : Nat) (g : Nat × Nat × Nat) (I : Nat → Nat → Int32) (J : Nat → Nat → Int64) (sl : Nat) (rd rl : Nat) (a1 : Int32) (w2 : Value) : aE d 173 16 [.ref 6, .int a1, w2] [.int 2] (g, I, J, aP1 sl rd rl) = (aBi (aF d 174 [.ref 23, .int a1] (g, I, J, aP1 sl rd rl)) (fun x0 t0 => aE d 173 82 [.ref 6, .int a1, w2] [.int x0] t0)) := (aBk [4, 16, 64, 73, 82, 95, 104, 117, 120] 200 _ _ _ _ _ _).trans rfl
set_option maxRecDepth 100000 in
theorem b173_16_c3 (d : Nat) (g : Nat × Nat × Nat) (I : Nat → Nat → Int32) (J : Nat → Nat → Int64) (sl : Nat) (rd rl : Nat) (a1 : Int32) (w2 : Value) : aE d 173 16 [.ref 6, .int a1, w2] [.int 3] (g, I, J, aP1 sl rd rl) = (aBi (aF d 117 [.ref 23, .ref 14, .int a1] (g, I, J, aP1 sl rd rl)) (fun x0 t0 => aE d 173 95 [.ref 6, .int a1, w2] [.int x0] t0)) := (aBk [4, 16, 64, 73, 82, 95, 104, 117, 120] 200 _ _ _ _ _ _).trans rfl
set_option maxRecDepth 100000 in
theorem b173_16_c4 (d : Nat) (g : Nat × Nat × Nat) (I : Nat → Nat → Int32) (J : Nat → Nat → Int64) (sl : Nat) (rd rl : Nat) (a1 : Int32) (w2 : Value) : aE d 173 16 [.ref 6, .int a1, w2] [.int 4] (g, I, J, aP1 sl rd rl) = (aBi (aF d 175 [.ref 14, .int a1] (g, I, J, aP1 sl rd rl)) (fun x0 t0 => aE d 173 104 [.ref 6, .int a1, w2] [.int x0] t0)) := (aBk [4, 16, 64, 73, 82, 95, 104, 117, 120] 200 _ _ _ _ _ _).trans rfl
set_option maxRecDepth 100000 in
theorem b173_16_c5 (d : Nat) (g : Nat × Nat × Nat) (I : Nat → Nat → Int32) (J : Nat → Nat → Int64) (sl : Nat) (rd rl : Nat) (a1 : Int32) (w2 : Value) : aE d 173 16 [.ref 6, .int a1, w2] [.int 5] (g, I, J, aP1 sl rd rl) = (aBi (aF d 175 [.ref 14, .int a1] (g, I, J, aP1 sl rd rl)) (fun x0 t0 => aE d 173 117 [.ref 6, .int a1, w2] [.int x0, .ref 14] t0)) := (aBk [4, 16, 64, 73, 82, 95, 104, 117, 120] 200 _ _ _ _ _ _).trans rfl
-- 212: BluesAndGreensModel.club(II)I
set_option maxRecDepth 100000 in
theorem b212_78 (d : Nat) (g : Nat × Nat × Nat) (I : Nat → Nat → Int32) (J : Nat → Nat → Int64) (sl : Nat) (rd rl : Nat) (y0 : Int32) (w0 w1 w2 : Value) : aE d 212 78 [w0, w1, w2] [.int y0, .ref 46] (g, I, J, aP1 sl rd rl) = (aBi (aF d 216 [.ref 46, .int y0] (g, I, J, aP1 sl rd rl)) (fun x0 t0 => aE d 212 81 [w0, w1, w2] [.int x0] t0)) := (aBk [9, 18, 25, 56, 69, 78, 81] 200 _ _ _ _ _ _).trans rfl
set_option maxRecDepth 100000 in
theorem b212_69 (d : Nat) (g : Nat × Nat × Nat) (I : Nat → Nat → Int32) (J : Nat → Nat → Int64) (sl : Nat) (rd rl : Nat) (y0 : Int32) (w0 w1 w2 : Value) : aE d 212 69 [w0, w1, w2] [.int y0] (g, I, J, aP1 sl rd rl) = aE d 212 81 [w0, w1, w2] [.int y0] (g, I, J, aP1 sl rd rl) := (aBk [9, 18, 25, 56, 69, 78, 81] 200 _ _ _ _ _ _).trans rfl
set_option maxRecDepth 100000 in
theorem b212_56 (d : Nat) (g : Nat × Nat × Nat) (I : Nat → Nat → Int32) (J : Nat → Nat → Int64) (sl : Nat) (rd rl : Nat) (y0 : Int32) (w0 w1 w2 : Value) : aE d 212 56 [w0, w1, w2] [.int y0] (g, I, J, aP1 sl rd rl) = aE d 212 81 [w0, w1, w2] [.int y0] (g, I, J, aP1 sl rd rl) := (aBk [9, 18, 25, 56, 69, 78, 81] 200 _ _ _ _ _ _).trans rfl
-- 215: BluesAndGreensModel.quartersOf(I)I
set_option maxRecDepth 100000 in
theorem b215_0 (d : Nat) (g : Nat × Nat × Nat) (I : Nat → Nat → Int32) (J : Nat → Nat → Int64) (sl : Nat) (rd rl : Nat) (a1 : Int32) : aE d 215 0 [.ref 46, .int a1, aNo, aNo] [] (g, I, J, aP1 sl rd rl) = aE d 215 4 [.ref 46, .int a1, .int 0, .int 0] [] (g, I, J, aP1 sl rd rl) := (aBk [4] 200 _ _ _ _ _ _).trans rfl
-- 219: BluesAndGreensModel.sheet(IIII)I
set_option maxRecDepth 100000 in
theorem b219_43 (d : Nat) (g : Nat × Nat × Nat) (I : Nat → Nat → Int32) (J : Nat → Nat → Int64) (sl : Nat) (rd rl : Nat) (a1 a2 a4 a5 a6 a7 : Int32) (w3 w8 : Value) : aE d 219 43 [.ref 46, .int a1, .int a2, w3, .int a4, .int a5, .int a6, .int a7, w8] [] (g, I, J, aP1 sl rd rl) = (if (I 46 1) ≤ a7 then (if a1 = 3 then aE d 219 147 [.ref 46, .int a1, .int a2, w3, .int a4, .int a5, .int a6, .int a7, w8] [.int (-3)] (g, I, J, aP1 sl rd rl) else aE d 219 147 [.ref 46, .int a1, .int a2, w3, .int a4, .int a5, .int a6, .int a7, w8] [.int a5] (g, I, J, aP1 sl rd rl)) else (if a1 = 0 then aE d 219 75 [.ref 46, .int a1, .int a2, w3, .int a4, .int a5, .int a6, .int a7, w8] [.int (Int8.toInt32 (Int32.toInt8 a6))] (g, I, J, aP1 sl rd rl) else (if a1 = 1 then aE d 219 75 [.ref 46, .int a1, .int a2, w3, .int a4, .int a5, .int a6, .int a7, w8] [.int (Int16.toInt32 (Int32.toInt16 a6))] (g, I, J, aP1 sl rd rl) else aE d 219 75 [.ref 46, .int a1, .int a2, w3, .int a4, .int a5, .int a6, .int a7, w8] [.int a6] (g, I, J, aP1 sl rd rl)))) := (aBk [11, 20, 34, 43, 75, 94, 109, 147] 200 _ _ _ _ _ _).trans rfl
-- 62: BluesAndGreens.race(I)I
set_option maxRecDepth 100000 in
theorem b62_72 (d : Nat) (g : Nat × Nat × Nat) (I : Nat → Nat → Int32) (J : Nat → Nat → Int64) (sl : Nat) (rd rl : Nat) (a2 : Int32) (w1 : Value) : aE d 62 72 [.ref 6, w1, .int a2] [] (g, I, J, aP1 sl rd rl) = (aBv (aF d 82 [.ref 12, .long (Int32.toInt64 (I 41 0)), .long (Int32.toInt64 (I 41 1))] (g, I, J, aP1 sl rd rl)) (fun t0 => aE d 62 95 [.ref 6, w1, .int a2] [] t0)) := (aBk [36, 56, 72, 95] 200 _ _ _ _ _ _).trans rfl
-- 80: BluesAndGreens$Past.push(LBluesAndGreens$State;)V
set_option maxRecDepth 100000 in
theorem b80_0 (d : Nat) (g : Nat × Nat × Nat) (I : Nat → Nat → Int32) (J : Nat → Nat → Int64) (sl : Nat) (rd rl : Nat) : aE d 80 0 [.ref 29, .ref 25] [] (g, I, J, aP1 sl rd rl) = (aBv (aF d 81 [.ref 25, .ref 30, .int (I 29 2)] (g, I, J, aP1 sl rd rl)) (fun t0 => aE d 80 12 [.ref 29, .ref 25] [] t0)) := (aBk [12] 200 _ _ _ _ _ _).trans rfl
-- 64: BluesAndGreens$Runs.run(LBluesAndGreens$City;LBluesAndGreens$State;LBluesAndGreens$Rule;I)I
set_option maxRecDepth 100000 in
theorem b64_32 (d : Nat) (g : Nat × Nat × Nat) (I : Nat → Nat → Int32) (J : Nat → Nat → Int64) (sl : Nat) (rd rl : Nat) (a4 a5 a6 a7 a8 : Int32) (w9 : Value) : aE d 64 32 [.ref 41, .ref 14, .ref 23, .ref 33, .int a4, .int a5, .int a6, .int a7, .int a8, w9] [] (g, I, J, aP1 sl rd rl) = (if a4 ≤ a8 then some (some (some (.int a5)), (g, I, J, aP1 sl rd rl)) else (aBi (aF d 65 [.ref 23, .ref 14, .ref 33] (g, I, J, aP1 sl rd rl)) (fun x0 t0 => aE d 64 46 [.ref 41, .ref 14, .ref 23, .ref 33, .int a4, .int a5, .int a6, .int a7, .int a8, w9] [.int x0, .ref 41] t0))) := (aBk [32, 46, 57, 148] 200 _ _ _ _ _ _).trans rfl
-- 220: BluesAndGreensModel.race(I)I
set_option maxRecDepth 100000 in
theorem b220_48 (d : Nat) (g : Nat × Nat × Nat) (I : Nat → Nat → Int32) (J : Nat → Nat → Int64) (sl : Nat) (rd rl : Nat) (w1 : Value) : aE d 220 48 [.ref 46, w1] [] (g, I, J, aP1 sl rd rl) = (aBv (aF d 229 [.ref 46, .long (Int32.toInt64 (I 46 30))] (g, (aU I 46 12 0), J, aP1 sl rd rl)) (fun t0 => aE d 220 62 [.ref 46, w1] [] t0)) := (aBk [22, 39, 48, 62, 71] 200 _ _ _ _ _ _).trans rfl
-- 223: BluesAndGreensModel.goRaces([II)V
set_option maxRecDepth 100000 in
theorem b223_0 (d : Nat) (g : Nat × Nat × Nat) (I : Nat → Nat → Int32) (J : Nat → Nat → Int64) (sl : Nat) (rd rl : Nat) (a2 : Int32) : aE d 223 0 [.ref 46, .ref 47, .int a2, aNo] [] (g, I, J, aP1 sl rd rl) = aE d 223 17 [.ref 46, .ref 47, .int a2, .int 0] [] (g, (aU (aU (aU I 46 29 0) 46 30 (-1)) 46 31 0), J, aP1 sl rd rl) := (aBk [17, 28, 67] 200 _ _ _ _ _ _).trans rfl
-- 221: BluesAndGreensModel.remember([I)V
set_option maxRecDepth 100000 in
theorem b221_11 (d : Nat) (g : Nat × Nat × Nat) (I : Nat → Nat → Int32) (J : Nat → Nat → Int64) (sl : Nat) (rd rl : Nat) (a2 : Int32) : aE d 221 11 [.ref 46, .ref 47, .int a2] [] (g, I, J, aP1 sl rd rl) = (if 429 ≤ a2 then (aBv (aF d 222 [.ref 47, .ref 58, .int (39 * ((I 46 26) - 1))] (g, (aU I 46 26 ((I 46 26) - 1)), J, aP1 sl rd rl)) (fun t0 => aE d 221 64 [.ref 46, .ref 47, .int a2] [] t0)) else (if (a2 + 39) < 0 ∨ 468 ≤ (a2 + 39).toNatClampNeg then none else (if a2 < 0 ∨ 468 ≤ a2.toNatClampNeg then none else aE d 221 11 [.ref 46, .ref 47, .int (a2 + 1)] [] (g, (aU I 58 a2.toNatClampNeg (I 58 (a2 + 39).toNatClampNeg)), J, aP1 sl rd rl)))) := (aBk [11, 64] 200 _ _ _ _ _ _).trans rfl
set_option maxRecDepth 100000 in
theorem b221_64 (d : Nat) (g : Nat × Nat × Nat) (I : Nat → Nat → Int32) (J : Nat → Nat → Int64) (sl : Nat) (rd rl : Nat) (w1 w2 : Value) : aE d 221 64 [.ref 46, w1, w2] [] (g, I, J, aP1 sl rd rl) = some (some none, (g, (aU I 46 26 ((I 46 26) + 1)), J, aP1 sl rd rl)) := (aBk [11, 64] 200 _ _ _ _ _ _).trans rfl
-- 222: BluesAndGreensModel.lay([I[II)V
set_option maxRecDepth 100000 in
theorem b222_0_3 (d : Nat) (g : Nat × Nat × Nat) (I : Nat → Nat → Int32) (J : Nat → Nat → Int64) (sl : Nat) (rd rl : Nat) (a2 : Int32) : aE d 222 0 [.ref 47, .ref 58, .int a2, aNo] [] (g, I, J, aP1 sl rd rl) = aE d 222 2 [.ref 47, .ref 58, .int a2, .int 0] [] (g, I, J, aP1 sl rd rl) := (aBk [2] 200 _ _ _ _ _ _).trans rfl
-- 86: BluesAndGreens.buy(II)I
set_option maxRecDepth 100000 in
theorem b86_28 (d : Nat) (g : Nat × Nat × Nat) (I : Nat → Nat → Int32) (J : Nat → Nat → Int64) (sl : Nat) (rd rl : Nat) (y0 : Int32) (w0 w1 w2 : Value) : aE d 86 28 [w0, w1, w2] [.int y0] (g, I, J, aP1 sl rd rl) = some (some (some (.int y0)), (g, I, J, aP1 sl rd rl)) := (aBk [11, 25, 28] 200 _ _ _ _ _ _).trans rfl
-- 89: BluesAndGreens.remembered(I)I
set_option maxRecDepth 100000 in
theorem b89_0 (d : Nat) (g : Nat × Nat × Nat) (I : Nat → Nat → Int32) (J : Nat → Nat → Int64) (sl : Nat) (rd rl : Nat) (a1 : Int32) : aE d 89 0 [.ref 6, .int a1] [] (g, I, J, aP1 sl rd rl) = (if a1 < 0 then aE d 89 15 [.ref 6, .int a1] [] (g, I, J, aP1 sl rd rl) else (aBv (aF d 80 [.ref 29, .ref 25] (g, I, J, aP1 sl rd rl)) (fun t0 => aE d 89 15 [.ref 6, .int a1] [] t0))) := (aBk [15] 200 _ _ _ _ _ _).trans rfl
-- 87: BluesAndGreens$State.purchase(LBluesAndGreens$City;II)I
set_option maxRecDepth 100000 in
theorem b87_4 (d : Nat) (g : Nat × Nat × Nat) (I : Nat → Nat → Int32) (J : Nat → Nat → Int64) (sl : Nat) (rd rl : Nat) (a2 a3 y0 : Int32) (w4 : Value) : aE d 87 4 [.ref 23, .ref 14, .int a2, .int a3, w4] [.int y0] (g, I, J, aP1 sl rd rl) = (if y0 = 0 then some (some (some (.int (-1))), (g, I, J, aP1 sl rd rl)) else (aBi (aF d 88 [.ref 14, .int a3] (g, I, J, aP1 sl rd rl)) (fun x0 t0 => aE d 87 12 [.ref 23, .ref 14, .int a2, .int a3, w4] [.int x0] t0))) := (aBk [4, 12, 22, 42, 58, 67, 82] 200 _ _ _ _ _ _).trans rfl
-- 230: BluesAndGreensModel.buy(II)I
set_option maxRecDepth 100000 in
theorem b230_40 (d : Nat) (g : Nat × Nat × Nat) (I : Nat → Nat → Int32) (J : Nat → Nat → Int64) (sl : Nat) (rd rl : Nat) (a1 : Int32) (w2 w3 : Value) : aE d 230 40 [.ref 46, .int a1, w2, w3] [] (g, I, J, aP1 sl rd rl) = (if a1 < 0 ∨ 39 ≤ a1.toNatClampNeg then none else some (some (some (.int (I 47 a1.toNatClampNeg))), (g, I, J, aP1 sl rd rl))) := (aBk [15, 30, 40] 200 _ _ _ _ _ _).trans rfl
-- 232: BluesAndGreensModel.goBuy([III)V
set_option maxRecDepth 100000 in
theorem b232_0 (d : Nat) (g : Nat × Nat × Nat) (I : Nat → Nat → Int32) (J : Nat → Nat → Int64) (sl : Nat) (rd rl : Nat) (a2 a3 : Int32) : aE d 232 0 [.ref 46, .ref 47, .int a2, .int a3] [] (g, I, J, aP1 sl rd rl) = (if a2 < 0 ∨ 39 ≤ a2.toNatClampNeg then none else (if a3 < 0 ∨ 8 ≤ a3.toNatClampNeg then none else (if a2 < 0 ∨ 39 ≤ a2.toNatClampNeg then none else (if a3 < 0 ∨ 8 ≤ a3.toNatClampNeg then none else (aBv (aF d 226 [.ref 47, .int (1 - a2), .int (I 49 a3.toNatClampNeg)] (g, (aU I 47 a2.toNatClampNeg ((I 47 a2.toNatClampNeg) - (I 49 a3.toNatClampNeg))), J, aP1 sl rd rl)) (fun t0 => aE d 232 25 [.ref 46, .ref 47, .int a2, .int a3] [] t0)))))) := (aBk [25] 200 _ _ _ _ _ _).trans rfl
-- 231: BluesAndGreensModel.refusesBuy([III)I
set_option maxRecDepth 100000 in
theorem b231_12 (d : Nat) (g : Nat × Nat × Nat) (I : Nat → Nat → Int32) (J : Nat → Nat → Int64) (sl : Nat) (rd rl : Nat) (a2 a3 y0 : Int32) : aE d 231 12 [.ref 46, .ref 47, .int a2, .int a3] [.int y0] (g, I, J, aP1 sl rd rl) = (if y0 = 0 then some (some (some (.int (-1))), (g, I, J, aP1 sl rd rl)) else (if (6 + a3) < 0 ∨ 39 ≤ (6 + a3).toNatClampNeg then none else (if (I 47 (6 + a3).toNatClampNeg) = a2 then some (some (some (.int (-2))), (g, I, J, aP1 sl rd rl)) else (if a2 < 0 ∨ 39 ≤ a2.toNatClampNeg then none else (if a3 < 0 ∨ 8 ≤ a3.toNatClampNeg then none else (if (I 49 a3.toNatClampNeg) ≤ (I 47 a2.toNatClampNeg) then some (some (some (.int 0)), (g, I, J, aP1 sl rd rl)) else some (some (some (.int (-3))), (g, I, J, aP1 sl rd rl)))))))) := (aBk [4, 12] 200 _ _ _ _ _ _).trans rfl
-- 90: BluesAndGreens.curse(II)I
set_option maxRecDepth 100000 in
theorem b90_28 (d : Nat) (g : Nat × Nat × Nat) (I : Nat → Nat → Int32) (J : Nat → Nat → Int64) (sl : Nat) (rd rl : Nat) (y0 : Int32) (w0 w1 w2 : Value) : aE d 90 28 [w0, w1, w2] [.int y0] (g, I, J, aP1 sl rd rl) = some (some (some (.int y0)), (g, I, J, aP1 sl rd rl)) := (aBk [11, 25, 28] 200 _ _ _ _ _ _).trans rfl
-- 91: BluesAndGreens$State.hex(LBluesAndGreens$City;II)I
set_option maxRecDepth 100000 in
theorem b91_4 (d : Nat) (g : Nat × Nat × Nat) (I : Nat → Nat → Int32) (J : Nat → Nat → Int64) (sl : Nat) (rd rl : Nat) (a2 a3 y0 : Int32) : aE d 91 4 [.ref 23, .ref 14, .int a2, .int a3] [.int y0] (g, I, J, aP1 sl rd rl) = (if y0 = 0 then some (some (some (.int (-1))), (g, I, J, aP1 sl rd rl)) else (aBi (aF d 88 [.ref 14, .int a3] (g, I, J, aP1 sl rd rl)) (fun x0 t0 => aE d 91 12 [.ref 23, .ref 14, .int a2, .int a3] [.int x0] t0))) := (aBk [4, 12, 22, 34, 45, 59, 77] 200 _ _ _ _ _ _).trans rfl
-- 233: BluesAndGreensModel.curse(II)I
set_option maxRecDepth 100000 in
theorem b233_35 (d : Nat) (g : Nat × Nat × Nat) (I : Nat → Nat → Int32) (J : Nat → Nat → Int64) (sl : Nat) (rd rl : Nat) (a1 : Int32) (w2 w3 : Value) : aE d 233 35 [.ref 46, .int a1, w2, w3] [] (g, I, J, aP1 sl rd rl) = (if a1 < 0 ∨ 39 ≤ a1.toNatClampNeg then none else some (some (some (.int (I 47 a1.toNatClampNeg))), (g, I, J, aP1 sl rd rl))) := (aBk [11, 26, 35] 200 _ _ _ _ _ _).trans rfl
-- 235: BluesAndGreensModel.goCurse([III)V
set_option maxRecDepth 100000 in
theorem b235_0 (d : Nat) (g : Nat × Nat × Nat) (I : Nat → Nat → Int32) (J : Nat → Nat → Int64) (sl : Nat) (rd rl : Nat) (a1 a2 : Int32) : aE d 235 0 [.ref 47, .int a1, .int a2] [] (g, I, J, aP1 sl rd rl) = (if a1 < 0 ∨ 39 ≤ a1.toNatClampNeg then none else (if a1 < 0 ∨ 39 ≤ a1.toNatClampNeg then none else (if (14 + a2) < 0 ∨ 39 ≤ (14 + a2).toNatClampNeg then none else some (some none, (g, (aU (aU I 47 a1.toNatClampNeg ((I 47 a1.toNatClampNeg) - 5)) 47 (14 + a2).toNatClampNeg 1), J, aP1 sl rd rl))))) := (aBk [] 200 _ _ _ _ _ _).trans rfl
-- 234: BluesAndGreensModel.refusesCurse(II)I
set_option maxRecDepth 100000 in
theorem b234_12 (d : Nat) (g : Nat × Nat × Nat) (I : Nat → Nat → Int32) (J : Nat → Nat → Int64) (sl : Nat) (rd rl : Nat) (a1 a2 y0 : Int32) : aE d 234 12 [.ref 46, .int a1, .int a2] [.int y0] (g, I, J, aP1 sl rd rl) = (if y0 = 0 then some (some (some (.int (-1))), (g, I, J, aP1 sl rd rl)) else (if (6 + a2) < 0 ∨ 39 ≤ (6 + a2).toNatClampNeg then none else (if (I 47 (6 + a2).toNatClampNeg) = a1 then some (some (some (.int (-2))), (g, I, J, aP1 sl rd rl)) else (if (14 + a2) < 0 ∨ 39 ≤ (14 + a2).toNatClampNeg then none else (if (I 47 (14 + a2).toNatClampNeg) = 1 then some (some (some (.int (-3))), (g, I, J, aP1 sl rd rl)) else (if a1 < 0 ∨ 39 ≤ a1.toNatClampNeg then none else (if 5 ≤ (I 47 a1.toNatClampNeg) then some (some (some (.int 0)), (g, I, J, aP1 sl rd rl)) else some (some (some (.int (-4))), (g, I, J, aP1 sl rd rl))))))))) := (aBk [4, 12] 200 _ _ _ _ _ _).trans rfl
-- 94: BluesAndGreens.dig(I)I
set_option maxRecDepth 100000 in
theorem b94_27 (d : Nat) (g : Nat × Nat × Nat) (I : Nat → Nat → Int32) (J : Nat → Nat → Int64) (sl : Nat) (rd rl : Nat) (y0 : Int32) (w0 w1 : Value) : aE d 94 27 [w0, w1] [.int y0] (g, I, J, aP1 sl rd rl) = some (some (some (.int y0)), (g, I, J, aP1 sl rd rl)) := (aBk [11, 24, 27] 200 _ _ _ _ _ _).trans rfl
-- 95: BluesAndGreens$State.cleanse(LBluesAndGreens$City;I)I
set_option maxRecDepth 100000 in
theorem b95_5 (d : Nat) (g : Nat × Nat × Nat) (I : Nat → Nat → Int32) (J : Nat → Nat → Int64) (sl : Nat) (rd rl : Nat) (a2 y0 : Int32) (w1 w3 : Value) : aE d 95 5 [.ref 23, w1, .int a2, w3] [.int y0] (g, I, J, aP1 sl rd rl) = (if y0 = 0 then some (some (some (.int (-1))), (g, I, J, aP1 sl rd rl)) else (aBi (aF d 92 [.ref 23, .int a2] (g, I, J, aP1 sl rd rl)) (fun x0 t0 => aE d 95 15 [.ref 23, w1, .int a2, w3] [.int x0] t0))) := (aBk [5, 15, 26, 31, 39, 53, 73] 200 _ _ _ _ _ _).trans rfl
-- 236: BluesAndGreensModel.dig(I)I
set_option maxRecDepth 100000 in
theorem b236_30 (d : Nat) (g : Nat × Nat × Nat) (I : Nat → Nat → Int32) (J : Nat → Nat → Int64) (sl : Nat) (rd rl : Nat) (a1 : Int32) (w2 : Value) : aE d 236 30 [.ref 46, .int a1, w2] [] (g, I, J, aP1 sl rd rl) = (if (6 + a1) < 0 ∨ 39 ≤ (6 + a1).toNatClampNeg then none else (if (I 47 (6 + a1).toNatClampNeg) < 0 ∨ 39 ≤ (I 47 (6 + a1).toNatClampNeg).toNatClampNeg then none else some (some (some (.int (I 47 (I 47 (6 + a1).toNatClampNeg).toNatClampNeg))), (g, I, J, aP1 sl rd rl)))) := (aBk [10, 25, 30] 200 _ _ _ _ _ _).trans rfl
-- 238: BluesAndGreensModel.goDig(I)V
set_option maxRecDepth 100000 in
theorem b238_0 (d : Nat) (g : Nat × Nat × Nat) (I : Nat → Nat → Int32) (J : Nat → Nat → Int64) (sl : Nat) (rd rl : Nat) (a1 : Int32) : aE d 238 0 [.ref 46, .int a1] [] (g, I, J, aP1 sl rd rl) = (if (6 + a1) < 0 ∨ 39 ≤ (6 + a1).toNatClampNeg then none else (if (I 47 (6 + a1).toNatClampNeg) < 0 ∨ 39 ≤ (I 47 (6 + a1).toNatClampNeg).toNatClampNeg then none else (if (I 47 (6 + a1).toNatClampNeg) < 0 ∨ 39 ≤ (I 47 (6 + a1).toNatClampNeg).toNatClampNeg then none else (if (14 + a1) < 0 ∨ 39 ≤ (14 + a1).toNatClampNeg then none else some (some none, (g, (aU (aU I 47 (I 47 (6 + a1).toNatClampNeg).toNatClampNeg ((I 47 (I 47 (6 + a1).toNatClampNeg).toNatClampNeg) - 3)) 47 (14 + a1).toNatClampNeg 0), J, aP1 sl rd rl)))))) := (aBk [] 200 _ _ _ _ _ _).trans rfl
-- 96: BluesAndGreens.grain(II)I
set_option maxRecDepth 100000 in
theorem b96_24 (d : Nat) (g : Nat × Nat × Nat) (I : Nat → Nat → Int32) (J : Nat → Nat → Int64) (sl : Nat) (rd rl : Nat) (y0 : Int32) (w0 w1 w2 : Value) : aE d 96 24 [w0, w1, w2] [.int y0] (g, I, J, aP1 sl rd rl) = some (some (some (.int y0)), (g, I, J, aP1 sl rd rl)) := (aBk [11, 21, 24] 200 _ _ _ _ _ _).trans rfl
-- 97: BluesAndGreens$State.feed(II)I
set_option maxRecDepth 100000 in
theorem b97_4 (d : Nat) (g : Nat × Nat × Nat) (I : Nat → Nat → Int32) (J : Nat → Nat → Int64) (sl : Nat) (rd rl : Nat) (a1 a2 y0 : Int32) : aE d 97 4 [.ref 23, .int a1, .int a2] [.int y0] (g, I, J, aP1 sl rd rl) = (if y0 = 0 then some (some (some (.int (-1))), (g, I, J, aP1 sl rd rl)) else (if a2 < 1 then some (some (some (.int (-1))), (g, I, J, aP1 sl rd rl)) else (if a2 ≤ 99 then (aBv (aF d 77 [.ref 23, .int a1, .int (-a2)] (g, I, J, aP1 sl rd rl)) (fun t0 => aE d 97 27 [.ref 23, .int a1, .int a2] [] t0)) else some (some (some (.int (-1))), (g, I, J, aP1 sl rd rl))))) := (aBk [4, 27, 32] 200 _ _ _ _ _ _).trans rfl
-- 239: BluesAndGreensModel.grain(II)I
set_option maxRecDepth 100000 in
theorem b239_32 (d : Nat) (g : Nat × Nat × Nat) (I : Nat → Nat → Int32) (J : Nat → Nat → Int64) (sl : Nat) (rd rl : Nat) (a1 a2 : Int32) : aE d 239 32 [.ref 46, .int a1, .int a2] [] (g, I, J, aP1 sl rd rl) = (aBv (aF d 227 [.ref 47, .int a1, .int (-a2)] (g, I, J, aP1 sl rd rl)) (fun t0 => aE d 239 42 [.ref 46, .int a1, .int a2] [] t0)) := (aBk [9, 19, 32, 42] 200 _ _ _ _ _ _).trans rfl
-- 98: BluesAndGreens.show(II)I
set_option maxRecDepth 100000 in
theorem b98_28 (d : Nat) (g : Nat × Nat × Nat) (I : Nat → Nat → Int32) (J : Nat → Nat → Int64) (sl : Nat) (rd rl : Nat) (y0 : Int32) (w0 w1 w2 : Value) : aE d 98 28 [w0, w1, w2] [.int y0] (g, I, J, aP1 sl rd rl) = some (some (some (.int y0)), (g, I, J, aP1 sl rd rl)) := (aBk [11, 25, 28] 200 _ _ _ _ _ _).trans rfl
-- 99: BluesAndGreens$State.takeSide(LBluesAndGreens$City;II)I
set_option maxRecDepth 100000 in
theorem b99_5 (d : Nat) (g : Nat × Nat × Nat) (I : Nat → Nat → Int32) (J : Nat → Nat → Int64) (sl : Nat) (rd rl : Nat) (a2 a3 y0 : Int32) : aE d 99 5 [.ref 23, .ref 14, .int a2, .int a3] [.int y0] (g, I, J, aP1 sl rd rl) = (if y0 = 0 then some (some (some (.int (-1))), (g, I, J, aP1 sl rd rl)) else (if a3 < 0 then some (some (some (.int (-1))), (g, I, J, aP1 sl rd rl)) else (if a3 ≤ 1 then (aBi (aF d 101 [.ref 23, .int a2] (g, I, J, aP1 sl rd rl)) (fun x0 t0 => aE d 99 24 [.ref 23, .ref 14, .int a2, .int a3] [.int x0] t0)) else some (some (some (.int (-1))), (g, I, J, aP1 sl rd rl))))) := (aBk [5, 24, 46, 63, 78] 200 _ _ _ _ _ _).trans rfl
-- 240: BluesAndGreensModel.show(II)I
set_option maxRecDepth 100000 in
theorem b240_36 (d : Nat) (g : Nat × Nat × Nat) (I : Nat → Nat → Int32) (J : Nat → Nat → Int64) (sl : Nat) (rd rl : Nat) (w1 w2 w3 : Value) : aE d 240 36 [.ref 46, w1, w2, w3] [] (g, I, J, aP1 sl rd rl) = (aBi (aF d 228 [.ref 46, .ref 47] (g, I, J, aP1 sl rd rl)) (fun x0 t0 => aE d 240 44 [.ref 46, w1, w2, w3] [.int x0] t0)) := (aBk [11, 26, 36, 44] 200 _ _ _ _ _ _).trans rfl
-- 242: BluesAndGreensModel.goShow([III)V
set_option maxRecDepth 100000 in
theorem b242_0 (d : Nat) (g : Nat × Nat × Nat) (I : Nat → Nat → Int32) (J : Nat → Nat → Int64) (sl : Nat) (rd rl : Nat) (a2 a3 : Int32) : aE d 242 0 [.ref 46, .ref 47, .int a2, .int a3] [] (g, I, J, aP1 sl rd rl) = (if (30 + a2) < 0 ∨ 39 ≤ (30 + a2).toNatClampNeg then none else (if ((4 * a2) + a3) < 0 ∨ 32 ≤ ((4 * a2) + a3).toNatClampNeg then none else (aBv (aF d 227 [.ref 47, .int 0, .int (I 51 ((4 * a2) + a3).toNatClampNeg)] (g, (aU I 47 (30 + a2).toNatClampNeg a3), J, aP1 sl rd rl)) (fun t0 => aE d 242 22 [.ref 46, .ref 47, .int a2, .int a3] [] t0)))) := (aBk [22, 39] 200 _ _ _ _ _ _).trans rfl
-- 241: BluesAndGreensModel.refusesShow(II)I
set_option maxRecDepth 100000 in
theorem b241_20 (d : Nat) (g : Nat × Nat × Nat) (I : Nat → Nat → Int32) (J : Nat → Nat → Int64) (sl : Nat) (rd rl : Nat) (a1 y0 : Int32) (w2 : Value) : aE d 241 20 [.ref 46, .int a1, w2] [.int y0] (g, I, J, aP1 sl rd rl) = (if y0 = 0 then some (some (some (.int (-1))), (g, I, J, aP1 sl rd rl)) else (if (30 + a1) < 0 ∨ 39 ≤ (30 + a1).toNatClampNeg then none else (if (I 47 (30 + a1).toNatClampNeg) = (-1) then some (some (some (.int 0)), (g, I, J, aP1 sl rd rl)) else some (some (some (.int (-2))), (g, I, J, aP1 sl rd rl))))) := (aBk [11, 20] 200 _ _ _ _ _ _).trans rfl
-- 102: BluesAndGreens.season()I
set_option maxRecDepth 100000 in
theorem b102_38 (d : Nat) (g : Nat × Nat × Nat) (I : Nat → Nat → Int32) (J : Nat → Nat → Int64) (sl : Nat) (rd rl : Nat) (a1 : Int32) (w2 : Value) : aE d 102 38 [.ref 6, .int a1, w2] [] (g, I, J, aP1 sl rd rl) = aE d 102 40 [.ref 6, .int a1, .int 0] [] (g, I, J, aP1 sl rd rl) := (aBk [11, 20, 38, 40, 50, 77, 102, 113] 200 _ _ _ _ _ _).trans rfl
-- 103: BluesAndGreens$Reader.actsInto([I)I
set_option maxRecDepth 100000 in
theorem b103_10 (d : Nat) (g : Nat × Nat × Nat) (I : Nat → Nat → Int32) (J : Nat → Nat → Int64) (sl : Nat) (rd rl : Nat) (a2 a3 : Int32) (w4 : Value) : aE d 103 10 [.ref 9, .ref 45, .int a2, .int a3, w4] [] (g, I, J, aP1 sl rd rl) = (if 90 ≤ (a3 + 2) then (aBi (aF d 41 [.ref 9, .int a2] (g, I, J, aP1 sl rd rl)) (fun x0 t0 => aE d 103 255 [.ref 9, .ref 45, .int a2, .int a3, w4] [.int x0] t0)) else (aBi (aF d 30 [.ref 9] (g, I, J, aP1 sl rd rl)) (fun x1 t1 => aE d 103 22 [.ref 9, .ref 45, .int a2, .int a3, w4] [.int x1] t1))) := (aBk [6, 10, 22, 30, 45, 136, 148, 159, 171, 187, 198, 210, 226, 241, 255] 200 _ _ _ _ _ _).trans rfl
-- 243: BluesAndGreensModel.season()I
set_option maxRecDepth 100000 in
theorem b243_17 (d : Nat) (g : Nat × Nat × Nat) (I : Nat → Nat → Int32) (J : Nat → Nat → Int64) (sl : Nat) (rd rl : Nat) (a1 y0 : Int32) (w2 : Value) : aE d 243 17 [.ref 46, .int a1, w2] [.int y0] (g, I, J, aP1 sl rd rl) = (if y0 = 0 then (aBi (aF d 193 [.ref 46] (g, I, J, aP1 sl rd rl)) (fun x0 t0 => aE d 243 48 [.ref 46, .int a1, w2] [.int x0] t0)) else (if (I 46 15) ≤ (I 46 17) then (aBi (aF d 193 [.ref 46] (g, I, J, aP1 sl rd rl)) (fun x1 t1 => aE d 243 48 [.ref 46, .int a1, w2] [.int x1] t1)) else (aBv (aF d 244 [.ref 46, .int (3 * a1)] (g, I, J, aP1 sl rd rl)) (fun t2 => aE d 243 38 [.ref 46, .int a1, w2] [] t2)))) := (aBk [11, 13, 17, 38, 48, 70, 72, 109, 130, 149, 158, 169] 200 _ _ _ _ _ _).trans rfl
-- 108: BluesAndGreens.order()I
set_option maxRecDepth 100000 in
theorem b108_89 (d : Nat) (g : Nat × Nat × Nat) (I : Nat → Nat → Int32) (J : Nat → Nat → Int64) (sl : Nat) (rd rl : Nat) (y0 : Int32) (w0 w1 w2 w3 : Value) : aE d 108 89 [w0, w1, w2, w3] [.int y0] (g, I, J, aP1 sl rd rl) = some (some (some (.int y0)), (g, I, J, aP1 sl rd rl)) := (aBk [20, 24, 51, 61, 89] 200 _ _ _ _ _ _).trans rfl
set_option maxRecDepth 100000 in
theorem b108_51 (d : Nat) (g : Nat × Nat × Nat) (I : Nat → Nat → Int32) (J : Nat → Nat → Int64) (sl : Nat) (rd rl : Nat) (a1 a2 y0 : Int32) (w3 : Value) : aE d 108 51 [.ref 6, .int a1, .int a2, w3] [.int y0] (g, I, J, aP1 sl rd rl) = (aBv (aF d 85 [.ref 12, .long (Int32.toInt64 y0)] (g, I, J, aP1 sl rd rl)) (fun t0 => aE d 108 61 [.ref 6, .int a1, .int a2, .int y0] [] t0)) := (aBk [20, 24, 51, 61, 89] 200 _ _ _ _ _ _).trans rfl
-- 66: BluesAndGreens$Rule.fastest(LBluesAndGreens$City;LBluesAndGreens$State;I)I
set_option maxRecDepth 100000 in
theorem b66_0 (d : Nat) (g : Nat × Nat × Nat) (I : Nat → Nat → Int32) (J : Nat → Nat → Int64) (sl : Nat) (rd rl : Nat) (a3 : Int32) : aE d 66 0 [.ref 33, .ref 14, .ref 23, .int a3, aNo, aNo, aNo, aNo] [] (g, I, J, aP1 sl rd rl) = aE d 66 9 [.ref 33, .ref 14, .ref 23, .int a3, .int (-1), .int 0, .int 0, aNo] [] (g, I, J, aP1 sl rd rl) := (aBk [9, 39] 200 _ _ _ _ _ _).trans rfl
-- 247: BluesAndGreensModel.order()I
set_option maxRecDepth 100000 in
theorem b247_97 (d : Nat) (g : Nat × Nat × Nat) (I : Nat → Nat → Int32) (J : Nat → Nat → Int64) (sl : Nat) (rd rl : Nat) (a1 a2 a3 : Int32) (w4 : Value) : aE d 247 97 [.ref 46, .int a1, .int a2, .int a3, w4] [] (g, I, J, aP1 sl rd rl) = aE d 247 24 [.ref 46, .int (a1 ||| (1 <<< (a3 &&& 31))), .int (a2 + 1), .int a3, w4] [] (g, I, J, aP1 sl rd rl) := (aBk [24, 37, 52, 70, 79, 97] 200 _ _ _ _ _ _).trans rfl
set_option maxRecDepth 100000 in
theorem b247_52 (d : Nat) (g : Nat × Nat × Nat) (I : Nat → Nat → Int32) (J : Nat → Nat → Int64) (sl : Nat) (rd rl : Nat) (a1 a2 a3 a4 y0 : Int32) : aE d 247 52 [.ref 46, .int a1, .int a2, .int a3, .int a4] [.int y0] (g, I, J, aP1 sl rd rl) = (if y0 = 0 then (if a3 = (-1) then aE d 247 37 [.ref 46, .int a1, .int a2, .int a4, .int (a4 + 1)] [] (g, I, J, aP1 sl rd rl) else (aBi (aF d 209 [.ref 46, .ref 47, .int a4] (g, I, J, aP1 sl rd rl)) (fun x0 t0 => aE d 247 70 [.ref 46, .int a1, .int a2, .int a3, .int a4] [.int x0] t0))) else aE d 247 37 [.ref 46, .int a1, .int a2, .int a3, .int (a4 + 1)] [] (g, I, J, aP1 sl rd rl)) := (aBk [24, 37, 52, 70, 79, 97] 200 _ _ _ _ _ _).trans rfl
-- 217: BluesAndGreensModel.has(II)Z
set_option maxRecDepth 100000 in
theorem b217_0 (d : Nat) (g : Nat × Nat × Nat) (I : Nat → Nat → Int32) (J : Nat → Nat → Int64) (sl : Nat) (rd rl : Nat) (a0 a1 : Int32) : aE d 217 0 [.int a0, .int a1] [] (g, I, J, aP1 sl rd rl) = (if ((a0 >>> (a1 &&& 31)) &&& 1) = 1 then some (some (some (.int 1)), (g, I, J, aP1 sl rd rl)) else some (some (some (.int 0)), (g, I, J, aP1 sl rd rl))) := (aBk [] 200 _ _ _ _ _ _).trans rfl
-- 109: BluesAndGreens.ahead(I)I
set_option maxRecDepth 100000 in
theorem b109_88 (d : Nat) (g : Nat × Nat × Nat) (I : Nat → Nat → Int32) (J : Nat → Nat → Int64) (sl : Nat) (rd rl : Nat) (a1 a2 : Int32) (w0 : Value) : aE d 109 88 [w0, .int a1, .int a2] [] (g, I, J, aP1 sl rd rl) = some (some (some (.int a2)), (g, I, J, aP1 sl rd rl)) := (aBk [36, 56, 88] 200 _ _ _ _ _ _).trans rfl
-- 110: BluesAndGreens$Row.tellThree(JJJ)V
set_option maxRecDepth 100000 in
theorem b110_0 (d : Nat) (g : Nat × Nat × Nat) (I : Nat → Nat → Int32) (J : Nat → Nat → Int64) (sl : Nat) (rd rl : Nat) (b1 b3 b5 : Int64) : aE d 110 0 [.ref 12, .long b1, aNo, .long b3, aNo, .long b5, aNo] [] (g, I, J, aP1 sl rd rl) = (aBv (aF d 82 [.ref 12, .long b1, .long b3] (g, I, J, aP1 sl rd rl)) (fun t0 => aE d 110 6 [.ref 12, .long b1, aNo, .long b3, aNo, .long b5, aNo] [] t0)) := (aBk [6, 12] 200 _ _ _ _ _ _).trans rfl
-- 64: BluesAndGreens$Runs.run(LBluesAndGreens$City;LBluesAndGreens$State;LBluesAndGreens$Rule;I)I
set_option maxRecDepth 100000 in
theorem b64_32_2 (d : Nat) (g : Nat × Nat × Nat) (I : Nat → Nat → Int32) (J : Nat → Nat → Int64) (sl : Nat) (rd rl : Nat) (a4 a5 a6 a7 a8 : Int32) (w9 : Value) : aE d 64 32 [.ref 41, .ref 14, .ref 27, .ref 33, .int a4, .int a5, .int a6, .int a7, .int a8, w9] [] (g, I, J, aP1 sl rd rl) = (if a4 ≤ a8 then some (some (some (.int a5)), (g, I, J, aP1 sl rd rl)) else (aBi (aF d 65 [.ref 27, .ref 14, .ref 33] (g, I, J, aP1 sl rd rl)) (fun x0 t0 => aE d 64 46 [.ref 41, .ref 14, .ref 27, .ref 33, .int a4, .int a5, .int a6, .int a7, .int a8, w9] [.int x0, .ref 41] t0))) := (aBk [32, 46, 57, 148] 200 _ _ _ _ _ _).trans rfl
-- 248: BluesAndGreensModel.ahead(I)I
set_option maxRecDepth 100000 in
theorem b248_58 (d : Nat) (g : Nat × Nat × Nat) (I : Nat → Nat → Int32) (J : Nat → Nat → Int64) (sl : Nat) (rd rl : Nat) (a1 a2 a3 a4 a5 a6 a7 a8 : Int32) (w9 : Value) : aE d 248 58 [.ref 46, .int a1, .int a2, .int a3, .int a4, .int a5, .int a6, .int a7, .int a8, w9] [] (g, I, J, aP1 sl rd rl) = (if a1 ≤ a8 then (aBv (aF d 229 [.ref 46, .long (Int32.toInt64 a6)] (g, (aU I 46 12 0), J, aP1 sl rd rl)) (fun t0 => aE d 248 201 [.ref 46, .int a1, .int a2, .int a3, .int a4, .int a5, .int a6, .int a7, .int a8, w9] [] t0)) else (aBi (aF d 225 [.ref 46, .ref 60] (g, I, J, aP1 sl rd rl)) (fun x1 t1 => aE d 248 78 [.ref 46, .int a1, .int a2, .int a3, .int a4, .int a5, .int a6, .int a7, .int a8, w9] [.int x1, .int 6, .ref 60] t1))) := (aBk [22, 39, 58, 78, 90, 134, 201, 208, 214] 200 _ _ _ _ _ _).trans rfl
-- 111: BluesAndGreens.joins()I
set_option maxRecDepth 100000 in
theorem b111_30 (d : Nat) (g : Nat × Nat × Nat) (I : Nat → Nat → Int32) (J : Nat → Nat → Int64) (sl : Nat) (rd rl : Nat) (a1 y0 : Int32) : aE d 111 30 [.ref 6, .int a1] [.int y0] (g, I, J, aP1 sl rd rl) = (if y0 = 0 then (aBi (aF d 65 [.ref 27, .ref 14, .ref 33] (g, I, J, aP1 sl rd rl)) (fun x0 t0 => aE d 111 75 [.ref 6, .int a1] [.int x0] t0)) else (aBi (aF d 73 [.ref 27, .int 0] (g, I, J, aP1 sl rd rl)) (fun x1 t1 => aE d 111 45 [.ref 6, .int a1] [.int x1, .ref 12] t1))) := (aBk [11, 13, 30, 45, 54, 58, 75] 200 _ _ _ _ _ _).trans rfl
-- 78: BluesAndGreens$State.areJoined(LBluesAndGreens$City;)Z
set_option maxRecDepth 100000 in
theorem b78_0_2 (d : Nat) (g : Nat × Nat × Nat) (I : Nat → Nat → Int32) (J : Nat → Nat → Int64) (sl : Nat) (rd rl : Nat) : aE d 78 0 [.ref 27, .ref 14] [] (g, I, J, aP1 sl rd rl) = (aBi (aF d 79 [.ref 27] (g, I, J, aP1 sl rd rl)) (fun x0 t0 => aE d 78 4 [.ref 27, .ref 14] [.int x0] t0)) := (aBk [4] 200 _ _ _ _ _ _).trans rfl
-- 249: BluesAndGreensModel.joins()I
set_option maxRecDepth 100000 in
theorem b249_33 (d : Nat) (g : Nat × Nat × Nat) (I : Nat → Nat → Int32) (J : Nat → Nat → Int64) (sl : Nat) (rd rl : Nat) (a1 y0 : Int32) : aE d 249 33 [.ref 46, .int a1] [.int y0] (g, I, J, aP1 sl rd rl) = (if y0 = 0 then (if (I 46 1) = 0 then some (some (some (.int (-2))), (g, I, J, aP1 sl rd rl)) else (aBi (aF d 224 [.ref 46, .ref 60] (g, I, J, aP1 sl rd rl)) (fun x0 t0 => aE d 249 83 [.ref 46, .int a1] [.int x0] t0))) else (aBv (aF d 229 [.ref 46, .long (Int32.toInt64 (I 60 2))] (g, (aU I 46 12 0), J, aP1 sl rd rl)) (fun t1 => aE d 249 52 [.ref 46, .int a1] [] t1))) := (aBk [17, 19, 33, 52, 63, 83] 200 _ _ _ _ _ _).trans rfl
-- 228: BluesAndGreensModel.doJoin([I)Z
set_option maxRecDepth 100000 in
theorem b228_0_2 (d : Nat) (g : Nat × Nat × Nat) (I : Nat → Nat → Int32) (J : Nat → Nat → Int64) (sl : Nat) (rd rl : Nat) : aE d 228 0 [.ref 46, .ref 60] [] (g, I, J, aP1 sl rd rl) = (if (I 60 2) < (I 46 8) then some (some (some (.int 0)), (g, I, J, aP1 sl rd rl)) else (if (I 60 3) < (I 46 8) then some (some (some (.int 0)), (g, I, J, aP1 sl rd rl)) else some (some (some (.int 1)), (g, I, J, aP1 sl rd rl)))) := (aBk [] 200 _ _ _ _ _ _).trans rfl
-- 112: BluesAndGreens.bribe(I)I
set_option maxRecDepth 100000 in
theorem b112_37 (d : Nat) (g : Nat × Nat × Nat) (I : Nat → Nat → Int32) (J : Nat → Nat → Int64) (sl : Nat) (rd rl : Nat) (a1 a2 a3 : Int32) (w4 : Value) : aE d 112 37 [.ref 6, .int a1, .int a2, .int a3, w4] [] (g, I, J, aP1 sl rd rl) = (if (I 14 0) ≤ a3 then (if a2 = (-1) then some (some (some (.int (-2))), (g, I, J, aP1 sl rd rl)) else (aBv (aF d 83 [.ref 12, .long (Int32.toInt64 a2)] (g, I, J, aP1 sl rd rl)) (fun t0 => aE d 112 150 [.ref 6, .int a1, .int a2, .int a3, w4] [] t0))) else (aBv (aF d 63 [.ref 27, .ref 23] (g, I, J, aP1 sl rd rl)) (fun t1 => aE d 112 59 [.ref 6, .int a1, .int a2, .int a3, w4] [] t1))) := (aBk [4, 18, 31, 37, 59, 110, 122, 150] 200 _ _ _ _ _ _).trans rfl
set_option maxRecDepth 100000 in
theorem b112_31 (d : Nat) (g : Nat × Nat × Nat) (I : Nat → Nat → Int32) (J : Nat → Nat → Int64) (sl : Nat) (rd rl : Nat) (w0 w1 w2 w3 w4 : Value) : aE d 112 31 [w0, w1, w2, w3, w4] [] (g, I, J, aP1 sl rd rl) = some (some (some (.int 0)), (g, I, J, aP1 sl rd rl)) := (aBk [4, 18, 31, 37, 59, 110, 122, 150] 200 _ _ _ _ _ _).trans rfl
-- 83: BluesAndGreens$Row.tellOne(J)V
set_option maxRecDepth 100000 in
theorem b83_0 (d : Nat) (g : Nat × Nat × Nat) (I : Nat → Nat → Int32) (J : Nat → Nat → Int64) (sl : Nat) (rd rl : Nat) (b1 : Int64) : aE d 83 0 [.ref 12, .long b1, aNo] [] (g, I, J, aP1 sl rd rl) = (aBv (aF d 84 [.ref 12] (g, I, J, aP1 sl rd rl)) (fun t0 => aE d 83 4 [.ref 12, .long b1, aNo] [] t0)) := (aBk [4, 9] 200 _ _ _ _ _ _).trans rfl
-- 113: BluesAndGreens.wins(LBluesAndGreens$State;I)Z
set_option maxRecDepth 100000 in
theorem b113_13 (d : Nat) (g : Nat × Nat × Nat) (I : Nat → Nat → Int32) (J : Nat → Nat → Int64) (sl : Nat) (rd rl : Nat) (a2 y0 : Int32) (w0 w3 : Value) : aE d 113 13 [w0, .ref 23, .int a2, w3] [.int y0] (g, I, J, aP1 sl rd rl) = (if y0 = (-1) then some (some (some (.int 0)), (g, I, J, aP1 sl rd rl)) else (aBi (aF d 68 [.ref 23, .int y0] (g, I, J, aP1 sl rd rl)) (fun x0 t0 => aE d 113 24 [w0, .ref 23, .int a2, .int y0] [.int x0] t0))) := (aBk [13, 24] 200 _ _ _ _ _ _).trans rfl
-- 250: BluesAndGreensModel.bribe(I)I
set_option maxRecDepth 100000 in
theorem b250_40 (d : Nat) (g : Nat × Nat × Nat) (I : Nat → Nat → Int32) (J : Nat → Nat → Int64) (sl : Nat) (rd rl : Nat) (a1 a2 a3 : Int32) : aE d 250 40 [.ref 46, .int a1, .int a2, .int a3] [] (g, I, J, aP1 sl rd rl) = (if (I 46 1) ≤ a3 then (if a2 = (-1) then some (some (some (.int (-2))), (g, I, J, aP1 sl rd rl)) else (aBv (aF d 229 [.ref 46, .long (Int32.toInt64 a2)] (g, (aU I 46 12 0), J, aP1 sl rd rl)) (fun t0 => aE d 250 145 [.ref 46, .int a1, .int a2, .int a3] [] t0))) else (aBi (aF d 231 [.ref 46, .ref 47, .int a1, .int a3] (g, I, J, aP1 sl rd rl)) (fun x1 t1 => aE d 250 58 [.ref 46, .int a1, .int a2, .int a3] [.int x1] t1))) := (aBk [9, 35, 40, 58, 96, 106, 115, 145] 200 _ _ _ _ _ _).trans rfl
set_option maxRecDepth 100000 in
theorem b250_145 (d : Nat) (g : Nat × Nat × Nat) (I : Nat → Nat → Int32) (J : Nat → Nat → Int64) (sl : Nat) (rd rl : Nat) (a2 : Int32) (w1 w3 : Value) : aE d 250 145 [.ref 46, w1, .int a2, w3] [] (g, I, J, aP1 sl rd rl) = (if a2 = (-1) then some (some (some (.int 0)), (g, I, J, aP1 sl rd rl)) else (if a2 < 0 ∨ 8 ≤ a2.toNatClampNeg then none else some (some (some (.int (I 49 a2.toNatClampNeg))), (g, I, J, aP1 sl rd rl)))) := (aBk [9, 35, 40, 58, 96, 106, 115, 145] 200 _ _ _ _ _ _).trans rfl
-- 251: BluesAndGreensModel.doesWin([II)Z
set_option maxRecDepth 100000 in
theorem b251_8 (d : Nat) (g : Nat × Nat × Nat) (I : Nat → Nat → Int32) (J : Nat → Nat → Int64) (sl : Nat) (rd rl : Nat) (a2 y0 y1 : Int32) (w0 w1 : Value) : aE d 251 8 [w0, w1, .int a2] [.int y0, .int y1, .ref 47] (g, I, J, aP1 sl rd rl) = (if (y1 + y0) < 0 ∨ 39 ≤ (y1 + y0).toNatClampNeg then none else (if (I 47 (y1 + y0).toNatClampNeg) = a2 then some (some (some (.int 1)), (g, I, J, aP1 sl rd rl)) else some (some (some (.int 0)), (g, I, J, aP1 sl rd rl)))) := (aBk [8] 200 _ _ _ _ _ _).trans rfl
-- 225: BluesAndGreensModel.winner([I)I
set_option maxRecDepth 100000 in
theorem b225_0 (d : Nat) (g : Nat × Nat × Nat) (I : Nat → Nat → Int32) (J : Nat → Nat → Int64) (sl : Nat) (rd rl : Nat) : aE d 225 0 [.ref 46, .ref 47, aNo, aNo] [] (g, I, J, aP1 sl rd rl) = aE d 225 4 [.ref 46, .ref 47, .int 0, .int 1] [] (g, I, J, aP1 sl rd rl) := (aBk [4, 18, 24] 200 _ _ _ _ _ _).trans rfl
-- 114: BluesAndGreens.lead(I)I
set_option maxRecDepth 100000 in
theorem b114_89 (d : Nat) (g : Nat × Nat × Nat) (I : Nat → Nat → Int32) (J : Nat → Nat → Int64) (sl : Nat) (rd rl : Nat) (a3 : Int32) (w0 w1 w2 w4 w5 : Value) : aE d 114 89 [w0, w1, w2, .int a3, w4, w5] [] (g, I, J, aP1 sl rd rl) = some (some (some (.int a3)), (g, I, J, aP1 sl rd rl)) := (aBk [4, 17, 30, 45, 57, 89] 200 _ _ _ _ _ _).trans rfl
