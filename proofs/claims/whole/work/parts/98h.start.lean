/-! the law's beginning: both objects made -/
def I0c : Nat → Nat → Int32 := fun a j => if a = 3 then aStd.getD j 0 else if a = 4 then aThg.getD j 0 else 0
def s0c : aS := ((6, 0, 0), I0c, fun _ _ => 0, fun _ _ => 0)
def ckF : List (Nat × Nat × Int32) := [(7, 1, 0), (46, 10, 0), (12, 1, 0), (46, 12, 0), (14, 0, 0), (46, 1, 0), (14, 4, 0), (46, 4, 0), (14, 9, 0), (46, 6, 0), (14, 11, 20), (46, 8, 20), (29, 1, 0), (46, 26, 0), (29, 2, 0), (46, 37, 0), (32, 0, 0), (32, 1, 0), (65, 0, 0), (65, 1, 0), (66, 0, 0), (66, 1, 0), (33, 1, 13), (46, 22, 0), (42, 2, 0), (46, 35, 0)]
def f24c : Nat → Int32 := fun j => if j < 2 then 100 else if 24 ≤ j then -1 else 0
def f47c : Nat → Int32 := fun j => if j < 2 then 100 else if 30 ≤ j ∧ j < 38 then -1 else 0
def ckA (σ : aS) : Bool := decide (σ.1 = (67, 61, 2383)) && ckF.all (fun q => decide (σ.2.1 q.1 q.2.1 = q.2.2)) && (List.range 32).all (fun j => decide (σ.2.1 24 j = f24c j)) && (List.range 39).all (fun j => decide (σ.2.1 47 j = f47c j)) && (List.range 13).all (fun j => decide (σ.2.1 34 j = cdS.getD j 0)) && (List.range 68).all (fun a => (List.range (aLn a)).all (fun j => Nat.beq (σ.2.2.2 a j) (aP1 0 0 56 a j)))
def r13c : Option aO := aX 1500 100 13 0 (aLoc (aMt 13).2.2.1 [.ref 6]) [] (aNew s0c 1 16)
def r177c : Option aO := match r13c with
  | some (some none, σ) => if σ.1.1 = 46 then aX 1500 100 177 0 (aLoc (aMt 177).2.2.1 [.ref 46]) [] (aNew σ 1 41) else none
  | _ => none
def rck : Bool := match r177c with
  | some (some none, σ) => ckA σ
  | _ => false
set_option maxRecDepth 100000 in
theorem rck_ok : rck = true := by decide +kernel
