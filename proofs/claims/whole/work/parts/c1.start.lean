/-! THE START: what the constructors leave -/
def eS0 : eM := ([], [], 1)
def rchk (R : List (Nat × Nat × Nat)) (k s : Nat) : Bool := match zst (xsh k).1 s with
  | (1, _, _, o) => decide ((wrR R k s : Int) = k + o)
  | (3, _, _, o) => decide ((wrR R k s : Int) = o)
  | (2, c, n, _) => bif Nat.beq k 0 && Nat.beq s 3 then Nat.beq (wrR R k s) 5 && zkB c n 5 else bif Nat.beq k 0 && Nat.beq s 4 then Nat.beq (wrR R k s) 17 && zkB c n 17 else true
  | _ => true
def ach (R : List (Nat × Nat × Nat)) (k : Nat) : Bool := (bif Nat.beq (xsh k).1 13 then (List.range 3).all (fun i => Nat.beq (wrR R k i) (k + 1 + 12 * i)) else true) && (bif Nat.beq (xsh k).1 14 then (List.range 85).all (fun i => Nat.beq (wrR R k i) (k + 1 + i)) else true)
def rall (R : List (Nat × Nat × Nat)) : Bool := (List.range 320).all fun k => (List.range 50).all (fun s => rchk R k s) && ach R k
def LI0 : List (Nat × Nat × Int32) := [(297, 38, -1), (297, 7, -1), (0, 7, 1), (2, 1, -1)]
def estart : Option eM := match ecall 100 94 [.ref 0] eS0 with
  | some m => bif frs m && Nat.beq m.2.2 297 then ecall 100 159 [.ref 297] (eadd m) else none
  | none => none
def echk : Bool := match estart with
  | some m => decide (m.1 = LI0) && rall m.2.1
  | none => false
set_option maxHeartbeats 4000000 in
theorem echk_t : echk = true := by decide +kernel
