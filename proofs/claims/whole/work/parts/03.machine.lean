/-! THE PURE MACHINE: ints and refs of numbered cells; a wp over the decoded instructions. -/
abbrev xM : Type := (Nat → Nat → Int32) × (Nat → Nat → Nat) × Nat
abbrev xE : Type := (Instr × Nat) × Option (List Nat) × (Nat × Nat × Nat × Nat) × Int32 × List (Int32 × Nat)
def xNUL : Nat := 100000
def xnn (k : Nat) : Prop := k ≠ xNUL
/-- a cell's int, ref is written; a new cell -/
def xsi (h : xM) (q j : Nat) (v : Int32) : xM := (fun k i => if k = q ∧ i = j then v else h.1 k i, h.2)
def xsr (h : xM) (q j v : Nat) : xM := (h.1, fun k i => if k = q ∧ i = j then v else h.2.1 k i, h.2.2)
def xnew (h : xM) : xM := (fun k i => if k = h.2.2 then 0 else h.1 k i, fun k i => if k = h.2.2 then xNUL else h.2.1 k i, h.2.2 + 1)
/-- n ints of q from i on come to p from j on -/
def xcp (h : xM) (q i p j n : Nat) : xM := (fun k x => if k = p ∧ j ≤ x ∧ x < j + n then h.1 q (i + (x - j)) else h.1 k x, h.2)
def xisI (d : String) : Bool := decide (d = "I") || decide (d = "Z")
def xcl (c : Nat) : vw_C := vwCl.getD c (RX0, TX0, 0)
def xsl (k : Nat) : Nat := if (xsh k).1 < 10 then (xcl (xsh k).1).2.2 else (xsh k).2
def xS : Nat → Nat
  | 0 => 0
  | k + 1 => xS k + xsl k
/-- the cell q is of the kind c -/
def xok (q c : Nat) : Prop := (xsh q).1 = c
abbrev xe0 (i : Instr) (n : Nat) : xE := ((i, n), none, (0, 0, 0, 0), 0, [])
abbrev xe1 (i : Instr) (n a : Nat) : xE := ((i, n), none, (a, 0, 0, 0), 0, [])
abbrev xe4 (i : Instr) (n a b c d : Nat) : xE := ((i, n), none, (a, b, c, d), 0, [])
abbrev xev (i : Instr) (n : Nat) (v : Int32) : xE := ((i, n), none, (0, 0, 0, 0), v, [])
abbrev xec (i : Instr) (n : Nat) (v : Int32) (d : Nat) : xE := ((i, n), none, (0, 0, 0, d), v, [])
abbrev xes (i : Instr) (n a : Nat) (s : List (Int32 × Nat)) : xE := ((i, n), none, (a, 0, 0, 0), 0, s)
def xgd (n : Nat) (f : Nat → Option xE) : Nat → Option xE := fun p => bif Nat.blt p n then f p else none
abbrev xcut (cl : List Nat) (e : xE) : xE := (e.1, some cl, e.2.2)
def xclr : List Nat → List Value → List Value
  | [], ls => ls
  | i :: r, ls => xclr r (ls.set i .null)
def xr0 (r : Option Value) (A : Prop) : Prop := match r with | none => A | _ => False
def xrI (r : Option Value) (f : Int32 → Prop) : Prop := match r with | some (.int a) => f a | _ => False
def xrR (r : Option Value) (f : Nat → Prop) : Prop := match r with | some (.ref a) => f a | _ => False
def xrL (r : Option Value) (f : Int64 → Prop) : Prop := match r with | some (.long a) => f a | _ => False
def xi1 (st : List Value) (f : Int32 → List Value → Prop) : Prop := match st with | .int a :: r => f a r | _ => False
def xi2 (st : List Value) (f : Int32 → Int32 → List Value → Prop) : Prop := match st with | .int b :: .int a :: r => f a b r | _ => False
def xl2 (st : List Value) (f : Int64 → Int64 → List Value → Prop) : Prop := match st with | .long b :: .long a :: r => f a b r | _ => False
def xli (st : List Value) (f : Int64 → Int32 → List Value → Prop) : Prop := match st with | .int b :: .long a :: r => f a b r | _ => False
def xl1 (st : List Value) (f : Int64 → List Value → Prop) : Prop := match st with | .long a :: r => f a r | _ => False
def xr1 (st : List Value) (f : Nat → List Value → Prop) : Prop := match st with | .ref a :: r => f a r | _ => False
def xri (st : List Value) (f : Nat → Int32 → List Value → Prop) : Prop := match st with | .int i :: .ref a :: r => f a i r | _ => False
def xrii (st : List Value) (f : Nat → Int32 → Int32 → List Value → Prop) : Prop := match st with | .int v :: .int i :: .ref a :: r => f a i v r | _ => False
def xrir (st : List Value) (f : Nat → Int32 → Nat → List Value → Prop) : Prop := match st with | .ref v :: .int i :: .ref a :: r => f a i v r | _ => False
def xrr (st : List Value) (f : Nat → Nat → List Value → Prop) : Prop := match st with | .ref v :: .ref a :: r => f a v r | _ => False
def x1c (st : List Value) (f : Value → List Value → Prop) : Prop := match st with | .int a :: r => f (.int a) r | .ref a :: r => f (.ref a) r | _ => False
def x2c (st : List Value) (f : Value → Value → List Value → Prop) : Prop := x1c st fun a r => x1c r fun b t => f a b t
def xil (ls : List Value) (i : Nat) (f : Int32 → Prop) : Prop := match ls[i]? with | some (.int a) => f a | _ => False
def xll (ls : List Value) (i : Nat) (f : Int64 → Prop) : Prop := match ls[i]? with | some (.long a) => f a | _ => False
def xrl (ls : List Value) (i : Nat) (f : Nat → Prop) : Prop := match ls[i]? with | some (.ref a) => f a | _ => False
def xkl : List Value → Nat → List Value
  | [], _ => []
  | x :: t, 0 => x :: t
  | x :: t, 1 => (bif Nat.beq x.category 2 then .null else x) :: t
  | x :: t, i + 2 => x :: xkl t (i + 1)
def xs1 (ls : List Value) (i : Nat) (v : Value) : List Value := (xkl ls i).set i v
def xs2 (ls : List Value) (i : Nat) (v : Value) : List Value := ((xkl ls i).set i v).set (i + 1) .null
def xsw (x : Int32) (ps : List (Int32 × Nat)) (d : Nat) (k : Nat → Prop) : Prop := match ps with
  | [] => k d
  | q :: r => (x = q.1 → k q.2) ∧ (¬ x = q.1 → xsw x r d k)
def xbr (c : Prop) (A B : Prop) : Prop := (c → A) ∧ (¬ c → B)
def xcond (c : ClassFile.Cond) (x y : Int32) : Prop := match c with
  | .eq => x = y
  | .ne => ¬ x = y
  | .lt => x < y
  | .ge => y ≤ x
  | .gt => y < x
  | .le => x ≤ y
/-- a room for what stays on the stack over a call -/
def xroom (st : List Value) (A : Prop) : Prop := match Nat.ble st.length 4 with | true => A | false => False
def xcpy (st : List Value) (h : xM) (k : List Value → xM → Prop) : Prop := match st with
  | .int n :: .int dp :: .ref d :: .int sp :: .ref q :: r => xok q 10 ∧ xok d 10 ∧ ¬ sp < 0 ∧ ¬ dp < 0 ∧ ¬ n < 0 ∧ sp.toNatClampNeg + n.toNatClampNeg ≤ (xsh q).2 ∧ dp.toNatClampNeg + n.toNatClampNeg ≤ (xsh d).2 ∧ k r (xcp h q sp.toNatClampNeg d dp.toNatClampNeg n.toNatClampNeg)
  | _ => False
def xnat (c : Nat) (st : List Value) (h : xM) (k : List Value → xM → Prop) : Prop := match c with
  | 2 => xi2 st fun a b r => k (.int (if a < b then b else a) :: r) h
  | 3 => xi2 st fun a b r => k (.int (if b < a then b else a) :: r) h
  | 4 => xi1 st fun a r => k (.int (if 0 ≤ a then a else 0 - a) :: r) h
  | 5 => xcpy st h k
  | 6 => xr1 st fun _ r => k r h
  | 7 => xr1 st fun q r => 1000 ≤ q ∧ q < 1000 + xtxt.length ∧ k (.int (nI (xtxt.getD (q - 1000) []).length) :: r) h
  | 8 => xri st fun q i r => 1000 ≤ q ∧ q < 1000 + xtxt.length ∧ vp_in i (xtxt.getD (q - 1000) []).length ∧ k (.int ((xtxt.getD (q - 1000) []).getD i.toNatClampNeg 0) :: r) h
  | _ => False
def xsw2 (e : xE) (i : Nat) : Nat := (e.2.2.2.2.getD i (0, 0)).2
def xen (e : xE) (st : List Value) (A : Prop) : Prop := match Nat.ble e.2.2.1.2.1 st.length with
  | true => A
  | false => False
def xrcv (e : xE) (st : List Value) (A : Prop) : Prop := match st.drop (e.2.2.1.2.1 - 1) with
  | .ref _ :: _ => A
  | _ => False
def xcall (e : xE) (lim : Nat) (st : List Value) (h : xM) (call : Nat → List Value → xM → (Option Value → xM → Prop) → Prop) (k : List Value → xM → Prop) : Prop := match e.2.2.1.2.2.1 with
  | 0 => xen e st (xroom (st.drop e.2.2.1.2.1) (call e.2.2.1.1 (st.take e.2.2.1.2.1).reverse h fun r h' => xr0 r (k (st.drop e.2.2.1.2.1) h')))
  | 9 => xrcv e st (xroom (st.drop e.2.2.1.2.1) (call e.2.2.1.1 (st.take e.2.2.1.2.1).reverse h fun r h' => xr0 r (k (st.drop e.2.2.1.2.1) h')))
  | 10 => xen e st (xroom (st.drop e.2.2.1.2.1) (call e.2.2.1.1 (st.take e.2.2.1.2.1).reverse h fun r h' => xrI r fun a => k (.int a :: st.drop e.2.2.1.2.1) h'))
  | 11 => xen e st (xroom (st.drop e.2.2.1.2.1) (call e.2.2.1.1 (st.take e.2.2.1.2.1).reverse h fun r h' => xrR r fun a => k (.ref a :: st.drop e.2.2.1.2.1) h'))
  | 12 => xen e st (xroom (st.drop e.2.2.1.2.1) (call e.2.2.1.1 (st.take e.2.2.1.2.1).reverse h fun r h' => xrL r fun a => k (.long a :: st.drop e.2.2.1.2.1) h'))
  | 13 => xrcv e st (xroom (st.drop e.2.2.1.2.1) (h.2.2 + xsw2 e 0 ≤ lim ∧ xS (h.2.2 + xsw2 e 0) = xS h.2.2 + xsw2 e 1 ∧ call e.2.2.1.1 (st.take e.2.2.1.2.1).reverse h fun r h' => xr0 r (k (st.drop e.2.2.1.2.1) h')))
  | c => xroom (st.drop e.2.2.1.2.1) (xnat c st h k)
/-- the one that is called is of the class -/
def xvirt (e : xE) (st : List Value) (A : Prop) : Prop := match e.2.2.2.2 with
  | [] => A
  | q :: _ => match st.drop (e.2.2.1.2.1 - 1) with
    | .ref k :: _ => xok k q.2 ∧ A
    | _ => False
def xget (e : xE) (q : Nat) (r : List Value) (h : xM) (k : List Value → Prop) : Prop := match e.2.2.1.2.2.1 with
  | 1 => xnn (h.2.1 q e.2.2.1.2.1) ∧ k (.ref (h.2.1 q e.2.2.1.2.1) :: r)
  | _ => k (.int (h.1 q e.2.2.1.2.1) :: r)
def xiv (st : List Value) (f : Nat → Int32 → List Value → Prop) : Prop := match st with | .int v :: .ref a :: r => f a v r | _ => False
def xldc (e : xE) (st : List Value) (k : List Value → Prop) : Prop := match e.2.2.1.2.2.1 with
  | 1 => k (.ref (1000 + e.2.2.1.1) :: st)
  | _ => k (.int e.2.2.2.1 :: st)
def xput (e : xE) (st : List Value) (h : xM) (k : List Value → xM → Prop) : Prop := match e.2.2.1.2.2.1 with
  | 0 => xiv st fun q v r => xok q e.2.2.1.1 ∧ k r (xsi h q e.2.2.1.2.1 v)
  | 2 => xiv st fun q v r => xok q e.2.2.1.1 ∧ (v = 0 ∨ v = 1) ∧ k r (xsi h q e.2.2.1.2.1 v)
  | 1 => xrr st fun q v r => xok q e.2.2.1.1 ∧ xnn v ∧ k r (xsr h q e.2.2.1.2.1 v)
  | 11 => xrr st fun q v r => xok q e.2.2.1.1 ∧ xnn v ∧ k r (xsr h q e.2.2.1.2.1 v)
  | _ => False
def xald (c : Nat) (st : List Value) (h : xM) (k : List Value → Prop) : Prop := xri st fun q i r => xok q c ∧ vp_in i (xsh q).2 ∧ k (.int (h.1 q i.toNatClampNeg) :: r)
def xast (c : Nat) (f : Int32 → Int32) (st : List Value) (h : xM) (k : List Value → xM → Prop) : Prop := xrii st fun q i v r => xok q c ∧ vp_in i (xsh q).2 ∧ k r (xsi h q i.toNatClampNeg (f v))
def xnar (c : Nat) (v : Int32) : Int32 := match c with
  | 11 => v.toInt8.toInt32
  | 12 => v &&& 1
  | _ => v
/-- the script is the law's own: its ints and its length are asked for as by a call -/
def xial (e : xE) (st : List Value) (h : xM) (call : Nat → List Value → xM → (Option Value → xM → Prop) → Prop) (k : List Value → Prop) : Prop := match e.2.2.1.1 with
  | 1 => xri st fun q i t => q = 1500 ∧ call 999 [.int i] h fun r _ => xrI r fun x => k (.int x :: t)
  | _ => xald 10 st h k
def xlen (e : xE) (st : List Value) (h : xM) (call : Nat → List Value → xM → (Option Value → xM → Prop) → Prop) (k : List Value → Prop) : Prop := match e.2.2.1.1 with
  | 1 => xr1 st fun q t => q = 1500 ∧ call 998 [] h fun r _ => xrI r fun x => k (.int x :: t)
  | c => xr1 st fun q t => xok q c ∧ k (.int (Int32.ofNat (xsh q).2) :: t)
def xnil (t : List Value) (A : Prop) : Prop := match t with | [] => A | _ => False
def xirt (c : Nat) (x : Int32) (A : Prop) : Prop := match c with
  | 12 => x &&& 1 = x ∧ A
  | _ => A
def xstep (e : xE) (pc : Nat) (ls st : List Value) (h : xM) (call : Nat → List Value → xM → (Option Value → xM → Prop) → Prop) (ret : Option Value → xM → Prop) (lim : Nat) (k : Nat → List Value → List Value → xM → Prop) : Prop :=
  match e.1.1 with
  | .aaload => xri st fun q i r => xok q e.2.2.1.1 ∧ vp_in i (xsh q).2 ∧ xnn (h.2.1 q i.toNatClampNeg) ∧ k (pc + 1) ls (.ref (h.2.1 q i.toNatClampNeg) :: r) h
  | .aastore => xrir st fun q i v r => xok q e.2.2.1.1 ∧ vp_in i (xsh q).2 ∧ xok v e.2.2.1.2.1 ∧ k (pc + 1) ls r (xsr h q i.toNatClampNeg v)
  | .aload n => xrl ls n fun a => k (pc + 2) ls (.ref a :: st) h
  | .aload_n n => xrl ls n.val fun a => k (pc + 1) ls (.ref a :: st) h
  | .anewarray _ => xi1 st fun n r => h.2.2 < lim ∧ ¬ n < 0 ∧ xsh h.2.2 = (e.2.2.1.1, n.toNatClampNeg) ∧ k (pc + 3) ls (.ref h.2.2 :: r) (xnew h)
  | .areturn => xr1 st fun q t => xnil t (ret (some (.ref q)) h)
  | .arraylength => xlen e st h call fun t => k (pc + 1) ls t h
  | .astore n => xr1 st fun q r => k (pc + 2) (xs1 ls n (.ref q)) r h
  | .astore_n n => xr1 st fun q r => k (pc + 1) (xs1 ls n.val (.ref q)) r h
  | .baload => xald e.2.2.1.1 st h fun t => k (pc + 1) ls t h
  | .bastore => xast e.2.2.1.1 (xnar e.2.2.1.1) st h fun t h' => k (pc + 1) ls t h'
  | .bipush _ => k (pc + 2) ls (.int e.2.2.2.1 :: st) h
  | .dup => x1c st fun v r => k (pc + 1) ls (v :: v :: r) h
  | .dup2 => x2c st fun a b r => k (pc + 1) ls (a :: b :: a :: b :: r) h
  | .getfield _ => xr1 st fun q r => xok q e.2.2.1.1 ∧ xget e q r h fun t => k (pc + 3) ls t h
  | .goto _ => k e.2.2.1.1 ls st h
  | .i2b => xi1 st fun x r => k (pc + 1) ls (.int x.toInt8.toInt32 :: r) h
  | .i2c => xi1 st fun x r => k (pc + 1) ls (.int (x.toUInt32 % 65536).toInt32 :: r) h
  | .i2l => xi1 st fun x r => k (pc + 1) ls (.long x.toInt64 :: r) h
  | .iadd => xi2 st fun x y r => k (pc + 1) ls (.int (x + y) :: r) h
  | .iaload => xial e st h call fun t => k (pc + 1) ls t h
  | .iand => xi2 st fun x y r => k (pc + 1) ls (.int (x &&& y) :: r) h
  | .iastore => xast 10 (fun v => v) st h fun t h' => k (pc + 1) ls t h'
  | .iconst _ => k (pc + 1) ls (.int e.2.2.2.1 :: st) h
  | .idiv => xi2 st fun x y r => ¬ y = 0 ∧ k (pc + 1) ls (.int (x / y) :: r) h
  | .if_icmp c _ => xi2 st fun x y r => (xcond c x y → k e.2.2.1.1 ls r h) ∧ (¬ xcond c x y → k (pc + 3) ls r h)
  | .ifCond c _ => xi1 st fun x r => (xcond c x 0 → k e.2.2.1.1 ls r h) ∧ (¬ xcond c x 0 → k (pc + 3) ls r h)
  | .iinc n _ => xil ls n fun x => k (pc + 3) (xs1 ls n (.int (x + e.2.2.2.1))) st h
  | .iload n => xil ls n fun a => k (pc + 2) ls (.int a :: st) h
  | .iload_n n => xil ls n.val fun a => k (pc + 1) ls (.int a :: st) h
  | .imul => xi2 st fun x y r => k (pc + 1) ls (.int (x * y) :: r) h
  | .invokespecial _ => xcall e lim st h call fun t h' => k (pc + 3) ls t h'
  | .invokestatic _ => xcall e lim st h call fun t h' => k (pc + 3) ls t h'
  | .invokevirtual _ => xvirt e st (xcall e lim st h call fun t h' => k (pc + 3) ls t h')
  | .ior => xi2 st fun x y r => k (pc + 1) ls (.int (x ||| y) :: r) h
  | .irem => xi2 st fun x y r => ¬ y = 0 ∧ k (pc + 1) ls (.int (x - x / y * y) :: r) h
  | .ireturn => xi1 st fun x t => xnil t (xirt e.2.2.1.1 x (ret (some (.int x)) h))
  | .ishl => xi2 st fun x y r => k (pc + 1) ls (.int (x <<< (y &&& 31)) :: r) h
  | .ishr => xi2 st fun x y r => k (pc + 1) ls (.int (x >>> (y &&& 31)) :: r) h
  | .istore n => xi1 st fun x r => k (pc + 2) (xs1 ls n (.int x)) r h
  | .istore_n n => xi1 st fun x r => k (pc + 1) (xs1 ls n.val (.int x)) r h
  | .isub => xi2 st fun x y r => k (pc + 1) ls (.int (x - y) :: r) h
  | .ixor => xi2 st fun x y r => k (pc + 1) ls (.int (x ^^^ y) :: r) h
  | .lcmp => xl2 st fun x y r => k (pc + 1) ls (.int (lg_cmp x y) :: r) h
  | .lconst n => k (pc + 1) ls (.long (Int64.ofNat n.val) :: st) h
  | .ldc _ => xldc e st fun t => k (pc + 2) ls t h
  | .ldc_w _ => xldc e st fun t => k (pc + 3) ls t h
  | .ldc2_w _ => k (pc + 3) ls (.long e.2.2.2.1.toInt64 :: st) h
  | .lload n => xll ls n fun a => k (pc + 2) ls (.long a :: st) h
  | .lload_n n => xll ls n.val fun a => k (pc + 1) ls (.long a :: st) h
  | .lookupswitch _ _ => xi1 st fun x r => xsw x e.2.2.2.2 e.2.2.1.1 fun t => k t ls r h
  | .lor => xl2 st fun x y r => k (pc + 1) ls (.long (x ||| y) :: r) h
  | .lreturn => xl1 st fun x t => xnil t (ret (some (.long x)) h)
  | .lshl => xli st fun x y r => k (pc + 1) ls (.long (x <<< (y.toInt64 &&& 63)) :: r) h
  | .lstore n => xl1 st fun x r => k (pc + 2) (xs2 ls n (.long x)) r h
  | .lstore_n n => xl1 st fun x r => k (pc + 1) (xs2 ls n.val (.long x)) r h
  | .new _ => h.2.2 < lim ∧ (xsh h.2.2).1 = e.2.2.1.1 ∧ k (pc + 3) ls (.ref h.2.2 :: st) (xnew h)
  | .newarray _ => xi1 st fun n r => h.2.2 < lim ∧ ¬ n < 0 ∧ xsh h.2.2 = (e.2.2.1.1, n.toNatClampNeg) ∧ k (pc + 2) ls (.ref h.2.2 :: r) (xnew h)
  | .pop => x1c st fun _ r => k (pc + 1) ls r h
  | .putfield _ => xput e st h fun t h' => k (pc + 3) ls t h'
  | .return_ => xnil st (ret none h)
  | .sipush _ => k (pc + 3) ls (.int e.2.2.2.1 :: st) h
  | .tableswitch _ _ _ _ => xi1 st fun x r => xsw x e.2.2.2.2 e.2.2.1.1 fun t => k t ls r h
  | _ => False
def xoc (o : Option (List Nat)) (ls : List Value) : List Value := match o with
  | none => ls
  | some cl => xclr cl ls
/-- one step from a place of a method -/
def xgo (T : Nat → Option xE) (call : Nat → List Value → xM → (Option Value → xM → Prop) → Prop) (ret : Option Value → xM → Prop) (lim : Nat) (X : Nat → List Value → List Value → xM → Prop) (pc : Nat) (ls st : List Value) (h : xM) : Prop := match T pc with
  | none => False
  | some e => xstep e pc (xoc e.2.1 ls) st h call ret lim X
/-- the least: from here the method comes to its end, and there 'ret' -/
def xAt (T : Nat → Option xE) (call : Nat → List Value → xM → (Option Value → xM → Prop) → Prop) (ret : Option Value → xM → Prop) (lim : Nat) (pc : Nat) (ls st : List Value) (h : xM) : Prop :=
  ∀ X : Nat → List Value → List Value → xM → Prop, (∀ pc ls st h, xgo T call ret lim X pc ls st h → X pc ls st h) → X pc ls st h
/-- a method's locals at its start -/
def xarg (vs : List Value) : List Value := vs.flatMap fun v => bif Nat.beq v.category 2 then [v, .null] else [v]
def xloc (vs : List Value) (n : Nat) : List Value := xarg vs ++ List.replicate (n - (xarg vs).length) .null
/-- a method: own class, name, code, locals, answer, table, new cells, their slots -/
abbrev xMe : Type := String × MethodName × ByteArray × Nat × Option FieldType × (Nat → Option xE) × Nat × Nat
def xfin (mc lim : Nat) (Q : Option Value → xM → Prop) (r : Option Value) (h : xM) : Prop := match mc with
  | 0 => Q r h
  | _ + 1 => h.2.2 = lim ∧ Q r h
/-- by at most d calls one in the other method i ends, from the args vs and the cells h, with Q -/
def xW (M : Nat → xMe) : Nat → Nat → List Value → xM → (Option Value → xM → Prop) → Prop
  | 0, _, _, _, _ => False
  | d + 1, i, vs, h, Q => (xarg vs).length ≤ (M i).2.2.2.1 ∧ xAt (M i).2.2.2.2.2.1 (xW M d) (xfin (M i).2.2.2.2.2.2.1 (h.2.2 + (M i).2.2.2.2.2.2.1) Q) (h.2.2 + (M i).2.2.2.2.2.2.1) 0 (xloc vs (M i).2.2.2.1) [] h
