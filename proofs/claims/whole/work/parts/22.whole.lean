/-! THE MACHINE OVER WHOLE NUMBERS: values (tag, length, number); one memory of numbers, refs as keys. -/
def iI (z : Int) : Int32 := Int32.ofInt z
def iL (z : Int) : Int64 := Int64.ofInt z
abbrev zV : Type := Nat × Nat × Int
abbrev zG : Type := Int → Int → Int
abbrev zi (z : Int) : zV := (1, 0, z)
abbrev zl (z : Int) : zV := (2, 0, z)
abbrev zr (c n : Nat) (q : Int) : zV := (c + 3, n, q)
abbrev z0 : zV := (0, 0, 0)
abbrev zQ : Type := Option zV → zG → Prop
abbrev zC : Type := Nat → List zV → zG → zQ → Prop
abbrev zK : Type := Nat → List zV → List zV → zG → Prop
def rg (z : Int) : Prop := -2147483648 ≤ z ∧ z < 2147483648
def zu (G : zG) (q j v : Int) : zG := fun k i => if k = q ∧ i = j then v else G k i
def zcp (G : zG) (q i p j n : Int) : zG := fun k x => if k = p ∧ j ≤ x ∧ x < j + n then G q (i + (x - j)) else G k x
def zb (v : Int) : Int := Int.bmod v 256
def zand (x y : Int) : Int := (iI x &&& iI y).toInt
def zor (x y : Int) : Int := (iI x ||| iI y).toInt
def zxor (x y : Int) : Int := (iI x ^^^ iI y).toInt
def zshl (x y : Int) : Int := (iI x <<< (iI y &&& 31)).toInt
def zshr (x y : Int) : Int := (iI x >>> (iI y &&& 31)).toInt
def zlor (x y : Int) : Int := (iL x ||| iL y).toInt
def zlshl (x y : Int) : Int := (iL x <<< ((iI y).toInt64 &&& 63)).toInt
abbrev zabs (x : Int) : Int := (x.natAbs : Int)
def zlc (x y : Int) : Int := if x < y then -1 else if x = y then 0 else 1
def ztx (q i : Int) : Int := ((xtxt.getD (q.toNat - 1000) []).getD i.toNat 0).toInt
def zstT : List (List (Nat × Nat × Nat × Int)) := [[(0, 0, 0, 0), (0, 0, 0, 0), (0, 0, 0, 0), (0, 0, 0, 0), (0, 0, 0, 0), (0, 0, 0, 0), (0, 0, 0, 0), (1, 10, 10, 1), (1, 10, 10, 2), (1, 10, 10, 3), (1, 10, 40, 4), (1, 10, 40, 5), (1, 10, 10, 6), (1, 10, 60, 7), (1, 10, 60, 8), (1, 10, 60, 9), (1, 10, 60, 10), (1, 10, 120, 11)], [(2, 0, 0, 0), (0, 0, 0, 0), (0, 0, 0, 0), (1, 10, 60, 1), (1, 10, 9, 2), (1, 10, 60, 3), (1, 10, 60, 4), (1, 10, 60, 5), (1, 10, 60, 6), (1, 12, 366, 7), (1, 10, 60, 8), (1, 10, 60, 9), (1, 10, 60, 10), (1, 10, 60, 11), (1, 10, 60, 12)], [(0, 0, 0, 0), (0, 0, 0, 0), (2, 11, 1200, 0), (0, 0, 0, 0), (2, 0, 0, 0), (0, 0, 0, 0), (0, 0, 0, 0), (0, 0, 0, 0), (0, 0, 0, 0), (3, 10, 18, 3), (3, 10, 18, 4)], [(0, 0, 0, 0), (0, 0, 0, 0), (0, 0, 0, 0), (0, 0, 0, 0)], [(3, 7, 0, 287), (3, 10, 8, 289), (3, 10, 481, 290), (3, 10, 481, 291), (3, 10, 481, 292), (0, 0, 0, 0), (3, 12, 480, 293)], [(3, 11, 850, 295), (0, 0, 0, 0)], [(2, 1, 0, 0), (1, 7, 0, 1), (0, 0, 0, 0), (1, 10, 85, 3), (1, 10, 85, 4), (1, 10, 85, 5), (1, 10, 85, 6), (1, 10, 85, 7), (1, 14, 85, 8), (1, 3, 0, 94), (1, 3, 0, 95)], [(2, 1, 0, 0), (1, 10, 8, 1), (0, 0, 0, 0), (0, 0, 0, 0), (0, 0, 0, 0)], [(3, 11, 1200, 1), (0, 0, 0, 0), (3, 2, 0, 2), (2, 0, 0, 0), (2, 0, 0, 0), (3, 13, 3, 29), (3, 1, 0, 66), (0, 0, 0, 0), (3, 1, 0, 79), (3, 7, 0, 92), (3, 6, 0, 94), (3, 6, 0, 190), (3, 4, 0, 286), (3, 5, 0, 294), (3, 10, 365, 296)], [(0, 0, 0, 0), (3, 10, 356, 298), (3, 10, 356, 299), (3, 10, 7120, 300), (0, 0, 0, 0), (3, 10, 22431, 301), (3, 12, 3, 302), (0, 0, 0, 0), (3, 10, 9, 303), (0, 0, 0, 0), (0, 0, 0, 0), (0, 0, 0, 0), (3, 10, 90, 304), (3, 10, 90, 305), (3, 10, 90, 306), (3, 10, 90, 307), (3, 10, 90, 308), (3, 10, 90, 309), (0, 0, 0, 0), (0, 0, 0, 0), (0, 0, 0, 0), (0, 0, 0, 0), (0, 0, 0, 0), (0, 0, 0, 0), (3, 10, 3240, 310), (3, 10, 810, 311), (0, 0, 0, 0), (0, 0, 0, 0), (0, 0, 0, 0), (3, 11, 1200, 312), (0, 0, 0, 0), (3, 10, 5, 313), (0, 0, 0, 0), (0, 0, 0, 0), (0, 0, 0, 0), (0, 0, 0, 0), (0, 0, 0, 0), (0, 0, 0, 0), (0, 0, 0, 0), (3, 10, 108, 314), (3, 10, 4, 315), (3, 10, 270, 316), (0, 0, 0, 0), (0, 0, 0, 0), (0, 0, 0, 0), (0, 0, 0, 0), (3, 10, 2928, 317), (3, 10, 2928, 318), (3, 11, 1500, 319), (0, 0, 0, 0)]]
def zst (c s : Nat) : Nat × Nat × Nat × Int := (zstT.getD c []).getD s (0, 0, 0, 0)
def zck (b : Bool) (A : Prop) : Prop := match b with
  | true => A
  | false => False
def zi1 (st : List zV) (f : Int → List zV → Prop) : Prop := match st with
  | (1, _, a) :: r => f a r
  | _ => False
def zi2 (st : List zV) (f : Int → Int → List zV → Prop) : Prop := zi1 st fun b r => zi1 r fun a t => f a b t
def zl1 (st : List zV) (f : Int → List zV → Prop) : Prop := match st with
  | (2, _, a) :: r => f a r
  | _ => False
def zr1 (st : List zV) (f : Nat → Nat → Int → List zV → Prop) : Prop := match st with
  | (t + 3, n, a) :: r => f t n a r
  | _ => False
def zri (st : List zV) (f : Nat → Nat → Int → Int → List zV → Prop) : Prop := zi1 st fun i r => zr1 r fun t n q r => f t n q i r
def zrii (st : List zV) (f : Nat → Nat → Int → Int → Int → List zV → Prop) : Prop := zi1 st fun v r => zri r fun t n q i r => f t n q i v r
def z1c (st : List zV) (f : zV → List zV → Prop) : Prop := match st with
  | (1, n, a) :: r => f (1, n, a) r
  | (t + 3, n, a) :: r => f (t + 3, n, a) r
  | _ => False
def z2c (st : List zV) (f : zV → zV → List zV → Prop) : Prop := z1c st fun a r => z1c r fun b t => f a b t
def zil (ls : List zV) (i : Nat) (f : Int → Prop) : Prop := match ls[i]? with
  | some (1, _, a) => f a
  | _ => False
def zll (ls : List zV) (i : Nat) (f : Int → Prop) : Prop := match ls[i]? with
  | some (2, _, a) => f a
  | _ => False
def zrl (ls : List zV) (i : Nat) (f : Nat → Nat → Int → Prop) : Prop := match ls[i]? with
  | some (t + 3, n, a) => f t n a
  | _ => False
def zq0 (r : Option zV) (A : Prop) : Prop := match r with
  | none => A
  | _ => False
def zqI (r : Option zV) (f : Int → Prop) : Prop := match r with
  | some (1, _, a) => f a
  | _ => False
def zqL (r : Option zV) (f : Int → Prop) : Prop := match r with
  | some (2, _, a) => f a
  | _ => False
def zqR (r : Option zV) (f : Nat → Nat → Int → Prop) : Prop := match r with
  | some (t + 3, n, a) => f t n a
  | _ => False
def zkl : List zV → Nat → List zV
  | [], _ => []
  | x :: t, 0 => x :: t
  | x :: t, 1 => (bif Nat.beq x.1 2 then z0 else x) :: t
  | x :: t, i + 2 => x :: zkl t (i + 1)
def zs1 (ls : List zV) (i : Nat) (v : zV) : List zV := (zkl ls i).set i v
def zs2 (ls : List zV) (i : Nat) (v : zV) : List zV := ((zkl ls i).set i v).set (i + 1) z0
def zclr : List Nat → List zV → List zV
  | [], ls => ls
  | i :: r, ls => zclr r (ls.set i z0)
def zoc (o : Option (List Nat)) (ls : List zV) : List zV := match o with
  | none => ls
  | some cl => zclr cl ls
def zcond (c : ClassFile.Cond) (x y : Int) : Prop := match c with
  | .eq => x = y
  | .ne => ¬ x = y
  | .lt => x < y
  | .ge => y ≤ x
  | .gt => y < x
  | .le => x ≤ y
def zsw (x : Int) (ps : List (Int32 × Nat)) (d : Nat) (k : Nat → Prop) : Prop := match ps with
  | [] => k d
  | q :: r => (x = q.1.toInt → k q.2) ∧ (¬ x = q.1.toInt → zsw x r d k)
def zael (c : Nat) (q i : Int) (f : zV → Prop) : Prop := match c with
  | 13 => f (zr 0 0 (q + 1 + 12 * i))
  | 14 => f (zr 3 0 (q + 1 + i))
  | _ => False
def zroom (st : List zV) (A : Prop) : Prop := zck (Nat.ble st.length 4) A
def zcpy (st : List zV) (G : zG) (k : List zV → zG → Prop) : Prop := zi1 st fun n r => zi1 r fun dp r => zr1 r fun t2 m2 d r => zi1 r fun sp r => zr1 r fun t1 m1 q r =>
  zck (Nat.beq t1 10 && Nat.beq t2 10) ((0 ≤ sp ∧ 0 ≤ dp ∧ 0 ≤ n ∧ sp + n ≤ (m1 : Int) ∧ dp + n ≤ (m2 : Int)) ∧ k r (zcp G q sp d dp n))
def znat (c : Nat) (st : List zV) (G : zG) (k : List zV → zG → Prop) : Prop := match c with
  | 2 => zi2 st fun a b r => (rg a ∧ rg b) ∧ k (zi (max a b) :: r) G
  | 3 => zi2 st fun a b r => (rg a ∧ rg b) ∧ k (zi (min a b) :: r) G
  | 4 => zi1 st fun a r => rg a ∧ k (zi (zabs a) :: r) G
  | 5 => zcpy st G k
  | 7 => zr1 st fun t n _ r => zck (Nat.beq t 15) (k (zi (n : Int) :: r) G)
  | 8 => zri st fun t n q i r => zck (Nat.beq t 15) ((0 ≤ i ∧ i < (n : Int)) ∧ k (zi (ztx q i) :: r) G)
  | _ => False
def zen (e : xE) (st : List zV) (A : Prop) : Prop := zck (Nat.ble e.2.2.1.2.1 st.length) A
def zcall (e : xE) (st : List zV) (G : zG) (call : zC) (k : List zV → zG → Prop) : Prop := match e.2.2.1.2.2.1 with
  | 0 => zen e st (zroom (st.drop e.2.2.1.2.1) (call e.2.2.1.1 (st.take e.2.2.1.2.1).reverse G fun r G' => zq0 r (k (st.drop e.2.2.1.2.1) G')))
  | 10 => zen e st (zroom (st.drop e.2.2.1.2.1) (call e.2.2.1.1 (st.take e.2.2.1.2.1).reverse G fun r G' => zqI r fun a => k (zi a :: st.drop e.2.2.1.2.1) G'))
  | 11 => zen e st (zroom (st.drop e.2.2.1.2.1) (call e.2.2.1.1 (st.take e.2.2.1.2.1).reverse G fun r G' => zqR r fun t n a => k (zr t n a :: st.drop e.2.2.1.2.1) G'))
  | 12 => zen e st (zroom (st.drop e.2.2.1.2.1) (call e.2.2.1.1 (st.take e.2.2.1.2.1).reverse G fun r G' => zqL r fun a => k (zl a :: st.drop e.2.2.1.2.1) G'))
  | 9 => False
  | 13 => False
  | c => zroom (st.drop e.2.2.1.2.1) (znat c st G k)
def zvirt (e : xE) (st : List zV) (A : Prop) : Prop := match e.2.2.2.2 with
  | [] => A
  | q :: _ => zr1 (st.drop (e.2.2.1.2.1 - 1)) fun t _ _ _ => zck (Nat.beq t q.2 && Nat.blt t 10) A
def zgr (m : Nat × Nat × Nat × Int) (q v : Int) (k : zV → Prop) : Prop := match m with
  | (1, c, n, o) => k (zr c n (q + o))
  | (3, c, n, o) => k (zr c n o)
  | (2, c, n, _) => 0 ≤ v ∧ k (zr c n v)
  | _ => False
def zget (e : xE) (q : Int) (r : List zV) (G : zG) (k : List zV → Prop) : Prop := match e.2.2.1.2.2.1 with
  | 1 => zgr (zst e.2.2.1.1 e.2.2.1.2.1) q (G q (Int.ofNat e.2.2.1.2.1)) fun v => k (v :: r)
  | _ => zck (Nat.beq (zst e.2.2.1.1 e.2.2.1.2.1).1 0 && Nat.blt e.2.2.1.1 10) (k (zi (G q (Int.ofNat e.2.2.1.2.1)) :: r))
def zldc (e : xE) (st : List zV) (k : List zV → Prop) : Prop := match e.2.2.1.2.2.1 with
  | 1 => zck (Nat.blt e.2.2.1.1 xtxt.length) (k (zr 15 (xtxt.getD e.2.2.1.1 []).length (Int.ofNat (1000 + e.2.2.1.1)) :: st))
  | _ => k (zi e.2.2.2.1.toInt :: st)
def zpr (m : Nat × Nat × Nat × Int) (t n : Nat) (A : Prop) : Prop := match m with
  | (2, c, l, _) => zck (Nat.beq t c && (Nat.blt c 10 || Nat.beq n l) && Nat.blt c 15) A
  | _ => False
def zput (e : xE) (st : List zV) (G : zG) (k : List zV → zG → Prop) : Prop := match e.2.2.1.2.2.1 with
  | 0 => zi1 st fun v r => zr1 r fun t _ q r => zck (Nat.beq t e.2.2.1.1 && Nat.beq (zst e.2.2.1.1 e.2.2.1.2.1).1 0 && Nat.blt t 10) (k r (zu G q (Int.ofNat e.2.2.1.2.1) v))
  | 2 => zi1 st fun v r => zr1 r fun t _ q r => zck (Nat.beq t e.2.2.1.1 && Nat.beq (zst e.2.2.1.1 e.2.2.1.2.1).1 0 && Nat.blt t 10) ((v = 0 ∨ v = 1) ∧ k r (zu G q (Int.ofNat e.2.2.1.2.1) v))
  | 1 => zr1 st fun tv nv v r => zr1 r fun t _ q r => zck (Nat.beq t e.2.2.1.1) (zpr (zst e.2.2.1.1 e.2.2.1.2.1) tv nv (k r (zu G q (Int.ofNat e.2.2.1.2.1) v)))
  | _ => False
def zald (c : Nat) (st : List zV) (G : zG) (k : List zV → Prop) : Prop := zri st fun t n q i r => zck (Nat.beq t c && Nat.ble 10 c && Nat.blt c 15) ((0 ≤ i ∧ i < (n : Int)) ∧ k (zi (G q i) :: r))
def zbst (c : Nat) (v : Int) (f : Int → Prop) : Prop := match c with
  | 11 => f (zb v)
  | 12 => (v = 0 ∨ v = 1) ∧ f v
  | 10 => f v
  | _ => False
def zast (c : Nat) (st : List zV) (G : zG) (k : List zV → zG → Prop) : Prop := zrii st fun t n q i v r => zck (Nat.beq t c) ((0 ≤ i ∧ i < (n : Int)) ∧ zbst c v fun v => k r (zu G q i v))
def zlen (e : xE) (st : List zV) (k : List zV → Prop) : Prop := zr1 st fun t n _ r => zck (Nat.beq t e.2.2.1.1 && Nat.ble 10 t && Nat.blt t 15) (k (zi (n : Int) :: r))
def znil (t : List zV) (A : Prop) : Prop := match t with
  | [] => A
  | _ => False
def zirt (c : Nat) (x : Int) (A : Prop) : Prop := match c with
  | 12 => (x = 0 ∨ x = 1) ∧ A
  | _ => A
def zstep (e : xE) (pc : Nat) (ls st : List zV) (G : zG) (call : zC) (ret : zQ) (k : zK) : Prop :=
  match e.1.1 with
  | .aaload => zri st fun t n q i r => zck (Nat.beq t e.2.2.1.1) ((0 ≤ i ∧ i < (n : Int)) ∧ zael t q i fun v => k (pc + 1) ls (v :: r) G)
  | .aload n => zrl ls n fun t m a => k (pc + 2) ls (zr t m a :: st) G
  | .aload_n n => zrl ls n.val fun t m a => k (pc + 1) ls (zr t m a :: st) G
  | .areturn => zr1 st fun t n q r => znil r (ret (some (zr t n q)) G)
  | .arraylength => zlen e st fun t => k (pc + 1) ls t G
  | .astore n => zr1 st fun t m q r => k (pc + 2) (zs1 ls n (zr t m q)) r G
  | .astore_n n => zr1 st fun t m q r => k (pc + 1) (zs1 ls n.val (zr t m q)) r G
  | .baload => zald e.2.2.1.1 st G fun t => k (pc + 1) ls t G
  | .bastore => zck (Nat.blt 10 e.2.2.1.1) (zast e.2.2.1.1 st G fun t G' => k (pc + 1) ls t G')
  | .bipush _ => k (pc + 2) ls (zi e.2.2.2.1.toInt :: st) G
  | .dup => z1c st fun v r => k (pc + 1) ls (v :: v :: r) G
  | .dup2 => z2c st fun a b r => k (pc + 1) ls (a :: b :: a :: b :: r) G
  | .getfield _ => zr1 st fun t _ q r => zck (Nat.beq t e.2.2.1.1) (zget e q r G fun t => k (pc + 3) ls t G)
  | .goto _ => k e.2.2.1.1 ls st G
  | .i2b => zi1 st fun x r => k (pc + 1) ls (zi (zb x) :: r) G
  | .i2c => zi1 st fun x r => (0 ≤ x ∧ x < 65536) ∧ k (pc + 1) ls (zi x :: r) G
  | .i2l => zi1 st fun x r => rg x ∧ k (pc + 1) ls (zl x :: r) G
  | .iadd => zi2 st fun x y r => k (pc + 1) ls (zi (x + y) :: r) G
  | .iaload => zck (Nat.beq e.2.2.1.1 0) (zald 10 st G fun t => k (pc + 1) ls t G)
  | .iand => zi2 st fun x y r => k (pc + 1) ls (zi (zand x y) :: r) G
  | .iastore => zast 10 st G fun t G' => k (pc + 1) ls t G'
  | .iconst _ => k (pc + 1) ls (zi e.2.2.2.1.toInt :: st) G
  | .idiv => zi2 st fun x y r => (0 ≤ x ∧ x < 2147483648 ∧ 0 < y ∧ y < 2147483648) ∧ k (pc + 1) ls (zi (x / y) :: r) G
  | .if_icmp c _ => zi2 st fun x y r => (rg x ∧ rg y) ∧ (zcond c x y → k e.2.2.1.1 ls r G) ∧ (¬ zcond c x y → k (pc + 3) ls r G)
  | .ifCond c _ => zi1 st fun x r => rg x ∧ (zcond c x 0 → k e.2.2.1.1 ls r G) ∧ (¬ zcond c x 0 → k (pc + 3) ls r G)
  | .iinc n _ => zil ls n fun x => k (pc + 3) (zs1 ls n (zi (x + e.2.2.2.1.toInt))) st G
  | .iload n => zil ls n fun a => k (pc + 2) ls (zi a :: st) G
  | .iload_n n => zil ls n.val fun a => k (pc + 1) ls (zi a :: st) G
  | .imul => zi2 st fun x y r => k (pc + 1) ls (zi (x * y) :: r) G
  | .invokespecial _ => zcall e st G call fun t G' => k (pc + 3) ls t G'
  | .invokestatic _ => zcall e st G call fun t G' => k (pc + 3) ls t G'
  | .invokevirtual _ => zvirt e st (zcall e st G call fun t G' => k (pc + 3) ls t G')
  | .ior => zi2 st fun x y r => k (pc + 1) ls (zi (zor x y) :: r) G
  | .irem => zi2 st fun x y r => (0 ≤ x ∧ x < 2147483648 ∧ 0 < y ∧ y < 2147483648) ∧ k (pc + 1) ls (zi (x % y) :: r) G
  | .ireturn => zi1 st fun x r => znil r (zirt e.2.2.1.1 x (ret (some (zi x)) G))
  | .ishl => zi2 st fun x y r => k (pc + 1) ls (zi (zshl x y) :: r) G
  | .ishr => zi2 st fun x y r => k (pc + 1) ls (zi (zshr x y) :: r) G
  | .istore n => zi1 st fun x r => k (pc + 2) (zs1 ls n (zi x)) r G
  | .istore_n n => zi1 st fun x r => k (pc + 1) (zs1 ls n.val (zi x)) r G
  | .isub => zi2 st fun x y r => k (pc + 1) ls (zi (x - y) :: r) G
  | .ixor => zi2 st fun x y r => k (pc + 1) ls (zi (zxor x y) :: r) G
  | .lcmp => zl1 st fun y r => zl1 r fun x r => (rg x ∧ rg y) ∧ k (pc + 1) ls (zi (zlc x y) :: r) G
  | .lconst n => k (pc + 1) ls (zl (Int.ofNat n.val) :: st) G
  | .ldc _ => zldc e st fun t => k (pc + 2) ls t G
  | .ldc_w _ => zldc e st fun t => k (pc + 3) ls t G
  | .ldc2_w _ => k (pc + 3) ls (zl e.2.2.2.1.toInt :: st) G
  | .lload n => zll ls n fun a => k (pc + 2) ls (zl a :: st) G
  | .lload_n n => zll ls n.val fun a => k (pc + 1) ls (zl a :: st) G
  | .lookupswitch _ _ => zi1 st fun x r => rg x ∧ zsw x e.2.2.2.2 e.2.2.1.1 fun t => k t ls r G
  | .lor => zl1 st fun y r => zl1 r fun x r => k (pc + 1) ls (zl (zlor x y) :: r) G
  | .lreturn => zl1 st fun x r => znil r (ret (some (zl x)) G)
  | .lshl => zi1 st fun y r => zl1 r fun x r => k (pc + 1) ls (zl (zlshl x y) :: r) G
  | .lstore n => zl1 st fun x r => k (pc + 2) (zs2 ls n (zl x)) r G
  | .lstore_n n => zl1 st fun x r => k (pc + 1) (zs2 ls n.val (zl x)) r G
  | .pop => z1c st fun _ r => k (pc + 1) ls r G
  | .putfield _ => zput e st G fun t G' => k (pc + 3) ls t G'
  | .return_ => znil st (ret none G)
  | .sipush _ => k (pc + 3) ls (zi e.2.2.2.1.toInt :: st) G
  | .tableswitch _ _ _ _ => zi1 st fun x r => rg x ∧ zsw x e.2.2.2.2 e.2.2.1.1 fun t => k t ls r G
  | _ => False
def zgo (T : Nat → Option xE) (call : zC) (ret : zQ) (X : zK) (pc : Nat) (ls st : List zV) (G : zG) : Prop := match T pc with
  | none => False
  | some e => zstep e pc (zoc e.2.1 ls) st G call ret X
/-- the least: from here the method comes to its end, and there 'ret' -/
def zAt (T : Nat → Option xE) (call : zC) (ret : zQ) (pc : Nat) (ls st : List zV) (G : zG) : Prop :=
  ∀ X : zK, (∀ pc ls st G, zgo T call ret X pc ls st G → X pc ls st G) → X pc ls st G
def zarg (vs : List zV) : List zV := vs.flatMap fun v => bif Nat.beq v.1 2 then [v, z0] else [v]
def zloc (vs : List zV) (n : Nat) : List zV := zarg vs ++ List.replicate (n - (zarg vs).length) z0
def zW : Nat → zC
  | 0, _, _, _, _ => False
  | d + 1, i, vs, G, Q => zck (Nat.ble (zarg vs).length (xP i).2.2.2.1 && Nat.beq (xP i).2.2.2.2.2.2.1 0) (zAt (xP i).2.2.2.2.2.1 (zW d) Q 0 (zloc vs (xP i).2.2.2.1) [] G)
/-! what holds with more holds -/
abbrev zcm (call : zC) : Prop := ∀ i vs G Q Q', (∀ r G, Q r G → Q' r G) → call i vs G Q → call i vs G Q'
theorem zck_m {b : Bool} {A B : Prop} (h : A → B) (x : zck b A) : zck b B := by cases b; exact x; exact h x
theorem zi1_m {st : List zV} {f g : Int → List zV → Prop} (h : ∀ a r, f a r → g a r) (x : zi1 st f) : zi1 st g := by
  unfold zi1 at *; split at x <;> first | exact h _ _ x | exact x.elim
theorem zi2_m {st : List zV} {f g : Int → Int → List zV → Prop} (h : ∀ a b r, f a b r → g a b r) (x : zi2 st f) : zi2 st g := zi1_m (fun _ _ => zi1_m fun _ _ => h _ _ _) x
theorem zl1_m {st : List zV} {f g : Int → List zV → Prop} (h : ∀ a r, f a r → g a r) (x : zl1 st f) : zl1 st g := by
  unfold zl1 at *; split at x <;> first | exact h _ _ x | exact x.elim
theorem zr1_m {st : List zV} {f g : Nat → Nat → Int → List zV → Prop} (h : ∀ t n a r, f t n a r → g t n a r) (x : zr1 st f) : zr1 st g := by
  unfold zr1 at *; split at x <;> first | exact h _ _ _ _ x | exact x.elim
theorem zri_m {st : List zV} {f g : Nat → Nat → Int → Int → List zV → Prop} (h : ∀ t n a i r, f t n a i r → g t n a i r) (x : zri st f) : zri st g := zi1_m (fun _ _ => zr1_m fun _ _ _ _ => h _ _ _ _ _) x
theorem zrii_m {st : List zV} {f g : Nat → Nat → Int → Int → Int → List zV → Prop} (h : ∀ t n a i v r, f t n a i v r → g t n a i v r) (x : zrii st f) : zrii st g := zi1_m (fun _ _ => zri_m fun _ _ _ _ _ => h _ _ _ _ _ _) x
theorem z1c_m {st : List zV} {f g : zV → List zV → Prop} (h : ∀ a r, f a r → g a r) (x : z1c st f) : z1c st g := by
  unfold z1c at *; split at x <;> first | exact h _ _ x | exact x.elim
theorem z2c_m {st : List zV} {f g : zV → zV → List zV → Prop} (h : ∀ a b r, f a b r → g a b r) (x : z2c st f) : z2c st g := z1c_m (fun _ _ => z1c_m fun _ _ => h _ _ _) x
theorem zil_m {ls : List zV} {i : Nat} {f g : Int → Prop} (h : ∀ a, f a → g a) (x : zil ls i f) : zil ls i g := by
  unfold zil at *; split at x <;> first | exact h _ x | exact x.elim
theorem zll_m {ls : List zV} {i : Nat} {f g : Int → Prop} (h : ∀ a, f a → g a) (x : zll ls i f) : zll ls i g := by
  unfold zll at *; split at x <;> first | exact h _ x | exact x.elim
theorem zrl_m {ls : List zV} {i : Nat} {f g : Nat → Nat → Int → Prop} (h : ∀ t n a, f t n a → g t n a) (x : zrl ls i f) : zrl ls i g := by
  unfold zrl at *; split at x <;> first | exact h _ _ _ x | exact x.elim
theorem zq0_m {r : Option zV} {A B : Prop} (h : A → B) (x : zq0 r A) : zq0 r B := by
  unfold zq0 at *; split at x <;> first | exact h x | exact x.elim
theorem zqI_m {r : Option zV} {f g : Int → Prop} (h : ∀ a, f a → g a) (x : zqI r f) : zqI r g := by
  unfold zqI at *; split at x <;> first | exact h _ x | exact x.elim
theorem zqL_m {r : Option zV} {f g : Int → Prop} (h : ∀ a, f a → g a) (x : zqL r f) : zqL r g := by
  unfold zqL at *; split at x <;> first | exact h _ x | exact x.elim
theorem zqR_m {r : Option zV} {f g : Nat → Nat → Int → Prop} (h : ∀ t n a, f t n a → g t n a) (x : zqR r f) : zqR r g := by
  unfold zqR at *; split at x <;> first | exact h _ _ _ x | exact x.elim
theorem znil_m {t : List zV} {A B : Prop} (h : A → B) (x : znil t A) : znil t B := by
  unfold znil at *; split at x <;> first | exact h x | exact x.elim
theorem zirt_m {c : Nat} {v : Int} {A B : Prop} (h : A → B) (x : zirt c v A) : zirt c v B := by
  unfold zirt at *; split at x <;> first | exact ⟨x.1, h x.2⟩ | exact h x
theorem zsw_m {x : Int} {d : Nat} {k k' : Nat → Prop} (h : ∀ t, k t → k' t) : ∀ ps : List (Int32 × Nat), zsw x ps d k → zsw x ps d k' := by
  intro ps
  induction ps with
  | nil => intro z; exact h _ z
  | cons q r ih => intro z; exact ⟨fun c => h _ (z.1 c), fun c => ih (z.2 c)⟩
theorem zael_m {c : Nat} {q i : Int} {f g : zV → Prop} (h : ∀ v, f v → g v) (x : zael c q i f) : zael c q i g := by
  unfold zael at *; split at x <;> first | exact h _ x | exact x.elim
theorem zcpy_m {st : List zV} {G : zG} {k k' : List zV → zG → Prop} (h : ∀ t G, k t G → k' t G) (x : zcpy st G k) : zcpy st G k' :=
  zi1_m (fun _ _ => zi1_m fun _ _ => zr1_m fun _ _ _ _ => zi1_m fun _ _ => zr1_m fun _ _ _ _ => zck_m fun y => ⟨y.1, h _ _ y.2⟩) x
theorem znat_m {c : Nat} {st : List zV} {G : zG} {k k' : List zV → zG → Prop} (h : ∀ t G, k t G → k' t G) (x : znat c st G k) : znat c st G k' := by
  unfold znat at *
  split at x
  · exact zi2_m (fun _ _ _ y => ⟨y.1, h _ _ y.2⟩) x
  · exact zi2_m (fun _ _ _ y => ⟨y.1, h _ _ y.2⟩) x
  · exact zi1_m (fun _ _ y => ⟨y.1, h _ _ y.2⟩) x
  · exact zcpy_m h x
  · exact zr1_m (fun _ _ _ _ => zck_m fun y => h _ _ y) x
  · exact zri_m (fun _ _ _ _ _ => zck_m fun y => ⟨y.1, h _ _ y.2⟩) x
  · exact x.elim
theorem zcall_m {e : xE} {st : List zV} {G : zG} {call : zC} (hc : zcm call) {k k' : List zV → zG → Prop} (h : ∀ t G, k t G → k' t G) (x : zcall e st G call k) : zcall e st G call k' := by
  unfold zcall at *
  split at x
  · exact zck_m (zck_m (hc _ _ _ _ _ fun _ _ => zq0_m (h _ _))) x
  · exact zck_m (zck_m (hc _ _ _ _ _ fun _ _ => zqI_m fun _ => h _ _)) x
  · exact zck_m (zck_m (hc _ _ _ _ _ fun _ _ => zqR_m fun _ _ _ => h _ _)) x
  · exact zck_m (zck_m (hc _ _ _ _ _ fun _ _ => zqL_m fun _ => h _ _)) x
  · exact x.elim
  · exact x.elim
  · exact zck_m (znat_m h) x
theorem zvirt_m {e : xE} {st : List zV} {A B : Prop} (h : A → B) (x : zvirt e st A) : zvirt e st B := by
  unfold zvirt at *
  split at x
  · exact h x
  · exact zr1_m (fun _ _ _ _ => zck_m h) x
theorem zgr_m {m : Nat × Nat × Nat × Int} {q v : Int} {k k' : zV → Prop} (h : ∀ v, k v → k' v) (x : zgr m q v k) : zgr m q v k' := by
  unfold zgr at *
  split at x <;> first | exact h _ x | exact ⟨x.1, h _ x.2⟩ | exact x.elim
theorem zget_m {e : xE} {q : Int} {r : List zV} {G : zG} {k k' : List zV → Prop} (h : ∀ t, k t → k' t) (x : zget e q r G k) : zget e q r G k' := by
  unfold zget at *
  split at x
  · exact zgr_m (fun _ => h _) x
  · exact zck_m (h _) x
theorem zldc_m {e : xE} {st : List zV} {k k' : List zV → Prop} (h : ∀ t, k t → k' t) (x : zldc e st k) : zldc e st k' := by
  unfold zldc at *
  split at x
  · exact zck_m (h _) x
  · exact h _ x
theorem zpr_m {m : Nat × Nat × Nat × Int} {t n : Nat} {A B : Prop} (h : A → B) (x : zpr m t n A) : zpr m t n B := by
  unfold zpr at *
  split at x <;> first | exact zck_m h x | exact x.elim
theorem zput_m {e : xE} {st : List zV} {G : zG} {k k' : List zV → zG → Prop} (h : ∀ t G, k t G → k' t G) (x : zput e st G k) : zput e st G k' := by
  unfold zput at *
  split at x
  · exact zi1_m (fun _ _ => zr1_m fun _ _ _ _ => zck_m (h _ _)) x
  · exact zi1_m (fun _ _ => zr1_m fun _ _ _ _ => zck_m fun y => ⟨y.1, h _ _ y.2⟩) x
  · exact zr1_m (fun _ _ _ _ => zr1_m fun _ _ _ _ => zck_m (zpr_m (h _ _))) x
  · exact x.elim
theorem zald_m {c : Nat} {st : List zV} {G : zG} {k k' : List zV → Prop} (h : ∀ t, k t → k' t) (x : zald c st G k) : zald c st G k' := zri_m (fun _ _ _ _ _ => zck_m fun y => ⟨y.1, h _ y.2⟩) x
theorem zbst_m {c : Nat} {v : Int} {f g : Int → Prop} (h : ∀ v, f v → g v) (x : zbst c v f) : zbst c v g := by
  unfold zbst at *
  split at x <;> first | exact h _ x | exact ⟨x.1, h _ x.2⟩ | exact x.elim
theorem zast_m {c : Nat} {st : List zV} {G : zG} {k k' : List zV → zG → Prop} (h : ∀ t G, k t G → k' t G) (x : zast c st G k) : zast c st G k' := zrii_m (fun _ _ _ _ _ _ => zck_m fun y => ⟨y.1, zbst_m (fun _ => h _ _) y.2⟩) x
theorem zlen_m {e : xE} {st : List zV} {k k' : List zV → Prop} (h : ∀ t, k t → k' t) (x : zlen e st k) : zlen e st k' := zr1_m (fun _ _ _ _ => zck_m (h _)) x
set_option maxHeartbeats 4000000 in
theorem zstep_m {e : xE} {pc : Nat} {ls st : List zV} {G : zG} {call : zC} {ret ret' : zQ} {k k' : zK} (hc : zcm call) (hr : ∀ r G, ret r G → ret' r G) (hk : ∀ pc ls st G, k pc ls st G → k' pc ls st G) (x : zstep e pc ls st G call ret k) : zstep e pc ls st G call ret' k' := by
  unfold zstep at *
  split at x
  all_goals first
    | exact x.elim
    | exact hk _ _ _ _ x
    | exact zi1_m (fun _ _ z => hk _ _ _ _ z) x
    | exact zi2_m (fun _ _ _ z => hk _ _ _ _ z) x
    | exact zil_m (fun _ z => hk _ _ _ _ z) x
    | exact zrl_m (fun _ _ _ z => hk _ _ _ _ z) x
    | exact zll_m (fun _ z => hk _ _ _ _ z) x
    | exact zl1_m (fun _ _ z => hk _ _ _ _ z) x
    | exact zl1_m (fun _ _ z => znil_m (hr _ _) z) x
    | exact zl1_m (fun _ _ => zl1_m (fun _ _ z => hk _ _ _ _ z)) x
    | exact zl1_m (fun _ _ => zl1_m (fun _ _ z => ⟨z.1, hk _ _ _ _ z.2⟩)) x
    | exact zi1_m (fun _ _ => zl1_m (fun _ _ z => hk _ _ _ _ z)) x
    | exact zr1_m (fun _ _ _ _ z => hk _ _ _ _ z) x
    | exact zr1_m (fun _ _ _ _ z => znil_m (hr _ _) z) x
    | exact znil_m (hr _ _) x
    | exact z1c_m (fun _ _ z => hk _ _ _ _ z) x
    | exact z2c_m (fun _ _ _ z => hk _ _ _ _ z) x
    | exact zi1_m (fun _ _ z => ⟨z.1, hk _ _ _ _ z.2⟩) x
    | exact zi2_m (fun _ _ _ z => ⟨z.1, hk _ _ _ _ z.2⟩) x
    | exact zi2_m (fun _ _ _ z => ⟨z.1, fun q => hk _ _ _ _ (z.2.1 q), fun q => hk _ _ _ _ (z.2.2 q)⟩) x
    | exact zi1_m (fun _ _ z => ⟨z.1, fun q => hk _ _ _ _ (z.2.1 q), fun q => hk _ _ _ _ (z.2.2 q)⟩) x
    | exact zi1_m (fun _ _ z => znil_m (fun y => zirt_m (hr _ _) y) z) x
    | exact zi1_m (fun _ _ z => ⟨z.1, zsw_m (fun _ y => hk _ _ _ _ y) _ z.2⟩) x
    | exact zri_m (fun _ _ _ _ _ => zck_m fun z => ⟨z.1, zael_m (fun _ y => hk _ _ _ _ y) z.2⟩) x
    | exact zr1_m (fun _ _ _ _ => zck_m (zget_m fun _ y => hk _ _ _ _ y)) x
    | exact zcall_m hc (fun _ _ z => hk _ _ _ _ z) x
    | exact zvirt_m (fun y => zcall_m hc (fun _ _ z => hk _ _ _ _ z) y) x
    | exact zput_m (fun _ _ z => hk _ _ _ _ z) x
    | exact zald_m (fun _ z => hk _ _ _ _ z) x
    | exact zck_m (zald_m (fun _ z => hk _ _ _ _ z)) x
    | exact zast_m (fun _ _ z => hk _ _ _ _ z) x
    | exact zck_m (zast_m (fun _ _ z => hk _ _ _ _ z)) x
    | exact zlen_m (fun _ z => hk _ _ _ _ z) x
    | exact zldc_m (fun _ z => hk _ _ _ _ z) x
theorem zgo_m {T : Nat → Option xE} {call : zC} {ret ret' : zQ} {X X' : zK} (hc : zcm call) (hr : ∀ r G, ret r G → ret' r G) (hX : ∀ pc ls st G, X pc ls st G → X' pc ls st G) {pc : Nat} {ls st : List zV} {G : zG} (x : zgo T call ret X pc ls st G) : zgo T call ret' X' pc ls st G := by
  unfold zgo at *
  split at x
  · exact x.elim
  · exact zstep_m hc hr hX x
theorem zAt_step {T : Nat → Option xE} {call : zC} {ret : zQ} (hc : zcm call) {pc : Nat} {ls st : List zV} {G : zG} (x : zgo T call ret (zAt T call ret) pc ls st G) : zAt T call ret pc ls st G :=
  fun X hX => hX _ _ _ _ (zgo_m hc (fun _ _ z => z) (fun _ _ _ _ z => z X hX) x)
theorem zAt_m {T : Nat → Option xE} {call : zC} {ret ret' : zQ} (hc : zcm call) (hr : ∀ r G, ret r G → ret' r G) {pc : Nat} {ls st : List zV} {G : zG} (x : zAt T call ret pc ls st G) : zAt T call ret' pc ls st G :=
  x (zAt T call ret') (fun _ _ _ _ z => zAt_step hc (zgo_m hc hr (fun _ _ _ _ y => y) z))
theorem zW_m : ∀ d : Nat, zcm (zW d) := by
  intro d
  induction d with
  | zero => intro i vs G Q Q' hQ x; exact x.elim
  | succ d ih => intro i vs G Q Q' hQ x; exact zck_m (zAt_m ih hQ) x
/-- several steps, up to the places in S -/
def zev (T : Nat → Option xE) (call : zC) (ret : zQ) (S : Nat → Bool) : Nat → zK
  | 0, _, _, _, _ => False
  | n + 1, pc, ls, st, G => match S pc with
    | true => zAt T call ret pc ls st G
    | false => zgo T call ret (zev T call ret S n) pc ls st G
theorem zev_at {T : Nat → Option xE} {call : zC} {ret : zQ} {S : Nat → Bool} (hc : zcm call) : ∀ (n pc : Nat) (ls st : List zV) (G : zG), zev T call ret S n pc ls st G → zAt T call ret pc ls st G := by
  intro n
  induction n with
  | zero => intro pc ls st G x; exact x.elim
  | succ n ih =>
    intro pc ls st G x
    unfold zev at x
    cases hb : S pc with
    | true => rw [hb] at x; exact x
    | false => rw [hb] at x; exact zAt_step hc (zgo_m hc (fun _ _ z => z) ih x)
theorem zrun {T : Nat → Option xE} {d : Nat} {ret : zQ} (S : Nat → Bool) (n : Nat) {pc : Nat} {ls st : List zV} {G : zG} (x : zgo T (zW d) ret (zev T (zW d) ret S n) pc ls st G) : zAt T (zW d) ret pc ls st G :=
  zAt_step (zW_m d) (zgo_m (zW_m d) (fun _ _ z => z) (zev_at (zW_m d) n) x)
