/-! THE PURE MACHINE IS SOUND: what is checked of each instruction, and the whole. -/
def xyL : MethodName := ⟨"java/lang/String", "length", "()I"⟩
def xyC : MethodName := ⟨"java/lang/String", "charAt", "(I)C"⟩
def xisR (t : FieldType) : Bool := match t with
  | .object _ => true
  | .array _ => true
  | _ => false
/-- the call at a place is the table's -/
def xckV (own : String) (n : Nat) (e : xE) : Bool := match e.2.2.1.2.2.1 with
  | 7 => decide (e.2.2.2.2 = [] ∧ e.2.2.1.2.1 = 1 ∧ xlk e.2.2.1.2.2.2 (.methodLink own n xyL) = true)
  | 8 => decide (e.2.2.2.2 = [] ∧ e.2.2.1.2.1 = 2 ∧ xlk e.2.2.1.2.2.2 (.methodLink own n xyC) = true)
  | c => decide ((c = 0 ∨ c = 10 ∨ c = 11 ∨ c = 12) ∧ e.2.2.1.1 < xNM ∧ (xPos e.2.2.1.1).2.2 = false ∧ e.2.2.1.2.1 = (xPos e.2.2.1.1).2.1 + 1 ∧ xlk e.2.2.1.2.2.2 (.methodLink own n (xP e.2.2.1.1).2.1) = true ∧ (xP e.2.2.1.1).2.1.name ≠ "<init>" ∧ e.2.2.2.2 = [(0, xsw2 e 0)] ∧ xsw2 e 0 < 10 ∧ (xcl (xsw2 e 0)).1 = (xP e.2.2.1.1).2.1.cls ∧ (xP e.2.2.1.1).2.2.2.2.2.2.1 = 0)
def xckS (own : String) (n : Nat) (e : xE) : Bool := match e.2.2.1.2.2.1 with
  | 2 => decide (e.2.2.1.2.1 = 2 ∧ xlk e.2.2.1.2.2.2 (.methodLink own n Lib.Math.max.name) = true)
  | 3 => decide (e.2.2.1.2.1 = 2 ∧ xlk e.2.2.1.2.2.2 (.methodLink own n Lib.Math.min.name) = true)
  | 4 => decide (e.2.2.1.2.1 = 1 ∧ xlk e.2.2.1.2.2.2 (.methodLink own n Lib.Math.abs.name) = true)
  | 5 => decide (e.2.2.1.2.1 = 5 ∧ xlk e.2.2.1.2.2.2 (.methodLink own n arraycopyName) = true)
  | c => decide ((c = 0 ∨ c = 10 ∨ c = 11 ∨ c = 12) ∧ e.2.2.1.1 < xNM ∧ (xPos e.2.2.1.1).2.2 = true ∧ e.2.2.1.2.1 = (xPos e.2.2.1.1).2.1 ∧ xlk e.2.2.1.2.2.2 (.methodLink own n (xP e.2.2.1.1).2.1) = true ∧ (xP e.2.2.1.1).2.1.cls = own ∧ (xP e.2.2.1.1).2.2.2.2.2.2.1 = 0)
def xckI (own : String) (n : Nat) (e : xE) : Bool := match e.2.2.1.2.2.1 with
  | 6 => decide (e.2.2.1.2.1 = 1 ∧ xlk e.2.2.1.2.2.2 (.methodLink own n Lib.objectInit) = true)
  | 9 => decide (e.2.2.1.1 < xNM ∧ (xPos e.2.2.1.1).2.2 = false ∧ e.2.2.1.2.1 = (xPos e.2.2.1.1).2.1 + 1 ∧ own = "AsOfPages$View" ∧ n = 40 ∧ (xP e.2.2.1.1).2.1 = xNest ∧ (xP e.2.2.1.1).2.2.2.2.1 = none ∧ (xP e.2.2.1.1).2.2.2.2.2.2.1 = 0)
  | 13 => decide (e.2.2.1.1 < xNM ∧ (xPos e.2.2.1.1).2.2 = false ∧ e.2.2.1.2.1 = (xPos e.2.2.1.1).2.1 + 1 ∧ xlk e.2.2.1.2.2.2 (.methodLink own n (xP e.2.2.1.1).2.1) = true ∧ (xP e.2.2.1.1).2.1.name = "<init>" ∧ (xP e.2.2.1.1).2.2.2.2.1 = none ∧ (xP e.2.2.1.1).2.2.2.2.2.2.1 = xsw2 e 0 ∧ (xP e.2.2.1.1).2.2.2.2.2.2.2 = xsw2 e 1)
  | _ => false
def xckP (own : String) (ini : Bool) (n : Nat) (e : xE) : Bool := decide (e.2.2.1.1 < 10 ∧ e.2.2.1.2.1 < (xcl e.2.2.1.1).2.2 ∧ xlk e.2.2.1.2.2.2 (.fieldLink own n ((xcl e.2.2.1.1).2.1 e.2.2.1.2.1).1 ((xcl e.2.2.1.1).2.1 e.2.2.1.2.1).2.1 ((xcl e.2.2.1.1).2.1 e.2.2.1.2.1).2.2.1) = true) &&
  match e.2.2.1.2.2.1 with
  | 0 => decide (xisI ((xcl e.2.2.1.1).2.1 e.2.2.1.2.1).2.2.1 = true ∧ ((xcl e.2.2.1.1).2.1 e.2.2.1.2.1).2.2.2 = false ∧ xTy e.2.2.1.1 e.2.2.1.2.1 = .int)
  | 2 => decide (xisI ((xcl e.2.2.1.1).2.1 e.2.2.1.2.1).2.2.1 = true ∧ ((xcl e.2.2.1.1).2.1 e.2.2.1.2.1).2.2.2 = false ∧ xTy e.2.2.1.1 e.2.2.1.2.1 = .boolean)
  | 1 => decide (¬ xisI ((xcl e.2.2.1.1).2.1 e.2.2.1.2.1).2.2.1 = true ∧ ((xcl e.2.2.1.1).2.1 e.2.2.1.2.1).2.2.2 = false ∧ xisR (xTy e.2.2.1.1 e.2.2.1.2.1) = true)
  | 11 => decide (¬ xisI ((xcl e.2.2.1.1).2.1 e.2.2.1.2.1).2.2.1 = true ∧ ((xcl e.2.2.1.1).2.1 e.2.2.1.2.1).2.2.2 = true ∧ xisR (xTy e.2.2.1.1 e.2.2.1.2.1) = true ∧ ini = true ∧ ((xcl e.2.2.1.1).2.1 e.2.2.1.2.1).1 = own)
  | _ => false
def xckR (ret : Option FieldType) (a : Nat) : Bool := decide ((ret = some .int) ∨ (ret = some .boolean ∧ a = 12))
def xckA (ret : Option FieldType) : Bool := match ret with
  | some (.object _) => true
  | some (.array _) => true
  | _ => false
def xchk (own : String) (ini : Bool) (nL : Nat) (ret : Option FieldType) (pc : Nat) (e : xE) : Bool := match e.1.1 with
  | .aaload => decide (e.1.2 = 1 ∧ (e.2.2.1.1 = 13 ∨ e.2.2.1.1 = 14))
  | .aastore => decide (e.1.2 = 1 ∧ ((e.2.2.1.1 = 13 ∧ e.2.2.1.2.1 = 0) ∨ (e.2.2.1.1 = 14 ∧ e.2.2.1.2.1 = 3)))
  | .aload _ => decide (e.1.2 = 2)
  | .aload_n _ => decide (e.1.2 = 1)
  | .anewarray n => decide (e.1.2 = 3 ∧ ((xlk e.2.2.1.2.2.2 (.classLink own n "AsOfPages$Archive") = true ∧ e.2.2.1.1 = 13) ∨ (xlk e.2.2.1.2.2.2 (.classLink own n "AsOfPages$Spans") = true ∧ e.2.2.1.1 = 14)))
  | .areturn => decide (e.1.2 = 1 ∧ xckA ret = true)
  | .arraylength => decide (e.1.2 = 1 ∧ ((10 ≤ e.2.2.1.1 ∧ e.2.2.1.1 < 15) ∨ (e.2.2.1.1 = 1 ∧ own = "AsOfPagesLaw")))
  | .astore n => decide (e.1.2 = 2 ∧ n < nL)
  | .astore_n n => decide (e.1.2 = 1 ∧ n.val < nL)
  | .baload => decide (e.1.2 = 1 ∧ (e.2.2.1.1 = 11 ∨ e.2.2.1.1 = 12))
  | .bastore => decide (e.1.2 = 1 ∧ (e.2.2.1.1 = 11 ∨ e.2.2.1.1 = 12))
  | .bipush n => decide (e.1.2 = 2 ∧ (Int8.ofInt n).toInt32 = e.2.2.2.1)
  | .dup => decide (e.1.2 = 1)
  | .dup2 => decide (e.1.2 = 1)
  | .getfield n => decide (e.1.2 = 3 ∧ e.2.2.1.1 < 10 ∧ e.2.2.1.2.1 < (xcl e.2.2.1.1).2.2 ∧ xlk e.2.2.1.2.2.2 (.fieldLink own n ((xcl e.2.2.1.1).2.1 e.2.2.1.2.1).1 ((xcl e.2.2.1.1).2.1 e.2.2.1.2.1).2.1 ((xcl e.2.2.1.1).2.1 e.2.2.1.2.1).2.2.1) = true ∧ (xisI ((xcl e.2.2.1.1).2.1 e.2.2.1.2.1).2.2.1 = true ↔ e.2.2.1.2.2.1 ≠ 1))
  | .goto off => decide (e.1.2 = 3 ∧ (pc : Int) + off = (e.2.2.1.1 : Int))
  | .i2b => decide (e.1.2 = 1)
  | .i2c => decide (e.1.2 = 1)
  | .i2l => decide (e.1.2 = 1)
  | .iadd => decide (e.1.2 = 1)
  | .iaload => decide (e.1.2 = 1 ∧ (e.2.2.1.1 = 0 ∨ (e.2.2.1.1 = 1 ∧ own = "AsOfPagesLaw")))
  | .iand => decide (e.1.2 = 1)
  | .iastore => decide (e.1.2 = 1)
  | .iconst n => decide (e.1.2 = 1 ∧ Int32.ofInt n = e.2.2.2.1)
  | .idiv => decide (e.1.2 = 1)
  | .if_icmp _ off => decide (e.1.2 = 3 ∧ (pc : Int) + off = (e.2.2.1.1 : Int))
  | .ifCond _ off => decide (e.1.2 = 3 ∧ (pc : Int) + off = (e.2.2.1.1 : Int))
  | .iinc n z => decide (e.1.2 = 3 ∧ Int32.ofInt z = e.2.2.2.1 ∧ n < nL)
  | .iload _ => decide (e.1.2 = 2)
  | .iload_n _ => decide (e.1.2 = 1)
  | .imul => decide (e.1.2 = 1)
  | .invokespecial n => decide (e.1.2 = 3) && xckI own n e
  | .invokestatic n => decide (e.1.2 = 3) && xckS own n e
  | .invokevirtual n => decide (e.1.2 = 3) && xckV own n e
  | .ior => decide (e.1.2 = 1)
  | .irem => decide (e.1.2 = 1)
  | .ireturn => decide (e.1.2 = 1 ∧ xckR ret e.2.2.1.1 = true)
  | .ishl => decide (e.1.2 = 1)
  | .ishr => decide (e.1.2 = 1)
  | .istore n => decide (e.1.2 = 2 ∧ n < nL)
  | .istore_n n => decide (e.1.2 = 1 ∧ n.val < nL)
  | .isub => decide (e.1.2 = 1)
  | .ixor => decide (e.1.2 = 1)
  | .lcmp => decide (e.1.2 = 1)
  | .lconst _ => decide (e.1.2 = 1)
  | .ldc n => decide (e.1.2 = 2 ∧ ((e.2.2.1.2.2.1 = 1 ∧ (own, n, e.2.2.1.1) ∈ xskT) ∨ (¬ e.2.2.1.2.2.1 = 1 ∧ xlk e.2.2.1.2.2.2 (.constant own n e.2.2.2.1) = true)))
  | .ldc_w n => decide (e.1.2 = 3 ∧ ((e.2.2.1.2.2.1 = 1 ∧ (own, n, e.2.2.1.1) ∈ xskT) ∨ (¬ e.2.2.1.2.2.1 = 1 ∧ xlk e.2.2.1.2.2.2 (.constant own n e.2.2.2.1) = true)))
  | .ldc2_w n => decide (e.1.2 = 3 ∧ xlk e.2.2.1.2.2.2 (.constantLong own n e.2.2.2.1.toInt64) = true)
  | .lload _ => decide (e.1.2 = 2)
  | .lload_n _ => decide (e.1.2 = 1)
  | .lookupswitch dflt ps => decide ((pc : Int) + dflt = (e.2.2.1.1 : Int) ∧ (∀ q ∈ ps.toList, -1000 ≤ q.1 ∧ q.1 ≤ 1000 ∧ 0 ≤ (pc : Int) + q.2) ∧ (ps.toList.zip (ps.toList.drop 1)).all (fun (a, next) => a.1 < next.1) = true ∧ e.2.2.2.2 = xlb pc ps.toList)
  | .lor => decide (e.1.2 = 1)
  | .lreturn => decide (e.1.2 = 1 ∧ ret = some .long)
  | .lshl => decide (e.1.2 = 1)
  | .lstore n => decide (e.1.2 = 2 ∧ n + 1 < nL)
  | .lstore_n n => decide (e.1.2 = 1 ∧ n.val + 1 < nL)
  | .new n => decide (e.1.2 = 3 ∧ e.2.2.1.1 < 10 ∧ xlk e.2.2.1.2.2.2 (.classLink own n (xcl e.2.2.1.1).1) = true)
  | .newarray ty => decide (e.1.2 = 2 ∧ ((ty = .int ∧ e.2.2.1.1 = 10) ∨ (ty = .byte ∧ e.2.2.1.1 = 11) ∨ (ty = .boolean ∧ e.2.2.1.1 = 12)) ∧ xlk e.2.2.1.2.2.2 (.arrayClass (newarray.typeOf ty)) = true)
  | .pop => decide (e.1.2 = 1)
  | .putfield n => decide (e.1.2 = 3) && xckP own ini n e
  | .return_ => decide (e.1.2 = 1 ∧ ret = none)
  | .sipush n => decide (e.1.2 = 3 ∧ (Int16.ofInt n).toInt32 = e.2.2.2.1)
  | .tableswitch dflt lo hi offs => decide ((pc : Int) + dflt = (e.2.2.1.1 : Int) ∧ (-1000 ≤ lo ∧ hi ≤ 1000 ∧ hi + 1 = lo + offs.size) ∧ (∀ o ∈ offs.toList, 0 ≤ (pc : Int) + o) ∧ e.2.2.2.2 = xtb lo pc e.2.2.1.1 offs.toList 0)
  | _ => false
def xckM (M : xMe) (last : Nat) : Bool := (List.range last).all fun pc => match M.2.2.2.2.2.1 pc with
  | none => true
  | some e => decide (decode M.2.2.1 pc = .ok e.1) && xchk M.1 (decide (M.2.1.name = "<init>")) M.2.2.2.1 M.2.2.2.2.1 pc e
/-- a method's own words -/
def xckW (M : xMe) (ps : (Nat × Nat × Nat × Nat) × Nat × Bool) : Bool :=
  xlk ps.1.1 (.code M.2.1 M.2.2.1 M.2.2.2.1 M.2.2.2.2.1) && xlk ps.1.2.2.2 (.initialized M.2.1.cls) && (match ps.2.2 with | true => xlk ps.1.2.1 (.static M.2.1) | false => xlk ps.1.2.1 (.instanceMethod M.2.1) && (decide (M.2.1.name = "<init>") || xlk ps.1.2.2.1 (.selects M.2.1.cls M.2.1 M.2.1))) &&
  decide ((M.2.1.cls ≠ "java/lang/invoke/MethodHandle" ∧ M.2.1.cls ≠ "java/lang/invoke/VarHandle" ∧ (parseMethodDescriptor M.2.1.desc).map (fun d => d.parameters.length) = some ps.2.1) ∧ M.2.2.2.1 ≤ 40 ∧ plainName M.2.1.cls = true ∧ (M.2.2.2.2.2.2.1 = 0 → M.2.2.2.2.2.2.2 = 0) ∧ M.1 = M.2.1.cls ∧ M.1 ≠ "AsOfPagesLaw")
def xckN (i : Nat) : Bool := xckW (xP i) (xPos i) && xckM (xP i) (xLast i) && decide ((xP i).2.2.2.2.2.1 (xLast i) = none)
def xrng (a n : Nat) : List Nat := (List.range n).map fun k => a + k
