/-! THE PURE MACHINE IS SOUND: every instruction; methods; contracts. -/
section XT
variable {p : Program} {l : Launch} {e : Env} {R : Room} {s : State} {m : MethodId} {args : Array Value} {below : List Frame} {meth : Method} {c : Code} {Q : State → Prop} {cc : ByteArray} {nL n0 lim b : Nat} {D : va_G} {cy : Nat → ClassId} {r : Nat → Nat} {own : String} {pc : Nat} {ls st : List Value} {h : xM}
variable {XX : State → Heap → Prop} {d : Nat} {call : Nat → List Value → xM → (Option Value → xM → Prop) → Prop} {ret : Option Value → xM → Prop} {rt : Option FieldType} {ini : Bool}
theorem xi1_of {st : List Value} {f : Int32 → List Value → Prop} (x : xi1 st f) : ∃ (a : Int32) (t : List Value), st = .int a :: t ∧ f a t := by
  unfold xi1 at x
  split at x
  · exact ⟨_, _, rfl, x⟩
  · exact x.elim
theorem xl1_of {st : List Value} {f : Int64 → List Value → Prop} (x : xl1 st f) : ∃ (a : Int64) (t : List Value), st = .long a :: t ∧ f a t := by
  unfold xl1 at x
  split at x
  · exact ⟨_, _, rfl, x⟩
  · exact x.elim
/-- how a method ends -/
def xEnd (W1 : Heap → List Loc → xM → JFrame → Prop) (HD : xM → Heap → List Loc → Prop) (cc : ByteArray) (m : MethodId) (r : Nat → Nat) (rt : Option FieldType) (ret : Option Value → xM → Prop) : Prop :=
  (∀ (x : Int32) (h : xM), ret (some (.int x)) h → (rt = some .int ∨ (rt = some .boolean ∧ x &&& 1 = x)) → ∀ (pc : Nat) (H : Heap) (locs : List Loc) (la : Array Slot), HD h H locs → decode cc pc = .ok (.ireturn, 1) → W1 H locs h (F0 m pc la [.int x])) ∧
  (∀ (x : Int64) (h : xM), ret (some (.long x)) h → rt = some .long → ∀ (pc : Nat) (H : Heap) (locs : List Loc) (la : Array Slot), HD h H locs → decode cc pc = .ok (.lreturn, 1) → W1 H locs h (F0 m pc la [.long x])) ∧
  (∀ (q : Nat) (h : xM), ret (some (.ref q)) h → (q < h.2.2 ∨ 1000 ≤ q) → xckA rt = true → ∀ (pc : Nat) (H : Heap) (locs : List Loc) (la : Array Slot), HD h H locs → decode cc pc = .ok (.areturn, 1) → W1 H locs h (F0 m pc la [.ref (r q)])) ∧
  (∀ (h : xM), ret none h → rt = none → ∀ (pc : Nat) (H : Heap) (locs : List Loc) (la : Array Slot), HD h H locs → decode cc pc = .ok (.return_, 1) → W1 H locs h (F0 m pc la []))
theorem xisR_ok {t : FieldType} (h : xisR t = true) : ∀ k : Nat, narrow t (.ref k) = .ref k ∧ fits t (.ref k) = true := by
  intro k
  unfold xisR at h
  split at h
  · exact ⟨rfl, rfl⟩
  · exact ⟨rfl, rfl⟩
  · cases h
/-- a text, by the wide instruction -/
theorem xldcwS (F : xFx p s m args c cc nL own D cy r b n0) {H : Heap} {locs : List Loc} {la : Array Slot} {rest : List Value} {cells slots n q : Nat} {tx : String} (hZ : vk_R own n tx q s) (hdg : decode cc pc = .ok (.ldc_w n, 3)) (k : W p l e R s m args below meth c H locs cells slots Q (F0 m (pc + 3) la (.ref q :: rest))) : W p l e R s m args below meth c H locs cells slots Q (F0 m pc la rest) := by
  intro T hT X
  obtain ⟨t, a1, b1⟩ := k T hT X
  exact ⟨t, X.ldcStringW F.1 F.2.2.2.1 (text := tx) (a := q) hZ.1 hZ.2 (g := F0 m pc la rest) rfl (by rw [F.2.1]; exact hdg) t a1, b1⟩
set_option maxHeartbeats 4000000 in
set_option maxRecDepth 10000 in
theorem xsound1 (hX : xXok l b r XX) (F : xFx p s m args c cc nL own D cy r b n0) (hXs : XX s s.heap) (hall : ∀ i, i < xNM → xckN i = true) (hR : d + 5 ≤ R.frames ∧ 64 * d + 320 ≤ R.locals ∧ lim - n0 ≤ R.cells ∧ xS lim - xS n0 ≤ R.slots) (hR4 : 4 ≤ R.frames ∧ 128 ≤ R.locals) (hcall : ∀ (j : Nat) (vs : List Value) (h : xM) (Qp : Option Value → xM → Prop), j < xNM → call j vs h Qp → xCon l (xP j) d vs h Qp)
    (hscr : own = "AsOfPagesLaw" → ∃ (sb L : Nat) (xs : Nat → Int32), r 1500 = sb ∧ va_X sb L xs s s.heap ∧ sb < s.heap.size ∧ sb < b ∧ (∀ (i : Int32) (h : xM) (Qp : Option Value → xM → Prop), call 999 [.int i] h Qp → vp_in i L ∧ Qp (some (.int (xs i.toNatClampNeg))) h) ∧ (∀ (h : xM) (Qp : Option Value → xM → Prop), call 998 [] h Qp → Qp (some (.int (Int32.ofNat L))) h))
    (hini : ini = true → meth.name = "<init>") (hend : xEnd (fun H locs h g => W p l e R s m args below meth c H locs (h.2.2 - n0) (xS h.2.2 - xS n0) Q g) (fun h H locs => xHd D cy r b n0 lim s h H locs) cc m r rt ret)
    {en : xE} (hdg : decode cc pc = .ok en.1) (hk : xchk own ini nL rt pc en = true) (hs : xstep en pc ls st h call ret lim (fun pc ls st h => xSim p l e R s m args below meth c Q nL n0 lim b D cy r pc ls st h)) : xSim p l e R s m args below meth c Q nL n0 lim b D cy r pc ls st h := by
  obtain ⟨⟨ins, len⟩, cu, ⟨a, b2, c2, d2⟩, v, sw⟩ := en
  replace hdg : decode cc pc = .ok (ins, len) := hdg
  cases ins
  case i2b =>
    obtain rfl : len = 1 := of_decide_eq_true hk
    exact xq_i2b F hdg hs
  case i2c =>
    obtain rfl : len = 1 := of_decide_eq_true hk
    exact xq_i2c F hdg hs
  case i2l =>
    obtain rfl : len = 1 := of_decide_eq_true hk
    exact xq_i2l F hdg hs
  case iadd =>
    obtain rfl : len = 1 := of_decide_eq_true hk
    exact xq_iadd F hdg hs
  case iand =>
    obtain rfl : len = 1 := of_decide_eq_true hk
    exact xq_iand F hdg hs
  case idiv =>
    obtain rfl : len = 1 := of_decide_eq_true hk
    exact xq_idiv F hdg hs
  case imul =>
    obtain rfl : len = 1 := of_decide_eq_true hk
    exact xq_imul F hdg hs
  case ior =>
    obtain rfl : len = 1 := of_decide_eq_true hk
    exact xq_ior F hdg hs
  case irem =>
    obtain rfl : len = 1 := of_decide_eq_true hk
    exact xq_irem F hdg hs
  case ishl =>
    obtain rfl : len = 1 := of_decide_eq_true hk
    exact xq_ishl F hdg hs
  case ishr =>
    obtain rfl : len = 1 := of_decide_eq_true hk
    exact xq_ishr F hdg hs
  case isub =>
    obtain rfl : len = 1 := of_decide_eq_true hk
    exact xq_isub F hdg hs
  case ixor =>
    obtain rfl : len = 1 := of_decide_eq_true hk
    exact xq_ixor F hdg hs
  case lcmp =>
    obtain rfl : len = 1 := of_decide_eq_true hk
    exact xq_lcmp F hdg hs
  case lor =>
    obtain rfl : len = 1 := of_decide_eq_true hk
    exact xq_lor F hdg hs
  case lshl =>
    obtain rfl : len = 1 := of_decide_eq_true hk
    exact xq_lshl F hdg hs
  case dup =>
    obtain rfl : len = 1 := of_decide_eq_true hk
    exact xq_dup F hdg hs
  case dup2 =>
    obtain rfl : len = 1 := of_decide_eq_true hk
    exact xq_dup2 F hdg hs
  case pop =>
    obtain rfl : len = 1 := of_decide_eq_true hk
    exact xq_pop F hdg hs
  case iastore =>
    obtain rfl : len = 1 := of_decide_eq_true hk
    exact xq_iast F hdg hs
  case aload n =>
    obtain rfl : len = 2 := of_decide_eq_true hk
    exact xq_aload F hdg hs
  case aload_n n =>
    obtain rfl : len = 1 := of_decide_eq_true hk
    exact xq_aload_n F hdg hs
  case iload n =>
    obtain rfl : len = 2 := of_decide_eq_true hk
    exact xq_iload F hdg hs
  case iload_n n =>
    obtain rfl : len = 1 := of_decide_eq_true hk
    exact xq_iload_n F hdg hs
  case lload n =>
    obtain rfl : len = 2 := of_decide_eq_true hk
    exact xq_lload F hdg hs
  case lload_n n =>
    obtain rfl : len = 1 := of_decide_eq_true hk
    exact xq_lload_n F hdg hs
  case astore n =>
    obtain ⟨k1, k2⟩ := of_decide_eq_true hk
    obtain rfl : len = 2 := k1
    exact xq_astore F hdg k2 hs
  case astore_n n =>
    obtain ⟨k1, k2⟩ := of_decide_eq_true hk
    obtain rfl : len = 1 := k1
    exact xq_astore_n F hdg k2 hs
  case istore n =>
    obtain ⟨k1, k2⟩ := of_decide_eq_true hk
    obtain rfl : len = 2 := k1
    exact xq_istore F hdg k2 hs
  case istore_n n =>
    obtain ⟨k1, k2⟩ := of_decide_eq_true hk
    obtain rfl : len = 1 := k1
    exact xq_istore_n F hdg k2 hs
  case lstore n =>
    obtain ⟨k1, k2⟩ := of_decide_eq_true hk
    obtain rfl : len = 2 := k1
    exact xq_lstore F hdg k2 hs
  case lstore_n n =>
    obtain ⟨k1, k2⟩ := of_decide_eq_true hk
    obtain rfl : len = 1 := k1
    exact xq_lstore_n F hdg k2 hs
  case lconst n =>
    obtain rfl : len = 1 := of_decide_eq_true hk
    exact xq_lconst F hdg hs
  case iconst n =>
    obtain ⟨k1, k2⟩ := of_decide_eq_true hk
    obtain rfl : len = 1 := k1
    exact xq_iconst F hdg k2 hs
  case bipush n =>
    obtain ⟨k1, k2⟩ := of_decide_eq_true hk
    obtain rfl : len = 2 := k1
    exact xq_bipush F hdg k2 hs
  case sipush n =>
    obtain ⟨k1, k2⟩ := of_decide_eq_true hk
    obtain rfl : len = 3 := k1
    exact xq_sipush F hdg k2 hs
  case iinc n z =>
    obtain ⟨k1, k2, k3⟩ := of_decide_eq_true hk
    obtain rfl : len = 3 := k1
    exact xq_iinc F hdg k2 k3 hs
  case goto off =>
    obtain ⟨k1, k2⟩ := of_decide_eq_true hk
    obtain rfl : len = 3 := k1
    exact xq_goto F hdg k2 hs
  case if_icmp cd off =>
    obtain ⟨k1, k2⟩ := of_decide_eq_true hk
    obtain rfl : len = 3 := k1
    exact xq_icmp F hdg k2 hs
  case ifCond cd off =>
    obtain ⟨k1, k2⟩ := of_decide_eq_true hk
    obtain rfl : len = 3 := k1
    exact xq_if F hdg k2 hs
  case aaload =>
    obtain ⟨k1, k2⟩ := of_decide_eq_true hk
    obtain rfl : len = 1 := k1
    exact xq_aald F k2 hdg hs
  case aastore =>
    obtain ⟨k1, k2⟩ := of_decide_eq_true hk
    obtain rfl : len = 1 := k1
    exact xq_aast F k2 hdg hs
  case baload =>
    obtain ⟨k1, k2⟩ := of_decide_eq_true hk
    obtain rfl : len = 1 := k1
    exact xq_bald F k2 hdg hs
  case bastore =>
    obtain ⟨k1, k2⟩ := of_decide_eq_true hk
    obtain rfl : len = 1 := k1
    exact xq_bast F k2 hdg hs
  case arraylength =>
    obtain ⟨k1, k2⟩ := of_decide_eq_true hk
    obtain rfl : len = 1 := k1
    rcases k2 with ⟨k2, k3⟩ | ⟨k2, k3⟩
    · have hs : xlen ((Instr.arraylength, 1), cu, (a, b2, c2, d2), v, sw) st h call (fun t => xSim p l e R s m args below meth c Q nL n0 lim b D cy r (pc + 1) ls t h) := hs
      have k2 : 10 ≤ a := k2
      refine xq_alen F k2 k3 hdg ?_
      unfold xlen at hs
      split at hs
      · rename_i e1; have e1 : a = 1 := e1; omega
      · exact hs
    · have k2 : a = 1 := k2
      subst k2
      obtain ⟨sb, L, xs, y1, y2, y3, y4, y5, y6⟩ := hscr k3
      have hs : xr1 st fun q t => q = 1500 ∧ call 998 [] h fun rr _ => xrI rr fun x => xSim p l e R s m args below meth c Q nL n0 lim b D cy r (pc + 1) ls (.int x :: t) h := hs
      obtain ⟨q, t, rfl, rfl, hs2⟩ := xr1_of hs
      intro H locs la hH hl hv1 hw
      show W p l e R s m args below meth c H locs _ _ Q (F0 m pc la (.ref (r 1500) :: t.map (xlv r)))
      rw [y1]
      exact va_slen F.1 F.2.1 y2 y3 (show ¬ xA b sb from Nat.not_le.mpr y4) hH.2.2.2.1 hdg (y6 h _ hs2 H locs la hH hl hv1 (xVs_i (xVs_t hw)))
  case iaload =>
    obtain ⟨k1, k2⟩ := of_decide_eq_true hk
    obtain rfl : len = 1 := k1
    rcases k2 with k2 | ⟨k2, k3⟩
    · have k2 : a = 0 := k2
      subst k2
      exact xq_iald F hdg hs
    · have k2 : a = 1 := k2
      subst k2
      obtain ⟨sb, L, xs, y1, y2, y3, y4, y5, y6⟩ := hscr k3
      have hs : xri st fun q i t => q = 1500 ∧ call 999 [.int i] h fun rr _ => xrI rr fun x => xSim p l e R s m args below meth c Q nL n0 lim b D cy r (pc + 1) ls (.int x :: t) h := hs
      obtain ⟨q, i, t, rfl, rfl, hs2⟩ := xri_of hs
      intro H locs la hH hl hv1 hw
      show W p l e R s m args below meth c H locs _ _ Q (F0 m pc la (.int i :: .ref (r 1500) :: t.map (xlv r)))
      rw [y1]
      obtain ⟨g1, g2⟩ := y5 i h _ hs2
      exact va_sld F.1 F.2.1 y2 y3 (show ¬ xA b sb from Nat.not_le.mpr y4) hH.2.2.2.1 g1 hdg (g2 H locs la hH hl hv1 (xVs_i (xVs_t (xVs_t hw))))
  case anewarray n =>
    obtain ⟨k1, k2⟩ := of_decide_eq_true hk
    obtain rfl : len = 3 := k1
    obtain ⟨-, a1, a2⟩ := hX.2.2.2.1 s s.heap hXs
    rcases k2 with ⟨k2, k3⟩ | ⟨k2, k3⟩
    · exact xq_anew F hR.2.2 hdg (Or.inl ⟨rfl, k3⟩) k2 a1 hs
    · exact xq_anew F hR.2.2 hdg (Or.inr ⟨rfl, k3⟩) k2 a2 hs
  case newarray ty =>
    obtain ⟨k1, k2, k3⟩ := of_decide_eq_true hk
    obtain rfl : len = 2 := k1
    exact xq_newa F hR.2.2 hdg k2 k3 hs
  case new n =>
    obtain ⟨k1, k2, k3⟩ := of_decide_eq_true hk
    obtain rfl : len = 3 := k1
    exact xq_new (d2 := 0) (d3 := 0) F hR.2.2 hdg k2 k3 (xinst_all a k2).1 (xinst_all a k2).2 hs
  case getfield n =>
    obtain ⟨k1, k2, k3, k4, k5⟩ := of_decide_eq_true hk
    obtain rfl : len = 3 := k1
    have k5 : xisI ((xcl a).2.1 b2).2.2.1 = true ↔ c2 ≠ 1 := k5
    by_cases e1 : c2 = 1
    · subst e1
      exact xq_getR (k := 0) F hdg k2 k3 k4 (fun z => k5.mp z rfl) hs
    · refine xq_get (k := 0) F hdg k2 k3 k4 (k5.mpr e1) (xr1_m (fun q t z => ⟨z.1, ?_⟩) hs)
      have z2 := z.2
      unfold xget at z2
      split at z2
      · rename_i q1; exact absurd q1 e1
      · exact z2
  case putfield n =>
    rw [show xchk own ini nL rt pc ((Instr.putfield n, len), cu, (a, b2, c2, d2), v, sw) = (decide (len = 3) && xckP own ini n ((Instr.putfield n, len), cu, (a, b2, c2, d2), v, sw)) from rfl, Bool.and_eq_true] at hk
    obtain rfl : len = 3 := of_decide_eq_true hk.1
    have hk := hk.2
    unfold xckP at hk
    rw [Bool.and_eq_true] at hk
    obtain ⟨k2, k3, k4⟩ := of_decide_eq_true hk.1
    have hk := hk.2
    have hs : xput ((Instr.putfield n, 3), cu, (a, b2, c2, d2), v, sw) st h (fun t h' => xSim p l e R s m args below meth c Q nL n0 lim b D cy r (pc + 3) ls t h') := hs
    unfold xput at hs
    split at hk
    · rename_i e1
      obtain ⟨g1, g2, g3⟩ := of_decide_eq_true hk
      rw [e1] at hs
      exact xq_put F hdg k2 k3 k4 g1 g2 (P := fun _ => True) (fun w _ => by rw [show xTy a b2 = .int from g3]; exact ⟨rfl, rfl⟩) (xiv_m (fun _ _ _ z => ⟨z.1, trivial, z.2⟩) hs)
    · rename_i e1
      obtain ⟨g1, g2, g3⟩ := of_decide_eq_true hk
      rw [e1] at hs
      exact xq_put F hdg k2 k3 k4 g1 g2 (P := fun w => w = 0 ∨ w = 1) (fun w hw => by rw [show xTy a b2 = .boolean from g3]; rcases hw with rfl | rfl <;> exact ⟨rfl, rfl⟩) hs
    · rename_i e1
      obtain ⟨g1, g2, g3⟩ := of_decide_eq_true hk
      rw [e1] at hs
      exact xq_putR F hdg k2 k3 k4 g1 (Or.inl g2) (xisR_ok g3) hs
    · rename_i e1
      obtain ⟨g1, g2, g3, g4, g5⟩ := of_decide_eq_true hk
      rw [e1] at hs
      exact xq_putR F hdg k2 k3 k4 g1 (Or.inr ⟨hini g4, g5, g2⟩) (xisR_ok g3) hs
    · cases hk
  case ldc n =>
    obtain ⟨k1, k2⟩ := of_decide_eq_true hk
    obtain rfl : len = 2 := k1
    have hs : xldc ((Instr.ldc n, 2), cu, (a, b2, c2, d2), v, sw) st (fun t => xSim p l e R s m args below meth c Q nL n0 lim b D cy r (pc + 2) ls t h) := hs
    rcases k2 with ⟨g1, g2⟩ | ⟨g1, g2⟩
    · have g1 : c2 = 1 := g1
      subst g1
      exact fun H locs la hH hl hv1 hw => va_ldcS F.1 F.2.1 F.2.2.2.1 (hX.2.2.2.2.1 s s.heap hXs own n a g2) hdg (hs H locs la hH hl hv1 (xVs_r (Or.inr (Nat.le_add_right _ _)) hw))
    · have hs : xSim p l e R s m args below meth c Q nL n0 lim b D cy r (pc + 2) ls (.int v :: st) h := by
        unfold xldc at hs
        split at hs
        · rename_i q1; exact absurd q1 g1
        · exact hs
      exact xq_ldcI F hdg g2 hs
  case ldc_w n =>
    obtain ⟨k1, k2⟩ := of_decide_eq_true hk
    obtain rfl : len = 3 := k1
    have hs : xldc ((Instr.ldc_w n, 3), cu, (a, b2, c2, d2), v, sw) st (fun t => xSim p l e R s m args below meth c Q nL n0 lim b D cy r (pc + 3) ls t h) := hs
    rcases k2 with ⟨g1, g2⟩ | ⟨g1, g2⟩
    · have g1 : c2 = 1 := g1
      subst g1
      exact fun H locs la hH hl hv1 hw => xldcwS F (hX.2.2.2.2.1 s s.heap hXs own n a g2) hdg (hs H locs la hH hl hv1 (xVs_r (Or.inr (Nat.le_add_right _ _)) hw))
    · have hs : xSim p l e R s m args below meth c Q nL n0 lim b D cy r (pc + 3) ls (.int v :: st) h := by
        unfold xldc at hs
        split at hs
        · rename_i q1; exact absurd q1 g1
        · exact hs
      exact xq_ldcwI F hdg g2 hs
  case ldc2_w n =>
    obtain ⟨k1, k2⟩ := of_decide_eq_true hk
    obtain rfl : len = 3 := k1
    exact xq_ldc2 F hdg k2 hs
  case lookupswitch dflt ps =>
    obtain ⟨k1, k2, k3, k4⟩ := of_decide_eq_true hk
    exact xq_look F hdg k1 k2 k3 k4 hs
  case tableswitch dflt lo hi offs =>
    obtain ⟨k1, k2, k3, k4⟩ := of_decide_eq_true hk
    exact xq_table F hdg k1 k2 k3 k4 hs
  case invokespecial n =>
    rw [show xchk own ini nL rt pc ((Instr.invokespecial n, len), cu, (a, b2, c2, d2), v, sw) = (decide (len = 3) && xckI own n ((Instr.invokespecial n, len), cu, (a, b2, c2, d2), v, sw)) from rfl, Bool.and_eq_true] at hk
    obtain rfl : len = 3 := of_decide_eq_true hk.1
    exact xsound_I hX F hXs hall hR hR4 hcall hdg hk.2 hs
  case invokestatic n =>
    rw [show xchk own ini nL rt pc ((Instr.invokestatic n, len), cu, (a, b2, c2, d2), v, sw) = (decide (len = 3) && xckS own n ((Instr.invokestatic n, len), cu, (a, b2, c2, d2), v, sw)) from rfl, Bool.and_eq_true] at hk
    obtain rfl : len = 3 := of_decide_eq_true hk.1
    exact xsound_S hX F hXs hall hR hR4 hcall hdg hk.2 hs
  case invokevirtual n =>
    rw [show xchk own ini nL rt pc ((Instr.invokevirtual n, len), cu, (a, b2, c2, d2), v, sw) = (decide (len = 3) && xckV own n ((Instr.invokevirtual n, len), cu, (a, b2, c2, d2), v, sw)) from rfl, Bool.and_eq_true] at hk
    obtain rfl : len = 3 := of_decide_eq_true hk.1
    exact xsound_V hX F hXs hall hR hR4 hcall hdg hk.2 hs
  case ireturn =>
    obtain ⟨k1, k2⟩ := of_decide_eq_true hk
    obtain rfl : len = 1 := k1
    obtain ⟨x, t, rfl, hs⟩ := xi1_of hs
    obtain ⟨rfl, hs⟩ := xnil_of hs
    intro H locs la hH hl hv1 hw
    have k2 := of_decide_eq_true k2
    have hs : xirt a x (ret (some (.int x)) h) := hs
    unfold xirt at hs
    split at hs
    · exact hend.1 x h hs.2 (by rcases k2 with z | z; exact Or.inl z; exact Or.inr ⟨z.1, hs.1⟩) pc H locs la hH hdg
    · rename_i ne
      exact hend.1 x h hs (by rcases k2 with z | z; exact Or.inl z; exact absurd z.2 ne) pc H locs la hH hdg
  case lreturn =>
    obtain ⟨k1, k2⟩ := of_decide_eq_true hk
    obtain rfl : len = 1 := k1
    obtain ⟨x, t, rfl, hs⟩ := xl1_of hs
    obtain ⟨rfl, hs⟩ := xnil_of hs
    intro H locs la hH hl hv1 hw
    exact hend.2.1 x h hs k2 pc H locs la hH hdg
  case areturn =>
    obtain ⟨k1, k2⟩ := of_decide_eq_true hk
    obtain rfl : len = 1 := k1
    obtain ⟨x, t, rfl, hs⟩ := xr1_of hs
    obtain ⟨rfl, hs⟩ := xnil_of hs
    intro H locs la hH hl hv1 hw
    exact hend.2.2.1 x h hs (xVs_h hw) k2 pc H locs la hH hdg
  case return_ =>
    obtain ⟨k1, k2⟩ := of_decide_eq_true hk
    obtain rfl : len = 1 := k1
    obtain ⟨rfl, hs⟩ := xnil_of hs
    intro H locs la hH hl hv1 hw
    exact hend.2.2.2 h hs k2 pc H locs la hH hdg
  all_goals exact hs.elim
end XT
