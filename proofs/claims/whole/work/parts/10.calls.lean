/-! THE PURE MACHINE IS SOUND: contracts and calls. -/
def xPre (D : va_G) (cy : Nat → ClassId) (r : Nat → Nat) (b : Nat) (XX : State → Heap → Prop) (h : xM) (U : State) : Prop :=
  U.heap.size = b + h.2.2 ∧ (∀ j, j < h.2.2 → va_at D vwCl (b + j, xcell cy r h j) U.heap) ∧ xvh h ∧ h.2.2 ≤ xNK ∧ va_K D vwCl (xtys cy) U ∧ XX U U.heap
def xPost (D : va_G) (cy : Nat → ClassId) (r : Nat → Nat) (b n1 : Nat) (Qp : Option Value → xM → Prop) : Array Value → State → Outcome → State → Prop := fun _ st oc t =>
  (∃ (rv : Option Value) (h' : xM), Qp rv h' ∧ oc = .returned (rv.map (xlv r)) ∧ t.heap.size = b + h'.2.2 ∧ (∀ j, j < h'.2.2 → va_at D vwCl (b + j, xcell cy r h' j) t.heap) ∧ xvh h' ∧ h'.2.2 = n1 ∧ ∀ k : Nat, rv = some (.ref k) → k < h'.2.2 ∨ 1000 ≤ k) ∧ va_F (xA b) st t
def xws (M : xMe) : List Cond := .code M.2.1 M.2.2.1 M.2.2.2.1 M.2.2.2.2.1 :: xG
def xrm (d : Nat) (M : xMe) : Room := { frames := d + 4, cells := M.2.2.2.2.2.2.1, slots := M.2.2.2.2.2.2.2, locals := 64 * d + 256 }
def xNest : MethodName := ⟨"AsOfPages$Spans", "<init>", "()V"⟩
/-- what is known besides the tables' words, and kept: the nest's link, the rows of refs, the texts -/
def xXok (l : Launch) (b : Nat) (r : Nat → Nat) (XX : State → Heap → Prop) : Prop :=
  (∀ (s U : State) (H : Heap), s.WarmedH U.vm → XX s H → XX U H) ∧
  (∀ (U : State) (g : JFrame) (mk : MethodId) (a : Array Value) (H : Heap), XX U H → XX (U.calling g mk a) H) ∧
  (∀ (s : State) (H H1 : Heap), (∀ q : Nat, q < H.size → ¬ b ≤ q → H1[q]? = H[q]?) → XX s H → XX s H1) ∧
  (∀ (s : State) (H : Heap), XX s H → va_Nw (.methodLinkNest "AsOfPages$View" 40 xNest "AsOfPages") s ∧ va_AO "AsOfPages$Archive" s ∧ va_AO "AsOfPages$Spans" s) ∧
  (∀ (s : State) (H : Heap), XX s H → ∀ (own : String) (k i : Nat), (own, k, i) ∈ xskT → vk_R own k (xskN.getD i "") (r (1000 + i)) s) ∧
  (∀ (p : Program) (e : Env) (R : Room) (s : State) (m : MethodId) (args : Array Value) (below : List Frame) (meth : Method) (c : Code) (H : Heap) (locs : List Loc) (cells slots : Nat) (Q : State → Prop) (cc : ByteArray) (pc : Nat) (la : Array Slot) (rest : List Value) (own : String) (n i : Nat),
    p.tables.exec = Jvm.exec → c.code = cc → c.maxLocals = la.size → s.vm.findClass own = some m.cls → (∀ w ∈ xG, w.before args s = true) → (Cond.methodLink own n ⟨"java/lang/String", "length", "()I"⟩).before args s = true → XX s H → i < xtxt.length → 4 ≤ R.frames → 128 ≤ R.locals → cells ≤ R.cells → slots ≤ R.slots → (rest.map fun v => v.category).sum ≤ 8 → decode cc pc = .ok (.invokevirtual n, 3) →
    W p l e R s m args below meth c H locs cells slots Q (F0 m (pc + 3) la (.int (nI (xtxt.getD i []).length) :: rest)) → W p l e R s m args below meth c H locs cells slots Q (F0 m pc la (.ref (r (1000 + i)) :: rest))) ∧
  (∀ (p : Program) (e : Env) (R : Room) (s : State) (m : MethodId) (args : Array Value) (below : List Frame) (meth : Method) (c : Code) (H : Heap) (locs : List Loc) (cells slots : Nat) (Q : State → Prop) (cc : ByteArray) (pc : Nat) (la : Array Slot) (rest : List Value) (own : String) (n i : Nat) (j : Int32),
    p.tables.exec = Jvm.exec → c.code = cc → c.maxLocals = la.size → s.vm.findClass own = some m.cls → (∀ w ∈ xG, w.before args s = true) → (Cond.methodLink own n ⟨"java/lang/String", "charAt", "(I)C"⟩).before args s = true → XX s H → i < xtxt.length → vp_in j (xtxt.getD i []).length → 4 ≤ R.frames → 128 ≤ R.locals → cells ≤ R.cells → slots ≤ R.slots → (rest.map fun v => v.category).sum ≤ 8 → decode cc pc = .ok (.invokevirtual n, 3) →
    W p l e R s m args below meth c H locs cells slots Q (F0 m (pc + 3) la (.int ((xtxt.getD i []).getD j.toNatClampNeg 0) :: rest)) → W p l e R s m args below meth c H locs cells slots Q (F0 m pc la (.int j :: .ref (r (1000 + i)) :: rest)))
/-- a method's contract over the machine -/
def xCon (l : Launch) (M : xMe) (d : Nat) (vs : List Value) (h : xM) (Qp : Option Value → xM → Prop) : Prop :=
  ∀ (D : va_G) (cy : Nat → ClassId) (r : Nat → Nat) (b : Nat) (XX : State → Heap → Prop), xXok l b r XX → (∀ k, k < 1000 → r k = b + k) → xVs h.2.2 vs → h.2.2 + M.2.2.2.2.2.2.1 ≤ xNK → xS (h.2.2 + M.2.2.2.2.2.2.1) = xS h.2.2 + M.2.2.2.2.2.2.2 →
    Met l M.2.1 (xws M) (xrm d M) (va_Pc (vs.map (xlv r)) (xPre D cy r b XX h)) (xPost D cy r b (h.2.2 + M.2.2.2.2.2.2.1) Qp) M.2.2.2.2.2.2.1 M.2.2.2.2.2.2.2 (xA b)
section XC
variable {p : Program} {l : Launch} {e : Env} {R : Room} {s : State} {m : MethodId} {args : Array Value} {below : List Frame} {meth : Method} {c : Code} {Q : State → Prop} {cc : ByteArray} {nL n0 lim b : Nat} {D : va_G} {cy : Nat → ClassId} {r : Nat → Nat} {own : String} {pc : Nat} {ls st : List Value} {h : xM}
variable {XX : State → Heap → Prop}
theorem xblind (hX : xXok l b r XX) {vs : List Value} : FrameBlind (va_Pc (vs.map (xlv r)) (xPre D cy r b XX h)) := by
  intro a U g mk q
  obtain ⟨q0, q1, q2, q3, q4, q5, q6⟩ := q
  exact ⟨q0, q1, q2, q3, q4, va_K.moved (u := U) (U := U.calling g mk a) (Vm.Alike.refl U.vm) q5, hX.2.1 U g mk a U.heap q6⟩
theorem xpreU (hX : xXok l b r XX) (F : xFx p s m args c cc nL own D cy r b n0) (hXs : XX s s.heap) {H : Heap} {locs : List Loc} (hH : xHd D cy r b n0 lim s h H locs) {U : State} (hU : U.heap = H) (hW : s.WarmedH U.vm) : xPre D cy r b XX h U := by
  obtain ⟨h1, h2, h3, h4, h5, h6, h7⟩ := hH
  refine ⟨by rw [hU]; exact h1, by rw [hU]; exact h2, h3, by omega, va_K.moved hW.alike F.2.2.2.2.2.1, ?_⟩
  rw [hU]
  exact hX.1 s U H hW (hX.2.2.1 s s.heap H (fun q g1 g2 => h4.2.1 q g1 g2) hXs)
/-- behind a call -/
theorem xback {mc ms : Nat} {H : Heap} {locs : List Loc} {la : Array Slot} {rest : List Value} {Qp : Option Value → xM → Prop} {a : Array Value} (hH : xHd D cy r b n0 lim s h H locs) (hl : xLV r nL la ls) (hv1 : xVs h.2.2 ls) (hw : xVs h.2.2 rest) (hmc : h.2.2 + mc ≤ lim) (hms : xS (h.2.2 + mc) = xS h.2.2 + ms)
    (hr : va_Run p l e R s m args below meth c H locs (h.2.2 - n0) (xS h.2.2 - xS n0) mc ms (F0 m pc la (st.map (xlv r))) (rest.map (xlv r)) (xPost D cy r b (h.2.2 + mc) Qp a) (xA b))
    (x : ∀ (rv : Option Value) (h' : xM), Qp rv h' → xSim p l e R s m args below meth c Q nL n0 lim b D cy r (pc + 3) ls (rv.toList ++ rest) h') : W p l e R s m args below meth c H locs (h.2.2 - n0) (xS h.2.2 - xS n0) Q (F0 m pc la (st.map (xlv r))) := by
  intro T hT X
  obtain ⟨v, st₀, t, T', L, g0, X', hL, e1, e2, ⟨⟨rv, h', hq, hv, hsz, hat, hvh, hn1, hrv⟩, hF⟩, stp⟩ := hr T hT X
  have hv : v = rv.map (xlv r) := by injection hv
  subst hv
  obtain ⟨hF1, hF2⟩ := hF
  rw [g0] at hF1 hF2
  obtain ⟨h1, h2, h3, h4, h5, h6, h7⟩ := hH
  have hm := xS_mono h5
  have ec : h'.2.2 - n0 = h.2.2 - n0 + mc := by rw [hn1]; omega
  have es : xS h'.2.2 - xS n0 = xS h.2.2 - xS n0 + ms := by rw [hn1, hms]; omega
  have hup : h.2.2 ≤ h'.2.2 := by rw [hn1]; omega
  have y := x rv h' hq T'.heap (locs ++ L) la ⟨by rw [e1]; exact hsz, by rw [e1]; exact hat, hvh, ⟨?_, fun q g1 g2 => ?_, fun q hq => ?_⟩, by omega, by rw [hn1]; exact hmc, h7⟩ hl (xVs_up hup hv1) ?_
  · rw [ec, es] at y
    obtain ⟨t2, a2, b2⟩ := y T' rfl X'
    refine ⟨t2, stp t2 ?_, b2⟩
    have ef : (rv.toList ++ rest).map (xlv r) = (rv.map (xlv r)).toList ++ rest.map (xlv r) := by cases rv <;> simp
    rw [ef] at a2
    exact a2
  · rw [e1]; exact Nat.le_trans h4.1 hF1
  · rw [e1, hF2 q (Nat.lt_of_lt_of_le g1 h4.1) g2]; exact h4.2.1 q g1 g2
  · rcases List.mem_append.mp hq with z | z
    · exact h4.2.2 q z
    · exact hL q z
  · intro w hw' k e
    rcases List.mem_append.mp hw' with z | z
    · cases rv with
      | none => simp at z
      | some u => simp at z; subst z; exact hrv k (by rw [e])
    · exact xVs_up hup hw w z k e
/-- what a caller must know of a method: its words, its number of parameters -/
def xMok (M : xMe) (n : Nat) (st : Bool) : Prop :=
  Cond.code M.2.1 M.2.2.1 M.2.2.2.1 M.2.2.2.2.1 ∈ xG ∧ Cond.initialized M.2.1.cls ∈ xG ∧ (st = true → Cond.static M.2.1 ∈ xG) ∧ (st = false → Cond.instanceMethod M.2.1 ∈ xG) ∧ (st = false → M.2.1.name ≠ "<init>" → Cond.selects M.2.1.cls M.2.1 M.2.1 ∈ xG) ∧
  (M.2.1.cls ≠ "java/lang/invoke/MethodHandle" ∧ M.2.1.cls ≠ "java/lang/invoke/VarHandle" ∧ (parseMethodDescriptor M.2.1.desc).map (fun d => d.parameters.length) = some n) ∧ M.2.2.2.1 ≤ 40 ∧ plainName M.2.1.cls = true ∧ (M.2.2.2.2.2.2.1 = 0 → M.2.2.2.2.2.2.2 = 0) ∧ M.1 = M.2.1.cls ∧ M.1 ≠ "AsOfPagesLaw"
theorem xgood_all : GoodIn xG xG := fun w h => ⟨h, xG_good w h⟩
theorem xgood_1 {w : Cond} {ws : List Cond} (h : w ∈ xG) (g : GoodIn xG ws) : GoodIn xG (w :: ws) := fun u hu => by
  rcases List.mem_cons.mp hu with rfl | hu
  · exact ⟨h, xG_good _ h⟩
  · exact g u hu
theorem xargs_len {vs rest : List Value} : ((vs ++ rest).map (xlv r)) = (vs.map (xlv r)) ++ rest.map (xlv r) := by simp
/-- a call of an object's method -/
theorem xq_callV (hX : xXok l b r XX) (F : xFx p s m args c cc nL own D cy r b n0) (hXs : XX s s.heap) {d n dd k np ci : Nat} {M : xMe} {vs rest : List Value} {Qp : Option Value → xM → Prop} (hR : d + 5 ≤ R.frames ∧ 64 * d + 320 ≤ R.locals ∧ lim - n0 ≤ R.cells ∧ xS lim - xS n0 ≤ R.slots) (hdg : decode cc pc = .ok (.invokevirtual n, 3)) (hk : xlk dd (.methodLink own n M.2.1) = true) (ok : xMok M np false) (hni : M.2.1.name ≠ "<init>")
    (hM : xCon l M d (.ref k :: vs) h Qp) (hst : st = vs.reverse ++ .ref k :: rest) (hn : vs.length = np) (hc : (rest.map fun v => v.category).sum ≤ 8) (hci : ci < 10) (hcn : (xcl ci).1 = M.2.1.cls) (hkk : xok k ci) (hmc : h.2.2 + M.2.2.2.2.2.2.1 ≤ lim) (hms : xS (h.2.2 + M.2.2.2.2.2.2.1) = xS h.2.2 + M.2.2.2.2.2.2.2)
    (x : ∀ (rv : Option Value) (h' : xM), Qp rv h' → xSim p l e R s m args below meth c Q nL n0 lim b D cy r (pc + 3) ls (rv.toList ++ rest) h') : xSim p l e R s m args below meth c Q nL n0 lim b D cy r pc ls st h := by
  intro H locs la hH hl hv1 hw
  obtain ⟨o1, o2, -, o4, o5, o6, o7, -, -, -, -⟩ := ok
  subst hst
  have hvs : xVs h.2.2 (.ref k :: vs) := by
    intro w hw' j e
    refine hw w ?_ j e
    rcases List.mem_cons.mp hw' with rfl | z
    · exact List.mem_append_right _ List.mem_cons_self
    · exact List.mem_append_left _ (List.mem_reverse.mpr z)
  have hrest : xVs h.2.2 rest := fun w hw' j e => hw w (List.mem_append_right _ (List.mem_cons_of_mem _ hw')) j e
  obtain ⟨k1, k2⟩ := xHd_lt hH hkk (by omega) (hvs _ List.mem_cons_self k rfl)
  have hP := xone (hH.2.1 k k1)
  rw [xcell_o hkk hci] at hP
  have hrecv := va_recv (q0 := 0) F.2.2.2.2.2.1 hP (xcl_at ci hci) rfl
  rw [show ((xcl ci).1, (xcl ci).2.1, (xcl ci).2.2).1 = M.2.1.cls from hcn, ← F.2.2.2.2.2.2.2 k k2] at hrecv
  have hN := hH.2.2.2.2.2.2
  have hlen : (vs.map (xlv r)).length = np := by rw [List.length_map]; exact hn
  have h5 := hH.2.2.2.2.1
  have hm := xS_mono h5
  have hm2 := xS_mono hmc
  refine xback hH hl hv1 hrest hmc hms (va_runV (As := vs.map (xlv r)) (rest := rest.map (xlv r)) (b := r k) (C := M.2.1.cls) ⟨F.1, F.2.1, F.2.2.1, F.2.2.2.1, F.2.2.2.2.1⟩ (hM D cy r b XX hX F.2.2.2.2.2.2.2 hvs (Nat.le_trans hmc hN) hms)
    (cwV np F.2.2.2.2.1 (xgood_1 (xlk_in hk) (xgood_1 (o4 rfl) (xgood_1 (o5 rfl hni) (xgood_1 o2 (xgood_1 o1 xgood_all))))) rfl rfl rfl ⟨rfl, o6⟩ ⟨hR.1, by show 8 + (M.2.2.2.1 + 11) + (64 * d + 256) ≤ _; omega⟩)
    ⟨xblind hX, hrecv, fun U hU hW => ⟨rfl, xpreU hX F hXs hH hU hW⟩⟩ rfl hlen hl.1 (by simp [xlv]) (lv_room (by rw [xcats]; exact hc)) hdg ⟨by omega, by omega⟩) x
/-- a call of a static method -/
theorem xq_callS (hX : xXok l b r XX) (F : xFx p s m args c cc nL own D cy r b n0) (hXs : XX s s.heap) {d n dd np : Nat} {M : xMe} {vs rest : List Value} {Qp : Option Value → xM → Prop} (hR : d + 5 ≤ R.frames ∧ 64 * d + 320 ≤ R.locals ∧ lim - n0 ≤ R.cells ∧ xS lim - xS n0 ≤ R.slots) (hdg : decode cc pc = .ok (.invokestatic n, 3)) (hk : xlk dd (.methodLink own n M.2.1) = true) (ok : xMok M np true) (hown : M.2.1.cls = own)
    (hM : xCon l M d vs h Qp) (hst : st = vs.reverse ++ rest) (hn : vs.length = np) (hc : (rest.map fun v => v.category).sum ≤ 8) (hmc : h.2.2 + M.2.2.2.2.2.2.1 ≤ lim) (hms : xS (h.2.2 + M.2.2.2.2.2.2.1) = xS h.2.2 + M.2.2.2.2.2.2.2)
    (x : ∀ (rv : Option Value) (h' : xM), Qp rv h' → xSim p l e R s m args below meth c Q nL n0 lim b D cy r (pc + 3) ls (rv.toList ++ rest) h') : xSim p l e R s m args below meth c Q nL n0 lim b D cy r pc ls st h := by
  intro H locs la hH hl hv1 hw
  obtain ⟨o1, o2, o3, -, -, o6, o7, -, -, -, -⟩ := ok
  subst hst
  have hvs : xVs h.2.2 vs := fun w hw' j e => hw w (List.mem_append_left _ (List.mem_reverse.mpr hw')) j e
  have hrest : xVs h.2.2 rest := fun w hw' j e => hw w (List.mem_append_right _ hw') j e
  have hN := hH.2.2.2.2.2.2
  have hlen : (vs.map (xlv r)).length = np := by rw [List.length_map]; exact hn
  have h5 := hH.2.2.2.2.1
  have hm := xS_mono h5
  have hm2 := xS_mono hmc
  have o2' : Cond.initialized own ∈ xG := hown ▸ o2
  refine xback hH hl hv1 hrest hmc hms (va_runS (As := vs.map (xlv r)) (rest := rest.map (xlv r)) ⟨F.1, F.2.1, F.2.2.1, F.2.2.2.1, F.2.2.2.2.1⟩ (hM D cy r b XX hX F.2.2.2.2.2.2.2 hvs (Nat.le_trans hmc hN) hms)
    (cwS np F.2.2.2.2.1 (xgood_1 (xlk_in hk) (xgood_1 (o3 rfl) (xgood_1 o2' (xgood_1 o1 xgood_all)))) rfl rfl rfl ⟨hown, o6⟩ ⟨hR.1, by show 8 + (M.2.2.2.1 + 11) + (64 * d + 256) ≤ _; omega⟩)
    ⟨xblind hX, fun U hU hW => ⟨rfl, xpreU hX F hXs hH hU hW⟩⟩ rfl hlen hl.1 (by simp [xlv]) (lv_room (by rw [xcats]; exact hc)) hdg ⟨by omega, by omega⟩) x
/-- a call of a constructor -/
theorem xq_callI (hX : xXok l b r XX) (F : xFx p s m args c cc nL own D cy r b n0) (hXs : XX s s.heap) {d n k np : Nat} {M : xMe} {vs rest : List Value} {Qp : Option Value → xM → Prop} (hR : d + 5 ≤ R.frames ∧ 64 * d + 320 ≤ R.locals ∧ lim - n0 ≤ R.cells ∧ xS lim - xS n0 ≤ R.slots) (hdg : decode cc pc = .ok (.invokespecial n, 3)) (hk : (∃ dd, xlk dd (.methodLink own n M.2.1) = true) ∨ (own = "AsOfPages$View" ∧ n = 40 ∧ M.2.1 = xNest)) (ok : xMok M np false) (hni : M.2.1.name = "<init>") (hret : M.2.2.2.2.1 = none)
    (hM : xCon l M d (.ref k :: vs) h Qp) (hst : st = vs.reverse ++ .ref k :: rest) (hn : vs.length = np) (hc : (rest.map fun v => v.category).sum ≤ 8) (hmc : h.2.2 + M.2.2.2.2.2.2.1 ≤ lim) (hms : xS (h.2.2 + M.2.2.2.2.2.2.1) = xS h.2.2 + M.2.2.2.2.2.2.2)
    (x : ∀ (rv : Option Value) (h' : xM), Qp rv h' → xSim p l e R s m args below meth c Q nL n0 lim b D cy r (pc + 3) ls (rv.toList ++ rest) h') : xSim p l e R s m args below meth c Q nL n0 lim b D cy r pc ls st h := by
  intro H locs la hH hl hv1 hw
  obtain ⟨o1, o2, -, o4, -, o6, o7, -, -, -, -⟩ := ok
  subst hst
  have hvs : xVs h.2.2 (.ref k :: vs) := by
    intro w hw' j e
    refine hw w ?_ j e
    rcases List.mem_cons.mp hw' with rfl | z
    · exact List.mem_append_right _ List.mem_cons_self
    · exact List.mem_append_left _ (List.mem_reverse.mpr z)
  have hrest : xVs h.2.2 rest := fun w hw' j e => hw w (List.mem_append_right _ (List.mem_cons_of_mem _ hw')) j e
  have hN := hH.2.2.2.2.2.2
  have hlen : (vs.map (xlv r)).length = np := by rw [List.length_map]; exact hn
  have h5 := hH.2.2.2.2.1
  have hm := xS_mono h5
  have hm2 := xS_mono hmc
  have hM2 := hM D cy r b XX hX F.2.2.2.2.2.2.2 hvs (Nat.le_trans hmc hN) hms
  have hw0 : xws M = .code M.2.1 M.2.2.1 M.2.2.2.1 none :: xG := by unfold xws; rw [hret]
  have hcd : Cond.code M.2.1 M.2.2.1 M.2.2.2.1 none ∈ xG := hret ▸ o1
  rcases hk with ⟨dd, hk⟩ | ⟨e1, e2, e3⟩
  · refine xback hH hl hv1 hrest hmc hms (va_runI (As := vs.map (xlv r)) (rest := rest.map (xlv r)) (b := r k) ⟨F.1, F.2.1, F.2.2.1, F.2.2.2.1, F.2.2.2.2.1⟩ hM2
      (cwI np F.2.2.2.2.1 (by rw [hw0]; exact xgood_1 hcd xgood_all) hw0 rfl rfl (F.2.2.2.2.1 _ o2) (F.2.2.2.2.1 _ (xlk_in hk)) (F.2.2.2.2.1 _ (o4 rfl)) hni o6 ⟨hR.1, by show 8 + (M.2.2.2.1 + 11) + (64 * d + 256) ≤ _; omega⟩)
      ⟨xblind hX, fun U hU hW => ⟨rfl, xpreU hX F hXs hH hU hW⟩⟩ rfl hlen hl.1 (by simp [xlv]) (lv_room (by rw [xcats]; exact hc)) hdg ⟨by omega, by omega⟩) x
  · subst e1; subst e2
    have hnest := (hX.2.2.2.1 s s.heap hXs).1
    rw [← e3] at hnest
    refine xback hH hl hv1 hrest hmc hms (va_runIN (host := "AsOfPages") (As := vs.map (xlv r)) (rest := rest.map (xlv r)) (b := r k) ⟨F.1, F.2.1, F.2.2.1, F.2.2.2.1, F.2.2.2.2.1⟩ hM2
      ⟨va_cnB np F.2.2.2.2.1 (by rw [hw0]; exact xgood_1 hcd xgood_all) hw0 rfl rfl hnest (F.2.2.2.2.1 _ o2) o6 ⟨hR.1, by show 8 + (M.2.2.2.1 + 11) + (64 * d + 256) ≤ _; omega⟩, hni, F.2.2.2.2.1 _ (o4 rfl)⟩
      ⟨xblind hX, fun U hU hW => ⟨rfl, xpreU hX F hXs hH hU hW⟩⟩ rfl hlen hl.1 (by simp [xlv]) (lv_room (by rw [xcats]; exact hc)) hdg ⟨by omega, by omega⟩) x
end XC
