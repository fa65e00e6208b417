/-! THE PURE MACHINE IS SOUND: places, methods. -/
section XU
variable {p : Program} {l : Launch} {e : Env} {R : Room} {s : State} {m : MethodId} {args : Array Value} {below : List Frame} {meth : Method} {c : Code} {Q : State → Prop} {cc : ByteArray} {nL n0 lim b : Nat} {D : va_G} {cy : Nat → ClassId} {r : Nat → Nat} {own : String} {pc : Nat} {ls st : List Value} {h : xM}
variable {XX : State → Heap → Prop} {d : Nat} {call : Nat → List Value → xM → (Option Value → xM → Prop) → Prop} {ret : Option Value → xM → Prop} {rt : Option FieldType} {ini : Bool}
theorem xsoundAt (hX : xXok l b r XX) (F : xFx p s m args c cc nL own D cy r b n0) (hXs : XX s s.heap) (hall : ∀ i, i < xNM → xckN i = true) (hR : d + 5 ≤ R.frames ∧ 64 * d + 320 ≤ R.locals ∧ lim - n0 ≤ R.cells ∧ xS lim - xS n0 ≤ R.slots) (hcm : xcm call) (hcall : ∀ (j : Nat) (vs : List Value) (h : xM) (Qp : Option Value → xM → Prop), j < xNM → call j vs h Qp → xCon l (xP j) d vs h Qp)
    (hscr : own = "AsOfPagesLaw" → ∃ (sb L : Nat) (xs : Nat → Int32), r 1500 = sb ∧ va_X sb L xs s s.heap ∧ sb < s.heap.size ∧ sb < b ∧ (∀ (i : Int32) (h : xM) (Qp : Option Value → xM → Prop), call 999 [.int i] h Qp → vp_in i L ∧ Qp (some (.int (xs i.toNatClampNeg))) h) ∧ (∀ (h : xM) (Qp : Option Value → xM → Prop), call 998 [] h Qp → Qp (some (.int (Int32.ofNat L))) h))
    (hini : ini = true → meth.name = "<init>") (hend : xEnd (fun H locs h g => W p l e R s m args below meth c H locs (h.2.2 - n0) (xS h.2.2 - xS n0) Q g) (fun h H locs => xHd D cy r b n0 lim s h H locs) cc m r rt ret)
    {T : Nat → Option xE} (hT : ∀ (pc : Nat) (en : xE), T pc = some en → decode cc pc = .ok en.1 ∧ xchk own ini nL rt pc en = true) (x : xAt T call ret lim pc ls st h) : xSim p l e R s m args below meth c Q nL n0 lim b D cy r pc ls st h := by
  have hR4 : 4 ≤ R.frames ∧ 128 ≤ R.locals := ⟨by omega, by omega⟩
  refine x (fun pc ls st h => xSim p l e R s m args below meth c Q nL n0 lim b D cy r pc ls st h) (fun pc ls st h z => ?_)
  unfold xgo at z
  split at z
  · exact z.elim
  · rename_i en hen
    have y := xsound1 hX F hXs hall hR hR4 hcall hscr hini hend (hT pc en hen).1 (hT pc en hen).2 z
    cases hb : en.2.1 with
    | some cl => rw [hb] at y; exact xSim_clr y
    | none => rw [hb] at y; exact y
end XU
theorem xgd_lt {n pc : Nat} {f : Nat → Option xE} {en : xE} (h : xgd n f pc = some en) : pc < n := by
  unfold xgd at h
  cases hb : Nat.blt pc n with
  | true => exact Nat.le_of_ble_eq_true hb
  | false => rw [hb] at h; cases h
theorem xT_of {M : xMe} {last : Nat} (hg : ∃ f, M.2.2.2.2.2.1 = xgd last f) (h : xckM M last = true) : ∀ (pc : Nat) (en : xE), M.2.2.2.2.2.1 pc = some en → decode M.2.2.1 pc = .ok en.1 ∧ xchk M.1 (decide (M.2.1.name = "<init>")) M.2.2.2.1 M.2.2.2.2.1 pc en = true := by
  intro pc en he
  obtain ⟨f, hf⟩ := hg
  have hlt : pc < last := xgd_lt (f := f) (by rw [← hf]; exact he)
  have := List.all_eq_true.mp h pc (List.mem_range.mpr hlt)
  rw [he] at this
  have := Bool.and_eq_true_iff.mp this
  exact ⟨of_decide_eq_true this.1, this.2⟩
theorem xarg_sl (r : Nat → Nat) : ∀ vs : List Value, (lg_sl (vs.map (xlv r))).length = (xarg vs).length ∧ ∀ (j : Nat) (v : Value), (xarg vs)[j]? = some v → v ≠ .null → (lg_sl (vs.map (xlv r)))[j]? = some (.val (xlv r v)) := by
  intro vs
  induction vs with
  | nil => exact ⟨rfl, fun j v h => by simp [xarg] at h⟩
  | cons w vs ih =>
    have e1 : xarg (w :: vs) = (bif Nat.beq w.category 2 then [w, .null] else [w]) ++ xarg vs := rfl
    have e2 : lg_sl ((w :: vs).map (xlv r)) = (if (xlv r w).category = 2 then [.val (xlv r w), .second] else [.val (xlv r w)]) ++ lg_sl (vs.map (xlv r)) := rfl
    rw [e1, e2, xlv_cat]
    by_cases hc : w.category = 2
    · rw [if_pos hc, hc]
      refine ⟨by simp [ih.1], fun j v h hv => ?_⟩
      match j with
      | 0 => simp at h ⊢; rw [h]
      | 1 => simp at h; exact absurd h.symm hv
      | j + 2 =>
        simp at h ⊢
        exact ih.2 j v h hv
    · have hb : Nat.beq w.category 2 = false := by
        cases hb : Nat.beq w.category 2 with
        | false => rfl
        | true => exact absurd (Nat.eq_of_beq_eq_true hb) hc
      rw [if_neg hc, hb]
      refine ⟨by simp [ih.1], fun j v h hv => ?_⟩
      match j with
      | 0 => simp at h ⊢; rw [h]
      | j + 1 =>
        simp at h ⊢
        exact ih.2 j v h hv
theorem xentry {r : Nat → Nat} {vs : List Value} {n : Nat} (h : (xarg vs).length ≤ n) : xLV r n ((lg_sl (vs.map (xlv r)) ++ List.replicate (n - (lg_sl (vs.map (xlv r))).length) Slot.unset).toArray) (xloc vs n) := by
  obtain ⟨h1, h2⟩ := xarg_sl r vs
  have hl := lv_entry (vs.map (xlv r)) (n := n) (by rw [h1]; exact h)
  refine ⟨hl.1, hl.2.1, fun j v hj hv => ?_⟩
  unfold xloc at hj
  rw [List.getElem?_toArray]
  by_cases hlt : j < (xarg vs).length
  · rw [List.getElem?_append_left hlt] at hj
    rw [List.getElem?_append_left (by rw [h1]; exact hlt)]
    exact h2 j v hj hv
  · rw [List.getElem?_append_right (by omega)] at hj
    have := List.mem_of_getElem? hj
    exact absurd (List.eq_of_mem_replicate this) hv
theorem xVs_loc {n m : Nat} {vs : List Value} (h : xVs n vs) : xVs n (xloc vs m) := by
  intro w hw k e
  unfold xloc at hw
  rcases List.mem_append.mp hw with z | z
  · obtain ⟨u, hu, hz⟩ := List.mem_flatMap.mp z
    cases hb : Nat.beq u.category 2 with
    | true =>
      rw [hb] at hz
      have hz : w ∈ [u, Value.null] := hz
      simp at hz
      rcases hz with rfl | rfl
      · exact h w hu k e
      · cases e
    | false =>
      rw [hb] at hz
      have hz : w ∈ [u] := hz
      simp at hz
      subst hz
      exact h w hu k e
  · have := List.eq_of_mem_replicate z
    subst this
    cases e
set_option maxHeartbeats 4000000 in
/-- THE PURE MACHINE IS SOUND: what it says of a method is the method's contract -/
theorem xW_sound {l : Launch} (hall : ∀ i, i < xNM → xckN i = true) (hgd : ∀ i, i < xNM → ∃ f, (xP i).2.2.2.2.2.1 = xgd (xLast i) f) : ∀ (d i : Nat) (vs : List Value) (h : xM) (Qp : Option Value → xM → Prop), i < xNM → xW xP d i vs h Qp → xCon l (xP i) d vs h Qp := by
  intro d
  induction d with
  | zero => intro i vs h Qp _ x; exact x.elim
  | succ d ih =>
    intro i vs h Qp hi x D cy r b XX hX hr hvs hn hS
    obtain ⟨hlen, x⟩ := x
    have hck := hall i hi
    obtain ⟨-, -, -, -, -, -, -, hplain, hmc0, hown0, hlaw⟩ := xMok_of hck
    have hckM : xckM (xP i) (xLast i) = true := by
      unfold xckN at hck
      rw [Bool.and_eq_true, Bool.and_eq_true] at hck
      exact hck.1.2
    have hT := xT_of (hgd i hi) hckM
    revert hlen x hn hS hmc0 hown0 hplain hlaw hT
    generalize xP i = M
    intro hn hS hlen x hplain hmc0 hown0 hlaw hT
    obtain ⟨own, y, cc, nL, rt, T, mc, ms⟩ := M
    refine Met.ofW (cc := cc) (maxL := nL) (ret := rt) hplain rfl ?_
    intro p e s m args below meth c s₁ B hml hv
    obtain ⟨rfl, hsz, hat, hvh, hNK, hK, hXX⟩ := hv
    have hts0 := atoms_spec (ws := xws (own, y, cc, nL, rt, T, mc, ms)) B.pre
    have hown : s.vm.findClass own = some m.cls := by
      have : own = y.cls := hown0
      rw [this]
      exact findClass_of_methodNamed B.named
    have F : xFx p s m _ c cc nL own D cy r b h.2.2 := ⟨B.exec, B.bytes, hml, hown, fun w hw => hts0 w (List.mem_cons_of_mem _ hw), hK, hsz, hr⟩
    rw [lg_entry_eq]
    have hS : xS (h.2.2 + mc) = xS h.2.2 + ms := hS
    have hn : h.2.2 + mc ≤ xNK := hn
    have hfin : ∀ (rv : Option Value) (h' : xM), xfin mc (h.2.2 + mc) Qp rv h' → ∀ (H : Heap) (locs : List Loc), xHd D cy r b h.2.2 (h.2.2 + mc) s h' H locs → Qp rv h' ∧ h'.2.2 = h.2.2 + mc ∧ h'.2.2 - h.2.2 = mc ∧ xS h'.2.2 - xS h.2.2 = ms := by
      intro rv h' hf H locs hH
      have key : Qp rv h' ∧ h'.2.2 = h.2.2 + mc := by
        unfold xfin at hf
        split at hf
        · have g1 := hH.2.2.2.2.1
          have g2 := hH.2.2.2.2.2.1
          exact ⟨hf, by omega⟩
        · exact ⟨hf.2, hf.1⟩
      exact ⟨key.1, key.2, by omega, by rw [key.2, hS]; omega⟩
    have hpost : ∀ (rv : Option Value) (h' : xM), Qp rv h' → h'.2.2 = h.2.2 + mc → (∀ k : Nat, rv = some (.ref k) → k < h'.2.2 ∨ 1000 ≤ k) → ∀ (H : Heap) (locs : List Loc), xHd D cy r b h.2.2 (h.2.2 + mc) s h' H locs → ∀ t : State, t.heap = H → s.WarmedH t.vm → xPost D cy r b (h.2.2 + mc) Qp (vs.map (xlv r)).toArray s (.returned (rv.map (xlv r))) t := by
      intro rv h' hq he hrv H locs hH t ht _
      exact ⟨⟨rv, h', hq, rfl, by rw [ht]; exact hH.1, by rw [ht]; exact hH.2.1, hH.2.2.1, he, hrv⟩, hH.2.2.2.1.F ht⟩
    have hend : xEnd (fun H locs h' g => W p l e (xrm (d + 1) (own, y, cc, nL, rt, T, mc, ms)) s m (vs.map (xlv r)).toArray below meth c H locs (h'.2.2 - h.2.2) (xS h'.2.2 - xS h.2.2) (MQ below (xPost D cy r b (h.2.2 + mc) Qp) (vs.map (xlv r)).toArray s mc ms (xA b)) g) (fun h' H locs => xHd D cy r b h.2.2 (h.2.2 + mc) s h' H locs) cc m r rt (xfin mc (h.2.2 + mc) Qp) := by
      refine ⟨fun x h' hf hrt pc H locs la hH hdg => ?_, fun x h' hf hrt pc H locs la hH hdg => ?_, fun q h' hf hq hrt pc H locs la hH hdg => ?_, fun h' hf hrt pc H locs la hH hdg => ?_⟩
      · obtain ⟨f1, f2, f3, f4⟩ := hfin _ _ hf H locs hH
        show W p l e _ s m _ below meth c H locs (h'.2.2 - h.2.2) (xS h'.2.2 - xS h.2.2) _ _
        rw [f3, f4]
        rcases hrt with hrt | ⟨hrt, hb⟩
        · exact W.zret (ty := .int) B.exec B.bytes (by rw [B.returns, hrt]) rfl (hpost _ h' f1 f2 (fun k e => by cases e) H locs hH) hH.2.2.2.1.2.2 hdg B.notSynchronized
        · exact W.zret (ty := .boolean) B.exec B.bytes (by rw [B.returns, hrt]) (by show Value.int (x &&& 1) = _; rw [hb]) (hpost _ h' f1 f2 (fun k e => by cases e) H locs hH) hH.2.2.2.1.2.2 hdg B.notSynchronized
      · obtain ⟨f1, f2, f3, f4⟩ := hfin _ _ hf H locs hH
        show W p l e _ s m _ below meth c H locs (h'.2.2 - h.2.2) (xS h'.2.2 - xS h.2.2) _ _
        rw [f3, f4]
        exact W.lret B.exec B.bytes (by rw [B.returns, hrt]) (hpost _ h' f1 f2 (fun k e => by cases e) H locs hH) hH.2.2.2.1.2.2 hdg B.notSynchronized
      · obtain ⟨f1, f2, f3, f4⟩ := hfin _ _ hf H locs hH
        show W p l e _ s m _ below meth c H locs (h'.2.2 - h.2.2) (xS h'.2.2 - xS h.2.2) _ _
        rw [f3, f4]
        obtain ⟨rt', hrt', hro⟩ : ∃ rt', rt = some rt' ∧ ((∃ n, rt' = .object n) ∨ ∃ t, rt' = .array t) := by
          unfold xckA at hrt
          split at hrt
          · exact ⟨_, rfl, Or.inl ⟨_, rfl⟩⟩
          · exact ⟨_, rfl, Or.inr ⟨_, rfl⟩⟩
          · cases hrt
        exact W.aret (rt := rt') B.exec B.bytes (by rw [B.returns, hrt']) hro (Or.inr ⟨_, rfl⟩) (hpost _ h' f1 f2 (fun k e => by cases e; exact hq) H locs hH) hH.2.2.2.1.2.2 hdg B.notSynchronized
      · obtain ⟨f1, f2, f3, f4⟩ := hfin _ _ hf H locs hH
        show W p l e _ s m _ below meth c H locs (h'.2.2 - h.2.2) (xS h'.2.2 - xS h.2.2) _ _
        rw [f3, f4]
        exact W.vret B.exec B.bytes (by rw [B.returns, hrt]) (hpost _ h' f1 f2 (fun k e => by cases e) H locs hH) hH.2.2.2.1.2.2 hdg B.notSynchronized
    have hmain := xsoundAt (ini := decide (y.name = "<init>")) hX F hXX hall (R := xrm (d + 1) (own, y, cc, nL, rt, T, mc, ms)) (lim := h.2.2 + mc) ⟨Nat.le_refl _, by show 64 * d + 320 ≤ 64 * (d + 1) + 256; omega, by show h.2.2 + mc - h.2.2 ≤ mc; omega, by show xS (h.2.2 + mc) - xS h.2.2 ≤ ms; rw [hS]; omega⟩ (xW_m xP d) (fun j vs h Qp hj z => ih j vs h Qp hj z) (fun z => absurd z hlaw) (fun z => by rw [(name_of_methodNamed B.named B.method).1]; exact of_decide_eq_true z) hend hT x
    have := hmain s.heap [] _ ⟨hsz, hat, hvh, va_S.rf, Nat.le_refl _, Nat.le_add_right _ _, hn⟩ (xentry hlen) (xVs_loc hvs) (fun w hw => by cases hw)
    rw [Nat.sub_self, Nat.sub_self] at this
    exact this
