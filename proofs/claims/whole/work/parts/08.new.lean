/-! THE PURE MACHINE IS SOUND: new cells, the JDK's own, switches. -/
theorem xdef_all : ∀ c, c < 10 → ∀ k, k < (xcl c).2.2 → defaultValue (xTy c k) = if xisI ((xcl c).2.1 k).2.2.1 = true then .int 0 else .null := x10 (by decide +kernel) (by decide +kernel) (by decide +kernel) (by decide +kernel) (by decide +kernel) (by decide +kernel) (by decide +kernel) (by decide +kernel) (by decide +kernel) (by decide +kernel)
theorem xS_mono {a b : Nat} (h : a ≤ b) : xS a ≤ xS b := by
  induction b with
  | zero => rw [Nat.le_zero.mp h]; exact Nat.le_refl _
  | succ b ih =>
    rcases Nat.lt_or_ge a (b + 1) with h1 | h1
    · exact Nat.le_trans (ih (by omega)) (Nat.le_add_right _ _)
    · rw [show a = b + 1 by omega]; exact Nat.le_refl _
theorem xnew_kept {h : xM} {j : Nat} (hj : j < h.2.2) : (xnew h).1 j = h.1 j ∧ (xnew h).2.1 j = h.2.1 j := by
  constructor
  · funext i
    show (if j = h.2.2 then 0 else h.1 j i) = h.1 j i
    rw [if_neg (by omega)]
  · funext i
    show (if j = h.2.2 then xNUL else h.2.1 j i) = h.2.1 j i
    rw [if_neg (by omega)]
theorem xnew_1 {h : xM} {i : Nat} : (xnew h).1 h.2.2 i = 0 := by
  show (if h.2.2 = h.2.2 then (0 : Int32) else _) = 0
  rw [if_pos rfl]
theorem xnew_2 {h : xM} {i : Nat} : (xnew h).2.1 h.2.2 i = xNUL := by
  show (if h.2.2 = h.2.2 then xNUL else _) = xNUL
  rw [if_pos rfl]
theorem xnew_vh {h : xM} (hh : xvh h) : xvh (xnew h) := by
  intro k j hk
  have hk : k < h.2.2 + 1 := hk
  show _ < h.2.2 + 1 ∨ _
  by_cases e : k = h.2.2
  · subst e
    rw [xnew_2]
    exact Or.inr (Nat.le_of_ble_eq_true rfl)
  · rw [(xnew_kept (j := k) (by omega)).2]
    rcases hh k j (by omega) with z | z
    · exact Or.inl (by omega)
    · exact Or.inr z
section XN
variable {p : Program} {l : Launch} {e : Env} {R : Room} {s : State} {m : MethodId} {args : Array Value} {below : List Frame} {meth : Method} {c : Code} {Q : State → Prop} {cc : ByteArray} {nL n0 lim b : Nat} {D : va_G} {cy : Nat → ClassId} {r : Nat → Nat} {own : String} {pc : Nat} {ls st : List Value} {h : xM}
theorem xVs_up {n n' : Nat} {st : List Value} (h : n ≤ n') (x : xVs n st) : xVs n' st := fun v hv k e => (x v hv k e).elim (fun z => Or.inl (by omega)) Or.inr
/-- a cell more -/
theorem xHd_new {H H1 : Heap} {locs : List Loc} (hH : xHd D cy r b n0 lim s h H locs) (hlt : h.2.2 < lim) (he : va_at D vwCl (b + h.2.2, xcell cy r (xnew h) h.2.2) H1) (z : H1.size = H.size + 1) (oq : ∀ a : Nat, a < H.size → H1[a]? = H[a]?) : xHd D cy r b n0 lim s (xnew h) H1 locs := by
  obtain ⟨h1, h2, h3, h4, h5, h6, h7⟩ := hH
  refine ⟨by rw [z, h1]; rfl, fun j hj => ?_, xnew_vh h3, ⟨by rw [z]; exact Nat.le_succ_of_le h4.1, fun q g1 g2 => (oq q (Nat.lt_of_lt_of_le g1 h4.1)).trans (h4.2.1 q g1 g2), h4.2.2⟩, Nat.le_succ_of_le h5, hlt, h7⟩
  have hj : j < h.2.2 + 1 := hj
  by_cases e : j = h.2.2
  · subst e; exact he
  · rw [xcell_kept (xnew_kept (by omega)).1 (xnew_kept (by omega)).2]
    exact (h2 j (by omega)).kept (oq _ (by rw [h1]; omega))
theorem xq_new (F : xFx p s m args c cc nL own D cy r b n0) {n a d d2 d3 : Nat} (hR : lim - n0 ≤ R.cells ∧ xS lim - xS n0 ≤ R.slots) (hdg : decode cc pc = .ok (.new n, 3)) (ha : a < 10) (hk : xlk d (.classLink own n (xcl a).1) = true) (hk2 : Cond.instantiable (xcl a).1 (xcl a).2.2 ∈ xG) (hk3 : Cond.initialized (xcl a).1 ∈ xG)
    (x : h.2.2 < lim ∧ (xsh h.2.2).1 = a ∧ xSim p l e R s m args below meth c Q nL n0 lim b D cy r (pc + 3) ls (.ref h.2.2 :: st) (xnew h)) : xSim p l e R s m args below meth c Q nL n0 lim b D cy r pc ls st h := by
  intro H locs la hH hl hv1 hw
  obtain ⟨hlt, hsh, x⟩ := x
  have hsl : xsl h.2.2 = (xcl a).2.2 := by unfold xsl; rw [hsh, if_pos ha]
  have hn := hH.2.2.2.2.1
  have h2 : xS h.2.2 + (xcl a).2.2 ≤ xS lim := by
    have := xS_mono (show h.2.2 + 1 ≤ lim from hlt)
    rw [show xS (h.2.2 + 1) = xS h.2.2 + xsl h.2.2 from rfl, hsl] at this
    exact this
  have h3 := xS_mono hn
  have hKn := F.2.2.2.2.2.1.1 a _ (xcl_at a ha)
  refine W.newcK F.1 F.2.1 F.2.2.2.1 (F.2.2.2.2.1 _ (xlk_in hk)) (F.2.2.2.2.1 _ hk2) (F.2.2.2.2.1 _ hk3) rfl hdg (by omega) (by omega) hKn.2.1 rfl fun H1 kC hkC e1 z1 o1 => ?_
  have hr : r h.2.2 = b + h.2.2 := F.2.2.2.2.2.2.2 _ (by have := hH.2.2.2.2.2.2; have : xNK = 320 := rfl; omega)
  rw [hH.1] at e1
  have e2 : va_at D vwCl (b + h.2.2, xcell cy r (xnew h) h.2.2) H1 := by
    rw [xcell_o (show xok h.2.2 a from hsh) ha]
    refine ⟨_, xcl_at a ha, (u_born (xTy a) F.2.2.2.2.1 (xin_all a ha) hKn hkC e1 (xTy_ok a ha)).to (fun j hj => ?_)⟩
    have g := xfs_get (r := r) (h := xnew h) (k := h.2.2) (c := a) hj
    rw [xdef_all a ha j hj]
    unfold vp_V
    rw [List.getD_eq_getElem?_getD, g, xnew_1, xnew_2]
    by_cases hi : xisI ((xcl a).2.1 j).2.2.1 = true
    · rw [if_pos hi, if_pos hi]; rfl
    · rw [if_neg hi, if_neg hi]; rfl
  have y := x H1 locs la (xHd_new hH hlt e2 z1 o1) hl (xVs_up (Nat.le_succ _) hv1) (xVs_r (Or.inl (Nat.lt_succ_self _)) (xVs_up (Nat.le_succ _) hw))
  have ec : (xnew h).2.2 - n0 = h.2.2 - n0 + 1 := by show h.2.2 + 1 - n0 = _; omega
  have es : xS (xnew h).2.2 - xS n0 = xS h.2.2 - xS n0 + (xcl a).2.2 := by show xS h.2.2 + xsl h.2.2 - xS n0 = _; omega
  rw [ec, es] at y
  rw [hH.1]
  have y : W p l e R s m args below meth c H1 locs (h.2.2 - n0 + 1) (xS h.2.2 - xS n0 + (xcl a).2.2) Q (F0 m (pc + 3) la (.ref (r h.2.2) :: st.map (xlv r))) := y
  rw [hr] at y
  exact y
/-- a new row: what follows -/
theorem xnewrow (F : xFx p s m args c cc nL own D cy r b n0) {N a : Nat} {H H1 : Heap} {locs : List Loc} {la : Array Slot} {t : List Value} {pc2 : Nat} (hH : xHd D cy r b n0 lim s h H locs) (hlt : h.2.2 < lim) (hsh : xsh h.2.2 = (a, N)) (h10 : 10 ≤ a) (e2 : va_at D vwCl (b + h.2.2, xcell cy r (xnew h) h.2.2) H1) (z1 : H1.size = H.size + 1) (o1 : ∀ q : Nat, q < H.size → H1[q]? = H[q]?)
    (hl : xLV r nL la ls) (hv1 : xVs h.2.2 ls) (hw : xVs h.2.2 t) (x : xSim p l e R s m args below meth c Q nL n0 lim b D cy r pc2 ls (.ref h.2.2 :: t) (xnew h)) : W p l e R s m args below meth c H1 locs (h.2.2 - n0 + 1) (xS h.2.2 - xS n0 + N) Q (F0 m pc2 la (.ref H.size :: t.map (xlv r))) := by
  have hn := hH.2.2.2.2.1
  have h3 := xS_mono hn
  have hsl : xsl h.2.2 = N := by unfold xsl; rw [hsh, if_neg (by show ¬ a < 10; omega)]
  have hr : r h.2.2 = b + h.2.2 := F.2.2.2.2.2.2.2 _ (by have := hH.2.2.2.2.2.2; have : xNK = 320 := rfl; omega)
  have y := x H1 locs la (xHd_new hH hlt e2 z1 o1) hl (xVs_up (Nat.le_succ _) hv1) (xVs_r (Or.inl (Nat.lt_succ_self _)) (xVs_up (Nat.le_succ _) hw))
  have ec : (xnew h).2.2 - n0 = h.2.2 - n0 + 1 := by show h.2.2 + 1 - n0 = _; omega
  have es : xS (xnew h).2.2 - xS n0 = xS h.2.2 - xS n0 + N := by show xS h.2.2 + xsl h.2.2 - xS n0 = _; omega
  rw [ec, es] at y
  have y : W p l e R s m args below meth c H1 locs (h.2.2 - n0 + 1) (xS h.2.2 - xS n0 + N) Q (F0 m pc2 la (.ref (r h.2.2) :: t.map (xlv r))) := y
  rw [hr] at y
  rw [hH.1]
  exact y
theorem xrowroom {N : Nat} {a : Nat} (hR : lim - n0 ≤ R.cells ∧ xS lim - xS n0 ≤ R.slots) (hn : n0 ≤ h.2.2) (hlt : h.2.2 < lim) (hsh : xsh h.2.2 = (a, N)) (h10 : 10 ≤ a) : h.2.2 - n0 + 1 ≤ R.cells ∧ xS h.2.2 - xS n0 + N ≤ R.slots := by
  have hsl : xsl h.2.2 = N := by unfold xsl; rw [hsh, if_neg (by show ¬ a < 10; omega)]
  have h2 := xS_mono (show h.2.2 + 1 ≤ lim from hlt)
  rw [show xS (h.2.2 + 1) = xS h.2.2 + xsl h.2.2 from rfl, hsl] at h2
  have h3 := xS_mono hn
  omega
theorem xsh_small : ∀ k, k < 320 → (xsh k).2 ≤ 100000 := by decide +kernel
theorem xq_newa (F : xFx p s m args c cc nL own D cy r b n0) {a d : Nat} {ty : ArrayType} (hR : lim - n0 ≤ R.cells ∧ xS lim - xS n0 ≤ R.slots) (hdg : decode cc pc = .ok (.newarray ty, 2)) (hty : (ty = .int ∧ a = 10) ∨ (ty = .byte ∧ a = 11) ∨ (ty = .boolean ∧ a = 12)) (hk : xlk d (.arrayClass (newarray.typeOf ty)) = true)
    (x : xi1 st fun n t => h.2.2 < lim ∧ ¬ n < 0 ∧ xsh h.2.2 = (a, n.toNatClampNeg) ∧ xSim p l e R s m args below meth c Q nL n0 lim b D cy r (pc + 2) ls (.ref h.2.2 :: t) (xnew h)) : xSim p l e R s m args below meth c Q nL n0 lim b D cy r pc ls st h := by
  intro H locs la hH hl hv1 hw
  unfold xi1 at x
  split at x
  · rename_i n t
    obtain ⟨hlt, hn0, hsh, x⟩ := x
    obtain ⟨hc1, hc2⟩ := xrowroom hR hH.2.2.2.2.1 hlt hsh (by omega)
    have hsm : n.toNatClampNeg ≤ 100000 := by
      have := xsh_small h.2.2 (by have := hH.2.2.2.2.2.2; have : xNK = 320 := rfl; omega)
      rw [hsh] at this
      exact this
    refine va_newaK F.1 F.2.1 (F.2.2.2.2.1 _ (xlk_in hk)) rfl hdg rfl hn0 rfl (by rcases hty with ⟨rfl, -⟩ | ⟨rfl, -⟩ | ⟨rfl, -⟩ <;> simp only [newarray.typeOf, componentBytes] <;> omega) hc1 hc2 rfl fun H1 cA e1 z1 o1 hAr hNm => ?_
    refine xnewrow F hH hlt hsh (by omega) ?_ z1 o1 hl hv1 (xVs_t hw) x
    rw [xcell_i (show xok h.2.2 a by unfold xok; rw [hsh]) (by omega) (by omega)]
    show H1[b + h.2.2]? = some (vp_cell _ _)
    rw [← hH.1, e1, vp_cell_i, hsh]
    have hf : (fun j => Value.int ((xnew h).1 h.2.2 j)) = fun _ => .int 0 := by funext j; rw [xnew_1]
    rw [hf]
    rcases hty with ⟨rfl, rfl⟩ | ⟨rfl, rfl⟩ | ⟨rfl, rfl⟩
    · cases (show s.vm.findClass _ = some (cy 0) from (F.2.2.2.2.2.1.2 0 _ xt0).2).symm.trans hNm
      rfl
    · cases (show s.vm.findClass _ = some (cy 1) from (F.2.2.2.2.2.1.2 1 _ (show (xtys cy)[1]? = some (cy 1, .byte) from rfl)).2).symm.trans hNm
      rfl
    · cases (show s.vm.findClass _ = some (cy 2) from (F.2.2.2.2.2.1.2 2 _ (show (xtys cy)[2]? = some (cy 2, .boolean) from rfl)).2).symm.trans hNm
      rfl
  · exact x.elim
theorem xq_anew (F : xFx p s m args c cc nL own D cy r b n0) {a n d : Nat} {C : String} (hR : lim - n0 ≤ R.cells ∧ xS lim - xS n0 ≤ R.slots) (hdg : decode cc pc = .ok (.anewarray n, 3)) (hty : (C = "AsOfPages$Archive" ∧ a = 13) ∨ (C = "AsOfPages$Spans" ∧ a = 14)) (hk : xlk d (.classLink own n C) = true) (hAO : va_AO C s)
    (x : xi1 st fun n t => h.2.2 < lim ∧ ¬ n < 0 ∧ xsh h.2.2 = (a, n.toNatClampNeg) ∧ xSim p l e R s m args below meth c Q nL n0 lim b D cy r (pc + 3) ls (.ref h.2.2 :: t) (xnew h)) : xSim p l e R s m args below meth c Q nL n0 lim b D cy r pc ls st h := by
  intro H locs la hH hl hv1 hw
  unfold xi1 at x
  split at x
  · rename_i n t
    obtain ⟨hlt, hn0, hsh, x⟩ := x
    obtain ⟨hc1, hc2⟩ := xrowroom hR hH.2.2.2.2.1 hlt hsh (by omega)
    have hsm : n.toNatClampNeg ≤ 100000 := by
      have := xsh_small h.2.2 (by have := hH.2.2.2.2.2.2; have : xNK = 320 := rfl; omega)
      rw [hsh] at this
      exact this
    refine W.anew F.1 F.2.1 F.2.2.2.1 (F.2.2.2.2.1 _ (xlk_in hk)) (va_AO.use hAO) rfl hdg rfl hn0 (by omega) hc1 hc2 fun cA kA comp f1 f2 f3 f4 => ?_
    refine xnewrow F hH hlt hsh (by omega) ?_ (by rw [Array.size_push]) (fun q hq => by rw [Array.getElem?_push, if_neg (Nat.ne_of_lt hq)]) hl hv1 (xVs_t hw) x
    rw [xcell_r (show xok h.2.2 a by unfold xok; rw [hsh]) (by omega)]
    show (H.push _)[b + h.2.2]? = some (vp_cell _ _)
    rw [← hH.1, Array.getElem?_push_size, vp_cell_q, hsh]
    have hf : (fun j => va_rf (xrow r (xnew h) h.2.2 j)) = fun _ => .null := by funext j; unfold xrow; rw [xnew_2, if_pos rfl]; rfl
    rw [hf, ← arrV_new]
    rcases hty with ⟨rfl, rfl⟩ | ⟨rfl, rfl⟩
    · obtain ⟨-, -, -, -, -, g⟩ := (F.2.2.2.2.2.1.2 3 _ (show (xtys cy)[3]? = some (cy 3, .object "AsOfPages$Archive") from rfl)).2
      cases g.symm.trans f1
      rfl
    · obtain ⟨-, -, -, -, -, g⟩ := (F.2.2.2.2.2.1.2 4 _ (show (xtys cy)[4]? = some (cy 4, .object "AsOfPages$Spans") from rfl)).2
      cases g.symm.trans f1
      rfl
  · exact x.elim
end XN
