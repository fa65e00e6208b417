/-! THE PURE MACHINE IS SOUND: fields, rows, new cells. -/
theorem xsh_lt {q c : Nat} (h : xok q c) (hc : c < 99) : q < xNK := by
  unfold xok xsh at h
  cases hb : Nat.blt q 320 with
  | true => exact Nat.le_of_ble_eq_true hb
  | false =>
    rw [hb] at h
    have h : (99 : Nat) = c := h
    omega
theorem xok_n {q c n : Nat} (h : xok q c) (hc : c < 99) (hv : q < n ∨ 1000 ≤ q) : q < n := by
  have h1 := xsh_lt h hc
  have h2 : xNK = 320 := rfl
  omega
theorem xcell_o {cy : Nat → ClassId} {r : Nat → Nat} {h : xM} {k c : Nat} (hk : xok k c) (hc : c < 10) : xcell cy r h k = .inr (c, xfs r h k c) := by
  unfold xok at hk
  unfold xcell
  rw [hk, if_pos hc]
theorem xcell_i {cy : Nat → ClassId} {r : Nat → Nat} {h : xM} {k c : Nat} (hk : xok k c) (h1 : 10 ≤ c) (h2 : c < 13) : xcell cy r h k = .inl (cy (c - 10), (xsh k).2, .inl (h.1 k)) := by
  unfold xok at hk
  unfold xcell
  rw [hk, if_neg (by omega), if_pos h2]
theorem xcell_r {cy : Nat → ClassId} {r : Nat → Nat} {h : xM} {k c : Nat} (hk : xok k c) (h1 : 13 ≤ c) : xcell cy r h k = .inl (cy (c - 10), (xsh k).2, .inr (.inr (.inr (.inr (xrow r h k))))) := by
  unfold xok at hk
  unfold xcell
  rw [hk, if_neg (by omega), if_neg (by omega)]
theorem xcell_kept {cy : Nat → ClassId} {r : Nat → Nat} {h h' : xM} {j : Nat} (h1 : h'.1 j = h.1 j) (h2 : h'.2.1 j = h.2.1 j) : xcell cy r h' j = xcell cy r h j := by
  unfold xcell xfs xrow
  rw [h1, h2]
theorem xone {D : va_G} {a : Nat} {e : va_E} {H : Heap} (h : va_at D vwCl (a, e) H) : va_P D vwCl [(a, e)] H := by
  intro k q hq
  cases k with
  | zero => cases hq; exact h
  | succ k => simp at hq
theorem xfs_get {r : Nat → Nat} {h : xM} {k c j : Nat} (hj : j < (xcl c).2.2) : (xfs r h k c)[j]? = some (if xisI ((xcl c).2.1 j).2.2.1 = true then .int (h.1 k j) else xvr r (h.2.1 k j)) := by
  unfold xfs
  rw [List.getElem?_map, List.getElem?_range hj]
  rfl
theorem xfs_len {r : Nat → Nat} {h : xM} {k c : Nat} : (xfs r h k c).length = (xcl c).2.2 := by simp [xfs]
section XQ
variable {p : Program} {l : Launch} {e : Env} {R : Room} {s : State} {m : MethodId} {args : Array Value} {below : List Frame} {meth : Method} {c : Code} {Q : State → Prop} {cc : ByteArray} {nL n0 lim b : Nat} {D : va_G} {cy : Nat → ClassId} {r : Nat → Nat} {own : String} {pc : Nat} {ls st : List Value} {h : xM}
theorem xHd_lt {n0 lim : Nat} {H : Heap} {locs : List Loc} (hH : xHd D cy r b n0 lim s h H locs) {q c : Nat} (hq : xok q c) (hc : c < 99) (hv : q < h.2.2 ∨ 1000 ≤ q) : q < h.2.2 ∧ q < 1000 := by
  have h1 := xok_n hq hc hv
  have h2 := hH.2.2.2.2.2.1
  have h4 := hH.2.2.2.2.2.2
  have h3 : xNK = 320 := rfl
  exact ⟨h1, by omega⟩
/-- a cell is written -/
theorem xHd_put {n0 lim q k : Nat} {h' : xM} {H H1 : Heap} {locs : List Loc} (hH : xHd D cy r b n0 lim s h H locs) (he : va_at D vwCl (b + q, xcell cy r h' q) H1) (z : H1.size = H.size) (oq : ∀ a : Nat, a ≠ b + q → H1[a]? = H[a]?) (hn : h'.2.2 = h.2.2) (ho : ∀ j, j ≠ q → h'.1 j = h.1 j ∧ h'.2.1 j = h.2.1 j) (hvh : xvh h') : xHd D cy r b n0 lim s h' H1 (locs ++ [⟨b + q, k⟩]) := by
  refine ⟨by rw [z, hn]; exact hH.1, fun j hj => ?_, hvh, hH.2.2.2.1.put z oq (Nat.le_add_right b q), by rw [hn]; exact hH.2.2.2.2.1, by rw [hn]; exact hH.2.2.2.2.2.1, hH.2.2.2.2.2.2⟩
  by_cases hjq : j = q
  · subst hjq; exact he
  · rw [xcell_kept (ho j hjq).1 (ho j hjq).2]
    exact (hH.2.1 j (by rw [← hn]; exact hj)).kept (oq _ (by omega))
theorem xsi_ne {h : xM} {q j k : Nat} {v : Int32} (hk : k ≠ q) : (xsi h q j v).1 k = h.1 k := by
  funext i
  show (if k = q ∧ i = j then v else h.1 k i) = h.1 k i
  rw [if_neg (fun z => hk z.1)]
theorem xsr_ne {h : xM} {q j k v : Nat} (hk : k ≠ q) : (xsr h q j v).2.1 k = h.2.1 k := by
  funext i
  show (if k = q ∧ i = j then v else h.2.1 k i) = h.2.1 k i
  rw [if_neg (fun z => hk z.1)]
theorem xsi_q {h : xM} {q j : Nat} {v : Int32} : (xsi h q j v).1 q = upd (h.1 q) j v := by
  funext i
  show (if q = q ∧ i = j then v else h.1 q i) = if i = j then v else h.1 q i
  by_cases e : i = j
  · rw [if_pos ⟨rfl, e⟩, if_pos e]
  · rw [if_neg (fun z => e z.2), if_neg e]
theorem xsr_vh {h : xM} {q j v : Nat} (hv : v < h.2.2 ∨ 1000 ≤ v) (hh : xvh h) : xvh (xsr h q j v) := by
  intro k i hk
  show (if k = q ∧ i = j then v else h.2.1 k i) < h.2.2 ∨ 1000 ≤ (if k = q ∧ i = j then v else h.2.1 k i)
  split
  · exact hv
  · exact hh k i hk
theorem xq_get (F : xFx p s m args c cc nL own D cy r b n0) {n a sl k d : Nat} (hdg : decode cc pc = .ok (.getfield n, 3)) (ha : a < 10) (hs : sl < (xcl a).2.2) (hk : xlk d (.fieldLink own n ((xcl a).2.1 sl).1 ((xcl a).2.1 sl).2.1 ((xcl a).2.1 sl).2.2.1) = true) (hi : xisI ((xcl a).2.1 sl).2.2.1 = true)
    (x : xr1 st fun q t => xok q a ∧ xSim p l e R s m args below meth c Q nL n0 lim b D cy r (pc + 3) ls (.int (h.1 q sl) :: t) h) : xSim p l e R s m args below meth c Q nL n0 lim b D cy r pc ls st h := by
  intro H locs la hH hl hv1 hw
  unfold xr1 at x
  split at x
  · rename_i q t
    obtain ⟨hq, x⟩ := x
    obtain ⟨q1, q2⟩ := xHd_lt hH hq (by omega) (xVs_h hw)
    have hP := xone (hH.2.1 q q1)
    rw [xcell_o hq ha] at hP
    show W p l e R s m args below meth c H locs _ _ Q (F0 m pc la (.ref (r q) :: t.map (xlv r)))
    rw [F.2.2.2.2.2.2.2 q q2]
    refine va_get (D := D) (ci := a) (v := .int (h.1 q sl)) F.1 F.2.1 F.2.2.2.2.1 (xin_all a ha) F.2.2.2.1 F.2.2.2.2.2.1 hP 0 rfl (xcl_at a ha) sl hs (F.2.2.2.2.1 _ (xlk_in hk)) (fun _ z => z) (by rw [xfs_get hs, if_pos hi]) hdg ?_
    exact x H locs la hH hl hv1 (xVs_i (xVs_t hw))
  · exact x.elim
theorem xq_getR (F : xFx p s m args c cc nL own D cy r b n0) {n a sl k d : Nat} (hdg : decode cc pc = .ok (.getfield n, 3)) (ha : a < 10) (hs : sl < (xcl a).2.2) (hk : xlk d (.fieldLink own n ((xcl a).2.1 sl).1 ((xcl a).2.1 sl).2.1 ((xcl a).2.1 sl).2.2.1) = true) (hi : ¬ xisI ((xcl a).2.1 sl).2.2.1 = true)
    (x : xr1 st fun q t => xok q a ∧ xnn (h.2.1 q sl) ∧ xSim p l e R s m args below meth c Q nL n0 lim b D cy r (pc + 3) ls (.ref (h.2.1 q sl) :: t) h) : xSim p l e R s m args below meth c Q nL n0 lim b D cy r pc ls st h := by
  intro H locs la hH hl hv1 hw
  unfold xr1 at x
  split at x
  · rename_i q t
    obtain ⟨hq, hn, x⟩ := x
    obtain ⟨q1, q2⟩ := xHd_lt hH hq (by omega) (xVs_h hw)
    have hP := xone (hH.2.1 q q1)
    rw [xcell_o hq ha] at hP
    show W p l e R s m args below meth c H locs _ _ Q (F0 m pc la (.ref (r q) :: t.map (xlv r)))
    rw [F.2.2.2.2.2.2.2 q q2]
    refine va_get (D := D) (ci := a) (v := .ref (r (h.2.1 q sl))) F.1 F.2.1 F.2.2.2.2.1 (xin_all a ha) F.2.2.2.1 F.2.2.2.2.2.1 hP 0 rfl (xcl_at a ha) sl hs (F.2.2.2.2.1 _ (xlk_in hk)) (fun _ z => z) (by rw [xfs_get hs, if_neg hi, xvr, if_neg hn]) hdg ?_
    exact x H locs la hH hl hv1 (xVs_r (hH.2.2.1 q sl q1) (xVs_t hw))
  · exact x.elim
/-- a field is written: the machine's row, with the heap's size -/
theorem xputW (F : xFx p s m args c cc nL own D cy r b n0) {n a sl d q : Nat} {H : Heap} {locs : List Loc} {la : Array Slot} {rest : List Value} {cells slots : Nat} (hdg : decode cc pc = .ok (.putfield n, 3)) (ha : a < 10) (hs : sl < (xcl a).2.2) (hk : xlk d (.fieldLink own n ((xcl a).2.1 sl).1 ((xcl a).2.1 sl).2.1 ((xcl a).2.1 sl).2.2.1) = true)
    {v : Value} (hfin : ((xcl a).2.1 sl).2.2.2 = false ∨ (meth.name = "<init>" ∧ ((xcl a).2.1 sl).1 = own ∧ ((xcl a).2.1 sl).2.2.2 = true)) (hn : narrow (xTy a sl) v = v) (hfit : fits (xTy a sl) v = true) (hat : va_at D vwCl (b + q, .inr (a, xfs r h q a)) H)
    (kk : ∀ (H1 : Heap) (k : Nat), va_at D vwCl (b + q, .inr (a, (xfs r h q a).set sl v)) H1 → H1.size = H.size → (∀ x : Nat, x ≠ b + q → H1[x]? = H[x]?) → W p l e R s m args below meth c H1 (locs ++ [⟨b + q, k⟩]) cells slots Q (F0 m (pc + 3) la rest)) :
    W p l e R s m args below meth c H locs cells slots Q (F0 m pc la (v :: .ref (b + q) :: rest)) := by
  obtain ⟨hx, hb, -, hown, hts, hK, -, -⟩ := F
  have hap := va_apart (own := own) hts (xin_all a ha) (xTy a) (xTy_ok a ha) (xNm_ok a ha) hK (xcl_at a ha)
  obtain ⟨cr, h1, cell, q1, q2, q3, q4⟩ := hat
  obtain rfl : cr = ((xcl a).1, (xcl a).2.1, (xcl a).2.2) := Option.some.inj (h1.symm.trans (xcl_at a ha))
  obtain ⟨hS, hfc, kC, hkC, hkind⟩ := hK.1 a _ (xcl_at a ha)
  obtain ⟨cf, kf, fi, f, hi, hsl⟩ := hS sl hs
  have hll := u_lays hts (xin_all a ha) hs
  have hst := (u_facts hfc hkC hll hi).1
  have hlt : f.slot < cell.slots.size := by rw [hsl]; exact k2_hasslot (q4 sl hs)
  have fin : ∀ H' : Heap, H'[b + q]? = some (cell.setSlot f.slot v) → va_at D vwCl (b + q, .inr (a, (xfs r h q a).set sl v)) H' := by
    intro H' e1
    rw [hsl] at e1
    exact ⟨_, xcl_at a ha, t_OB.to (V := updV (vp_V (xfs r h q a)) sl v) ⟨_, e1, q2, q3, t_set q4 hap hs v⟩ (fun j _ => vp_updV_set (by rw [xfs_len]; exact hs) v j)⟩
  have hlink := hts _ (xlk_in hk)
  rcases hfin with hfin | ⟨hin, hdecl, hfin⟩
  · have hlay := hts _ (xin_all a ha _ (u_in_lay hs))
    unfold u_lay at hlay
    rw [if_neg (by rw [hfin]; decide)] at hlay
    refine W.putK hx hb (f := f) ⟨hown, hlink, ⟨_, _, _, hi⟩, hst⟩ (by rw [q2]; exact u_store hfc hkC hkind hlay hi (xTy_ok a ha sl hs) hn hfit) q1 q3 hlt rfl rfl hdg fun H' e1 e2 e3 => ?_
    exact kk H' _ (fin H' e1) e2 e3
  · have hlay := hts _ (xin_all a ha _ (u_in_lay hs))
    unfold u_lay at hlay
    rw [if_pos hfin] at hlay
    have hcf : m.cls = cf := by
      obtain ⟨_, _, c', _, _, _, -, -, hf', -, -, -, hown2, -⟩ := Cond.laysFinal_spec hlay
      have e1 : c' = cf := (congrArg Prod.fst (Option.some.inj (hi.symm.trans hf'))).symm
      rw [hdecl, e1] at hown2
      exact Option.some.inj (hown.symm.trans hown2)
    refine W.putFinK hx hb hown hlink hi hst hcf hin (by rw [q2]; exact u_fits hfc hkC hkind hll hi (xTy_ok a ha sl hs) hn hfit) q1 q3 hlt rfl rfl hdg fun H' e1 e2 e3 => ?_
    exact kk H' _ (fin H' e1) e2 e3
theorem xfs_si {q a sl : Nat} {v : Int32} (hi : xisI ((xcl a).2.1 sl).2.2.1 = true) (hs : sl < (xcl a).2.2) : (xfs r h q a).set sl (.int v) = xfs r (xsi h q sl v) q a := by
  apply List.ext_getElem?
  intro j
  by_cases hj : j < (xcl a).2.2
  · rw [xfs_get hj]
    by_cases e : j = sl
    · subst e
      rw [List.getElem?_set_self (by rw [xfs_len]; exact hj), if_pos hi]
      show _ = some (Value.int (if q = q ∧ j = j then v else _))
      rw [if_pos ⟨rfl, rfl⟩]
    · rw [List.getElem?_set_ne (fun z => e z.symm), xfs_get hj]
      show _ = some (if _ then Value.int (if q = q ∧ j = sl then v else _) else _)
      rw [if_neg (show ¬ (q = q ∧ j = sl) from fun z => e z.2)]
      rfl
  · rw [List.getElem?_eq_none (by rw [List.length_set, xfs_len]; omega), List.getElem?_eq_none (by rw [xfs_len]; omega)]
theorem xfs_sr {q a sl v : Nat} (hi : ¬ xisI ((xcl a).2.1 sl).2.2.1 = true) (hs : sl < (xcl a).2.2) (hv : v ≠ xNUL) : (xfs r h q a).set sl (.ref (r v)) = xfs r (xsr h q sl v) q a := by
  apply List.ext_getElem?
  intro j
  by_cases hj : j < (xcl a).2.2
  · rw [xfs_get hj]
    by_cases e : j = sl
    · subst e
      rw [List.getElem?_set_self (by rw [xfs_len]; exact hj), if_neg hi]
      show _ = some (xvr r (if q = q ∧ j = j then v else _))
      rw [if_pos ⟨rfl, rfl⟩, xvr, if_neg hv]
    · rw [List.getElem?_set_ne (fun z => e z.symm), xfs_get hj]
      show _ = some (if _ then _ else xvr r (if q = q ∧ j = sl then v else _))
      rw [if_neg (show ¬ (q = q ∧ j = sl) from fun z => e z.2)]
      rfl
  · rw [List.getElem?_eq_none (by rw [List.length_set, xfs_len]; omega), List.getElem?_eq_none (by rw [xfs_len]; omega)]
theorem xq_put (F : xFx p s m args c cc nL own D cy r b n0) {n a sl d : Nat} (hdg : decode cc pc = .ok (.putfield n, 3)) (ha : a < 10) (hs : sl < (xcl a).2.2) (hk : xlk d (.fieldLink own n ((xcl a).2.1 sl).1 ((xcl a).2.1 sl).2.1 ((xcl a).2.1 sl).2.2.1) = true) (hi : xisI ((xcl a).2.1 sl).2.2.1 = true)
    (hfin : ((xcl a).2.1 sl).2.2.2 = false) {P : Int32 → Prop} (hn : ∀ v : Int32, P v → narrow (xTy a sl) (.int v) = .int v ∧ fits (xTy a sl) (.int v) = true)
    (x : xiv st fun q v t => xok q a ∧ P v ∧ xSim p l e R s m args below meth c Q nL n0 lim b D cy r (pc + 3) ls t (xsi h q sl v)) : xSim p l e R s m args below meth c Q nL n0 lim b D cy r pc ls st h := by
  intro H locs la hH hl hv1 hw
  unfold xiv at x
  split at x
  · rename_i v q t
    obtain ⟨hq, hp, x⟩ := x
    obtain ⟨q1, q2⟩ := xHd_lt hH hq (by omega) (xVs_h (xVs_t hw))
    have hP := hH.2.1 q q1
    rw [xcell_o hq ha] at hP
    show W p l e R s m args below meth c H locs _ _ Q (F0 m pc la (.int v :: .ref (r q) :: t.map (xlv r)))
    rw [F.2.2.2.2.2.2.2 q q2]
    refine xputW F hdg ha hs hk (Or.inl hfin) (hn v hp).1 (hn v hp).2 hP (fun H1 k e1 z oq => ?_)
    rw [xfs_si hi hs] at e1
    refine x H1 _ la (xHd_put hH (by rw [xcell_o hq ha]; exact e1) z oq rfl (fun j hj => ⟨xsi_ne hj, rfl⟩) hH.2.2.1) hl hv1 (xVs_t (xVs_t hw))
  · exact x.elim
theorem xq_putR (F : xFx p s m args c cc nL own D cy r b n0) {n a sl d : Nat} (hdg : decode cc pc = .ok (.putfield n, 3)) (ha : a < 10) (hs : sl < (xcl a).2.2) (hk : xlk d (.fieldLink own n ((xcl a).2.1 sl).1 ((xcl a).2.1 sl).2.1 ((xcl a).2.1 sl).2.2.1) = true) (hi : ¬ xisI ((xcl a).2.1 sl).2.2.1 = true)
    (hfin : ((xcl a).2.1 sl).2.2.2 = false ∨ (meth.name = "<init>" ∧ ((xcl a).2.1 sl).1 = own ∧ ((xcl a).2.1 sl).2.2.2 = true)) (hty : ∀ k : Nat, narrow (xTy a sl) (.ref k) = .ref k ∧ fits (xTy a sl) (.ref k) = true)
    (x : xrr st fun q v t => xok q a ∧ xnn v ∧ xSim p l e R s m args below meth c Q nL n0 lim b D cy r (pc + 3) ls t (xsr h q sl v)) : xSim p l e R s m args below meth c Q nL n0 lim b D cy r pc ls st h := by
  intro H locs la hH hl hv1 hw
  unfold xrr at x
  split at x
  · rename_i v q t
    obtain ⟨hq, hnn, x⟩ := x
    obtain ⟨q1, q2⟩ := xHd_lt hH hq (by omega) (xVs_h (xVs_t hw))
    have hP := hH.2.1 q q1
    rw [xcell_o hq ha] at hP
    show W p l e R s m args below meth c H locs _ _ Q (F0 m pc la (.ref (r v) :: .ref (r q) :: t.map (xlv r)))
    rw [F.2.2.2.2.2.2.2 q q2]
    refine xputW F hdg ha hs hk hfin (hty _).1 (hty _).2 hP (fun H1 k e1 z oq => ?_)
    rw [xfs_sr hi hs hnn] at e1
    refine x H1 _ la (xHd_put hH (by rw [xcell_o hq ha]; exact e1) z oq rfl (fun j hj => ⟨rfl, xsr_ne hj⟩) (xsr_vh (xVs_h hw) hH.2.2.1)) hl hv1 (xVs_t (xVs_t hw))
  · exact x.elim
theorem xt0 : (xtys cy)[0]? = some (cy 0, .int) := rfl
theorem xq_iald (F : xFx p s m args c cc nL own D cy r b n0) (hdg : decode cc pc = .ok (.iaload, 1)) (x : xald 10 st h fun t => xSim p l e R s m args below meth c Q nL n0 lim b D cy r (pc + 1) ls t h) : xSim p l e R s m args below meth c Q nL n0 lim b D cy r pc ls st h := by
  intro H locs la hH hl hv1 hw
  unfold xald xri at x
  split at x
  · rename_i i q t
    obtain ⟨hq, hi, x⟩ := x
    obtain ⟨q1, q2⟩ := xHd_lt hH hq (by omega) (xVs_h (xVs_t hw))
    have hP := xone (hH.2.1 q q1)
    rw [xcell_i hq (by omega) (by omega)] at hP
    show W p l e R s m args below meth c H locs _ _ Q (F0 m pc la (.int i :: .ref (r q) :: t.map (xlv r)))
    rw [F.2.2.2.2.2.2.2 q q2]
    exact va_iald F.1 F.2.1 F.2.2.2.2.2.1 hP 0 0 rfl rfl hi hdg (x H locs la hH hl hv1 (xVs_i (xVs_t (xVs_t hw))))
  · exact x.elim
theorem xq_bald (F : xFx p s m args c cc nL own D cy r b n0) {a : Nat} (ha : a = 11 ∨ a = 12) (hdg : decode cc pc = .ok (.baload, 1)) (x : xald a st h fun t => xSim p l e R s m args below meth c Q nL n0 lim b D cy r (pc + 1) ls t h) : xSim p l e R s m args below meth c Q nL n0 lim b D cy r pc ls st h := by
  intro H locs la hH hl hv1 hw
  unfold xald xri at x
  split at x
  · rename_i i q t
    obtain ⟨hq, hi, x⟩ := x
    obtain ⟨q1, q2⟩ := xHd_lt hH hq (by omega) (xVs_h (xVs_t hw))
    have hP := xone (hH.2.1 q q1)
    rw [xcell_i hq (by omega) (by omega)] at hP
    show W p l e R s m args below meth c H locs _ _ Q (F0 m pc la (.int i :: .ref (r q) :: t.map (xlv r)))
    rw [F.2.2.2.2.2.2.2 q q2]
    rcases ha with rfl | rfl
    · exact va_bald F.1 F.2.1 F.2.2.2.2.2.1 hP 0 1 rfl rfl hi hdg (x H locs la hH hl hv1 (xVs_i (xVs_t (xVs_t hw))))
    · exact va_zald F.1 F.2.1 F.2.2.2.2.2.1 hP 0 2 rfl rfl hi hdg (x H locs la hH hl hv1 (xVs_i (xVs_t (xVs_t hw))))
  · exact x.elim
theorem xat_i {q a : Nat} {H : Heap} (hq : xok q a) (h1 : 10 ≤ a) (h2 : a < 13) (hP : va_at D vwCl (b + q, xcell cy r h q) H) : H[b + q]? = some (arrV (cy (a - 10)) (xsh q).2 (fun j => .int (h.1 q j))) := by
  rw [xcell_i hq h1 h2] at hP
  exact hP
theorem xat_iu {q a : Nat} {H : Heap} {i : Nat} {v : Int32} (hq : xok q a) (h1 : 10 ≤ a) (h2 : a < 13) (e : H[b + q]? = some ((arrV (cy (a - 10)) (xsh q).2 (fun j => .int (h.1 q j))).setSlot i (.int v))) : va_at D vwCl (b + q, xcell cy r (xsi h q i v) q) H := by
  rw [xcell_i hq h1 h2]
  show H[b + q]? = some (vp_cell _ _)
  rw [e, vp_cell_i, arrV_store, xsi_q]
  congr 2
  funext j
  by_cases hj : j = i
  · subst hj; simp [updV, upd]
  · simp [updV, upd, hj]
theorem xsz {cA : ClassId} {n : Nat} {f : Nat → Value} {i : Int32} (hi : vp_in i n) : ¬ (i < 0 ∨ (arrV cA n f).slots.size ≤ i.toNatClampNeg) := by rw [arrV_size]; exact hi
theorem xq_iast (F : xFx p s m args c cc nL own D cy r b n0) (hdg : decode cc pc = .ok (.iastore, 1)) (x : xast 10 (fun v => v) st h fun t h' => xSim p l e R s m args below meth c Q nL n0 lim b D cy r (pc + 1) ls t h') : xSim p l e R s m args below meth c Q nL n0 lim b D cy r pc ls st h := by
  intro H locs la hH hl hv1 hw
  unfold xast xrii at x
  split at x
  · rename_i v i q t
    obtain ⟨hq, hi, x⟩ := x
    obtain ⟨q1, q2⟩ := xHd_lt hH hq (by omega) (xVs_h (xVs_t (xVs_t hw)))
    have hP := xat_i hq (by omega) (by omega) (hH.2.1 q q1)
    show W p l e R s m args below meth c H locs _ _ Q (F0 m pc la (.int v :: .int i :: .ref (r q) :: t.map (xlv r)))
    rw [F.2.2.2.2.2.2.2 q q2]
    refine W.iast F.1 F.2.1 hP ((F.2.2.2.2.2.1.2 0 _ xt0).1 _ (fun j => .int (h.1 q j))) (fun z => by cases z) (xsz hi) rfl rfl hdg fun H1 e1 z oq => ?_
    exact x H1 _ la (xHd_put hH (xat_iu hq (by omega) (by omega) e1) z oq rfl (fun j hj => ⟨xsi_ne hj, rfl⟩) hH.2.2.1) hl hv1 (xVs_t (xVs_t (xVs_t hw)))
  · exact x.elim
theorem xq_bast (F : xFx p s m args c cc nL own D cy r b n0) {a : Nat} (ha : a = 11 ∨ a = 12) (hdg : decode cc pc = .ok (.bastore, 1)) (x : xast a (xnar a) st h fun t h' => xSim p l e R s m args below meth c Q nL n0 lim b D cy r (pc + 1) ls t h') : xSim p l e R s m args below meth c Q nL n0 lim b D cy r pc ls st h := by
  intro H locs la hH hl hv1 hw
  unfold xast xrii at x
  split at x
  · rename_i v i q t
    obtain ⟨hq, hi, x⟩ := x
    obtain ⟨q1, q2⟩ := xHd_lt hH hq (by omega) (xVs_h (xVs_t (xVs_t hw)))
    have hP := xat_i hq (by omega) (by omega) (hH.2.1 q q1)
    show W p l e R s m args below meth c H locs _ _ Q (F0 m pc la (.int v :: .int i :: .ref (r q) :: t.map (xlv r)))
    rw [F.2.2.2.2.2.2.2 q q2]
    rcases ha with rfl | rfl
    · refine W.bast F.1 F.2.1 hP ((F.2.2.2.2.2.1.2 1 _ (show (xtys cy)[1]? = some (cy 1, .byte) from rfl)).1 _ (fun j => .int (h.1 q j))) (fun z => by cases z) (xsz hi) rfl rfl hdg fun H1 e1 z oq => ?_
      exact x H1 _ la (xHd_put hH (xat_iu hq (by omega) (by omega) e1) z oq rfl (fun j hj => ⟨xsi_ne hj, rfl⟩) hH.2.2.1) hl hv1 (xVs_t (xVs_t (xVs_t hw)))
    · refine W.zast F.1 F.2.1 hP ((F.2.2.2.2.2.1.2 2 _ (show (xtys cy)[2]? = some (cy 2, .boolean) from rfl)).1 _ (fun j => .int (h.1 q j))) (fun z => by cases z) (xsz hi) rfl rfl hdg fun H1 e1 z oq => ?_
      exact x H1 _ la (xHd_put hH (xat_iu hq (by omega) (by omega) e1) z oq rfl (fun j hj => ⟨xsi_ne hj, rfl⟩) hH.2.2.1) hl hv1 (xVs_t (xVs_t (xVs_t hw)))
  · exact x.elim
theorem xq_aald (F : xFx p s m args c cc nL own D cy r b n0) {a : Nat} (ha : a = 13 ∨ a = 14) (hdg : decode cc pc = .ok (.aaload, 1)) (x : xri st fun q i t => xok q a ∧ vp_in i (xsh q).2 ∧ xnn (h.2.1 q i.toNatClampNeg) ∧ xSim p l e R s m args below meth c Q nL n0 lim b D cy r (pc + 1) ls (.ref (h.2.1 q i.toNatClampNeg) :: t) h) : xSim p l e R s m args below meth c Q nL n0 lim b D cy r pc ls st h := by
  intro H locs la hH hl hv1 hw
  unfold xri at x
  split at x
  · rename_i i q t
    obtain ⟨hq, hi, hn, x⟩ := x
    obtain ⟨q1, q2⟩ := xHd_lt hH hq (by omega) (xVs_h (xVs_t hw))
    have hP := xone (hH.2.1 q q1)
    rw [xcell_r hq (by omega)] at hP
    show W p l e R s m args below meth c H locs _ _ Q (F0 m pc la (.int i :: .ref (r q) :: t.map (xlv r)))
    rw [F.2.2.2.2.2.2.2 q q2]
    have hx := x H locs la hH hl hv1 (xVs_r (hH.2.2.1 q i.toNatClampNeg q1) (xVs_t (xVs_t hw)))
    have hrow : va_rf (xrow r h q i.toNatClampNeg) = .ref (r (h.2.1 q i.toNatClampNeg)) := by unfold xrow; rw [if_neg hn]; rfl
    rcases ha with rfl | rfl
    · exact va_aldq F.1 F.2.1 F.2.2.2.2.2.1 hP 0 3 rfl rfl hi hdg (by rw [hrow]; exact hx)
    · exact va_aldq F.1 F.2.1 F.2.2.2.2.2.1 hP 0 4 rfl rfl hi hdg (by rw [hrow]; exact hx)
  · exact x.elim
theorem xq_alen (F : xFx p s m args c cc nL own D cy r b n0) {a : Nat} (h1 : 10 ≤ a) (h2 : a < 15) (hdg : decode cc pc = .ok (.arraylength, 1)) (x : xr1 st fun q t => xok q a ∧ xSim p l e R s m args below meth c Q nL n0 lim b D cy r (pc + 1) ls (.int (Int32.ofNat (xsh q).2) :: t) h) : xSim p l e R s m args below meth c Q nL n0 lim b D cy r pc ls st h := by
  intro H locs la hH hl hv1 hw
  unfold xr1 at x
  split at x
  · rename_i q t
    obtain ⟨hq, x⟩ := x
    obtain ⟨q1, q2⟩ := xHd_lt hH hq (by omega) (xVs_h hw)
    have hP := xone (hH.2.1 q q1)
    have hx := x H locs la hH hl hv1 (xVs_i (xVs_t hw))
    show W p l e R s m args below meth c H locs _ _ Q (F0 m pc la (.ref (r q) :: t.map (xlv r)))
    rw [F.2.2.2.2.2.2.2 q q2]
    obtain ⟨ty, hty⟩ : ∃ ty, (xtys cy)[a - 10]? = some (cy (a - 10), ty) := by
      rcases (show a = 10 ∨ a = 11 ∨ a = 12 ∨ a = 13 ∨ a = 14 by omega) with rfl | rfl | rfl | rfl | rfl
      · exact ⟨_, rfl⟩
      · exact ⟨_, rfl⟩
      · exact ⟨_, rfl⟩
      · exact ⟨_, rfl⟩
      · exact ⟨_, rfl⟩
    by_cases h3 : a < 13
    · rw [xcell_i hq h1 h3] at hP
      exact va_alen F.1 F.2.1 F.2.2.2.2.2.1 hP 0 (a - 10) rfl hty rfl hdg hx
    · rw [xcell_r hq (by omega)] at hP
      exact va_alen F.1 F.2.1 F.2.2.2.2.2.1 hP 0 (a - 10) rfl hty rfl hdg hx
  · exact x.elim
end XQ
