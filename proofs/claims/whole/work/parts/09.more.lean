/-! THE PURE MACHINE IS SOUND: rows of refs, the JDK's own members, switches. -/
theorem xroom_of {st : List Value} {A : Prop} (x : xroom st A) : A ∧ (st.map fun v => v.category).sum ≤ 8 := by
  unfold xroom at x
  split at x
  · rename_i hb
    have hl : st.length ≤ 4 := Nat.le_of_ble_eq_true hb
    refine ⟨x, ?_⟩
    have key : ∀ l : List Value, (l.map fun v => v.category).sum ≤ 2 * l.length := by
      intro l
      induction l with
      | nil => exact Nat.le_refl _
      | cons v t ih =>
        have : v.category ≤ 2 := by cases v <;> simp [Value.category]
        simp only [List.map_cons, List.sum_cons, List.length_cons]
        omega
    have := key st
    omega
  · exact x.elim
theorem xcats (r : Nat → Nat) (st : List Value) : ((st.map (xlv r)).map fun v => v.category) = st.map fun v => v.category := by
  rw [List.map_map]
  apply List.map_congr_left
  intro v _
  exact xlv_cat r v
theorem xin_st : Cond.static Lib.Math.max.name ∈ xG ∧ Cond.static Lib.Math.min.name ∈ xG ∧ Cond.static Lib.Math.abs.name ∈ xG ∧ Cond.initialized "java/lang/Math" ∈ xG ∧ Cond.code Lib.Math.max.name Lib.Math.max.code 2 (some .int) ∈ xG ∧ Cond.code Lib.Math.min.name Lib.Math.min.code 2 (some .int) ∈ xG ∧ Cond.code Lib.Math.abs.name Lib.Math.abs.code 1 (some .int) ∈ xG := by decide +kernel
theorem xin_cp : Cond.native arraycopyName ∈ xG ∧ Cond.static arraycopyName ∈ xG ∧ Cond.initialized "java/lang/System" ∈ xG := by decide +kernel
theorem xin_ob : Cond.instanceMethod Lib.objectInit ∈ xG ∧ Cond.code Lib.objectInit ⟨#[0xb1]⟩ 1 none ∈ xG := by decide +kernel
section XO
variable {p : Program} {l : Launch} {e : Env} {R : Room} {s : State} {m : MethodId} {args : Array Value} {below : List Frame} {meth : Method} {c : Code} {Q : State → Prop} {cc : ByteArray} {nL n0 lim b : Nat} {D : va_G} {cy : Nat → ClassId} {r : Nat → Nat} {own : String} {pc : Nat} {ls st : List Value} {h : xM}
theorem xq_aast (F : xFx p s m args c cc nL own D cy r b n0) {a ci : Nat} (ha : (a = 13 ∧ ci = 0) ∨ (a = 14 ∧ ci = 3)) (hdg : decode cc pc = .ok (.aastore, 1)) (x : xrir st fun q i v t => xok q a ∧ vp_in i (xsh q).2 ∧ xok v ci ∧ xSim p l e R s m args below meth c Q nL n0 lim b D cy r (pc + 1) ls t (xsr h q i.toNatClampNeg v)) : xSim p l e R s m args below meth c Q nL n0 lim b D cy r pc ls st h := by
  intro H locs la hH hl hv1 hw
  unfold xrir at x
  split at x
  · rename_i v i q t
    obtain ⟨hq, hi, hv, x⟩ := x
    obtain ⟨q1, q2⟩ := xHd_lt hH hq (by omega) (xVs_h (xVs_t (xVs_t hw)))
    obtain ⟨v1, v2⟩ := xHd_lt hH hv (by omega) (xVs_h hw)
    have hP := hH.2.1 q q1
    rw [xcell_r hq (by omega)] at hP
    have hP : H[b + q]? = some (arrV (cy (a - 10)) (xsh q).2 (fun j => va_rf (xrow r h q j))) := hP
    have hV := hH.2.1 v v1
    rw [xcell_o hv (by omega)] at hV
    obtain ⟨r', hr', cellV, g1, g2, g3, -⟩ := hV
    have hci : ci < 10 := by omega
    have hcls := (F.2.2.2.2.2.1.1 ci _ (xcl_at ci hci)).2
    obtain ⟨kA, comp, k1, k2, k3, -⟩ : ∃ (kA : Class) (comp : ClassId), s.vm.classes[cy (a - 10)]? = some kA ∧ kA.kind = .array comp (.object (xcl ci).1) ∧ s.vm.findClass (xcl ci).1 = some comp ∧ True := by
      rcases ha with ⟨rfl, rfl⟩ | ⟨rfl, rfl⟩
      · obtain ⟨kA, comp, k1, k2, k3, -⟩ := (F.2.2.2.2.2.1.2 3 _ (show (xtys cy)[3]? = some (cy 3, .object "AsOfPages$Archive") from rfl)).2
        exact ⟨kA, comp, k1, k2, k3, trivial⟩
      · obtain ⟨kA, comp, k1, k2, k3, -⟩ := (F.2.2.2.2.2.1.2 4 _ (show (xtys cy)[4]? = some (cy 4, .object "AsOfPages$Spans") from rfl)).2
        exact ⟨kA, comp, k1, k2, k3, trivial⟩
    obtain rfl : comp = D.1 ci := Option.some.inj (k3.symm.trans hcls.1)
    have hasg := va_assign hcls
    obtain ⟨-, kC, hkC, -⟩ := hcls
    show W p l e R s m args below meth c H locs _ _ Q (F0 m pc la (.ref (r v) :: .int i :: .ref (r q) :: t.map (xlv r)))
    rw [F.2.2.2.2.2.2.2 q q2, F.2.2.2.2.2.2.2 v v2]
    refine W.aast F.1 F.2.1 hP (fun z h => by cases h) (fun h => by cases h) k1 k2 rfl hkC ⟨fun z => hi (Or.inl z), by rw [arrV_size]; exact Nat.not_le.mp fun z => hi (Or.inr z)⟩ g1 (fun z h => by rw [g3] at h; cases h) (by rw [g2]; exact hkC) (by rw [g2]; exact hasg) rfl rfl hdg fun H1 e1 z oq => ?_
    refine x H1 _ la (xHd_put hH ?_ z oq rfl (fun j hj => ⟨rfl, xsr_ne hj⟩) (xsr_vh (xVs_h hw) hH.2.2.1)) hl hv1 (xVs_t (xVs_t (xVs_t hw)))
    rw [xcell_r hq (by omega)]
    show H1[b + q]? = some (vp_cell _ _)
    rw [e1, vp_cell_q, arrV_store]
    congr 2
    funext j
    unfold updV xrow
    by_cases hj : j = i.toNatClampNeg
    · rw [if_pos hj]
      show _ = va_rf (if (if q = q ∧ j = i.toNatClampNeg then v else h.2.1 q j) = xNUL then none else some (r (if q = q ∧ j = i.toNatClampNeg then v else h.2.1 q j)))
      rw [if_pos (show q = q ∧ j = i.toNatClampNeg from ⟨rfl, hj⟩), if_neg (show ¬ v = xNUL from fun z => by rw [z] at v2; exact absurd v2 (by decide)), F.2.2.2.2.2.2.2 v v2]
      rfl
    · rw [if_neg hj]
      show _ = va_rf (if (if q = q ∧ j = i.toNatClampNeg then v else h.2.1 q j) = xNUL then none else some (r (if q = q ∧ j = i.toNatClampNeg then v else h.2.1 q j)))
      rw [if_neg (show ¬ (q = q ∧ j = i.toNatClampNeg) from fun z => hj z.2)]
  · exact x.elim
theorem xq_max (F : xFx p s m args c cc nL own D cy r b n0) (hR : 1 ≤ R.frames ∧ 32 ≤ R.locals ∧ lim - n0 ≤ R.cells ∧ xS lim - xS n0 ≤ R.slots) {n d : Nat} (hdg : decode cc pc = .ok (.invokestatic n, 3)) (hk : xlk d (.methodLink own n Lib.Math.max.name) = true) (x : xroom (st.drop 2) (xi2 st fun a z t => xSim p l e R s m args below meth c Q nL n0 lim b D cy r (pc + 3) ls (.int (if a < z then z else a) :: t) h)) : xSim p l e R s m args below meth c Q nL n0 lim b D cy r pc ls st h := by
  intro H locs la hH hl hv1 hw
  obtain ⟨x, hc⟩ := xroom_of x
  unfold xi2 at x
  split at x
  · have hn := hH.2.2.2.2.2.1
    have hm := xS_mono hn
    simp only [List.drop_succ_cons, List.drop_zero] at hc
    exact va_mmax F.1 F.2.1 (by rw [F.2.2.1, hl.1]) F.2.2.2.1 (F.2.2.2.2.1 _ (xlk_in hk)) (F.2.2.2.2.1 _ xin_st.1) (F.2.2.2.2.1 _ xin_st.2.2.2.1) (F.2.2.2.2.1 _ xin_st.2.2.2.2.1) hR.1 (by rw [xcats]; omega) (by omega) (by omega) hdg (x H locs la hH hl hv1 (xVs_i (xVs_t (xVs_t hw))))
  · exact x.elim
theorem xq_min (F : xFx p s m args c cc nL own D cy r b n0) (hR : 1 ≤ R.frames ∧ 32 ≤ R.locals ∧ lim - n0 ≤ R.cells ∧ xS lim - xS n0 ≤ R.slots) {n d : Nat} (hdg : decode cc pc = .ok (.invokestatic n, 3)) (hk : xlk d (.methodLink own n Lib.Math.min.name) = true) (x : xroom (st.drop 2) (xi2 st fun a z t => xSim p l e R s m args below meth c Q nL n0 lim b D cy r (pc + 3) ls (.int (if z < a then z else a) :: t) h)) : xSim p l e R s m args below meth c Q nL n0 lim b D cy r pc ls st h := by
  intro H locs la hH hl hv1 hw
  obtain ⟨x, hc⟩ := xroom_of x
  unfold xi2 at x
  split at x
  · have hn := hH.2.2.2.2.2.1
    have hm := xS_mono hn
    simp only [List.drop_succ_cons, List.drop_zero] at hc
    exact va_mmin F.1 F.2.1 (by rw [F.2.2.1, hl.1]) F.2.2.2.1 (F.2.2.2.2.1 _ (xlk_in hk)) (F.2.2.2.2.1 _ xin_st.2.1) (F.2.2.2.2.1 _ xin_st.2.2.2.1) (F.2.2.2.2.1 _ xin_st.2.2.2.2.2.1) hR.1 (by rw [xcats]; omega) (by omega) (by omega) hdg (x H locs la hH hl hv1 (xVs_i (xVs_t (xVs_t hw))))
  · exact x.elim
theorem xq_abs (F : xFx p s m args c cc nL own D cy r b n0) (hR : 1 ≤ R.frames ∧ 32 ≤ R.locals ∧ lim - n0 ≤ R.cells ∧ xS lim - xS n0 ≤ R.slots) {n d : Nat} (hdg : decode cc pc = .ok (.invokestatic n, 3)) (hk : xlk d (.methodLink own n Lib.Math.abs.name) = true) (x : xroom (st.drop 1) (xi1 st fun a t => xSim p l e R s m args below meth c Q nL n0 lim b D cy r (pc + 3) ls (.int (if 0 ≤ a then a else 0 - a) :: t) h)) : xSim p l e R s m args below meth c Q nL n0 lim b D cy r pc ls st h := by
  intro H locs la hH hl hv1 hw
  obtain ⟨x, hc⟩ := xroom_of x
  unfold xi1 at x
  split at x
  · have hn := hH.2.2.2.2.2.1
    have hm := xS_mono hn
    simp only [List.drop_succ_cons, List.drop_zero] at hc
    exact va_mabs F.1 F.2.1 (by rw [F.2.2.1, hl.1]) F.2.2.2.1 (F.2.2.2.2.1 _ (xlk_in hk)) (F.2.2.2.2.1 _ xin_st.2.2.1) (F.2.2.2.2.1 _ xin_st.2.2.2.1) (F.2.2.2.2.1 _ xin_st.2.2.2.2.2.2) hR.1 (by rw [xcats]; omega) (by omega) (by omega) hdg (x H locs la hH hl hv1 (xVs_i (xVs_t hw)))
  · exact x.elim
theorem xq_obj (F : xFx p s m args c cc nL own D cy r b n0) (hR : 1 ≤ R.frames ∧ 32 ≤ R.locals ∧ lim - n0 ≤ R.cells ∧ xS lim - xS n0 ≤ R.slots) {n d : Nat} (hdg : decode cc pc = .ok (.invokespecial n, 3)) (hk : xlk d (.methodLink own n Lib.objectInit) = true) (x : xroom (st.drop 1) (xr1 st fun _ t => xSim p l e R s m args below meth c Q nL n0 lim b D cy r (pc + 3) ls t h)) : xSim p l e R s m args below meth c Q nL n0 lim b D cy r pc ls st h := by
  intro H locs la hH hl hv1 hw
  obtain ⟨x, hc⟩ := xroom_of x
  unfold xr1 at x
  split at x
  · simp only [List.drop_succ_cons, List.drop_zero] at hc
    exact W.objInit F.1 F.2.1 F.2.2.2.1 (F.2.2.2.2.1 _ (xlk_in hk)) (F.2.2.2.2.1 _ xin_ob.1) (F.2.2.2.2.1 _ xin_ob.2) rfl (by rw [F.2.2.1]; exact hl.1) rfl hdg hR.1 (by rw [xcats]; show 2 * 0 + _ + 12 ≤ _; omega) (x H locs la hH hl hv1 (xVs_t hw))
  · exact x.elim
theorem xnn_i {z : Int32} (hz : ¬ z < 0) : z.toInt = (z.toNatClampNeg : Int) := by
  have h0 : (0 : Int) ≤ z.toInt := by
    have := Int32.not_lt.mp hz
    simpa using Int32.le_iff_toInt_le.mp this
  show z.toInt = ((z.toInt.toNat : Nat) : Int)
  omega
theorem xcp_ne {h : xM} {q i p j n k : Nat} (hk : k ≠ p) : (xcp h q i p j n).1 k = h.1 k := by
  funext x
  show (if k = p ∧ j ≤ x ∧ x < j + n then _ else h.1 k x) = h.1 k x
  rw [if_neg (fun z => hk z.1)]
theorem xcp_q {h : xM} {q i p j n : Nat} : (xcp h q i p j n).1 p = va_cpy (h.1 q) (h.1 p) i j n := by
  funext x
  show (if p = p ∧ j ≤ x ∧ x < j + n then h.1 q (i + (x - j)) else h.1 p x) = if j ≤ x ∧ x < j + n then h.1 q (i + (x - j)) else h.1 p x
  by_cases e : j ≤ x ∧ x < j + n
  · rw [if_pos ⟨rfl, e⟩, if_pos e]
  · rw [if_neg (fun z => e z.2), if_neg e]
theorem xq_copy (F : xFx p s m args c cc nL own D cy r b n0) (hR : 1 ≤ R.frames ∧ 32 ≤ R.locals ∧ lim - n0 ≤ R.cells ∧ xS lim - xS n0 ≤ R.slots) {n d : Nat} (hdg : decode cc pc = .ok (.invokestatic n, 3)) (hk : xlk d (.methodLink own n arraycopyName) = true) (hR2 : 8 + (nativeFrameWords "java/lang/System" "arraycopy" 5 + 11) ≤ R.locals)
    {N dp sp : Int32} {q0 q1 : Nat} {t : List Value} (hst : st = .int N :: .int dp :: .ref q1 :: .int sp :: .ref q0 :: t) (hc : (t.map fun v => v.category).sum ≤ 8)
    (hq0 : xok q0 10) (hq1 : xok q1 10) (h1 : ¬ sp < 0) (h2 : ¬ dp < 0) (h3 : ¬ N < 0) (h4 : sp.toNatClampNeg + N.toNatClampNeg ≤ (xsh q0).2) (h5 : dp.toNatClampNeg + N.toNatClampNeg ≤ (xsh q1).2)
    (x : xSim p l e R s m args below meth c Q nL n0 lim b D cy r (pc + 3) ls t (xcp h q0 sp.toNatClampNeg q1 dp.toNatClampNeg N.toNatClampNeg)) : xSim p l e R s m args below meth c Q nL n0 lim b D cy r pc ls st h := by
  intro H locs la hH hl hv1 hw
  subst hst
  obtain ⟨a1, a2⟩ := xHd_lt hH hq1 (by omega) (xVs_h (xVs_t (xVs_t hw)))
  obtain ⟨b1, b2⟩ := xHd_lt hH hq0 (by omega) (xVs_h (xVs_t (xVs_t (xVs_t (xVs_t hw)))))
  have hP0 : H[b + q0]? = some (arrV (cy 0) (xsh q0).2 (fun j => .int (h.1 q0 j))) := xat_i hq0 (by omega) (by omega) (hH.2.1 q0 b1)
  have hP1 : H[b + q1]? = some (arrV (cy 0) (xsh q1).2 (fun j => .int (h.1 q1 j))) := xat_i hq1 (by omega) (by omega) (hH.2.1 q1 a1)
  show W p l e R s m args below meth c H locs _ _ Q (F0 m pc la (.int N :: .int dp :: .ref (r q1) :: .int sp :: .ref (r q0) :: t.map (xlv r)))
  rw [F.2.2.2.2.2.2.2 q1 a2, F.2.2.2.2.2.2.2 q0 b2]
  intro T hT X
  obtain ⟨-, k0, hk0, cm0, hkk0⟩ := (F.2.2.2.2.2.1.2 0 _ xt0).1 (xsh q0).2 (fun j => .int (h.1 q0 j))
  obtain ⟨vm', X', step⟩ := X.arraycopy F.1 F.2.2.2.1 (F.2.2.2.2.1 _ (xlk_in hk)) (F.2.2.2.2.1 _ xin_cp.1) (F.2.2.2.2.1 _ xin_cp.2.1) (F.2.2.2.2.1 _ xin_cp.2.2) (src := b + q0) (dst := b + q1) (cs := arrV (cy 0) (xsh q0).2 (fun j => .int (h.1 q0 j))) (cd := arrV (cy 0) (xsh q1).2 (fun j => .int (h.1 q1 j))) (srcPos := sp) (destPos := dp) (n := N) (by rw [hT]; exact hP0) (by rw [hT]; exact hP1)
    (fun _ z => by cases z) (fun _ z => by cases z) (fun z => by cases z) (fun z => by cases z) hk0 hk0 hkk0 hkk0 (by rfl) h1 h2 h3
    (by rw [xnn_i h1, xnn_i h3, arrV_size]; omega) (by rw [xnn_i h2, xnn_i h3, arrV_size]; omega)
    (fun vm₁ _ i hi => by
      rw [Array.getD_eq_getD_getElem?, arrV_read _ _ (by omega)]
      exact ⟨rfl, trivial⟩)
    (g := F0 m pc la (.int N :: .int dp :: .ref (b + q1) :: .int sp :: .ref (b + q0) :: t.map (xlv r))) rfl (by rw [F.2.2.1]; exact hl.1) (rest := t.map (xlv r)) rfl (by rw [F.2.1]; exact hdg) hR.1 (by rw [xcats]; show 2 * 0 + _ + _ ≤ _; omega)
  have e1 : copied (arrV (cy 0) (xsh q0).2 (fun j => .int (h.1 q0 j))) (arrV (cy 0) (xsh q1).2 (fun j => .int (h.1 q1 j))) sp dp N = arrV (cy 0) (xsh q1).2 (fun j => .int (va_cpy (h.1 q0) (h.1 q1) sp.toNatClampNeg dp.toNatClampNeg N.toNatClampNeg j)) := va_copied (fun z => .int z) (cy 0) (cy 0) (h.1 q0) (h.1 q1) h4
  rw [e1] at X' step
  have hlt : b + q1 < H.size := (Array.getElem?_eq_some_iff.mp hP1).1
  generalize hc1 : arrV (cy 0) (xsh q1).2 (fun j => .int (va_cpy (h.1 q0) (h.1 q1) sp.toNatClampNeg dp.toNatClampNeg N.toNatClampNeg j)) = cell1 at X' step
  have hheap : ((T.setVm vm').setCell (b + q1) cell1).heap = H.setIfInBounds (b + q1) cell1 := by rw [← hT]; rfl
  have oq : ∀ q : Nat, q ≠ b + q1 → (H.setIfInBounds (b + q1) cell1)[q]? = H[q]? := fun q hq => by simp [Array.getElem?_setIfInBounds, Ne.symm hq]
  have z1 : (H.setIfInBounds (b + q1) cell1).size = H.size := by simp
  have hat : va_at D vwCl (b + q1, xcell cy r (xcp h q0 sp.toNatClampNeg q1 dp.toNatClampNeg N.toNatClampNeg) q1) (H.setIfInBounds (b + q1) cell1) := by
    rw [xcell_i hq1 (by omega) (by omega)]
    show (H.setIfInBounds (b + q1) cell1)[b + q1]? = some (vp_cell _ _)
    rw [vp_cell_i, xcp_q, ← hc1]
    simp [Array.getElem?_setIfInBounds, hlt]
  obtain ⟨h1', h2', h3', h4', h5', h6', h7'⟩ := xHd_put (k := 0) hH hat z1 oq rfl (fun j hj => ⟨xcp_ne hj, rfl⟩) hH.2.2.1
  obtain ⟨t', a', b'⟩ := x _ _ la ⟨h1', h2', h3', (⟨h4'.1, h4'.2.1, fun q hq => by
      rcases List.mem_append.mp hq with z | z
      · exact hH.2.2.2.1.2.2 q z
      · obtain ⟨w, -, hw⟩ := List.mem_map.mp z
        rw [← hw]
        exact Nat.le_add_right b q1⟩ : va_S (xA b) s.heap _ (locs ++ _)), h5', h6', h7'⟩ hl hv1 (xVs_t (xVs_t (xVs_t (xVs_t (xVs_t hw))))) _ hheap X'
  exact ⟨t', step t' a', b'⟩
/-- switches -/
def xtb (lo : Int) : Nat → Nat → List Int → Nat → List (Int32 × Nat)
  | _, _, [], _ => []
  | pc, d, o :: os, k => (Int32.ofInt (lo + k), ((pc : Int) + o).toNat) :: xtb lo pc d os (k + 1)
theorem xtb_out {lo : Int} {pc d : Nat} {x : Int32} {k : Nat → Prop} : ∀ (os : List Int) (i : Nat), xsw x (xtb lo pc d os i) d k → (∀ j : Nat, i ≤ j → j < i + os.length → ¬ x = Int32.ofInt (lo + j)) → k d := by
  intro os
  induction os with
  | nil => intro i z _; exact z
  | cons o os ih =>
    intro i z hn
    exact ih (i + 1) (z.2 (hn i (Nat.le_refl _) (by simp))) (fun j h1 h2 => hn j (by omega) (by simp only [List.length_cons]; omega))
theorem xtb_in {lo : Int} {pc d : Nat} {x : Int32} {k : Nat → Prop} : ∀ (os : List Int) (i : Nat), xsw x (xtb lo pc d os i) d k → ∀ (j : Nat) (o : Int), os[j]? = some o → x = Int32.ofInt (lo + ((i + j : Nat) : Int)) → (∀ j' : Nat, j' < j → ¬ x = Int32.ofInt (lo + ((i + j' : Nat) : Int))) → k ((pc : Int) + o).toNat := by
  intro os
  induction os with
  | nil => intro i z j o h; simp at h
  | cons o' os ih =>
    intro i z j o h e hn
    cases j with
    | zero =>
      simp at h
      subst h
      exact z.1 e
    | succ j =>
      rw [List.getElem?_cons_succ] at h
      refine ih (i + 1) (z.2 (hn 0 (by omega))) j o h (by rw [e]; congr 2; omega) (fun j' hj' => ?_)
      have := hn (j' + 1) (by omega)
      rwa [show i + 1 + j' = i + (j' + 1) by omega]
theorem xi32 {x : Int32} {z : Int} (h1 : -2147483648 ≤ z) (h2 : z < 2147483648) : x = Int32.ofInt z ↔ x.toInt = z := by
  constructor
  · intro h
    rw [h, Int32.toInt_ofInt_of_le (by omega) (by omega)]
  · intro h
    rw [← h, Int32.ofInt_toInt]
theorem xq_table (F : xFx p s m args c cc nL own D cy r b n0) {dflt lo hi : Int} {offs : Array Int} {len tgt : Nat} {sw : List (Int32 × Nat)} (hdg : decode cc pc = .ok (.tableswitch dflt lo hi offs, len)) (hd : (pc : Int) + dflt = (tgt : Int)) (hb : -1000 ≤ lo ∧ hi ≤ 1000 ∧ hi + 1 = lo + offs.size) (hp : ∀ o ∈ offs.toList, 0 ≤ (pc : Int) + o) (hsw : sw = xtb lo pc tgt offs.toList 0)
    (x : xi1 st fun a t => xsw a sw tgt fun z => xSim p l e R s m args below meth c Q nL n0 lim b D cy r z ls t h) : xSim p l e R s m args below meth c Q nL n0 lim b D cy r pc ls st h := by
  intro H locs la hH hl hv1 hw
  unfold xi1 at x
  split at x
  · rename_i a t
    subst hsw
    by_cases hin : a.toInt < lo ∨ hi < a.toInt
    · refine lv_tableOut F.1 F.2.1 hdg hin hd (xtb_out _ 0 x (fun j _ hj => ?_) H locs la hH hl hv1 (xVs_t hw))
      have hj : j < offs.size := by simpa using hj
      rw [xi32 (by omega) (by omega)]
      omega
    · obtain ⟨j, hj⟩ : ∃ j : Nat, a.toInt = lo + j := ⟨(a.toInt - lo).toNat, by omega⟩
      have hjs : j < offs.size := by omega
      have ho : offs.toList[j]? = some offs[j] := by simp [hjs]
      refine lv_tableIn F.1 F.2.1 hdg (by omega) (by omega) (off := offs[j]) (tgt := ((pc : Int) + offs[j]).toNat) (by rw [hj, show (lo + (j : Int) - lo).toNat = j by omega]; simp [hjs]) (by have := hp _ (List.mem_of_getElem? ho); omega) ?_
      refine xtb_in _ 0 x j _ ho ?_ (fun j' hj' => ?_) H locs la hH hl hv1 (xVs_t hw)
      · rw [xi32 (by omega) (by omega), hj]; omega
      · rw [xi32 (by omega) (by omega), hj]; omega
  · exact x.elim
def xlb (pc : Nat) : List (Int × Int) → List (Int32 × Nat)
  | [] => []
  | o :: os => (Int32.ofInt o.1, ((pc : Int) + o.2).toNat) :: xlb pc os
theorem xlb_at {pc d : Nat} {a : Int32} {dflt : Int} {k : Nat → Prop} (hd : (pc : Int) + dflt = (d : Int)) : ∀ (ps : List (Int × Int)), (∀ q ∈ ps, -1000 ≤ q.1 ∧ q.1 ≤ 1000 ∧ 0 ≤ (pc : Int) + q.2) → xsw a (xlb pc ps) d k → ∃ tgt : Nat, (pc : Int) + Op.lookupswitch.offset ps dflt a.toInt = (tgt : Int) ∧ k tgt := by
  intro ps
  induction ps with
  | nil => intro _ x; exact ⟨d, by simpa [Op.lookupswitch.offset] using hd, x⟩
  | cons q ps ih =>
    intro hb x
    obtain ⟨b1, b2, b3⟩ := hb q List.mem_cons_self
    by_cases e : a.toInt = q.1
    · refine ⟨((pc : Int) + q.2).toNat, ?_, x.1 ((xi32 (by omega) (by omega)).mpr e)⟩
      have : Op.lookupswitch.offset (q :: ps) dflt a.toInt = q.2 := by simp [Op.lookupswitch.offset, e]
      rw [this]
      omega
    · obtain ⟨tgt, h1, h2⟩ := ih (fun z hz => hb z (List.mem_cons_of_mem _ hz)) (x.2 (fun z => e ((xi32 (by omega) (by omega)).mp z)))
      refine ⟨tgt, ?_, h2⟩
      have : Op.lookupswitch.offset (q :: ps) dflt a.toInt = Op.lookupswitch.offset ps dflt a.toInt := by
        have e' : ¬ q.1 = a.toInt := fun z => e z.symm
        simp [Op.lookupswitch.offset, e, e']
      rw [this]
      exact h1
theorem xq_look (F : xFx p s m args c cc nL own D cy r b n0) {dflt : Int} {ps : Array (Int × Int)} {len tgt : Nat} {sw : List (Int32 × Nat)} (hdg : decode cc pc = .ok (.lookupswitch dflt ps, len)) (hd : (pc : Int) + dflt = (tgt : Int)) (hb : ∀ q ∈ ps.toList, -1000 ≤ q.1 ∧ q.1 ≤ 1000 ∧ 0 ≤ (pc : Int) + q.2) (hp : (ps.toList.zip (ps.toList.drop 1)).all (fun (a, next) => a.1 < next.1) = true) (hsw : sw = xlb pc ps.toList)
    (x : xi1 st fun a t => xsw a sw tgt fun z => xSim p l e R s m args below meth c Q nL n0 lim b D cy r z ls t h) : xSim p l e R s m args below meth c Q nL n0 lim b D cy r pc ls st h := by
  intro H locs la hH hl hv1 hw
  unfold xi1 at x
  split at x
  · subst hsw
    obtain ⟨tgt', h1, h2⟩ := xlb_at hd ps.toList hb x
    exact lv_lookup F.1 F.2.1 hdg hp rfl h1 (h2 H locs la hH hl hv1 (xVs_t hw))
  · exact x.elim
end XO
