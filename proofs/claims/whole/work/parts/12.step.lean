/-! THE PURE MACHINE IS SOUND: one step. -/
theorem xinst_all : ∀ c, c < 10 → Cond.instantiable (xcl c).1 (xcl c).2.2 ∈ xG ∧ Cond.initialized (xcl c).1 ∈ xG := x10 (by decide +kernel) (by decide +kernel) (by decide +kernel) (by decide +kernel) (by decide +kernel) (by decide +kernel) (by decide +kernel) (by decide +kernel) (by decide +kernel) (by decide +kernel)
theorem xMok_of {i : Nat} (h : xckN i = true) : xMok (xP i) (xPos i).2.1 (xPos i).2.2 := by
  unfold xckN at h
  rw [Bool.and_eq_true, Bool.and_eq_true] at h
  have h := h.1.1
  unfold xckW at h
  rw [Bool.and_eq_true, Bool.and_eq_true, Bool.and_eq_true] at h
  obtain ⟨⟨⟨h1, h2⟩, h3⟩, h4⟩ := h
  have h4 := of_decide_eq_true h4
  refine ⟨xlk_in h1, xlk_in h2, fun e => ?_, fun e => ?_, fun e ne => ?_, h4.1, h4.2.1, h4.2.2.1, h4.2.2.2.1, h4.2.2.2.2.1, h4.2.2.2.2.2⟩
  · rw [e] at h3; exact xlk_in h3
  · rw [e] at h3; exact xlk_in (Bool.and_eq_true_iff.mp h3).1
  · rw [e] at h3
    rcases Bool.or_eq_true_iff.mp (Bool.and_eq_true_iff.mp h3).2 with z | z
    · exact absurd (of_decide_eq_true z) ne
    · exact xlk_in z
theorem xnil_of {t : List Value} {A : Prop} (x : xnil t A) : t = [] ∧ A := by
  unfold xnil at x
  split at x
  · exact ⟨rfl, x⟩
  · exact x.elim
theorem xtake (st : List Value) (n : Nat) : st = (st.take n).reverse.reverse ++ st.drop n := by simp
theorem xr1_of {st : List Value} {f : Nat → List Value → Prop} (x : xr1 st f) : ∃ (q : Nat) (t : List Value), st = .ref q :: t ∧ f q t := by
  unfold xr1 at x
  split at x
  · exact ⟨_, _, rfl, x⟩
  · exact x.elim
theorem xri_of {st : List Value} {f : Nat → Int32 → List Value → Prop} (x : xri st f) : ∃ (q : Nat) (i : Int32) (t : List Value), st = .int i :: .ref q :: t ∧ f q i t := by
  unfold xri at x
  split at x
  · exact ⟨_, _, _, rfl, x⟩
  · exact x.elim
theorem xnat5_of {st : List Value} {h : xM} {k : List Value → xM → Prop} (x : xnat 5 st h k) : ∃ (N dp : Int32) (q1 : Nat) (sp : Int32) (q0 : Nat) (t : List Value), st = .int N :: .int dp :: .ref q1 :: .int sp :: .ref q0 :: t ∧ xok q0 10 ∧ xok q1 10 ∧ ¬ sp < 0 ∧ ¬ dp < 0 ∧ ¬ N < 0 ∧ sp.toNatClampNeg + N.toNatClampNeg ≤ (xsh q0).2 ∧ dp.toNatClampNeg + N.toNatClampNeg ≤ (xsh q1).2 ∧ k t (xcp h q0 sp.toNatClampNeg q1 dp.toNatClampNeg N.toNatClampNeg) := by
  have x : xcpy st h k := x
  unfold xcpy at x
  split at x
  · exact ⟨_, _, _, _, _, _, rfl, x⟩
  · exact x.elim
section XM
variable {p : Program} {l : Launch} {e : Env} {R : Room} {s : State} {m : MethodId} {args : Array Value} {below : List Frame} {meth : Method} {c : Code} {Q : State → Prop} {cc : ByteArray} {nL n0 lim b : Nat} {D : va_G} {cy : Nat → ClassId} {r : Nat → Nat} {own : String} {pc : Nat} {ls st : List Value} {h : xM}
variable {XX : State → Heap → Prop} {d : Nat} {call : Nat → List Value → xM → (Option Value → xM → Prop) → Prop} {ret : Option Value → xM → Prop} {rt : Option FieldType} {ini : Bool}
/-- own calls, whatever they answer -/
theorem xen_of {en : xE} {A : Prop} (x : xen en st A) : A ∧ en.2.2.1.2.1 ≤ st.length := by
  unfold xen at x
  split at x
  · rename_i hb; exact ⟨x, Nat.le_of_ble_eq_true hb⟩
  · exact x.elim
theorem xrcv_of {en : xE} {A : Prop} (x : xrcv en st A) : A ∧ ∃ k t, st.drop (en.2.2.1.2.1 - 1) = .ref k :: t := by
  unfold xrcv at x
  split at x
  · rename_i k t hb; exact ⟨x, k, t, hb⟩
  · exact x.elim
theorem xcallK {en : xE} {k : List Value → xM → Prop} (hc : en.2.2.1.2.2.1 = 0 ∨ en.2.2.1.2.2.1 = 10 ∨ en.2.2.1.2.2.1 = 11 ∨ en.2.2.1.2.2.1 = 12) (x : xcall en lim st h call k) :
    ∃ Qp : Option Value → xM → Prop, call en.2.2.1.1 (st.take en.2.2.1.2.1).reverse h Qp ∧ ((st.drop en.2.2.1.2.1).map fun v => v.category).sum ≤ 8 ∧ en.2.2.1.2.1 ≤ st.length ∧ ∀ rv h', Qp rv h' → k (rv.toList ++ st.drop en.2.2.1.2.1) h' := by
  unfold xcall at x
  rcases hc with hc | hc | hc | hc
  · rw [hc] at x
    obtain ⟨x, w⟩ := xen_of x
    obtain ⟨x, y⟩ := xroom_of x
    refine ⟨_, x, y, w, fun rv h' z => ?_⟩
    unfold xr0 at z; split at z
    · exact z
    · exact z.elim
  · rw [hc] at x
    obtain ⟨x, w⟩ := xen_of x
    obtain ⟨x, y⟩ := xroom_of x
    refine ⟨_, x, y, w, fun rv h' z => ?_⟩
    unfold xrI at z; split at z
    · exact z
    · exact z.elim
  · rw [hc] at x
    obtain ⟨x, w⟩ := xen_of x
    obtain ⟨x, y⟩ := xroom_of x
    refine ⟨_, x, y, w, fun rv h' z => ?_⟩
    unfold xrR at z; split at z
    · exact z
    · exact z.elim
  · rw [hc] at x
    obtain ⟨x, w⟩ := xen_of x
    obtain ⟨x, y⟩ := xroom_of x
    refine ⟨_, x, y, w, fun rv h' z => ?_⟩
    unfold xrL at z; split at z
    · exact z
    · exact z.elim
theorem xtake_len {en : xE} {np : Nat} {q : Nat} {t : List Value} (hb : en.2.2.1.2.1 = np + 1) (hd : st.drop (en.2.2.1.2.1 - 1) = .ref q :: t) : ∃ vs : List Value, (st.take en.2.2.1.2.1).reverse = .ref q :: vs ∧ vs.length = np ∧ st = vs.reverse ++ .ref q :: st.drop en.2.2.1.2.1 := by
  rw [hb] at hd ⊢
  rw [Nat.add_sub_cancel] at hd
  have h1 : st.take (np + 1) = st.take np ++ [.ref q] := by
    have hg : st[np]? = some (.ref q) := by
      have := congrArg (fun l => l[0]?) hd
      simpa using this
    rw [List.take_succ, hg]
    rfl
  have hl : np < st.length := by
    have := congrArg List.length hd
    simp at this
    omega
  refine ⟨(st.take np).reverse, by rw [h1]; simp, by simp; omega, ?_⟩
  have h2 := List.take_append_drop (np + 1) st
  rw [h1] at h2
  rw [List.reverse_reverse]
  calc st = st.take np ++ [.ref q] ++ st.drop (np + 1) := h2.symm
    _ = _ := by simp
set_option maxHeartbeats 4000000 in
theorem xsound_V (hX : xXok l b r XX) (F : xFx p s m args c cc nL own D cy r b n0) (hXs : XX s s.heap) (hall : ∀ i, i < xNM → xckN i = true) (hR : d + 5 ≤ R.frames ∧ 64 * d + 320 ≤ R.locals ∧ lim - n0 ≤ R.cells ∧ xS lim - xS n0 ≤ R.slots) (hR4 : 4 ≤ R.frames ∧ 128 ≤ R.locals) (hcall : ∀ (j : Nat) (vs : List Value) (h : xM) (Qp : Option Value → xM → Prop), j < xNM → call j vs h Qp → xCon l (xP j) d vs h Qp)
    {en : xE} {n : Nat} (hdg : decode cc pc = .ok (.invokevirtual n, 3)) (hk : xckV own n en = true) (hs : xvirt en st (xcall en lim st h call fun t h' => xSim p l e R s m args below meth c Q nL n0 lim b D cy r (pc + 3) ls t h')) : xSim p l e R s m args below meth c Q nL n0 lim b D cy r pc ls st h := by
  unfold xckV at hk
  split at hk
  · rename_i hc7
    obtain ⟨h1, hb1, h2⟩ := of_decide_eq_true hk
    unfold xvirt at hs
    rw [h1] at hs
    have hs : xcall en lim st h call fun t h' => xSim p l e R s m args below meth c Q nL n0 lim b D cy r (pc + 3) ls t h' := hs
    unfold xcall at hs
    rw [hc7] at hs
    obtain ⟨hs, hcat⟩ := xroom_of (show xroom (st.drop en.2.2.1.2.1) (xnat 7 st h fun t h' => xSim p l e R s m args below meth c Q nL n0 lim b D cy r (pc + 3) ls t h') from hs)
    have hs : xr1 st fun q t => 1000 ≤ q ∧ q < 1000 + xtxt.length ∧ xSim p l e R s m args below meth c Q nL n0 lim b D cy r (pc + 3) ls (.int (nI (xtxt.getD (q - 1000) []).length) :: t) h := hs
    intro H locs la hH hl hv1 hw
    obtain ⟨q, t, rfl, hs⟩ := xr1_of hs
    · obtain ⟨g1, g2, x⟩ := hs
      have hn := hH.2.2.2.2.2.1
      have hm := xS_mono hn
      rw [hb1] at hcat
      simp only [List.drop_succ_cons, List.drop_zero] at hcat
      obtain ⟨i, rfl⟩ : ∃ i, q = 1000 + i := ⟨q - 1000, by omega⟩
      rw [Nat.add_sub_cancel_left] at x
      exact hX.2.2.2.2.2.1 p e R s m args below meth c H locs _ _ Q cc pc la _ own n i F.1 F.2.1 (by rw [F.2.2.1, hl.1]) F.2.2.2.1 F.2.2.2.2.1 (F.2.2.2.2.1 _ (xlk_in h2)) (hX.2.2.1 s s.heap H (fun q g1 g2 => hH.2.2.2.1.2.1 q g1 g2) hXs) (by omega) hR4.1 hR4.2 (by omega) (by omega) (by rw [xcats]; omega) hdg (x H locs la hH hl hv1 (xVs_i (xVs_t hw)))
  · rename_i hc8
    obtain ⟨h1, hb1, h2⟩ := of_decide_eq_true hk
    unfold xvirt at hs
    rw [h1] at hs
    have hs : xcall en lim st h call fun t h' => xSim p l e R s m args below meth c Q nL n0 lim b D cy r (pc + 3) ls t h' := hs
    unfold xcall at hs
    rw [hc8] at hs
    obtain ⟨hs, hcat⟩ := xroom_of (show xroom (st.drop en.2.2.1.2.1) (xnat 8 st h fun t h' => xSim p l e R s m args below meth c Q nL n0 lim b D cy r (pc + 3) ls t h') from hs)
    have hs : xri st fun q i t => 1000 ≤ q ∧ q < 1000 + xtxt.length ∧ vp_in i (xtxt.getD (q - 1000) []).length ∧ xSim p l e R s m args below meth c Q nL n0 lim b D cy r (pc + 3) ls (.int ((xtxt.getD (q - 1000) []).getD i.toNatClampNeg 0) :: t) h := hs
    intro H locs la hH hl hv1 hw
    obtain ⟨q, j, t, rfl, hs⟩ := xri_of hs
    · obtain ⟨g1, g2, g3, x⟩ := hs
      have hn := hH.2.2.2.2.2.1
      have hm := xS_mono hn
      rw [hb1] at hcat
      simp only [List.drop_succ_cons, List.drop_zero] at hcat
      obtain ⟨i, rfl⟩ : ∃ i, q = 1000 + i := ⟨q - 1000, by omega⟩
      rw [Nat.add_sub_cancel_left] at x g3
      exact hX.2.2.2.2.2.2 p e R s m args below meth c H locs _ _ Q cc pc la _ own n i j F.1 F.2.1 (by rw [F.2.2.1, hl.1]) F.2.2.2.1 F.2.2.2.2.1 (F.2.2.2.2.1 _ (xlk_in h2)) (hX.2.2.1 s s.heap H (fun q g1 g2 => hH.2.2.2.1.2.1 q g1 g2) hXs) (by omega) g3 hR4.1 hR4.2 (by omega) (by omega) (by rw [xcats]; omega) hdg (x H locs la hH hl hv1 (xVs_i (xVs_t (xVs_t hw))))
  · obtain ⟨k0, k1, k2, k3, k4, k5, k6, k7, k8, k9⟩ := of_decide_eq_true hk
    unfold xvirt at hs
    rw [k6] at hs
    have hs : (match st.drop (en.2.2.1.2.1 - 1) with | .ref k :: _ => xok k (xsw2 en 0) ∧ (xcall en lim st h call fun t h' => xSim p l e R s m args below meth c Q nL n0 lim b D cy r (pc + 3) ls t h') | _ => False) := hs
    split at hs
    · rename_i k t hd
      obtain ⟨hok, hs⟩ := hs
      obtain ⟨Qp, c1, c2, hlen, c3⟩ := xcallK k0 hs
      obtain ⟨vs, v1, v2, v3⟩ := xtake_len k3 hd
      rw [v1] at c1
      have ok := xMok_of (hall _ k1)
      rw [k2] at ok
      have z0 := ok.2.2.2.2.2.2.2.2.1 k9
      intro H locs la hH hl hv1 hw
      refine xq_callV hX F hXs hR hdg k4 ok k5 (hcall _ _ _ _ k1 c1) v3 v2 c2 k7 k8 hok (by rw [k9]; exact hH.2.2.2.2.2.1) (by rw [k9, z0]; rfl) c3 H locs la hH hl hv1 hw
    · exact hs.elim
set_option maxHeartbeats 4000000 in
theorem xsound_S (hX : xXok l b r XX) (F : xFx p s m args c cc nL own D cy r b n0) (hXs : XX s s.heap) (hall : ∀ i, i < xNM → xckN i = true) (hR : d + 5 ≤ R.frames ∧ 64 * d + 320 ≤ R.locals ∧ lim - n0 ≤ R.cells ∧ xS lim - xS n0 ≤ R.slots) (hR4 : 4 ≤ R.frames ∧ 128 ≤ R.locals) (hcall : ∀ (j : Nat) (vs : List Value) (h : xM) (Qp : Option Value → xM → Prop), j < xNM → call j vs h Qp → xCon l (xP j) d vs h Qp)
    {en : xE} {n : Nat} (hdg : decode cc pc = .ok (.invokestatic n, 3)) (hk : xckS own n en = true) (hs : xcall en lim st h call fun t h' => xSim p l e R s m args below meth c Q nL n0 lim b D cy r (pc + 3) ls t h') : xSim p l e R s m args below meth c Q nL n0 lim b D cy r pc ls st h := by
  have hR1 : 1 ≤ R.frames ∧ 32 ≤ R.locals ∧ lim - n0 ≤ R.cells ∧ xS lim - xS n0 ≤ R.slots := ⟨by omega, by omega, hR.2.2⟩
  unfold xckS at hk
  split at hk
  · rename_i hc
    obtain ⟨hb1, hk⟩ := of_decide_eq_true hk
    unfold xcall at hs
    rw [hc, hb1] at hs
    exact xq_max F hR1 hdg hk hs
  · rename_i hc
    obtain ⟨hb1, hk⟩ := of_decide_eq_true hk
    unfold xcall at hs
    rw [hc, hb1] at hs
    exact xq_min F hR1 hdg hk hs
  · rename_i hc
    obtain ⟨hb1, hk⟩ := of_decide_eq_true hk
    unfold xcall at hs
    rw [hc, hb1] at hs
    exact xq_abs F hR1 hdg hk hs
  · rename_i hc
    obtain ⟨hb1, hk⟩ := of_decide_eq_true hk
    unfold xcall at hs
    rw [hc, hb1] at hs
    have hs : xroom (st.drop 5) (xnat 5 st h fun t h' => xSim p l e R s m args below meth c Q nL n0 lim b D cy r (pc + 3) ls t h') := hs
    obtain ⟨hs, hcat⟩ := xroom_of hs
    obtain ⟨N, dp, q1, sp, q0, t, rfl, g1, g2, g3, g4, g5, g6, g7, x⟩ := xnat5_of hs
    simp only [List.drop_succ_cons, List.drop_zero] at hcat
    have hnw : nativeFrameWords "java/lang/System" "arraycopy" 5 ≤ 100 := by decide +kernel
    exact xq_copy F hR1 hdg hk (by omega) rfl (by omega) g1 g2 g3 g4 g5 g6 g7 x
  · obtain ⟨k0, k1, k2, k3, k4, k5, k6⟩ := of_decide_eq_true hk
    obtain ⟨Qp, c1, c2, hlen, c3⟩ := xcallK k0 hs
    have ok := xMok_of (hall _ k1)
    rw [k2] at ok
    have z0 := ok.2.2.2.2.2.2.2.2.1 k6
    intro H locs la hH hl hv1 hw
    refine xq_callS hX F hXs hR hdg k4 ok k5 (hcall _ _ _ _ k1 c1) (xtake st _) (by rw [List.length_reverse, List.length_take, ← k3]; omega) c2 (by rw [k6]; exact hH.2.2.2.2.2.1) (by rw [k6, z0]; rfl) c3 H locs la hH hl hv1 hw
set_option maxHeartbeats 4000000 in
theorem xsound_I (hX : xXok l b r XX) (F : xFx p s m args c cc nL own D cy r b n0) (hXs : XX s s.heap) (hall : ∀ i, i < xNM → xckN i = true) (hR : d + 5 ≤ R.frames ∧ 64 * d + 320 ≤ R.locals ∧ lim - n0 ≤ R.cells ∧ xS lim - xS n0 ≤ R.slots) (hR4 : 4 ≤ R.frames ∧ 128 ≤ R.locals) (hcall : ∀ (j : Nat) (vs : List Value) (h : xM) (Qp : Option Value → xM → Prop), j < xNM → call j vs h Qp → xCon l (xP j) d vs h Qp)
    {en : xE} {n : Nat} (hdg : decode cc pc = .ok (.invokespecial n, 3)) (hk : xckI own n en = true) (hs : xcall en lim st h call fun t h' => xSim p l e R s m args below meth c Q nL n0 lim b D cy r (pc + 3) ls t h') : xSim p l e R s m args below meth c Q nL n0 lim b D cy r pc ls st h := by
  have hR1 : 1 ≤ R.frames ∧ 32 ≤ R.locals ∧ lim - n0 ≤ R.cells ∧ xS lim - xS n0 ≤ R.slots := ⟨by omega, by omega, hR.2.2⟩
  unfold xckI at hk
  split at hk
  · rename_i hc
    obtain ⟨hb1, hk⟩ := of_decide_eq_true hk
    unfold xcall at hs
    rw [hc, hb1] at hs
    exact xq_obj F hR1 hdg hk hs
  · rename_i hc
    obtain ⟨k1, k2, k3, k4, k5, k6, k7, k8⟩ := of_decide_eq_true hk
    unfold xcall at hs
    rw [hc] at hs
    obtain ⟨hs, k, t, hd⟩ := xrcv_of hs
    obtain ⟨c1, c2⟩ := xroom_of hs
    obtain ⟨vs, v1, v2, v3⟩ := xtake_len k3 hd
    rw [v1] at c1
    have ok := xMok_of (hall _ k1)
    rw [k2] at ok
    have z0 := ok.2.2.2.2.2.2.2.2.1 k8
    intro H locs la hH hl hv1 hw
    refine xq_callI hX F hXs hR hdg (Or.inr ⟨k4, k5, k6⟩) ok (by rw [k6]; rfl) k7 (hcall _ _ _ _ k1 c1) v3 v2 c2 (by rw [k8]; exact hH.2.2.2.2.2.1) (by rw [k8, z0]; rfl) (fun rv h' z => ?_) H locs la hH hl hv1 hw
    unfold xr0 at z; split at z
    · exact z
    · exact z.elim
  · rename_i hc
    obtain ⟨k1, k2, k3, k4, k5, k6, k7, k8⟩ := of_decide_eq_true hk
    unfold xcall at hs
    rw [hc] at hs
    obtain ⟨hs, k, t, hd⟩ := xrcv_of hs
    obtain ⟨c1, c2⟩ := xroom_of hs
    obtain ⟨g1, g2, c1⟩ := c1
    obtain ⟨vs, v1, v2, v3⟩ := xtake_len k3 hd
    rw [v1] at c1
    have ok := xMok_of (hall _ k1)
    rw [k2] at ok
    intro H locs la hH hl hv1 hw
    refine xq_callI hX F hXs hR hdg (Or.inl ⟨_, k4⟩) ok k5 k6 (hcall _ _ _ _ k1 c1) v3 v2 c2 (by rw [k7]; exact g1) (by rw [k7, k8]; exact g2) (fun rv h' z => ?_) H locs la hH hl hv1 hw
    unfold xr0 at z; split at z
    · exact z
    · exact z.elim
  · cases hk
end XM
