/-! THE CLAIM OUT OF THE PURE MACHINE: what is left is a law of the pure machine. -/
def xh0 : xM := (fun _ _ => 0, fun _ _ => xNUL, 0)
/-- the law's calls: the script's ints, its length, the methods -/
def xca (d L : Nat) (xs : Nat → Int32) (j : Nat) (vs : List Value) (h : xM) (Qp : Option Value → xM → Prop) : Prop := match j with
  | 999 => xi1 vs fun i _ => vp_in i L ∧ Qp (some (.int (xs i.toNatClampNeg))) h
  | 998 => Qp (some (.int (Int32.ofNat L))) h
  | j => xW xP d j vs h Qp
theorem xca_m (d L : Nat) (xs : Nat → Int32) : xcm (xca d L xs) := by
  intro i vs h Q Q' hQ x
  unfold xca at *
  split at x
  · exact xi1_m (fun _ _ z => ⟨z.1, hQ _ _ z.2⟩) x
  · exact hQ _ _ x
  · exact xW_m xP d _ _ _ _ _ hQ x
def xLaw (d L : Nat) (xs : Nat → Int32) : Prop := xAt xT_law (xca d L xs) (fun rv _ => rv = some (.int 1)) xNK 0 [.ref 1500, .null, .null, .null] [] xh0
set_option maxHeartbeats 4000000 in
theorem whole_open (d : Nat) (hd : d ≤ 1000) (hlaw : ∀ (L : Nat) (xs : Nat → Int32), L ≤ 3072 → xLaw d L xs) {p : Program} {e : Env} {s : State} {m : MethodId} {below : List Frame} {meth : Method} {c : Code} (l : Launch) (hflags : l.flags = flags0) {b L : Nat} {xs : Nat → Int32} (hL : L ≤ 3072) (C0 : lw_At p s m meth c b L xs) : W p l e room_1 s m #[Value.ref b] below meth c s.heap [] 0 0 (lw_Z below #[Value.ref b] s) (entryFrame m ([Value.ref b] : List Value).toArray 4) := by
  obtain ⟨D, cy, sa, sv, hK, hXX, hsb⟩ := xfacts C0
  obtain ⟨hx, hb, hr, hml, hown, hts, hX, hbl, hlocks, hgv⟩ := C0
  have F : xFx p s m #[Value.ref b] c code 4 "AsOfPagesLaw" D cy (xr s.heap.size sa) s.heap.size 0 := ⟨hx, hb, hml, hown, fun w hw => hts w (List.mem_filter.mp hw).1, hK, rfl, fun k hk => by unfold xr; rw [if_pos hk]⟩
  have h1500 : xr s.heap.size sa 1500 = b := by
    rw [show (1500 : Nat) = 1000 + 500 from rfl, xr_s]
    exact hsb
  rw [lg_entry_eq]
  have hS320 : xS xNK ≤ 7302250 := by decide +kernel
  have hend : xEnd (fun H locs h g => W p l e room_1 s m #[Value.ref b] below meth c H locs (h.2.2 - 0) (xS h.2.2 - xS 0) (lw_Z below #[Value.ref b] s) g) (fun h H locs => xHd D cy (xr s.heap.size sa) s.heap.size 0 xNK s h H locs) code m (xr s.heap.size sa) ret (fun rv _ => rv = some (.int 1)) := by
    refine ⟨?_, ?_, ?_, ?_⟩
    rotate_left
    · intro x h hq
      have hq : some (Value.long x) = some (.int 1) := hq
      cases hq
    · intro q h hq
      have hq : some (Value.ref q) = some (.int 1) := hq
      cases hq
    · intro h hq
      have hq : (none : Option Value) = some (.int 1) := hq
      cases hq
    intro x h hq _ pc H locs la hH hdg
    have hq : some (Value.int x) = some (.int 1) := hq
    cases hq
    show W p l e room_1 s m #[Value.ref b] below meth c H locs (h.2.2 - 0) (xS h.2.2 - xS 0) (lw_Z below #[Value.ref b] s) _
    refine va_forget (fun q hq => hH.2.2.2.1.2.2 q hq) ?_
    have h1 := hH.2.2.2.2.2.1
    have h2 := xS_mono h1
    have h3 : xNK = 320 := rfl
    refine W.widen (k := 600000) (n := 7302250) (by omega) (by omega) ?_
    exact lw_ret hx hb hr hlocks hdg
  have hmain := xsoundAt (l := l) (e := e) (R := room_1) (below := below) (d := d) (call := xca d L xs) (ini := false) (rt := ret) xXX_ok F hXX xck_all (lim := xNK) ⟨by show d + 5 ≤ 2048; omega, by show 64 * d + 320 ≤ 84000; omega, by show xNK - 0 ≤ 600000; decide, by show xS xNK - xS 0 ≤ 7302250; exact Nat.le_trans (Nat.sub_le _ _) hS320⟩ (xca_m d L xs)
    (fun j vs h Qp hj z => by
      have z : xca d L xs j vs h Qp := z
      unfold xca at z
      split at z
      · exact absurd hj (by decide)
      · exact absurd hj (by decide)
      · exact xW_met d _ vs h Qp hj z)
    (fun _ => ⟨b, L, xs, h1500, hX, hbl, hbl, fun i h Qp z => z, fun h Qp z => z⟩) (fun z => by cases z) hend xckL_all (hlaw L xs hL)
  have hl : xLV (xr s.heap.size sa) 4 ((lg_sl [Value.ref b] ++ List.replicate (4 - (lg_sl [Value.ref b]).length) Slot.unset).toArray) [.ref 1500, .null, .null, .null] := by
    have := xentry (r := xr s.heap.size sa) (vs := [.ref 1500]) (n := 4) (by decide)
    have e1 : [Value.ref 1500].map (xlv (xr s.heap.size sa)) = [Value.ref b] := by
      show [Value.ref (xr s.heap.size sa 1500)] = _
      rw [h1500]
    rw [e1] at this
    exact this
  have hw : xVs (0 : Nat) [Value.ref 1500, .null, .null, .null] := by
    intro v hv k hk
    simp at hv
    rcases hv with rfl | rfl
    · cases hk; exact Or.inr (by decide)
    · cases hk
  have := hmain s.heap [] _ ⟨rfl, fun j hj => absurd hj (Nat.not_lt_zero _), fun k j hk => absurd hk (Nat.not_lt_zero _), va_S.rf, Nat.le_refl _, Nat.zero_le _, Nat.le_refl _⟩ hl hw (fun v hv => by cases hv)
  exact this
