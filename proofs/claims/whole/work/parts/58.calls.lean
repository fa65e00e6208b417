/-! THE CALLS: what a day that is no turn leaves as it was; both, run, by -/
section TURN
variable {w : Int → Int} {dr : Int}
def SE (w : Int → Int) (dr : Int) (x y : EL) : Prop := x.1 = y.1 ∧ x.2.2 = y.2.2 ∧ wy w dr x.1 x.2.1 = wy w dr y.1 y.2.1
def SAMEL (w : Int → Int) (dr : Int) : List EL → List EL → Prop
  | [], [] => True
  | x :: xs, y :: ys => SE w dr x y ∧ SAMEL w dr xs ys
  | [], _ :: _ => False
  | _ :: _, [] => False
theorem SAMEL_len : ∀ L M : List EL, SAMEL w dr L M → L.length = M.length
  | [], [], _ => rfl
  | _ :: xs, _ :: ys, h => by rw [List.length_cons, List.length_cons, SAMEL_len xs ys h.2]
theorem SAMEL_app : ∀ L M L' M' : List EL, SAMEL w dr L M → SAMEL w dr L' M' → SAMEL w dr (L ++ L') (M ++ M')
  | [], [], _, _, _, h => h
  | _ :: xs, _ :: ys, L', M', h, g => ⟨h.1, SAMEL_app xs ys L' M' h.2 g⟩
theorem SAMEL_get : ∀ (L M : List EL) (i : Nat), SAMEL w dr L M → i < L.length → SE w dr (L.getD i e0) (M.getD i e0)
  | [], [], _, _, h => absurd h (Nat.not_lt_zero _)
  | _ :: _, _ :: _, 0, h, _ => h.1
  | _ :: xs, _ :: ys, i + 1, h, hi => SAMEL_get xs ys i h.2 (Nat.lt_of_succ_lt_succ hi)
theorem SE_spv {x y : EL} (h : SE w dr x y) : spv w dr x = spv w dr y := by unfold spv; rw [h.2.1, h.2.2]
theorem SAMEL_all : ∀ (L M : List EL) (q : Q4), SAMEL w dr L M → L.foldl (fun q y => nar q (spv w dr y)) q = M.foldl (fun q y => nar q (spv w dr y)) q
  | [], [], _, _ => rfl
  | x :: xs, y :: ys, q, h => by rw [List.foldl_cons, List.foldl_cons, SE_spv h.1]; exact SAMEL_all xs ys _ h.2
theorem SAMEL_whl : ∀ (L M : List EL), SAMEL w dr L M → (whl L ↔ whl M)
  | [], [], _ => Iff.rfl
  | x :: xs, y :: ys, h => by unfold whl; rw [h.1.2.1, SAMEL_whl xs ys h.2]
theorem SAMEL_drf (day : Int) : ∀ (L M : List EL) (m : Int), SAMEL w dr L M → drf w day L m = drf w day M m
  | [], [], _, _ => rfl
  | x :: xs, y :: ys, m, h => by unfold drf; rw [h.1.2.1]; exact SAMEL_drf day xs ys _ h.2
theorem VC_same {G : zG} {v : Int} {L M : List EL} (h : SAMEL w dr L M) (hV : VC G v w dr L) : VC G v w dr M := by
  have hl := SAMEL_len L M h
  refine ⟨by rw [hV.1, hl], ?_, fun i i0 i1 => ?_⟩
  · have : allS w dr L = allS w dr M := SAMEL_all L M o4 h
    rw [← this]; exact hV.2.1
  · have hs := SAMEL_get L M i.toNat h (by omega)
    have := hV.2.2 i i0 (by omega)
    rw [← hs.1, ← hs.2.1, ← SE_spv hs]
    exact this
variable {day : Int}
theorem wyF_turn (wf : WF w) (hnr : ∀ p, 0 ≤ p → p < w 2 → nr w dr p day = nr w dr p (day - 1)) : ∀ (n : Nat) (ms : List Int) (p x y : Int), 0 ≤ p → p < w 2 → (x = y ∨ (x = day - 1 ∧ y = day)) → wyF w dr (day - 1) n ms p x = wyF w dr day n ms p y
  | 0, _, _, _, _, _, _, _ => rfl
  | n + 1, ms, p, x, y, p0, p1, h => by
    have e : nr w dr p x = nr w dr p y := by
      rcases h with h | h
      · rw [h]
      · rw [h.1, h.2, hnr p p0 p1]
    unfold wyF
    rw [e]
    by_cases c1 : p ∈ ms
    · rw [if_pos c1, if_pos c1]
    · rw [if_neg c1, if_neg c1]
      by_cases c2 : nr w dr p y = -1
      · rw [if_pos c2, if_pos c2]
      · rw [if_neg c2, if_neg c2]
        by_cases c3 : (w ((116 + (4 * (nr w dr p y))) + 2)) = 2
        · rw [if_pos c3, if_pos c3]
          have hs := (nr_rg (w := w) dr p y).resolve_left c2
          have hf := (WF_s wf hs.1 hs.2.1).2.2.2.2 c3
          have ih := wyF_turn wf hnr n (p :: ms) (w ((116 + (4 * (nr w dr p y))) + 3)) (if w 1 = 1 then (w ((116 + (4 * (nr w dr p y))) + 1)) else day - 1) (if w 1 = 1 then (w ((116 + (4 * (nr w dr p y))) + 1)) else day) hf.1 hf.2 (by
            by_cases c4 : w 1 = 1
            · rw [if_pos c4, if_pos c4]; exact Or.inl rfl
            · rw [if_neg c4, if_neg c4]; exact Or.inr ⟨rfl, rfl⟩)
          rw [ih]
        · rw [if_neg c3, if_neg c3]
theorem wyF_fm (h1 : w 1 = 1) (a b : Int) : ∀ (n : Nat) (ms : List Int) (p x : Int), wyF w dr a n ms p x = wyF w dr b n ms p x
  | 0, _, _, _ => rfl
  | n + 1, ms, p, x => by
    unfold wyF
    rw [if_pos h1, if_pos h1, wyF_fm h1 a b n]
theorem wy_turn (wf : WF w) (hnr : ∀ p, 0 ≤ p → p < w 2 → nr w dr p day = nr w dr p (day - 1)) {p : Int} (p0 : 0 ≤ p) (p1 : p < w 2) : wy w dr p (day - 1) = wy w dr p day := wyF_turn wf hnr 9 [] p (day - 1) day p0 p1 (Or.inr ⟨rfl, rfl⟩)
theorem kids_turn {F F' : Int → Nat → List EL} : ∀ (l : List Int) (e : Nat), (∀ q ∈ l, ∀ e, SAMEL w dr (F q e) (F' q e)) → SAMEL w dr (kidsF F l e) (kidsF F' l e)
  | [], _, _ => trivial
  | q :: l, e, h => by
    unfold kidsF
    rw [SAMEL_len _ _ (h q List.mem_cons_self e)]
    exact SAMEL_app _ _ _ _ (h q List.mem_cons_self e) (kids_turn l _ (fun q' hq' => h q' (List.mem_cons_of_mem _ hq')))
theorem vwE_turn (wf : WF w) (hnr : ∀ p, 0 ≤ p → p < w 2 → nr w dr p day = nr w dr p (day - 1)) : ∀ (n : Nat) (anc : List Int) (p x y dp par : Int) (e : Nat), 0 ≤ p → p < w 2 → (x = y ∨ (x = day - 1 ∧ y = day)) → SAMEL w dr (vwE w dr n anc p x dp par e) (vwE w dr n anc p y dp par e) := by
  intro n
  have hw : ∀ p x y : Int, 0 ≤ p → p < w 2 → (x = y ∨ (x = day - 1 ∧ y = day)) → wy w dr p x = wy w dr p y := fun p x y p0 p1 h => by
    rcases h with h | h
    · rw [h]
    · rw [h.1, h.2]; exact wy_turn wf hnr p0 p1
  induction n with
  | zero =>
    intro anc p x y dp par e p0 p1 h
    unfold vwE
    have hp := hw p x y p0 p1 h
    by_cases c : p ∈ anc
    · rw [if_pos c, if_pos c]; exact ⟨⟨rfl, rfl, hp⟩, trivial⟩
    · rw [if_neg c, if_neg c]; exact ⟨⟨rfl, by show (_, _, _, _) = (_, _, _, _); rw [hp], hp⟩, trivial⟩
  | succ n ih =>
    intro anc p x y dp par e p0 p1 h
    unfold vwE
    have hp := hw p x y p0 p1 h
    by_cases c : p ∈ anc
    · rw [if_pos c, if_pos c]; exact ⟨⟨rfl, rfl, hp⟩, trivial⟩
    · rw [if_neg c, if_neg c]
      refine ⟨⟨rfl, by show (_, _, _, _) = (_, _, _, _); rw [hp], hp⟩, ?_⟩
      rw [hp]
      by_cases c2 : (wy w dr p y).2.2 = 0
      · rw [if_pos c2, if_pos c2]
        have hb := wy_body wf c2
        have hn := (WF_b wf hb.2.2.1 hb.2.2.2).2.1
        refine kids_turn _ _ (fun q hq e' => ?_)
        have hqq := prL_pg wf hb.2.2.1 hb.2.2.2 _ 0 (by omega) (by omega) q hq
        refine ih _ _ _ _ _ _ _ hqq.1 hqq.2 ?_
        by_cases c4 : w 1 = 1
        · rw [if_pos c4, if_pos c4]; exact Or.inl rfl
        · rw [if_neg c4, if_neg c4]; exact h
      · rw [if_neg c2, if_neg c2]; exact trivial
theorem vw_turn (wf : WF w) {o st : Int → Int} (h : OD w dr o st) (d0 : 1 ≤ day) (d1 : day ≤ 365) (hn : ∀ s, sho w dr (w (116 + (4 * s))) s → snv w dr s ≠ day) {p : Int} (p0 : 0 ≤ p) (p1 : p < w 2) : SAMEL w dr (vw w dr p (day - 1)) (vw w dr p day) := by
  have n2 := (WF_n wf).2.2.1
  exact vwE_turn wf (fun q q0 q1 => nr_turn wf h q0 (by omega) d0 d1 hn) 3 [] p (day - 1) day 0 (-1) 0 p0 p1 (Or.inr ⟨rfl, rfl⟩)
/-- a day that the index marks as no turn -/
theorem vw_quiet (wf : WF w) {G : zG} {x a : Int} (hI : IX G x a w dr) (d0 : 0 ≤ day) (d1 : day ≤ 365) (hT : G (x + 7) day = 0) {p : Int} (p0 : 0 ≤ p) (p1 : p < w 2) : 1 ≤ day ∧ SAMEL w dr (vw w dr p (day - 1)) (vw w dr p day) := by
  have ht := hI.2.2.2.2.2 day d0 d1
  rcases ht with h | h
  · omega
  · refine ⟨by omega, vw_turn wf hI.2.2.2.1 (by omega) d1 (fun s hs => h.2.2 s hs ?_) p0 p1⟩
    have := (WF_s wf hs.1 hs.2.1).1
    have := (WF_n wf).2.2.1
    omega
theorem jdg_quiet {p q : Int} (h : SAMEL w dr (vw w dr p q) (vw w dr p day)) : jdg w dr p q = jdg w dr p day := by
  unfold jdg allS; rw [SAMEL_all _ _ o4 h]
end TURN
section SPEC
variable (w : Int → Int)
noncomputable def bth (p q day : Int) : Int := vd (nar (allS w (-1) (vw w (-1) p day)) (allS w (-1) (vw w (-1) q day)))
noncomputable def q_both (p q day : Int) : Int := bP (okPD w p day ∧ 0 ≤ q ∧ q < w 2) (bth w p q day) (-2)
noncomputable def q_bothOn (p q k : Int) : Int := bP ((0 ≤ p ∧ p < w 2) ∧ (0 ≤ q ∧ q < w 2) ∧ 0 ≤ k ∧ k ≤ 2) (mn (fun t => t) (fun t => 0 ≤ t ∧ t ≤ 365 ∧ bth w p q t = k)) (-2)
def wby (l m : Int) : Int → Int := fun j => if j = 0 then l else if j = 1 then m else w j
noncomputable def q_by (p day l m : Int) : Int := bP (okPD w p day ∧ (0 ≤ l ∧ l ≤ 2) ∧ 0 ≤ m ∧ m ≤ 1) (jdg (wby w l m) (-1) p day) (-2)
noncomputable def q_run (s k : Int) : Int := bP ((0 ≤ s ∧ s < w 4) ∧ 0 ≤ k ∧ k ≤ 4) (if (w ((116 + (4 * s)) + 2)) = 1 ∧ bo w (-1) s = -1 then -1 else if k = 0 then (rn w (-1) s).1 else if k = 1 then (rn w (-1) s).2.1 else if k = 2 then (rn w (-1) s).2.2.1 else if k = 3 then (rn w (-1) s).2.2.2.1 else (rn w (-1) s).2.2.2.2) (-2)
end SPEC
section WBY
variable {w : Int → Int} {l m : Int}
theorem wby_0 : wby w l m 0 = l := rfl
theorem wby_1 : wby w l m 1 = m := rfl
theorem wby_k {j : Int} (h : 2 ≤ j) : wby w l m j = w j := by unfold wby; rw [if_neg (by omega), if_neg (by omega)]
theorem wby_WF (wf : WF w) (hl : 0 ≤ l ∧ l ≤ 2) (hm : 0 ≤ m ∧ m ≤ 1) : WF (wby w l m) := by
  obtain ⟨h0, h1, h2, h3, h4, h5, h6, h7, h8, h9⟩ := wf
  have e2 : wby w l m 2 = w 2 := wby_k (by omega)
  have e3 : wby w l m 3 = w 3 := wby_k (by omega)
  have e4 : wby w l m 4 = w 4 := wby_k (by omega)
  have e5 : wby w l m 5 = w 5 := wby_k (by omega)
  refine ⟨fun j => ?_, by rw [wby_0]; exact hl, by rw [wby_1]; exact hm, by rw [e2]; exact h3, by rw [e3]; exact h4, by rw [e4]; exact h5, by rw [e5]; exact h6, fun s s0 s1 => ?_, fun s t s0 s1 t0 t1 => ?_, fun b b0 b1 => ?_⟩
  · unfold wby
    split
    · unfold rg; omega
    · split
      · unfold rg; omega
      · exact h0 j
  · rw [e4] at s1
    rw [e2, e3, wby_k (by omega), wby_k (by omega), wby_k (by omega), wby_k (by omega)]
    exact h7 s s0 s1
  · rw [e4] at s1 t1
    rw [wby_k (by omega), wby_k (by omega), wby_k (by omega), wby_k (by omega)]
    exact h8 s t s0 s1 t0 t1
  · rw [e3] at b1
    rw [e2, wby_k (by omega), wby_k (by omega), wby_k (by omega)]
    have := h9 b b0 b1
    refine ⟨this.1, this.2.1, this.2.2.1, fun i i0 i1 => ?_, fun i i0 i1 => ?_⟩
    · rw [wby_k (by omega)]; exact this.2.2.2.1 i i0 i1
    · rw [wby_k (by omega)]; exact this.2.2.2.2 i i0 i1
theorem wby_EQB {a b : Int} (a0 : 0 ≤ a) (b0 : 0 ≤ b) : EQB (wby w l m) a b ↔ EQB w a b := by
  unfold EQB
  rw [wby_k (by omega), wby_k (by omega), wby_k (by omega), wby_k (by omega), wby_k (by omega), wby_k (by omega)]
  have e1 : (∀ i, 0 ≤ i → i < (w ((6 + (11 * a)) + 1)) → ((wby w l m) (((6 + (11 * a)) + 3) + i)) = ((wby w l m) (((6 + (11 * b)) + 3) + i))) ↔ (∀ i, 0 ≤ i → i < (w ((6 + (11 * a)) + 1)) → (w (((6 + (11 * a)) + 3) + i)) = (w (((6 + (11 * b)) + 3) + i))) :=
    ⟨fun h i i0 i1 => by have := h i i0 i1; rw [wby_k (by omega), wby_k (by omega)] at this; exact this, fun h i i0 i1 => by rw [wby_k (by omega), wby_k (by omega)]; exact h i i0 i1⟩
  have e2 : (∀ i, 0 ≤ i → i < (w ((6 + (11 * a)) + 2)) → ((wby w l m) (((6 + (11 * a)) + 7) + i)) = ((wby w l m) (((6 + (11 * b)) + 7) + i))) ↔ (∀ i, 0 ≤ i → i < (w ((6 + (11 * a)) + 2)) → (w (((6 + (11 * a)) + 7) + i)) = (w (((6 + (11 * b)) + 7) + i))) :=
    ⟨fun h i i0 i1 => by have := h i i0 i1; rw [wby_k (by omega), wby_k (by omega)] at this; exact this, fun h i i0 i1 => by rw [wby_k (by omega), wby_k (by omega)]; exact h i i0 i1⟩
  rw [e1, e2]
theorem wby_lq {b : Int} (b0 : 0 ≤ b) : lq (wby w l m) b = lq w b := by
  refine lq_eq ?_
  have h := lq_is (w := w) b0
  exact ⟨h.1, h.2.1, (wby_EQB h.1 b0).mpr h.2.2.1, fun c c0 c1 z => h.2.2.2 c c0 c1 ((wby_EQB c0 b0).mp z)⟩
theorem wby_ARC {G : zG} {a : Int} (h : ARC G a w) : ARC G a (wby w l m) := by
  obtain ⟨h2, h3, h4, h5, h6⟩ := h
  refine ⟨by rw [wby_k (by omega)]; exact h2, by rw [wby_k (by omega)]; exact h3, by rw [wby_k (by omega)]; exact h4, fun b b0 b1 => ?_, fun s s0 s1 => ?_⟩
  · rw [wby_k (by omega)] at b1
    have := h5 b b0 b1
    rw [wby_k (by omega), wby_k (by omega), wby_k (by omega), wby_lq b0]
    exact ⟨this.1, this.2.1, this.2.2.1, this.2.2.2.1, fun i i0 i1 => by rw [wby_k (by omega)]; exact this.2.2.2.2.1 i i0 i1, fun i i0 i1 => by rw [wby_k (by omega)]; exact this.2.2.2.2.2 i i0 i1⟩
  · rw [wby_k (by omega)] at s1
    rw [wby_k (by omega), wby_k (by omega), wby_k (by omega), wby_k (by omega)]
    exact h6 s s0 s1
end WBY
