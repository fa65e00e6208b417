/-! TELLING: the text of a view -/
def elt (w : Int → Int) (y : EL) : List Int := zch 112 :: (dg y.1 ++ (if y.2.2.2.1 = 2 then [zch 63] else if y.2.2.2.1 = 3 then [zch 45] else if y.2.2.2.1 = 4 then [zch 126] else if y.2.2.2.1 = 5 then [zch 94] else zch 64 :: (dg (w ((116 + (4 * (y.2.2.1))) + 1)) ++ (if y.2.2.2.1 = 1 then [zch 33] else []))))
def dep (y : EL) : Int := y.2.2.2.2.1
def txE (w : Int → Int) : Int → List EL → Int → List Int
  | c, [], t => List.replicate (c - t).toNat (zch 93)
  | c, y :: ys, t => (if c < dep y then [zch 91] else List.replicate (c - dep y).toNat (zch 93) ++ [zch 32]) ++ (elt w y ++ txE w (dep y) ys t)
def sbt (w : Int → Int) : List EL → List Int
  | [] => []
  | y :: ys => elt w y ++ txE w (dep y) ys (dep y)
def ktx (w : Int → Int) (F : Int → Nat → List EL) : List Int → Nat → List Int
  | [], _ => []
  | p :: ps, e => zch 32 :: (sbt w (F p e) ++ ktx w F ps (e + (F p e).length))
/-- no step down is deeper than one -/
def DL : Int → List EL → Prop
  | _, [] => True
  | c, y :: ys => dep y ≤ c + 1 ∧ DL (dep y) ys
def SUB (dp par : Int) (T : List EL) : Prop := ∃ y ys, T = y :: ys ∧ dep y = dp ∧ y.2.2.2.2.2 = par ∧ (∀ x ∈ ys, dp + 1 ≤ dep x) ∧ DL dp ys
section TX
variable {w : Int → Int} {t : Int}
theorem txE_app {y : EL} {ys : List EL} : ∀ (l : List EL) (c : Int), dep y ≤ c → (∀ x ∈ l, dep y ≤ dep x) → txE w c (l ++ y :: ys) t = txE w c l (dep y) ++ (zch 32 :: (elt w y ++ txE w (dep y) ys t)) := by
  intro l
  induction l with
  | nil =>
    intro c hc _
    show (if c < dep y then _ else _) ++ _ = List.replicate _ _ ++ _
    rw [if_neg (by omega), List.append_assoc]
    rfl
  | cons x l ih =>
    intro c hc hx
    show _ ++ (elt w x ++ txE w (dep x) (l ++ y :: ys) t) = (_ ++ (elt w x ++ txE w (dep x) l (dep y))) ++ _
    rw [ih _ (hx x List.mem_cons_self) (fun z hz => hx z (List.mem_cons_of_mem _ hz)), List.append_assoc, List.append_assoc]
theorem txE_end : ∀ (l : List EL) (c : Int), t + 1 ≤ c → (∀ x ∈ l, t + 1 ≤ dep x) → txE w c l t = txE w c l (t + 1) ++ [zch 93] := by
  intro l
  induction l with
  | nil =>
    intro c hc _
    show List.replicate _ _ = List.replicate _ _ ++ _
    rw [show (c - t).toNat = (c - (t + 1)).toNat + 1 by omega, List.replicate_succ']
  | cons x l ih =>
    intro c hc hx
    show _ ++ (elt w x ++ txE w (dep x) l t) = (_ ++ (elt w x ++ txE w (dep x) l (t + 1))) ++ _
    rw [ih _ (hx x List.mem_cons_self) (fun z hz => hx z (List.mem_cons_of_mem _ hz)), List.append_assoc, List.append_assoc]
theorem txE_kids {F : Int → Nat → List EL} {par : Int} : ∀ (ps : List Int) (e : Nat) (tl : List EL) (c : Int), (∀ p ∈ ps, ∀ e, SUB (t + 1) par (F p e)) → t + 1 ≤ c → (∀ x ∈ tl, t + 1 ≤ dep x) → txE w c (tl ++ kidsF F ps e) t = txE w c tl (t + 1) ++ (ktx w F ps e ++ [zch 93]) := by
  intro ps
  induction ps with
  | nil =>
    intro e tl c _ hc hx
    show txE w c (tl ++ []) t = _ ++ ([] ++ _)
    rw [List.append_nil, List.nil_append]
    exact txE_end tl c hc hx
  | cons p ps ih =>
    intro e tl c hF hc hx
    obtain ⟨y, ys, e1, e2, _, e3, _⟩ := hF p List.mem_cons_self e
    show txE w c (tl ++ (F p e ++ kidsF F ps (e + (F p e).length))) t = _ ++ ((zch 32 :: (sbt w (F p e) ++ ktx w F ps (e + (F p e).length))) ++ _)
    generalize e + (F p e).length = e'
    rw [e1]
    show txE w c (tl ++ (y :: (ys ++ _))) t = _ ++ ((zch 32 :: ((elt w y ++ txE w (dep y) ys (dep y)) ++ _)) ++ _)
    rw [txE_app tl c (by omega) (fun x h => by have := hx x h; omega), e2, ih e' ys (t + 1) (fun q hq => hF q (List.mem_cons_of_mem _ hq)) (by omega) (fun x h => by have := e3 x h; omega)]
    simp only [List.append_assoc, List.cons_append]
theorem txE_first {F : Int → Nat → List EL} {par q : Int} {ps : List Int} {e : Nat} (hF : ∀ p ∈ (q :: ps), ∀ e, SUB (t + 1) par (F p e)) : txE w t (kidsF F (q :: ps) e) t = zch 91 :: (sbt w (F q e) ++ (ktx w F ps (e + (F q e).length) ++ [zch 93])) := by
  obtain ⟨y, ys, e1, e2, _, e3, _⟩ := hF q List.mem_cons_self e
  show txE w t (F q e ++ kidsF F ps (e + (F q e).length)) t = _
  generalize e + (F q e).length = e'
  rw [e1]
  show (if t < dep y then _ else _) ++ (elt w y ++ txE w (dep y) (ys ++ _) t) = zch 91 :: ((elt w y ++ txE w (dep y) ys (dep y)) ++ _)
  rw [if_pos (by omega), e2, txE_kids ps e' ys (t + 1) (fun q hq => hF q (List.mem_cons_of_mem _ hq)) (by omega) (fun x h => by have := e3 x h; omega)]
  simp only [List.append_assoc, List.cons_append, List.nil_append]
theorem txE_len : ∀ (l : List EL) (c : Int), DL c l → t ≤ c → (∀ x ∈ l, t ≤ dep x) → (∀ x ∈ l, (elt w x).length ≤ 7) → ((txE w c l t).length : Int) ≤ c - t + 9 * l.length := by
  intro l
  induction l with
  | nil =>
    intro c _ hc _ _
    show ((List.replicate _ _).length : Int) ≤ _
    rw [List.length_replicate]
    simp; omega
  | cons x l ih =>
    intro c hD hc hx hl
    have i1 := ih (dep x) hD.2 (hx x List.mem_cons_self) (fun z hz => hx z (List.mem_cons_of_mem _ hz)) (fun z hz => hl z (List.mem_cons_of_mem _ hz))
    have i2 := hl x List.mem_cons_self
    have i3 := hD.1
    have i4 := hx x List.mem_cons_self
    show ((_ ++ (elt w x ++ txE w (dep x) l t)).length : Int) ≤ _
    rw [List.length_append, List.length_append, List.length_cons]
    by_cases h : c < dep x
    · rw [if_pos h]
      simp only [List.length_cons, List.length_nil]
      omega
    · rw [if_neg h, List.length_append, List.length_replicate]
      simp only [List.length_cons, List.length_nil]
      omega
theorem dg_len (v : Int) : (dg v).length ≤ 3 ∧ (v ≤ 9 → (dg v).length = 1) := by
  unfold dg
  by_cases c : v ≤ 9
  · rw [if_pos c]; exact ⟨by simp, fun _ => rfl⟩
  · rw [if_neg c]
    refine ⟨?_, fun h => absurd h c⟩
    split <;> simp
theorem elt_len (wf : WF w) {dr : Int} {y : EL} (h : EOK w dr y) : (elt w y).length ≤ 7 := by
  have n2 := (WF_n wf).2.2.1
  have h1 := (dg_len y.1).2 (by have := h.1; omega)
  have h2 := (dg_len (w ((116 + (4 * (y.2.2.1))) + 1))).1
  unfold elt
  rw [List.length_cons, List.length_append, h1]
  by_cases c1 : y.2.2.2.1 = 2
  · rw [if_pos c1]; simp
  · rw [if_neg c1]
    by_cases c2 : y.2.2.2.1 = 3
    · rw [if_pos c2]; simp
    · rw [if_neg c2]
      by_cases c3 : y.2.2.2.1 = 4
      · rw [if_pos c3]; simp
      · rw [if_neg c3]
        by_cases c4 : y.2.2.2.1 = 5
        · rw [if_pos c4]; simp
        · rw [if_neg c4, List.length_cons, List.length_append]
          have : (if y.2.2.2.1 = 1 then [zch 33] else []).length ≤ 1 := by split <;> simp
          omega
theorem DL_app {y : EL} {ys : List EL} : ∀ (l : List EL) (c : Int), dep y ≤ c + 1 → (∀ x ∈ l, dep y ≤ dep x + 1) → DL c l → DL (dep y) ys → DL c (l ++ y :: ys) := by
  intro l
  induction l with
  | nil => intro c hc _ _ h; exact ⟨hc, h⟩
  | cons x l ih =>
    intro c hc hx hD h
    exact ⟨hD.1, ih _ (hx x List.mem_cons_self) (fun z hz => hx z (List.mem_cons_of_mem _ hz)) hD.2 h⟩
theorem kidsF_DL {F : Int → Nat → List EL} {dp par : Int} : ∀ (ps : List Int) (e : Nat) (tl : List EL) (c : Int), (∀ p ∈ ps, ∀ e, SUB (dp + 1) par (F p e)) → dp ≤ c → (∀ x ∈ tl, dp + 1 ≤ dep x) → DL c tl → DL c (tl ++ kidsF F ps e) ∧ ∀ x ∈ tl ++ kidsF F ps e, dp + 1 ≤ dep x := by
  intro ps
  induction ps with
  | nil =>
    intro e tl c _ _ hx hD
    show DL c (tl ++ []) ∧ ∀ x ∈ tl ++ [], dp + 1 ≤ dep x
    rw [List.append_nil]; exact ⟨hD, hx⟩
  | cons p ps ih =>
    intro e tl c hF hc hx hD
    obtain ⟨y, ys, e1, e2, _, e3, e4⟩ := hF p List.mem_cons_self e
    show DL c (tl ++ (F p e ++ kidsF F ps (e + (F p e).length))) ∧ ∀ x ∈ tl ++ (F p e ++ kidsF F ps (e + (F p e).length)), dp + 1 ≤ dep x
    rw [← List.append_assoc]
    have hy : ∀ x ∈ F p e, dp + 1 ≤ dep x := fun x h => by
      rw [e1] at h
      rcases List.mem_cons.mp h with rfl | h
      · omega
      · have := e3 x h; omega
    refine ih _ _ c (fun q hq => hF q (List.mem_cons_of_mem _ hq)) hc (fun x h => (List.mem_append.mp h).elim (hx x) (hy x)) ?_
    rw [e1]
    exact DL_app tl c (by omega) (fun x h => by have := hx x h; omega) hD (by rw [e2]; exact e4)
theorem vwE_SUB {dr : Int} : ∀ (n : Nat) (anc : List Int) (p f dp par : Int) (e : Nat), SUB dp par (vwE w dr n anc p f dp par e) := by
  intro n
  induction n with
  | zero =>
    intro anc p f dp par e
    unfold vwE
    split <;> exact ⟨_, [], rfl, rfl, rfl, fun x h => (by cases h), trivial⟩
  | succ n ih =>
    intro anc p f dp par e
    unfold vwE
    split
    · exact ⟨_, [], rfl, rfl, rfl, fun x h => (by cases h), trivial⟩
    · split
      · have := kidsF_DL (F := fun q e' => vwE w dr n (p :: anc) q (if w 1 = 1 then (w ((116 + (4 * ((wy w dr p f).2.1))) + 1)) else f) (dp + 1) e e') (dp := dp) (par := e) (prL w (bo w dr (wy w dr p f).2.1) 0 ((w ((6 + (11 * (bo w dr (wy w dr p f).2.1))) + 1))).toNat) (e + 1) [] dp (fun q _ e' => ih _ _ _ _ _ _) (by omega) (fun x h => by cases h) trivial
        rw [List.nil_append] at this
        exact ⟨_, _, rfl, rfl, rfl, this.2, this.1⟩
      · exact ⟨_, [], rfl, rfl, rfl, fun x h => (by cases h), trivial⟩
theorem sbt_len (wf : WF w) {dr dp par : Int} {T : List EL} (h : SUB dp par T) (hok : ∀ y ∈ T, EOK w dr y) : (sbt w T).length ≤ 9 * T.length := by
  obtain ⟨y, ys, e1, e2, _, e3, e4⟩ := h
  have h1 := elt_len wf (hok y (by rw [e1]; exact List.mem_cons_self))
  have h2 := txE_len (w := w) (t := dp) ys dp e4 (by omega) (fun x h => by have := e3 x h; omega) (fun x h => elt_len wf (hok x (by rw [e1]; exact List.mem_cons_of_mem _ h)))
  rw [e1]
  show (elt w y ++ txE w (dep y) ys (dep y)).length ≤ 9 * (ys.length + 1)
  rw [e2, List.length_append]
  omega
end TX
