/-! THE READER: what it is to do -/
noncomputable def cif {α : Type} (p : Prop) (a b : α) : α := @ite α p (Classical.propDecidable p) a b
theorem cif_t {α : Type} {p : Prop} {a b : α} (h : p) : cif p a b = a := by unfold cif; rw [if_pos h]
theorem cif_f {α : Type} {p : Prop} {a b : α} (h : ¬ p) : cif p a b = b := by unfold cif; rw [if_neg h]
abbrev PS : Type := TK × (Int → Int) × (Int → Int × Int)
abbrev RE (α : Type) : Type := Except (Int × Int) α
def isW (B : Int → Int) (c : TK) (x : Int) (m : Nat) : Prop := c.1 = 1 ∧ c.2.2.1 - c.2.1 = m ∧ ∀ k : Int, 0 ≤ k → k < m → B (c.2.1 + k) = ztx x k
def isN (B : Int → Int) (c : TK) (q : Int × Int) : Prop := c.2.2.1 - c.2.1 = q.2 ∧ ∀ k : Int, 0 ≤ k → k < q.2 → B (c.2.1 + k) = B (q.1 + k)
noncomputable def fnF (B : Int → Int) (c : TK) (N : Int → Int × Int) (base : Int) : Nat → Int → Int
  | 0, _ => -1
  | k + 1, i => cif (isN B c (N (base + i))) i (fnF B c N base k (i + 1))
noncomputable def fnd (B : Int → Int) (c : TK) (N : Int → Int × Int) (base m : Int) : Int := fnF B c N base m.toNat 0
def own (B : Int → Int) (c : TK) : Prop := isW B c 1002 7 ∨ isW B c 1000 4 ∨ isW B c 1001 4 ∨ isW B c 1005 4 ∨ isW B c 1006 4 ∨ isW B c 1007 4 ∨ isW B c 1008 4 ∨ isW B c 1010 4 ∨ isW B c 1011 4
section OP
variable (B : Int → Int) (n : Int)
def oStep (S : PS) : PS := (nx B n S.1.2.2.1, S.2)
noncomputable def oWord (x : Int) (m : Nat) (S : PS) : RE PS := cif (isW B S.1 x m) (Except.ok (oStep B n S)) (Except.error (1, S.1.2.1))
def oNum (lo hi : Int) (S : PS) : RE (Int × PS) := if S.1.1 = 2 then (if lo ≤ S.1.2.2.2 ∧ S.1.2.2.2 ≤ hi then Except.ok (S.1.2.2.2, oStep B n S) else Except.error (2, S.1.2.1)) else Except.error (1, S.1.2.1)
noncomputable def oTold (base : Int) (j : Int) (S : PS) : RE (Int × PS) := if S.1.1 = 1 then (if fnd B S.1 S.2.2 base (S.2.1 j) = -1 then Except.error (2, S.1.2.1) else Except.ok (fnd B S.1 S.2.2 base (S.2.1 j), oStep B n S)) else Except.error (1, S.1.2.1)
def zpn (f : Int → Int × Int) (i : Int) (v : Int × Int) : Int → Int × Int := fun j => if j = i then v else f j
noncomputable def oNew (slot : Int) (S : PS) : RE PS := if S.1.1 = 1 then cif (6 < S.1.2.2.1 - S.1.2.1 ∨ own B S.1 ∨ fnd B S.1 S.2.2 0 (S.2.1 2) ≠ -1 ∨ fnd B S.1 S.2.2 8 (S.2.1 3) ≠ -1) (Except.error (2, S.1.2.1)) (Except.ok (nx B n S.1.2.2.1, S.2.1, zpn S.2.2 slot (S.1.2.1, S.1.2.2.1 - S.1.2.1))) else Except.error (1, S.1.2.1)
def oFull (j m : Int) (S : PS) : RE PS := if S.2.1 j = m then Except.error (3, S.1.2.1) else Except.ok (oStep B n S)
def oSet (j v : Int) (S : PS) : PS := (S.1, zpd S.2.1 j v, S.2.2)
def oStop (S : PS) : RE PS := if S.1.1 = 3 then Except.ok (oStep B n S) else Except.error (1, S.1.2.1)
/-- the pages behind a word: from the one of number i on, k of them at most -/
noncomputable def oPg (x at0 : Int) : Nat → Int → PS → RE (Int × PS)
  | 0, i, S => cif (isW B S.1 x 4) (Except.error (3, S.1.2.1)) (Except.ok (i, S))
  | k + 1, i, S => cif (isW B S.1 x 4) (Except.bind (oTold B n 0 2 (oStep B n S)) (fun r => oPg x at0 k (i + 1) (oSet (at0 + i) r.1 r.2))) (Except.ok (i, S))
noncomputable def oPage (S : PS) : RE PS := Except.bind (oFull B n 2 8 S) (fun S => Except.bind (oNew B n (S.2.1 2) S) (fun S => Except.ok (oSet 2 (S.2.1 2 + 1) S)))
noncomputable def oBd (b : Int) (S : PS) : RE PS := Except.bind (oWord B n 1009 6 S) (fun S => Except.bind (oNum B n 1 999 S) (fun q => Except.bind (oPg B n 1010 (b + 3) 4 0 (oSet b q.1 q.2)) (fun q => Except.bind (oPg B n 1011 (b + 7) 4 0 (oSet (b + 1) q.1 q.2)) (fun q => Except.ok (oSet 3 (q.2.2.1 3 + 1) (oSet (b + 2) q.1 q.2))))))
noncomputable def oBody (S : PS) : RE PS := Except.bind (oFull B n 3 10 S) (fun S => Except.bind (oNew B n (8 + S.2.1 3) S) (fun S => oBd B n (6 + 11 * S.2.1 3) S))
def has (w : Int → Int) (p day : Int) : Prop := ∃ s, 0 ≤ s ∧ s < w 4 ∧ (w (116 + (4 * s))) = p ∧ (w ((116 + (4 * s)) + 1)) = day
noncomputable def oDay (p : Int) (S : PS) : RE (Int × PS) := Except.bind (oNum B n 0 365 S) (fun r => cif (has S.2.1 p r.1) (Except.error (2, S.1.2.1)) (Except.ok r))
noncomputable def oOf (k : Int) (S : PS) : RE (Int × PS) := if k = 0 then Except.bind (oWord B n 1013 2 S) (oTold B n 8 3) else if k = 2 then Except.bind (oWord B n 1014 2 S) (oTold B n 0 2) else Except.ok (-1, S)
def oPut (p day k o : Int) (S : PS) : PS := oSet 4 (S.2.1 4 + 1) (oSet (116 + 4 * S.2.1 4 + 3) o (oSet (116 + 4 * S.2.1 4 + 2) k (oSet (116 + 4 * S.2.1 4 + 1) day (oSet (116 + 4 * S.2.1 4) p S))))
noncomputable def oShot (k : Int) (S : PS) : RE PS := Except.bind (oFull B n 4 40 S) (fun S => Except.bind (oTold B n 0 2 S) (fun p => Except.bind (oWord B n 1012 2 p.2) (fun S => Except.bind (oDay B n p.1 S) (fun e => Except.bind (oOf B n k e.2) (fun o => Except.ok (oPut p.1 e.1 k o.1 o.2))))))
noncomputable def oFirst (S : PS) : RE PS := Except.bind (oWord B n 1002 7 S) (fun S => Except.bind (oWord B n 1003 3 S) (fun S => Except.bind (oNum B n 0 2 S) (fun r => Except.bind (oWord B n 1004 5 (oSet 0 r.1 r.2)) (fun S => Except.bind (oNum B n 0 1 S) (fun r => Except.ok (oSet 1 r.1 r.2))))))
noncomputable def oLine (S : PS) : RE PS := cif (isW B S.1 1000 4) (oPage B n S) (cif (isW B S.1 1001 4) (oBody B n S) (cif (isW B S.1 1005 4) (oShot B n 0 S) (cif (isW B S.1 1006 4) (oShot B n 1 S) (cif (isW B S.1 1007 4) (oShot B n 2 S) (cif (isW B S.1 1008 4) (oShot B n 3 S) (Except.error (1, S.1.2.1)))))))
noncomputable def oText (S : PS) : RE PS := Except.bind (if S.2.1 5 = 0 then oFirst B n S else oLine B n S) (fun S => Except.bind (oStop B n S) (fun S => Except.ok (oSet 5 (S.2.1 5 + 1) S)))
noncomputable def oAll : Nat → PS → RE PS
  | 0, S => Except.ok S
  | k + 1, S => if S.1.1 = 0 then Except.ok S else Except.bind (oText B n S) (oAll k)
end OP
section OK
variable {B : Int → Int} {n : Int}
def NMs (B : Int → Int) (n : Int) (q : Int × Int) : Prop := (1 ≤ q.2 ∧ q.2 ≤ 6) ∧ (0 ≤ q.1 ∧ q.1 + q.2 ≤ n) ∧ ∀ k, 0 ≤ k → k < q.2 → isL (B (q.1 + k))
def NMok (B : Int → Int) (n : Int) (w : Int → Int) (N : Int → Int × Int) : Prop := ∀ p, ((0 ≤ p ∧ p < w 2) ∨ (8 ≤ p ∧ p < 8 + w 3)) → NMs B n (N p)
def PSok (B : Int → Int) (n : Int) (S : PS) : Prop := TKok B n S.1 ∧ WF S.2.1 ∧ S.2.1 4 ≤ 40 ∧ S.2.1 5 ≤ S.1.2.1 ∧ NMok B n S.2.1 S.2.2
theorem step_ok {S : PS} (h : PSok B n S) : PSok B n (oStep B n S) ∧ S.1.2.2.1 ≤ (oStep B n S).1.2.1 := by
  obtain ⟨h1, h2, h3, h4, h5⟩ := h
  have := nx_ok (B := B) (n := n) (i := S.1.2.2.1) (by have := h1.1; omega) h1.1.2.2
  have h1 := h1.1
  have h6 : S.1.2.2.1 ≤ (nx B n S.1.2.2.1).2.1 := this.2
  exact ⟨⟨this.1, h2, h3, by show S.2.1 5 ≤ (nx B n S.1.2.2.1).2.1; omega, h5⟩, h6⟩
theorem fnF_rg {c : TK} {N : Int → Int × Int} {base : Int} : ∀ (k : Nat) (i : Int), (fnF B c N base k i = -1 ∧ ∀ j, i ≤ j → j < i + k → ¬ isN B c (N (base + j))) ∨ ((i ≤ fnF B c N base k i ∧ fnF B c N base k i < i + k) ∧ isN B c (N (base + fnF B c N base k i))) := by
  intro k
  induction k with
  | zero => intro i; exact Or.inl ⟨rfl, fun j h1 h2 => by simp at h2; omega⟩
  | succ k ih =>
    intro i
    by_cases c1 : isN B c (N (base + i))
    · have e : fnF B c N base (k + 1) i = i := by unfold fnF; rw [cif_t c1]
      rw [e]; exact Or.inr ⟨⟨Int.le_refl _, by omega⟩, c1⟩
    · have e : fnF B c N base (k + 1) i = fnF B c N base k (i + 1) := by
        show cif _ i (fnF B c N base k (i + 1)) = _
        rw [cif_f c1]
      rw [e]
      rcases ih (i + 1) with ⟨h1, h2⟩ | ⟨h1, h2⟩
      · refine Or.inl ⟨h1, fun j j0 j1 => ?_⟩
        by_cases c2 : j = i
        · rw [c2]; exact c1
        · exact h2 j (by omega) (by omega)
      · exact Or.inr ⟨⟨by omega, by omega⟩, h2⟩
theorem fnd_rg {c : TK} {N : Int → Int × Int} {base m : Int} (h0 : 0 ≤ m) : fnd B c N base m = -1 ∨ (0 ≤ fnd B c N base m ∧ fnd B c N base m < m) := by
  rcases fnF_rg (B := B) (c := c) (N := N) (base := base) m.toNat 0 with h | h
  · exact Or.inl h.1
  · refine Or.inr ⟨h.1.1, ?_⟩
    have := h.1.2
    unfold fnd
    omega
end OK
