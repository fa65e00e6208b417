/-! THE REFERENCE: views -/
abbrev EL : Type := Int × Int × Int × Int × Int × Int
abbrev e0 : EL := (0, 0, 0, 0, 0, 0)
def prL (w : Int → Int) (b : Int) : Int → Nat → List Int
  | _, 0 => []
  | i, k + 1 => (w (((6 + (11 * b)) + 3) + i)) :: prL w b (i + 1) k
def kidsF (F : Int → Nat → List EL) : List Int → Nat → List EL
  | [], _ => []
  | p :: ps, e => F p e ++ kidsF F ps (e + (F p e).length)
/-- n: how much deeper it may go; the pages of those in which it lies; page, day; depth, parent; its own number -/
noncomputable def vwE (w : Int → Int) (dr : Int) : Nat → List Int → Int → Int → Int → Int → Nat → List EL
  | 0, anc, p, f, dp, par, _ => if p ∈ anc then [(p, f, -1, 5, dp, par)] else [(p, f, (wy w dr p f).2.1, (wy w dr p f).2.2, dp, par)]
  | n + 1, anc, p, f, dp, par, e => if p ∈ anc then [(p, f, -1, 5, dp, par)] else (p, f, (wy w dr p f).2.1, (wy w dr p f).2.2, dp, par) :: (if (wy w dr p f).2.2 = 0 then kidsF (fun q e' => vwE w dr n (p :: anc) q (if w 1 = 1 then (w ((116 + (4 * ((wy w dr p f).2.1))) + 1)) else f) (dp + 1) e e') (prL w (bo w dr (wy w dr p f).2.1) 0 ((w ((6 + (11 * (bo w dr (wy w dr p f).2.1))) + 1))).toNat) (e + 1) else [])
noncomputable def vw (w : Int → Int) (dr p day : Int) : List EL := vwE w dr 3 [] p day 0 (-1) 0
def sz : Nat → Nat
  | 0 => 1
  | n + 1 => 1 + 4 * sz n
def VM (G : zG) (L : List EL) : Prop := G 297 18 = L.length ∧ ∀ i : Int, 0 ≤ i → i < L.length → G 304 i = (L.getD i.toNat e0).1 ∧ G 305 i = (L.getD i.toNat e0).2.1 ∧ G 306 i = (L.getD i.toNat e0).2.2.1 ∧ G 307 i = (L.getD i.toNat e0).2.2.2.1 ∧ G 308 i = (L.getD i.toNat e0).2.2.2.2.1 ∧ G 309 i = (L.getD i.toNat e0).2.2.2.2.2
def S184 (k j : Int) : Prop := (303 ≤ k ∧ k ≤ 309) ∨ (k = 297 ∧ ((9 ≤ j ∧ j ≤ 11) ∨ j = 18))
def CH (acc : List EL) : List Int → Int → Prop
  | [], par => par = -1
  | p :: anc, par => 0 ≤ par ∧ par < acc.length ∧ (acc.getD par.toNat e0).1 = p ∧ CH acc anc (acc.getD par.toNat e0).2.2.2.2.2
theorem getE_l {l m : List EL} {i : Nat} (h : i < l.length) : (l ++ m).getD i e0 = l.getD i e0 := by
  rw [List.getD_eq_getElem?_getD, List.getD_eq_getElem?_getD, List.getElem?_append_left h]
theorem getE_e {l : List EL} {x : EL} : (l ++ [x]).getD l.length e0 = x := by
  rw [List.getD_eq_getElem?_getD, List.getElem?_append_right (Nat.le_refl _)]
  simp
theorem CH_more {acc m : List EL} : ∀ (anc : List Int) (par : Int), CH acc anc par → CH (acc ++ m) anc par := by
  intro anc
  induction anc with
  | nil => intro par h; exact h
  | cons p anc ih =>
    intro par h
    obtain ⟨h1, h2, h3, h4⟩ := h
    have e : (acc ++ m).getD par.toNat e0 = acc.getD par.toNat e0 := getE_l (by omega)
    exact ⟨h1, by rw [List.length_append]; omega, by rw [e]; exact h3, by rw [e]; exact ih _ h4⟩
theorem kidsF_len {F : Int → Nat → List EL} {s : Nat} (h : ∀ q e, (F q e).length ≤ s) : ∀ (l : List Int) (e : Nat), (kidsF F l e).length ≤ l.length * s := by
  intro l
  induction l with
  | nil => intro e; exact Nat.zero_le _
  | cons q l ih =>
    intro e
    show (F q e ++ kidsF F l (e + (F q e).length)).length ≤ (l.length + 1) * s
    rw [List.length_append, Nat.add_mul, Nat.one_mul]
    have := h q e
    have := ih (e + (F q e).length)
    omega
theorem prL_len (w : Int → Int) (b : Int) : ∀ (k : Nat) (i : Int), (prL w b i k).length = k := by
  intro k
  induction k with
  | zero => intro i; rfl
  | succ k ih => intro i; show (prL w b (i + 1) k).length + 1 = k + 1; rw [ih]
theorem wy_end {w : Int → Int} (wf : WF w) (dr fm : Int) : ∀ (n : Nat) (ms : List Int) (p day : Int), ((wyF w dr fm n ms p day).2.1 = -1 ∧ 3 ≤ (wyF w dr fm n ms p day).2.2 ∧ (wyF w dr fm n ms p day).2.2 ≤ 4) ∨ (0 ≤ (wyF w dr fm n ms p day).2.1 ∧ (wyF w dr fm n ms p day).2.1 < w 4 ∧ (wyF w dr fm n ms p day).2.1 ≠ dr ∧ (w ((116 + (4 * ((wyF w dr fm n ms p day).2.1))) + 2)) ≠ 2 ∧ (wyF w dr fm n ms p day).2.2 = (if (w ((116 + (4 * ((wyF w dr fm n ms p day).2.1))) + 2)) = 3 then 1 else if bo w dr (wyF w dr fm n ms p day).2.1 = -1 then 2 else 0)) := by
  intro n
  induction n with
  | zero => intro ms p day; exact Or.inl ⟨rfl, (by decide : (3 : Int) ≤ 4), (by decide : (4 : Int) ≤ 4)⟩
  | succ n ih =>
    intro ms p day
    unfold wyF
    by_cases c1 : p ∈ ms
    · rw [if_pos c1]; exact Or.inl ⟨rfl, by decide, by decide⟩
    · rw [if_neg c1]
      by_cases c2 : nr w dr p day = -1
      · rw [if_pos c2]; exact Or.inl ⟨rfl, by decide, by decide⟩
      · rw [if_neg c2]
        by_cases c3 : (w ((116 + (4 * (nr w dr p day))) + 2)) = 2
        · rw [if_pos c3]; exact ih _ _ _
        · rw [if_neg c3]
          rcases nr_rg (w := w) dr p day with e | e
          · exact absurd e c2
          · exact Or.inr ⟨e.1, e.2.1, e.2.2.1, c3, rfl⟩
theorem wy_rg {w : Int → Int} (wf : WF w) (dr p day : Int) : 0 ≤ (wy w dr p day).2.2 ∧ (wy w dr p day).2.2 ≤ 4 ∧ -1 ≤ (wy w dr p day).2.1 ∧ (wy w dr p day).2.1 < 60 := by
  have := (WF_n wf).2.2.2.2.1
  rcases wy_end wf dr day 9 [] p day with h | h
  · unfold wy; omega
  · unfold wy
    refine ⟨?_, ?_, by omega, by omega⟩ <;> rw [h.2.2.2.2] <;> (repeat' split) <;> omega
/-- an element with a body -/
theorem wy_body {w : Int → Int} (wf : WF w) {dr p day : Int} (h : (wy w dr p day).2.2 = 0) : 0 ≤ (wy w dr p day).2.1 ∧ (wy w dr p day).2.1 < w 4 ∧ 0 ≤ bo w dr (wy w dr p day).2.1 ∧ bo w dr (wy w dr p day).2.1 < w 3 := by
  rcases wy_end wf dr day 9 [] p day with e | e
  · unfold wy at h; omega
  · have b := bo_rg wf (dr := dr) e.1 e.2.1
    have h2 : (wyF w dr day 9 [] p day).2.2 = 0 := h
    rw [e.2.2.2.2] at h2
    refine ⟨e.1, e.2.1, ?_, b.2⟩
    show 0 ≤ bo w dr (wyF w dr day 9 [] p day).2.1
    split at h2
    · omega
    · split at h2 <;> omega
theorem vwE_len {w : Int → Int} (wf : WF w) (dr : Int) : ∀ (n : Nat) (anc : List Int) (p f dp par : Int) (e : Nat), (vwE w dr n anc p f dp par e).length ≤ sz n := by
  intro n
  induction n with
  | zero => intro anc p f dp par e; unfold vwE; split <;> exact Nat.le_refl _
  | succ n ih =>
    intro anc p f dp par e
    unfold vwE
    split
    · show 1 ≤ 1 + 4 * sz n; omega
    · split
      · rename_i h
        have hb := wy_body wf h
        have hn := (WF_b wf hb.2.2.1 hb.2.2.2).2.1
        have := kidsF_len (s := sz n) (F := fun q e' => vwE w dr n (p :: anc) q (if w 1 = 1 then (w ((116 + (4 * ((wy w dr p f).2.1))) + 1)) else f) (dp + 1) e e') (fun q e' => ih _ _ _ _ _ _) (prL w (bo w dr (wy w dr p f).2.1) 0 ((w ((6 + (11 * (bo w dr (wy w dr p f).2.1))) + 1))).toNat) (e + 1)
        rw [prL_len] at this
        have h4 : ((w ((6 + (11 * (bo w dr (wy w dr p f).2.1))) + 1))).toNat ≤ 4 := by omega
        have := Nat.mul_le_mul_right (sz n) h4
        rw [List.length_cons]
        show _ ≤ 1 + 4 * sz n
        omega
      · show 1 ≤ 1 + 4 * sz n; omega
section RE
variable {d : Nat} {G : zG} {Q : zQ}
set_option maxHeartbeats 4000000 in
theorem c183 {acc : List EL} (hm : ∀ i : Int, 0 ≤ i → i < acc.length → G 304 i = (acc.getD i.toNat e0).1 ∧ G 309 i = (acc.getD i.toNat e0).2.2.2.2.2) (hl : acc.length ≤ 90) (hr : ∀ i : Int, 0 ≤ i → i < acc.length → rg (G 304 i)) {p : Int} (hp : rg p) : ∀ (anc : List Int) (par : Int), CH acc anc par → (p ∈ anc → Q (some (zi 1)) G) → (p ∉ anc → Q (some (zi 0)) G) → zW (d + 1) 183 [zr 9 0 297, zi p, zi par] G Q := by
  intro anc par hc h1 h0
  refine zm_183 (zs_183_0 ?_)
  have key : ∀ (l : List Int) (q : Int), CH acc l q → (p ∈ l → Q (some (zi 1)) G) → (p ∉ l → Q (some (zi 0)) G) → ∀ l2, zAt xT_183 (zW d) Q 2 [zr 9 0 297, zi p, l2, zi q] [] G := by
    intro l
    induction l with
    | nil =>
      intro q hq h1 h0 l2
      have hq : q = -1 := hq
      apply zs_183_2 <;> intros
      case h2 => exact h0 (by simp)
      all_goals first | omega | (repeat' first | exact hrg _ | assumption | (unfold rg; omega) | omega | refine And.intro ?_ ?_)
    | cons x l ih =>
      intro q hq h1 h0 l2
      obtain ⟨q0, q1, q2, q3⟩ := hq
      have hg := hm q q0 q1
      have hr := hr q q0 q1
      apply zs_183_2 <;> intros
      case h2 => omega
      case h4 =>
        rename_i hne
        rw [hg.2]
        have hx : p ≠ x := fun e => hne (by rw [hg.1, q2, e])
        refine ih _ q3 (fun h => h1 (List.mem_cons_of_mem _ h)) (fun h => h0 (fun h2 => ?_)) _
        rcases List.mem_cons.mp h2 with e | e
        · exact hx e
        · exact h e
      case h5 =>
        rename_i he
        refine h1 ?_
        rw [hg.1, q2] at he
        rw [← he]; exact List.mem_cons_self
      all_goals (repeat' first | exact hrg _ | assumption | (unfold rg; omega) | omega | refine And.intro ?_ ?_)
  exact key anc par hc h1 h0 _
theorem VM_push {G4 : zG} {acc : List EL} {x : EL} (h : VM G acc) (h18 : G4 297 18 = acc.length + 1) (hold : ∀ k i : Int, 304 ≤ k → k ≤ 309 → 0 ≤ i → i < acc.length → G4 k i = G k i) (h4 : G4 304 acc.length = x.1) (h5 : G4 305 acc.length = x.2.1) (h6 : G4 306 acc.length = x.2.2.1) (h7 : G4 307 acc.length = x.2.2.2.1) (h8 : G4 308 acc.length = x.2.2.2.2.1) (h9 : G4 309 acc.length = x.2.2.2.2.2) : VM G4 (acc ++ [x]) := by
  refine ⟨by rw [h18, List.length_append]; simp, fun i i0 i1 => ?_⟩
  rw [List.length_append] at i1
  by_cases c : i = acc.length
  · rw [c, Int.toNat_natCast, getE_e]
    exact ⟨h4, h5, h6, h7, h8, h9⟩
  · have i2 : i < acc.length := by simp at i1; omega
    rw [getE_l (by omega)]
    have := h.2 i i0 i2
    rw [hold 304 i (by omega) (by omega) i0 i2, hold 305 i (by omega) (by omega) i0 i2, hold 306 i (by omega) (by omega) i0 i2, hold 307 i (by omega) (by omega) i0 i2, hold 308 i (by omega) (by omega) i0 i2, hold 309 i (by omega) (by omega) i0 i2]
    exact this
def PGok (w : Int → Int) (l : List EL) : Prop := ∀ x ∈ l, 0 ≤ x.1 ∧ x.1 < w 2
theorem PGok_app {w : Int → Int} {l m : List EL} (h : PGok w l) (g : PGok w m) : PGok w (l ++ m) := fun x hx => (List.mem_append.mp hx).elim (h x) (g x)
theorem kidsF_pg {w : Int → Int} {F : Int → Nat → List EL} (h : ∀ q e, 0 ≤ q → q < w 2 → PGok w (F q e)) : ∀ (l : List Int) (e : Nat), (∀ q ∈ l, 0 ≤ q ∧ q < w 2) → PGok w (kidsF F l e) := by
  intro l
  induction l with
  | nil => intro e _ x hx; cases hx
  | cons q l ih => intro e hl; exact PGok_app (h q e (hl q List.mem_cons_self).1 (hl q List.mem_cons_self).2) (ih _ (fun y hy => hl y (List.mem_cons_of_mem _ hy)))
theorem prL_pg {w : Int → Int} {b : Int} (wf : WF w) (b0 : 0 ≤ b) (b1 : b < w 3) : ∀ (k : Nat) (i : Int), 0 ≤ i → i + k ≤ (w ((6 + (11 * b)) + 1)) → ∀ q ∈ prL w b i k, 0 ≤ q ∧ q < w 2 := by
  intro k
  induction k with
  | zero => intro i _ _ q hq; cases hq
  | succ k ih =>
    intro i i0 i1 q hq
    rcases List.mem_cons.mp hq with e | e
    · rw [e]; exact (WF_b wf b0 b1).2.2.2.1 i i0 (by omega)
    · exact ih (i + 1) (by omega) (by omega) q e
theorem vwE_pg {w : Int → Int} (wf : WF w) (dr : Int) : ∀ (n : Nat) (anc : List Int) (p f dp par : Int) (e : Nat), 0 ≤ p → p < w 2 → PGok w (vwE w dr n anc p f dp par e) := by
  intro n
  induction n with
  | zero =>
    intro anc p f dp par e p0 p1 x hx
    unfold vwE at hx
    split at hx <;> (rcases List.mem_singleton.mp hx with rfl; exact ⟨p0, p1⟩)
  | succ n ih =>
    intro anc p f dp par e p0 p1
    unfold vwE
    split
    · intro x hx; rcases List.mem_singleton.mp hx with rfl; exact ⟨p0, p1⟩
    · intro x hx
      rcases List.mem_cons.mp hx with rfl | hx
      · exact ⟨p0, p1⟩
      · split at hx
        · rename_i h
          have hb := wy_body wf h
          exact kidsF_pg (fun q e' q0 q1 => ih _ _ _ _ _ _ q0 q1) _ _ (prL_pg wf hb.2.2.1 hb.2.2.2 _ 0 (by omega) (by have := (WF_b wf hb.2.2.1 hb.2.2.2).2.1; omega)) x hx
        · cases hx
theorem PGok_get {w : Int → Int} {l : List EL} (h : PGok w l) {i : Int} (i0 : 0 ≤ i) (i1 : i < l.length) : 0 ≤ (l.getD i.toNat e0).1 ∧ (l.getD i.toNat e0).1 < w 2 := by
  have hl : i.toNat < l.length := by omega
  rw [List.getD_eq_getElem?_getD, List.getElem?_eq_getElem hl]
  exact h _ (List.getElem_mem hl)
set_option maxHeartbeats 8000000 in
theorem c184_h {w : Int → Int} {dr : Int} (wf : WF w) (hdr : rg dr) {acc : List EL} {anc : List Int} {p f dp par : Int} (hdp0 : 0 ≤ dp) (hdp : dp ≤ 3) (hw : G 298 = w) (hd : G 297 7 = dr) (hV : VM G acc) (hP : PGok w acc) (hC : CH acc anc par) (p0 : 0 ≤ p) (p1 : p < w 2) (q0 : 0 ≤ f) (q1 : f ≤ 365) (hL : acc.length + 1 ≤ 90)
    (hn : p ∈ anc → ∀ G1, fr G G1 S184 → VM G1 (acc ++ [(p, f, -1, 5, dp, par)]) → Q none G1)
    (hr : p ∉ anc → ((wy w dr p f).2.2 ≠ 0 ∨ dp = 3) → ∀ G1, fr G G1 S184 → VM G1 (acc ++ [(p, f, (wy w dr p f).2.1, (wy w dr p f).2.2, dp, par)]) → Q none G1)
    (hk : p ∉ anc → (wy w dr p f).2.2 = 0 → dp ≠ 3 → ∀ G1, fr G G1 S184 → VM G1 (acc ++ [(p, f, (wy w dr p f).2.1, (wy w dr p f).2.2, dp, par)]) → zAt xT_184 (zW (d + 4)) Q 142 [zr 9 0 297, z0, zi f, zi dp, z0, zi acc.length, zi 0, zi (wy w dr p f).2.1, zi (bo w dr (wy w dr p f).2.1), zi 0] [] G1) : zW (d + 5) 184 [zr 9 0 297, zi p, zi f, zi dp, zi par] G Q := by
  have f0 : ∀ G G1, fr G G1 S184 → G1 298 = G 298 ∧ G1 297 7 = G 297 7 := fun G G1 h => ⟨fr_k h (fun j e => by unfold S184 at e; omega), h _ _ (fun e => by unfold S184 at e; omega)⟩
  obtain ⟨n0, n1, n2, n3, n4, n5⟩ := WF_n wf
  have hrg := WF_rg wf
  refine zm_184 (zs_184_0 ?_)
  have h18 := hV.1
  refine c183 (acc := acc) (fun i i0 i1 => ⟨(hV.2 i i0 i1).1, (hV.2 i i0 i1).2.2.2.2.2⟩) (by omega) (fun i i0 i1 => by rw [(hV.2 i i0 i1).1]; have := PGok_get hP i0 i1; exact ⟨by omega, by omega⟩) ⟨by omega, by omega⟩ anc par hC (fun hin => ?_) (fun hin => ?_)
  · rw [h18]
    apply zs_184_13 <;> intros
    case h2 =>
      apply zs_184_69 <;> intros
      case h8 =>
        refine hn hin _ (by repeat' (first | exact fr_refl _ _ | refine fr_u ?_ (by unfold S184; omega))) (VM_push hV ?_ (fun k i k0 k1 i0 i1 => ?_) ?_ ?_ ?_ ?_ ?_ ?_)
        · simp [zu, h18]
        · have e1 : i ≠ (acc.length : Int) := by omega
          have e2 : k ≠ 297 := by omega
          simp [zu, e1, e2]
        all_goals simp [zu]
      case h10 => rename_i h _; rw [zu_s] at h; omega
      case h11 => rename_i h _; rw [zu_s] at h; omega
      all_goals first | omega | (rw [zu_s] at *; (repeat' first | exact hrg _ | assumption | (unfold rg; omega) | omega | refine And.intro ?_ ?_)) | (repeat' first | exact hrg _ | assumption | (unfold rg; omega) | omega | refine And.intro ?_ ?_)
    case h3 => omega
    all_goals (repeat' first | exact hrg _ | assumption | (unfold rg; omega) | omega | refine And.intro ?_ ?_)
  · rw [h18]
    apply zs_184_13 <;> intros
    case h2 => omega
    case h3 =>
      have f2 : fr G (zu (zu (zu (zu (zu G 304 acc.length p) 305 acc.length f) 308 acc.length dp) 309 acc.length par) 297 18 (G 297 18 + 1)) S184 := by repeat' (first | exact fr_refl _ _ | refine fr_u ?_ (by unfold S184; omega))
      obtain ⟨x1, x2⟩ := f0 _ _ f2
      refine c182 (by rw [x1, hw]; exact wf) (by rw [x2, hd]; exact hdr) p0 (by rw [x1, hw]; exact p1) q0 q1 (fun G3 h3 hW => ?_)
      rw [x1, x2, hw, hd] at hW
      have f3 : fr G G3 S184 := fr_trans f2 h3 (fun k j t => by unfold S182 at t; unfold S184; omega)
      have hv : VM (zu (zu G3 307 acc.length (G3 297 11)) 306 acc.length (G3 297 10)) (acc ++ [(p, f, (wy w dr p f).2.1, (wy w dr p f).2.2, dp, par)]) := by
        have g3 : ∀ k j, k ≠ 303 → ¬ (k = 297 ∧ 9 ≤ j ∧ j ≤ 11) → G3 k j = _ := fun k j a b => h3 k j (fun t => by unfold S182 at t; omega)
        refine VM_push hV ?_ (fun k i k0 k1 i0 i1 => ?_) ?_ ?_ ?_ ?_ ?_ ?_
        · rw [zu_kj (by omega), zu_kj (by omega), g3 297 18 (by omega) (by omega), zu_s, h18]
        · rw [zu_j (by omega), zu_j (by omega), g3 k i (by omega) (by omega)]
          have e1 : i ≠ (acc.length : Int) := by omega
          have e2 : k ≠ 297 := by omega
          simp [zu, e1, e2]
        · rw [zu_kj (by omega), zu_kj (by omega), g3 _ _ (by omega) (by omega)]; simp [zu]
        · rw [zu_kj (by omega), zu_kj (by omega), g3 _ _ (by omega) (by omega)]; simp [zu]
        · rw [zu_s]; exact hW.2.1
        · rw [zu_kj (by omega), zu_s]; exact hW.2.2.1
        · rw [zu_kj (by omega), zu_kj (by omega), g3 _ _ (by omega) (by omega)]; simp [zu]
        · rw [zu_kj (by omega), zu_kj (by omega), g3 _ _ (by omega) (by omega)]; simp [zu]
      have f4 : fr G (zu (zu G3 307 acc.length (G3 297 11)) 306 acc.length (G3 297 10)) S184 := by
        refine fr_u (fr_u f3 ?_) ?_ <;> (unfold S184; omega)
      obtain ⟨y1, y2⟩ := f0 _ _ f4
      have hst := hW.2.2.1
      have hen := hW.2.1
      have wr := wy_rg wf dr p f
      apply zs_184_69 <;> intros
      case h3 => rename_i h; rw [zu_s, hst] at h; exact hr hin (Or.inl h) _ f4 hv
      case h6 => exact hr hin (Or.inr (by assumption)) _ f4 hv
      case h5 =>
        rename_i h1 h2
        rw [zu_s, hst] at h1
        have hb := wy_body wf h1
        have := hk hin h1 h2 _ f4 hv
        rw [← hen] at hb this
        refine c178 (by rw [y1, hw]; exact wf) (by rw [y2, hd]; exact hdr) hb.1 (by rw [y1, hw]; exact hb.2.1) (zs_184_137 ?_)
        rw [y1, y2, hw, hd]
        exact this
      all_goals first | omega | (rw [zu_s, hst] at *; (repeat' first | exact hrg _ | assumption | (unfold rg; omega) | omega | refine And.intro ?_ ?_)) | (rw [hst]; (repeat' first | exact hrg _ | assumption | (unfold rg; omega) | omega | refine And.intro ?_ ?_)) | (repeat' first | exact hrg _ | assumption | (unfold rg; omega) | omega | refine And.intro ?_ ?_)
    all_goals (repeat' first | exact hrg _ | assumption | (unfold rg; omega) | omega | refine And.intro ?_ ?_)
set_option maxHeartbeats 8000000 in
theorem c184 {w : Int → Int} {dr : Int} (wf : WF w) (hdr : rg dr) : ∀ (n : Nat), n ≤ 3 → ∀ (d : Nat) (G : zG) (Q : zQ) (acc : List EL) (anc : List Int) (p f dp par : Int), dp = 3 - n → G 298 = w → G 297 7 = dr → VM G acc → PGok w acc → CH acc anc par → 0 ≤ p → p < w 2 → 0 ≤ f → f ≤ 365 → acc.length + sz n ≤ 90 → (∀ G1, fr G G1 S184 → VM G1 (acc ++ vwE w dr n anc p f dp par acc.length) → Q none G1) → zW (d + (n + 5)) 184 [zr 9 0 297, zi p, zi f, zi dp, zi par] G Q := by
  have f0 : ∀ G G1, fr G G1 S184 → G1 298 = G 298 ∧ G1 297 7 = G 297 7 := fun G G1 h => ⟨fr_k h (fun j e => by unfold S184 at e; omega), h _ _ (fun e => by unfold S184 at e; omega)⟩
  obtain ⟨n0, n1, n2, n3, n4, n5⟩ := WF_n wf
  have hrg := WF_rg wf
  have hsz : ∀ n, 1 ≤ sz n := fun n => by cases n with
    | zero => exact Nat.le_refl _
    | succ n => show 1 ≤ 1 + 4 * sz n; omega
  intro n
  induction n with
  | zero =>
    intro hn3 d G Q acc anc p f dp par hdp hw hd hV hP hC p0 p1 q0 q1 hL hQ
    have hL : acc.length + 1 ≤ 90 := hL
    have hdp : dp = 3 := by omega
    refine c184_h wf hdr (by omega) (by omega) hw hd hV hP hC p0 p1 q0 q1 hL (fun hin G1 h1 h2 => hQ G1 h1 ?_) (fun hin _ G1 h1 h2 => hQ G1 h1 ?_) (fun _ _ h => absurd hdp h)
    · unfold vwE; rw [if_pos hin]; exact h2
    · unfold vwE; rw [if_neg hin]; exact h2
  | succ n ih =>
    intro hn3 d G Q acc anc p f dp par hdp hw hd hV hP hC p0 p1 q0 q1 hL hQ
    have hL1 : acc.length + 1 ≤ 90 := by have := hsz (n + 1); omega
    have e5 : d + (n + 1 + 5) = (d + n + 1) + 5 := by omega
    rw [e5]
    refine c184_h wf hdr (by omega) (by omega) hw hd hV hP hC p0 p1 q0 q1 hL1 (fun hin G1 h1 h2 => hQ G1 h1 ?_) (fun hin hs G1 h1 h2 => hQ G1 h1 ?_) (fun hin hs hd3 G1 h1 h2 => ?_)
    · unfold vwE; rw [if_pos hin]; exact h2
    · unfold vwE; rw [if_neg hin, if_neg (by rcases hs with h | h; exact h; omega)]; exact h2
    · have hb := wy_body wf hs
      have wb := WF_b wf hb.2.2.1 hb.2.2.2
      have ws := WF_s wf hb.1 hb.2.1
      have hv : vwE w dr (n + 1) anc p f dp par acc.length = (p, f, (wy w dr p f).2.1, (wy w dr p f).2.2, dp, par) :: kidsF (fun q e' => vwE w dr n (p :: anc) q (if w 1 = 1 then (w ((116 + (4 * ((wy w dr p f).2.1))) + 1)) else f) (dp + 1) acc.length e') (prL w (bo w dr (wy w dr p f).2.1) 0 ((w ((6 + (11 * (bo w dr (wy w dr p f).2.1))) + 1))).toNat) (acc.length + 1) := by
        show (if p ∈ anc then _ else _) = _
        rw [if_neg hin, if_pos hs]
      rw [hv] at hQ
      clear hv
      have hy : (p, f, (wy w dr p f).2.1, (wy w dr p f).2.2, dp, par).1 = p := rfl
      generalize (wy w dr p f).2.2 = st at *
      generalize (wy w dr p f).2.1 = en at *
      generalize bo w dr en = b at *
      have hC2 : CH (acc ++ [(p, f, en, st, dp, par)]) (p :: anc) acc.length := by
        refine ⟨by omega, by rw [List.length_append]; simp; omega, ?_, ?_⟩
        · rw [Int.toNat_natCast, getE_e]
        · rw [Int.toNat_natCast, getE_e]; exact CH_more anc par hC
      have hP2 : PGok w (acc ++ [(p, f, en, st, dp, par)]) := PGok_app hP (fun x hx => by rcases List.mem_singleton.mp hx with rfl; exact ⟨p0, p1⟩)
      have k142 : ∀ (k : Nat) (i : Int) (cur : List EL) (G5 : zG), i + k = (w ((6 + (11 * b)) + 1)) → 0 ≤ i → fr G G5 S184 → VM G5 cur → PGok w cur → CH cur (p :: anc) acc.length → cur.length + k * sz n ≤ 90 → acc ++ (p, f, en, st, dp, par) :: kidsF (fun q e' => vwE w dr n (p :: anc) q (if w 1 = 1 then (w ((116 + (4 * en)) + 1)) else f) (dp + 1) acc.length e') (prL w b 0 ((w ((6 + (11 * b)) + 1))).toNat) (acc.length + 1) = cur ++ kidsF (fun q e' => vwE w dr n (p :: anc) q (if w 1 = 1 then (w ((116 + (4 * en)) + 1)) else f) (dp + 1) acc.length e') (prL w b i k) cur.length → ∀ l1 l4 l6, zAt xT_184 (zW (d + n + 1 + 4)) Q 142 [zr 9 0 297, l1, zi f, zi dp, l4, zi acc.length, l6, zi en, zi b, zi i] [] G5 := by
        intro k
        induction k with
        | zero =>
          intro i cur G5 hi i0 h5 hV5 hP5 hC5 hL5 heq l1 l4 l6
          obtain ⟨y1, y2⟩ := f0 _ _ h5
          rw [hw] at y1
          rw [hd] at y2
          apply zs_184_142 <;> intros
          case h2 =>
            refine hQ _ h5 ?_
            rw [heq]
            show VM G5 (cur ++ [])
            rw [List.append_nil]; exact hV5
          all_goals first | omega | (rw [y1] at *; first | omega | (repeat' first | exact hrg _ | assumption | (unfold rg; omega) | omega | refine And.intro ?_ ?_))
        | succ k ihk =>
          intro i cur G5 hi i0 h5 hV5 hP5 hC5 hL5 heq l1 l4 l6
          obtain ⟨y1, y2⟩ := f0 _ _ h5
          rw [hw] at y1
          rw [hd] at y2
          have hpi := wb.2.2.2.1 i i0 (by omega)
          have hk1 : (k + 1) * sz n = k * sz n + sz n := Nat.succ_mul k (sz n)
          have call : ∀ f2, f2 = (if w 1 = 1 then (w ((116 + (4 * en)) + 1)) else f) → zW (d + n + 1 + 4) 184 [zr 9 0 297, zi (w (((6 + (11 * b)) + 3) + i)), zi f2, zi (dp + 1), zi acc.length] G5 (fun r G1 => zq0 r (zAt xT_184 (zW (d + n + 1 + 4)) Q 190 [zr 9 0 297, z0, zi f, zi dp, z0, zi acc.length, z0, zi en, zi b, zi i] [] G1)) := by
            intro f2 hf2
            have e6 : d + n + 1 + 4 = d + (n + 5) := by omega
            rw [e6]
            refine ih (by omega) d G5 _ cur (p :: anc) _ f2 (dp + 1) acc.length (by omega) y1 y2 hV5 hP5 hC5 hpi.1 hpi.2 ?_ ?_ (by omega) (fun G6 h6 hV6 => ?_)
            · rw [hf2]; split <;> omega
            · rw [hf2]; split <;> omega
            · rw [← e6]
              refine zs_184_190 (ihk (i + 1) _ G6 (by omega) (by omega) (fr_trans h5 h6 (fun _ _ t => t)) hV6 (PGok_app hP5 (vwE_pg wf dr n _ _ _ _ _ _ hpi.1 hpi.2)) (CH_more _ _ hC5) ?_ ?_ _ _ _)
              · have := vwE_len wf dr n (p :: anc) (w (((6 + (11 * b)) + 3) + i)) f2 (dp + 1) acc.length cur.length
                rw [List.length_append]; omega
              · rw [heq, List.append_assoc, List.length_append, hf2]
                rfl
          apply zs_184_142 <;> intros
          case h2 => rw [y1] at *; omega
          case h4 => rw [y1] at *; exact call _ (by rw [if_neg (by assumption)])
          case h6 => rw [y1] at *; exact call _ (by rw [if_pos (by assumption)])
          all_goals (rw [y1] at *; first | omega | (repeat' first | exact hrg _ | assumption | (unfold rg; omega) | omega | refine And.intro ?_ ?_))
      have hnp := wb.2.1
      refine k142 ((w ((6 + (11 * b)) + 1))).toNat 0 _ G1 (by omega) (by omega) h1 h2 hP2 hC2 ?_ ?_ _ _ _
      · have h4 : ((w ((6 + (11 * b)) + 1))).toNat ≤ 4 := by omega
        have := Nat.mul_le_mul_right (sz n) h4
        have hL : acc.length + (1 + 4 * sz n) ≤ 90 := hL
        rw [List.length_append]
        show acc.length + 1 + _ ≤ 90
        omega
      · rw [List.append_assoc, List.length_append]; rfl
def S185 (k j : Int) : Prop := S184 k j
set_option maxHeartbeats 4000000 in
theorem c185 {w : Int → Int} {dr : Int} (wf : WF w) (hdr : rg dr) (hw : G 298 = w) (hd : G 297 7 = dr) {p day : Int} (p0 : 0 ≤ p) (p1 : p < w 2) (q0 : 0 ≤ day) (q1 : day ≤ 365) (hQ : ∀ G1, fr G G1 S184 → VM G1 (vw w dr p day) → Q none G1) : zW (d + 9) 185 [zr 9 0 297, zi p, zi day] G Q := by
  refine zm_185 (zs_185_0 ?_)
  have f1 : fr G (zu G 297 18 0) S184 := fr_u (fr_refl _ _) (by unfold S184; omega)
  refine c184 wf hdr 3 (by omega) d _ _ [] [] p day 0 (-1) (by omega) (by rw [zu_k (by omega)]; exact hw) (by rw [zu_j (by omega)]; exact hd) ⟨by rw [zu_s]; rfl, fun i i0 i1 => by simp at i1; omega⟩ (fun x hx => by cases hx) rfl p0 p1 q0 q1 (by decide) (fun G1 h1 h2 => zs_185_13 (hQ G1 (fr_trans f1 h1 (fun _ _ t => t)) h2))
end RE
