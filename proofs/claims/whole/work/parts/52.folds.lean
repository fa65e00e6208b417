/-! VIEWS: what their elements are; spans folded -/
def EOK (w : Int → Int) (dr : Int) (y : EL) : Prop := (0 ≤ y.1 ∧ y.1 < w 2) ∧ (0 ≤ y.2.1 ∧ y.2.1 ≤ 365) ∧ ((y.2.2.1 = -1 ∧ y.2.2.2.1 = 5) ∨ (y.2.2.1 = (wy w dr y.1 y.2.1).2.1 ∧ y.2.2.2.1 = (wy w dr y.1 y.2.1).2.2))
section VF
variable {w : Int → Int} {dr : Int}
theorem kidsF_all {P : EL → Prop} {F : Int → Nat → List EL} : ∀ (l : List Int) (e : Nat), (∀ q ∈ l, ∀ e, ∀ y ∈ F q e, P y) → ∀ y ∈ kidsF F l e, P y := by
  intro l
  induction l with
  | nil => intro e _ y hy; cases hy
  | cons q l ih =>
    intro e h y hy
    rcases List.mem_append.mp hy with hy | hy
    · exact h q List.mem_cons_self e y hy
    · exact ih _ (fun q' hq' => h q' (List.mem_cons_of_mem _ hq')) y hy
theorem vwE_ok (wf : WF w) : ∀ (n : Nat) (anc : List Int) (p f dp par : Int) (e : Nat), 0 ≤ p → p < w 2 → 0 ≤ f → f ≤ 365 → ∀ y ∈ vwE w dr n anc p f dp par e, EOK w dr y := by
  intro n
  induction n with
  | zero =>
    intro anc p f dp par e p0 p1 f0 f1 y hy
    unfold vwE at hy
    split at hy
    · rcases List.mem_singleton.mp hy with rfl; exact ⟨⟨p0, p1⟩, ⟨f0, f1⟩, Or.inl ⟨rfl, rfl⟩⟩
    · rcases List.mem_singleton.mp hy with rfl; exact ⟨⟨p0, p1⟩, ⟨f0, f1⟩, Or.inr ⟨rfl, rfl⟩⟩
  | succ n ih =>
    intro anc p f dp par e p0 p1 f0 f1 y hy
    unfold vwE at hy
    split at hy
    · rcases List.mem_singleton.mp hy with rfl; exact ⟨⟨p0, p1⟩, ⟨f0, f1⟩, Or.inl ⟨rfl, rfl⟩⟩
    · rcases List.mem_cons.mp hy with rfl | hy
      · exact ⟨⟨p0, p1⟩, ⟨f0, f1⟩, Or.inr ⟨rfl, rfl⟩⟩
      · split at hy
        · rename_i hs
          have hb := wy_body wf hs
          have ws := WF_s wf hb.1 hb.2.1
          have wb := WF_b wf hb.2.2.1 hb.2.2.2
          refine kidsF_all _ _ (fun q hq e' z hz => ?_) y hy
          have hqq := prL_pg wf hb.2.2.1 hb.2.2.2 _ 0 (by omega) (by omega) q hq
          refine ih _ _ _ _ _ _ hqq.1 hqq.2 ?_ ?_ z hz
          · split <;> omega
          · split <;> omega
        · cases hy
theorem vw_ok (wf : WF w) {p day : Int} (h : okPD w p day) : ∀ y ∈ vw w dr p day, EOK w dr y := vwE_ok wf 3 [] p day 0 (-1) 0 h.1.1 h.1.2 h.2.1 h.2.2
theorem vw_len (wf : WF w) (p day : Int) : (vw w dr p day).length ≤ 85 := vwE_len wf dr 3 [] p day 0 (-1) 0
/-- an element's end, state -/
theorem EOK_e (wf : WF w) {y : EL} (h : EOK w dr y) : (0 ≤ y.2.2.2.1 ∧ y.2.2.2.1 ≤ 5) ∧ (y.2.2.1 = -1 ∨ (0 ≤ y.2.2.1 ∧ y.2.2.1 < w 4 ∧ sho w dr (w (116 + (4 * (y.2.2.1)))) y.2.2.1)) ∧ (y.2.2.2.1 = 0 ↔ (y.2.2.1 ≠ -1 ∧ bo w dr y.2.2.1 ≠ -1)) ∧ (y.2.2.2.1 ≤ 1 → y.2.2.1 ≠ -1 ∧ y.2.2.1 = (wy w dr y.1 y.2.1).2.1 ∧ y.2.2.2.1 = (wy w dr y.1 y.2.1).2.2) := by
  rcases h.2.2 with h | h
  · exact ⟨⟨by omega, by omega⟩, Or.inl h.1, ⟨fun e => by omega, fun e => absurd h.1 e.1⟩, fun e => by omega⟩
  · have r := wy_rg wf dr y.1 y.2.1
    have hh := held_eq (dr := dr) wf y.1 y.2.1
    rw [h.1, h.2]
    have hend : (wy w dr y.1 y.2.1).2.1 = -1 ∨ (0 ≤ (wy w dr y.1 y.2.1).2.1 ∧ (wy w dr y.1 y.2.1).2.1 < w 4 ∧ sho w dr (w (116 + (4 * ((wy w dr y.1 y.2.1).2.1)))) (wy w dr y.1 y.2.1).2.1) ∧ (wy w dr y.1 y.2.1).2.2 ≤ 2 := by
      rcases wy_end wf dr y.2.1 9 [] y.1 y.2.1 with e | e
      · exact Or.inl e.1
      · refine Or.inr ⟨⟨e.1, e.2.1, e.1, e.2.1, e.2.2.1, rfl⟩, ?_⟩
        show (wyF w dr y.2.1 9 [] y.1 y.2.1).2.2 ≤ 2
        rw [e.2.2.2.2]
        repeat' split
        all_goals omega
    refine ⟨⟨r.1, by omega⟩, hend.imp id (fun z => z.1), ?_, fun e => ⟨?_, rfl, rfl⟩⟩
    · unfold held at hh
      constructor
      · intro e
        have hb := wy_body wf e
        exact ⟨by omega, by omega⟩
      · intro e
        by_cases c : (wy w dr y.1 y.2.1).2.2 = 0
        · exact c
        · have := hh.1.mpr c
          rw [if_neg e.1] at this
          exact absurd this e.2
    · rcases wy_end wf dr y.2.1 9 [] y.1 y.2.1 with z | z
      · have : 3 ≤ (wy w dr y.1 y.2.1).2.2 := z.2.1
        omega
      · have : 0 ≤ (wy w dr y.1 y.2.1).2.1 := z.1
        omega
def qA (wh : Int) (q : Q4) : Int := if wh = 0 then q.1 else q.2.2.1
def qB (wh : Int) (q : Q4) : Int := if wh = 0 then q.2.1 else q.2.2.2
/-- all elements' spans, one aside -/
noncomputable def foldB (w : Int → Int) (dr but : Int) : List EL → Int → Q4 → Q4
  | [], _, q => q
  | y :: ys, e, q => foldB w dr but ys (e + 1) (if e = but then q else nar q (spv w dr y))
theorem foldB_all : ∀ (L : List EL) (e : Int) (q : Q4), 0 ≤ e → foldB w dr (-1) L e q = L.foldl (fun q y => nar q (spv w dr y)) q := by
  intro L
  induction L with
  | nil => intro e q _; rfl
  | cons y L ih => intro e q h; show foldB w dr (-1) L (e + 1) (if e = -1 then q else nar q (spv w dr y)) = _; rw [if_neg (by omega), ih _ _ (by omega)]; rfl
theorem cm_map {wh but e : Int} (hwh : wh = 0 ∨ wh = 2) : ∀ (l : List Int) (q : Q4), (e ≠ but → cmA wh but (l.map (spS w dr e)) (qA wh q) = qA wh (foldS w dr l q) ∧ cmB wh but (l.map (spS w dr e)) (qB wh q) = qB wh (foldS w dr l q)) ∧ (e = but → ∀ x y, cmA wh but (l.map (spS w dr e)) x = x ∧ cmB wh but (l.map (spS w dr e)) y = y) := by
  intro l
  induction l with
  | nil => intro q; exact ⟨fun _ => ⟨rfl, rfl⟩, fun _ x y => ⟨rfl, rfl⟩⟩
  | cons s l ih =>
    intro q
    refine ⟨fun hne => ?_, fun he x y => ?_⟩
    · have := (ih (nar q (rq w dr s))).1 hne
      have eA : qA wh (nar q (rq w dr s)) = max (qA wh q) (fldA wh (spS w dr e s)) := by
        rcases hwh with h | h <;> (unfold qA fldA nar; rw [h]; rfl)
      have eB : qB wh (nar q (rq w dr s)) = min (qB wh q) (fldB wh (spS w dr e s)) := by
        rcases hwh with h | h <;> (unfold qB fldB nar; rw [h]; rfl)
      rw [eA, eB] at this
      constructor
      · show cmA wh but (l.map (spS w dr e)) (if e = but then qA wh q else max (qA wh q) (fldA wh (spS w dr e s))) = _
        rw [if_neg hne]; exact this.1
      · show cmB wh but (l.map (spS w dr e)) (if e = but then qB wh q else min (qB wh q) (fldB wh (spS w dr e s))) = _
        rw [if_neg hne]; exact this.2
    · have := (ih q).2 he
      constructor
      · show cmA wh but (l.map (spS w dr e)) (if e = but then x else _) = x
        rw [if_pos he]; exact (this x y).1
      · show cmB wh but (l.map (spS w dr e)) (if e = but then y else _) = y
        rw [if_pos he]; exact (this x y).2
theorem nar_assoc (a b c : Q4) : nar (nar a b) c = nar a (nar b c) := by
  unfold nar
  refine Prod.ext ?_ (Prod.ext ?_ (Prod.ext ?_ ?_)) <;> simp only <;> omega
theorem foldS_nar : ∀ (l : List Int) (q r : Q4), foldS w dr l (nar q r) = nar q (foldS w dr l r) := by
  intro l
  induction l with
  | nil => intro q r; rfl
  | cons s l ih => intro q r; show foldS w dr l (nar (nar q r) (rq w dr s)) = nar q (foldS w dr l (nar r (rq w dr s))); rw [nar_assoc, ih]
theorem cm_app {wh but : Int} : ∀ (l m : List SP) (x : Int), cmA wh but (l ++ m) x = cmA wh but m (cmA wh but l x) := by
  intro l
  induction l with
  | nil => intro m x; rfl
  | cons s l ih => intro m x; exact ih m _
theorem cmB_app {wh but : Int} : ∀ (l m : List SP) (x : Int), cmB wh but (l ++ m) x = cmB wh but m (cmB wh but l x) := by
  intro l
  induction l with
  | nil => intro m x; rfl
  | cons s l ih => intro m x; exact ih m _
theorem cm_spE {wh but e : Int} (hwh : wh = 0 ∨ wh = 2) (y : EL) {q : Q4} (hq : Q4d q) : cmA wh but (spE w dr e y) (qA wh q) = qA wh (if e = but then q else nar q (spv w dr y)) ∧ cmB wh but (spE w dr e y) (qB wh q) = qB wh (if e = but then q else nar q (spv w dr y)) := by
  unfold spE spv
  by_cases c : y.2.2.2.1 ≤ 1
  · rw [if_pos c, if_pos c]
    have h := cm_map (w := w) (dr := dr) (but := but) (e := e) hwh (wy w dr y.1 y.2.1).1 q
    by_cases c2 : e = but
    · rw [if_pos c2]; exact h.2 c2 _ _
    · rw [if_neg c2, ← foldS_nar, nar_o4 hq]; exact h.1 c2
  · rw [if_neg c, if_neg c, nar_o4 hq]
    have : (if e = but then q else q) = q := by split <;> rfl
    rw [this]; exact ⟨rfl, rfl⟩
theorem cm_spL {wh but : Int} (hwh : wh = 0 ∨ wh = 2) (hd : ∀ y, Q4d (spv w dr y)) : ∀ (L : List EL) (e : Int) (q : Q4), Q4d q → cmA wh but (spL w dr L e) (qA wh q) = qA wh (foldB w dr but L e q) ∧ cmB wh but (spL w dr L e) (qB wh q) = qB wh (foldB w dr but L e q) := by
  intro L
  induction L with
  | nil => intro e q _; exact ⟨rfl, rfl⟩
  | cons y L ih =>
    intro e q hq
    have h := cm_spE (w := w) (dr := dr) (but := but) (e := e) hwh y hq
    have hq2 : Q4d (if e = but then q else nar q (spv w dr y)) := by split; exact hq; exact nar_d hq (hd y)
    have := ih (e + 1) _ hq2
    constructor
    · show cmA wh but (spE w dr e y ++ spL w dr L (e + 1)) (qA wh q) = _
      rw [cm_app, h.1]; exact this.1
    · show cmB wh but (spE w dr e y ++ spL w dr L (e + 1)) (qB wh q) = _
      rw [cmB_app, h.2]; exact this.2
end VF
section RE
variable {d : Nat} {G : zG} {Q : zQ} {w : Int → Int} {dr : Int}
/-- runs are days, whoever asks (by the reference) -/
def RQ (w : Int → Int) (dr : Int) : Prop := ∀ s, sho w dr (w (116 + (4 * s))) s → ∃ a b c e n, IsRun w dr s a b c e n
theorem RUN_ex (wf : WF w) (s : Int) (hs : sho w dr (w (116 + (4 * s))) s) : ∃ a b c e n, IsRun w dr s a b c e n := by
  have up : ∀ (m : Nat) (lo n : Int), lo ≤ m → 0 ≤ lo → RUN0 w dr s lo (w ((116 + (4 * s)) + 1)) n → ∃ lo n mf, RUN0 w dr s lo (w ((116 + (4 * s)) + 1)) n ∧ RUNa w dr s lo mf := by
    intro m
    induction m with
    | zero =>
      intro lo n hm h0 h
      refine ⟨lo, n, 0, h, Or.inl ⟨?_, rfl⟩⟩
      rcases ah_rg (w := w) dr (w (116 + (4 * s))) lo 0 with e | e
      · exact e
      · have := (WF_s wf e.1.1 e.1.2.1).2.1; have := e.2.1; omega
    | succ m ih =>
      intro lo n hm h0 h
      by_cases c : ah w dr (w (116 + (4 * s))) lo 0 = -1
      · exact ⟨lo, n, 0, h, Or.inl ⟨c, rfl⟩⟩
      · have q := (ah_rg (w := w) dr (w (116 + (4 * s))) lo 0).resolve_left c
        by_cases c2 : LIKE w dr s (ah w dr (w (116 + (4 * s))) lo 0)
        · exact ih _ _ (by have := q.2.1; omega) (WF_s wf q.1.1 q.1.2.1).2.1.1 (RUN0_a wf hs h c c2)
        · exact ⟨lo, n, _, h, Or.inr ⟨c, c2, rfl⟩⟩
  have dn : ∀ (m : Nat) (lo hi n : Int), 365 - hi ≤ m → RUN0 w dr s lo hi n → ∃ hi n mt, RUN0 w dr s lo hi n ∧ RUNb w dr s hi mt := by
    intro m
    induction m with
    | zero =>
      intro lo hi n hm h
      refine ⟨hi, n, 365, h, Or.inl ⟨?_, rfl⟩⟩
      rcases be_rg (w := w) dr (w (116 + (4 * s))) hi with e | e
      · exact e
      · have := (WF_s wf e.1.1 e.1.2.1).2.1; have := e.2; omega
    | succ m ih =>
      intro lo hi n hm h
      by_cases c : be w dr (w (116 + (4 * s))) hi = -1
      · exact ⟨hi, n, 365, h, Or.inl ⟨c, rfl⟩⟩
      · have q := (be_rg (w := w) dr (w (116 + (4 * s))) hi).resolve_left c
        by_cases c2 : LIKE w dr s (be w dr (w (116 + (4 * s))) hi)
        · exact ih _ _ _ (by have := q.2; omega) (RUN0_b wf hs h c c2)
        · exact ⟨hi, n, _, h, Or.inr ⟨c, c2, rfl⟩⟩
  have ws := WF_s wf hs.1 hs.2.1
  obtain ⟨lo, n, mf, h1, h2⟩ := up 365 (w ((116 + (4 * s)) + 1)) 1 (by omega) (by omega) (RUN0_start wf hs)
  obtain ⟨hi, n', mt, h3, h4⟩ := dn 365 lo (w ((116 + (4 * s)) + 1)) n (by omega) h1
  exact ⟨lo, hi, mf, mt, n', h3, h2, h4⟩
theorem rq_day (wf : WF w) {s : Int} (hs : sho w dr (w (116 + (4 * s))) s) : Q4d (rq w dr s) ∧ (rq w dr s).2.2.1 ≤ (rq w dr s).1 ∧ (rq w dr s).2.1 ≤ (rq w dr s).2.2.2 ∧ (rq w dr s).1 ≤ (rq w dr s).2.1 := by
  obtain ⟨a, b, c, e, n, h⟩ := RUN_ex wf s hs
  have d := RUN_days wf h
  unfold rq
  rw [rn_eq h]
  refine ⟨?_, ?_, ?_, ?_⟩
  · unfold Q4d; simp only; omega
  · simp only; omega
  · simp only; omega
  · simp only; omega
theorem spv_day (wf : WF w) (y : EL) : Q4d (spv w dr y) := by
  unfold spv
  split
  · have key : ∀ (l : List Int), (∀ s ∈ l, sho w dr (w (116 + (4 * s))) s) → ∀ q, Q4d q → Q4d (foldS w dr l q) := by
      intro l
      induction l with
      | nil => intro _ q hq; exact hq
      | cons s l ih => intro hl q hq; exact ih (fun t ht => hl t (List.mem_cons_of_mem _ ht)) _ (nar_d hq (rq_day wf (hl s List.mem_cons_self)).1)
    exact key _ (wyF_sho dr _ 9 _ _ _) _ o4_d
  · exact o4_d
theorem foldB_d (wf : WF w) {but : Int} : ∀ (L : List EL) (e : Int) (q : Q4), Q4d q → Q4d (foldB w dr but L e q) := by
  intro L
  induction L with
  | nil => intro e q hq; exact hq
  | cons y L ih => intro e q hq; refine ih _ _ ?_; split; exact hq; exact nar_d hq (spv_day wf y)
theorem spL_len : ∀ (L : List EL) (e : Int), (spL w dr L e).length ≤ L.length * 9 := by
  intro L
  induction L with
  | nil => intro e; exact Nat.zero_le _
  | cons y L ih =>
    intro e
    show (spE w dr e y ++ spL w dr L (e + 1)).length ≤ _
    rw [List.length_append, List.length_cons]
    have := ih (e + 1)
    have : (spE w dr e y).length ≤ 9 := by
      unfold spE
      split
      · rw [List.length_map]; exact wyF_len dr _ 9 _ _ _
      · exact Nat.zero_le _
    omega
theorem spL_day (wf : WF w) : ∀ (L : List EL) (e : Int), 0 ≤ e → e + L.length ≤ 100 → ∀ x ∈ spL w dr L e, dayS x := by
  intro L
  induction L with
  | nil => intro e _ _ x hx; cases hx
  | cons y L ih =>
    intro e h0 h1 x hx
    rw [List.length_cons] at h1
    rcases List.mem_append.mp hx with hx | hx
    · unfold spE at hx
      split at hx
      · obtain ⟨s, hs, rfl⟩ := List.mem_map.mp hx
        have := (rq_day wf (wyF_sho dr _ 9 _ _ _ s hs)).1
        unfold Q4d rq at this
        unfold dayS spS
        simp only at this ⊢
        omega
      · cases hx
    · exact ih (e + 1) (by omega) (by omega) x hx
set_option maxHeartbeats 4000000 in
theorem c_vs {m : Nat} (wf : WF w) (hdr : rg dr) (hw : G 298 = w) (hd : G 297 7 = dr) {p day : Int} (hok : okPD w p day) (hQ : ∀ G1, fr G G1 SR → VM G1 (vw w dr p day) → SM G1 (spL w dr (vw w dr p day) 0) → Q none G1) : zW (d + 9) 185 [zr 9 0 297, zi p, zi day] G (fun r G1 => zq0 r (zW (d + m + 6) 189 [zr 9 0 297] G1 Q)) := by
  refine c185 wf hdr hw hd hok.1.1 hok.1.2 hok.2.1 hok.2.2 (fun G1 f1 hV => ?_)
  have w1 : G1 298 = w := (fr_k f1 (fun j e => by unfold S184 at e; omega)).trans hw
  have d1 : G1 297 7 = dr := (f1 _ _ (fun e => by unfold S184 at e; omega)).trans hd
  refine c189 wf hdr w1 d1 hV (by have := vw_len (dr := dr) wf p day; omega) (fun x hx => ?_) (fun G2 f2 hS => ?_)
  · have := vw_ok wf hok x hx
    have e := EOK_e wf this
    exact ⟨this.1, this.2.1, by unfold rg; omega⟩
  · refine hQ G2 (fr_trans (fr_wide f1 (by intro k j t; unfold S184 at t; unfold SR; omega)) f2 (by intro k j t; unfold S189 at t; unfold SR; omega)) ?_ hS
    refine ⟨(f2 _ _ (fun e => by unfold S189 at e; omega)).trans hV.1, fun i i0 i1 => ?_⟩
    rw [f2 304 i (fun e => by unfold S189 at e; omega), f2 305 i (fun e => by unfold S189 at e; omega), f2 306 i (fun e => by unfold S189 at e; omega), f2 307 i (fun e => by unfold S189 at e; omega), f2 308 i (fun e => by unfold S189 at e; omega), f2 309 i (fun e => by unfold S189 at e; omega)]
    exact hV.2 i i0 i1
set_option maxHeartbeats 4000000 in
theorem c190v (wf : WF w) {L : List EL} (hL : L.length ≤ 85) (hS : SM G (spL w dr L 0)) {wh but : Int} (hwh : wh = 0 ∨ wh = 2) (hb : rg but) (hQ : ∀ G1, fr G G1 S190 → G1 297 27 = qA wh (foldB w dr but L 0 o4) → G1 297 28 = qB wh (foldB w dr but L 0 o4) → (qA wh (foldB w dr but L 0 o4) ≤ qB wh (foldB w dr but L 0 o4) → Q (some (zi 1)) G1) ∧ (qB wh (foldB w dr but L 0 o4) < qA wh (foldB w dr but L 0 o4) → Q (some (zi 0)) G1)) : zW (d + 1) 190 [zr 9 0 297, zi wh, zi but] G Q := by
  have hl := spL_len (w := w) (dr := dr) L 0
  have hc := cm_spL (w := w) (dr := dr) (but := but) hwh (spv_day wf) L 0 o4 o4_d
  have eA : qA wh o4 = 0 := by unfold qA o4; split <;> rfl
  have eB : qB wh o4 = 365 := by unfold qB o4; split <;> rfl
  rw [eA, eB] at hc
  refine c190 hS (by omega) (spL_day wf L 0 (by omega) (by omega)) hwh hb (fun G1 f1 h1 h2 _ _ _ _ => ?_)
  rw [hc.1] at h1
  rw [hc.2] at h2
  have := hQ G1 f1 h1 h2
  rw [h1, h2]
  exact this
def vd (q : Q4) : Int := if q.1 ≤ q.2.1 then 2 else if q.2.2.1 ≤ q.2.2.2 then 1 else 0
noncomputable def jdg (w : Int → Int) (dr p day : Int) : Int := vd (allS w dr (vw w dr p day))
theorem SM_190 {G1 : zG} {L : List SP} (hS : SM G L) (f : fr G G1 S190) : SM G1 L := by
  refine ⟨(f _ _ (fun e => by unfold S190 at e; omega)).trans hS.1, fun i i0 i1 => ?_⟩
  rw [f 310 _ (fun e => by unfold S190 at e; omega), f 310 _ (fun e => by unfold S190 at e; omega), f 310 _ (fun e => by unfold S190 at e; omega), f 310 _ (fun e => by unfold S190 at e; omega), f 311 _ (fun e => by unfold S190 at e; omega)]
  exact hS.2 i i0 i1
theorem VM_190 {G1 : zG} {L : List EL} (hV : VM G L) (f : fr G G1 S190) : VM G1 L := by
  refine ⟨(f _ _ (fun e => by unfold S190 at e; omega)).trans hV.1, fun i i0 i1 => ?_⟩
  rw [f 304 i (fun e => by unfold S190 at e; omega), f 305 i (fun e => by unfold S190 at e; omega), f 306 i (fun e => by unfold S190 at e; omega), f 307 i (fun e => by unfold S190 at e; omega), f 308 i (fun e => by unfold S190 at e; omega), f 309 i (fun e => by unfold S190 at e; omega)]
  exact hV.2 i i0 i1
set_option maxHeartbeats 4000000 in
theorem c191 (wf : WF w) (hdr : rg dr) (hw : G 298 = w) (hd : G 297 7 = dr) {p day : Int} (hok : okPD w p day) (hQ : ∀ G1, fr G G1 SR → VM G1 (vw w dr p day) → SM G1 (spL w dr (vw w dr p day) 0) → Q (some (zi (jdg w dr p day))) G1) : zW (d + 10) 191 [zr 9 0 297, zi p, zi day] G Q := by
  refine zm_191 (zs_191_0 ?_)
  have hl := vw_len (dr := dr) wf p day
  have hall : allS w dr (vw w dr p day) = foldB w dr (-1) (vw w dr p day) 0 o4 := (foldB_all _ 0 o4 (by omega)).symm
  refine zW_m _ _ _ _ _ _ (fun r G1 z => zq0_m (fun y => zs_191_6 y) z) (c_vs (m := 3) wf hdr hw hd hok (fun G1 f1 hV hS => zs_191_10 ?_))
  refine c190v wf hl hS (Or.inl rfl) ⟨by omega, by omega⟩ (fun G2 f2 h1 h2 => ⟨fun hle => ?_, fun hlt => ?_⟩)
  · have f3 : fr G G2 SR := fr_trans f1 f2 (by intro k j t; unfold S190 at t; unfold SR; omega)
    have := hQ G2 f3 (VM_190 hV f2) (SM_190 hS f2)
    unfold jdg vd at this
    have hle2 : (foldB w dr (-1) (vw w dr p day) 0 o4).1 ≤ (foldB w dr (-1) (vw w dr p day) 0 o4).2.1 := hle
    rw [hall, if_pos hle2] at this
    apply zs_191_16 <;> intros
    case h3 => exact this
    all_goals first | omega | (unfold rg; omega)
  · have f3 : fr G G2 SR := fr_trans f1 f2 (by intro k j t; unfold S190 at t; unfold SR; omega)
    apply zs_191_16 <;> intros
    case h2 =>
      refine c190v wf hl (SM_190 hS f2) (Or.inr rfl) ⟨by omega, by omega⟩ (fun G3 f4 h3 h4 => ?_)
      have f5 : fr G G3 SR := fr_trans f3 f4 (by intro k j t; unfold S190 at t; unfold SR; omega)
      have := hQ G3 f5 (VM_190 (VM_190 hV f2) f4) (SM_190 (SM_190 hS f2) f4)
      unfold jdg vd at this
      have hlt2 : ¬ (foldB w dr (-1) (vw w dr p day) 0 o4).1 ≤ (foldB w dr (-1) (vw w dr p day) 0 o4).2.1 := by
        have e1 : (foldB w dr (-1) (vw w dr p day) 0 o4).2.1 < (foldB w dr (-1) (vw w dr p day) 0 o4).1 := hlt
        omega
      rw [hall, if_neg hlt2] at this
      refine ⟨fun hle => ?_, fun hlt3 => ?_⟩
      · have e1 : (foldB w dr (-1) (vw w dr p day) 0 o4).2.2.1 ≤ (foldB w dr (-1) (vw w dr p day) 0 o4).2.2.2 := hle
        rw [if_pos e1] at this
        apply zs_191_29 <;> intros
        case h3 => exact this
        all_goals first | omega | (unfold rg; omega)
      · have e1 : (foldB w dr (-1) (vw w dr p day) 0 o4).2.2.2 < (foldB w dr (-1) (vw w dr p day) 0 o4).2.2.1 := hlt3
        rw [if_neg (by omega)] at this
        apply zs_191_29 <;> intros
        case h2 => exact this
        all_goals first | omega | (unfold rg; omega)
    all_goals first | omega | (unfold rg; omega)
end RE
