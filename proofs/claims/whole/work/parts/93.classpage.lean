/-! THE READER by the class: what is told so far; the end of a line, page, first line -/
def BD1 (G : zG) (a : Int) (w : Int → Int) (b : Int) : Prop := G (a + 1) b = (w (6 + (11 * b))) ∧ G (a + 2) b = (w ((6 + (11 * b)) + 1)) ∧ G (a + 3) b = (w ((6 + (11 * b)) + 2)) ∧ (∀ i, 0 ≤ i → i < (w ((6 + (11 * b)) + 1)) → G (a + 4) ((b * 4) + i) = (w (((6 + (11 * b)) + 3) + i))) ∧ (∀ i, 0 ≤ i → i < (w ((6 + (11 * b)) + 2)) → G (a + 5) ((b * 4) + i) = (w (((6 + (11 * b)) + 7) + i)))
def SH1 (G : zG) (a : Int) (w : Int → Int) (s : Int) : Prop := G (a + 7) s = (w (116 + (4 * s))) ∧ G (a + 8) s = (w ((116 + (4 * s)) + 1)) ∧ G (a + 9) s = (w ((116 + (4 * s)) + 2)) ∧ ((w ((116 + (4 * s)) + 2)) = 0 ∨ (w ((116 + (4 * s)) + 2)) = 2 → G (a + 10) s = (w ((116 + (4 * s)) + 3)))
def BND (G : zG) (a : Int) : Prop := (∀ b, 0 ≤ b → b < 10 → rg (G (a + 1) b) ∧ (0 ≤ G (a + 2) b ∧ G (a + 2) b ≤ 4) ∧ (0 ≤ G (a + 3) b ∧ G (a + 3) b ≤ 4)) ∧ (∀ i, 0 ≤ i → i < 40 → rg (G (a + 4) i) ∧ rg (G (a + 5) i))
/-- the draft at key a; x: bodies begun -/
def DRX (G : zG) (a : Int) (w : Int → Int) (x : Int) : Prop := (G a 0 = w 0 ∧ G a 1 = w 1 ∧ G a 2 = w 5) ∧ (G a 3 = w 2 ∧ G a 4 = w 3 + x ∧ G a 5 = w 4) ∧ G a 6 = 0 ∧ (∀ b, 0 ≤ b → b < w 3 → BD1 G a w b) ∧ (∀ s, 0 ≤ s → s < w 4 → SH1 G a w s) ∧ BND G a
def CQ (a : Int) (G : zG) : Prop := (0 ≤ G a 4 ∧ G a 4 ≤ 10) ∧ BND G a ∧ G 2 4 = a ∧ (0 ≤ G 2 3 ∧ G 2 3 ≤ 1200)
def CP (B : Int → Int) (n a x : Int) (G : zG) (S : PS) : Prop := PSok B n S ∧ CT B n G S.1 ∧ CN G S.2.2 ∧ (G 2 0 = 0 ∧ G 2 1 = -1) ∧ DRX G a S.2.1 x ∧ CQ a G
def CE (a : Int) (G : zG) (e : Int × Int) : Prop := (1 ≤ e.1 ∧ e.1 ≤ 3) ∧ RF G e.1 e.2 ∧ CQ a G
def CS (B : Int → Int) (n a v : Int) (G : zG) : RE PS → Prop
  | Except.ok S => v = 1 ∧ CP B n a 0 G S
  | Except.error e => v = 0 ∧ CE a G e
def SKA (a k j : Int) : Prop := (k = 2 ∧ (j = 0 ∨ j = 1 ∨ (5 ≤ j ∧ j ≤ 8))) ∨ k = 3 ∨ k = 4 ∨ (a ≤ k ∧ k ≤ a + 10)
noncomputable def oEnd (B : Int → Int) (n : Int) (S : PS) : RE PS := Except.bind (oStop B n S) (fun S => Except.ok (oSet 5 (S.2.1 5 + 1) S))
section CL
variable {d : Nat} {G : zG} {Q : zQ} {B : Int → Int} {n a x : Int} {S : PS}
theorem BND_fr {G1 : zG} (h : BND G a) (e : ∀ k j, a + 1 ≤ k → k ≤ a + 5 → G1 k j = G k j) : BND G1 a := by
  refine ⟨fun b b0 b1 => ?_, fun i i0 i1 => ?_⟩
  · rw [e _ _ (by omega) (by omega), e _ _ (by omega) (by omega), e _ _ (by omega) (by omega)]; exact h.1 b b0 b1
  · rw [e _ _ (by omega) (by omega), e _ _ (by omega) (by omega)]; exact h.2 i i0 i1
theorem BD1_of {G1 : zG} {w u : Int → Int} {b : Int} (h : BD1 G a w b) (hnp : (w ((6 + (11 * b)) + 1)) ≤ 4) (hnl : (w ((6 + (11 * b)) + 2)) ≤ 4) (e : ∀ k, a + 1 ≤ k → k ≤ a + 3 → G1 k b = G k b) (e4 : ∀ k i, a + 4 ≤ k → k ≤ a + 5 → 0 ≤ i → i < 4 → G1 k ((b * 4) + i) = G k ((b * 4) + i)) (hu : ∀ j, 6 + 11 * b ≤ j → j < 6 + 11 * b + 11 → u j = w j) : BD1 G1 a u b := by
  obtain ⟨h1, h2, h3, h4, h5⟩ := h
  refine ⟨by rw [e _ (by omega) (by omega), hu _ (by omega) (by omega)]; exact h1, by rw [e _ (by omega) (by omega), hu _ (by omega) (by omega)]; exact h2, by rw [e _ (by omega) (by omega), hu _ (by omega) (by omega)]; exact h3, fun i i0 i1 => ?_, fun i i0 i1 => ?_⟩
  · rw [hu _ (by omega) (by omega)] at i1
    rw [e4 _ i (by omega) (by omega) i0 (by omega), hu _ (by omega) (by omega)]; exact h4 i i0 i1
  · rw [hu _ (by omega) (by omega)] at i1
    rw [e4 _ i (by omega) (by omega) i0 (by omega), hu _ (by omega) (by omega)]; exact h5 i i0 i1
theorem SH1_of {G1 : zG} {w u : Int → Int} {s : Int} (h : SH1 G a w s) (e : ∀ k, a + 7 ≤ k → k ≤ a + 10 → G1 k s = G k s) (hu : ∀ j, 116 + 4 * s ≤ j → j < 116 + 4 * s + 4 → u j = w j) : SH1 G1 a u s := by
  obtain ⟨h1, h2, h3, h4⟩ := h
  refine ⟨by rw [e _ (by omega) (by omega), hu _ (by omega) (by omega)]; exact h1, by rw [e _ (by omega) (by omega), hu _ (by omega) (by omega)]; exact h2, by rw [e _ (by omega) (by omega), hu _ (by omega) (by omega)]; exact h3, ?_⟩
  rw [hu ((116 + (4 * s)) + 2) (by omega) (by omega), hu ((116 + (4 * s)) + 3) (by omega) (by omega), e _ (by omega) (by omega)]; exact h4
/-- the top numbers change, the rows stay -/
theorem DRX_top {G1 : zG} {w u : Int → Int} {y : Int} (wf : WF w) (h : DRX G a w x) (he : ∀ k j, a + 1 ≤ k → k ≤ a + 10 → G1 k j = G k j) (hu : ∀ j, 6 ≤ j → j < 6 + 11 * w 3 → u j = w j) (hs : ∀ j, 116 ≤ j → u j = w j) (h3 : u 3 = w 3) (h4 : u 4 = w 4) (t : (G1 a 0 = u 0 ∧ G1 a 1 = u 1 ∧ G1 a 2 = u 5) ∧ (G1 a 3 = u 2 ∧ G1 a 4 = u 3 + y ∧ G1 a 5 = u 4) ∧ G1 a 6 = 0) : DRX G1 a u y := by
  obtain ⟨_, _, _, b1, s1, n1⟩ := h
  refine ⟨t.1, t.2.1, t.2.2, fun b b0 bl => ?_, fun s s0 sl => ?_, BND_fr n1 (fun k j k0 k1 => he k j (by omega) (by omega))⟩
  · rw [h3] at bl
    have wb := WF_b wf b0 bl
    exact BD1_of (b1 b b0 bl) wb.2.1.2 wb.2.2.1.2 (fun k k0 k1 => he _ _ (by omega) (by omega)) (fun k i k0 k1 i0 i1 => he _ _ (by omega) (by omega)) (fun j j0 j1 => hu j (by omega) (by omega))
  · rw [h4] at sl
    exact SH1_of (s1 s s0 sl) (fun k k0 k1 => he _ _ (by omega) (by omega)) (fun j j0 j1 => hs j (by omega))
theorem DRX_fr {G1 : zG} {w : Int → Int} (h : DRX G a w x) (wf : WF w) (e : ∀ k j, a ≤ k → k ≤ a + 10 → G1 k j = G k j) : DRX G1 a w x := by
  have t := h
  refine DRX_top wf h (fun k j k0 k1 => e k j (by omega) k1) (fun _ _ _ => rfl) (fun _ _ => rfl) rfl rfl ?_
  rw [e _ _ (by omega) (by omega), e _ _ (by omega) (by omega), e _ _ (by omega) (by omega), e _ _ (by omega) (by omega), e _ _ (by omega) (by omega), e _ _ (by omega) (by omega), e _ _ (by omega) (by omega)]
  exact ⟨t.1, t.2.1, t.2.2.1⟩
theorem CQ_fr {G1 : zG} (ha : 5 ≤ a) (h : CQ a G) (e : ∀ k j, a ≤ k → k ≤ a + 10 → G1 k j = G k j) (e3 : G1 2 3 = G 2 3) (e4 : G1 2 4 = G 2 4) : CQ a G1 := by
  obtain ⟨h1, h2, h3, h4⟩ := h
  exact ⟨by rw [e _ _ (by omega) (by omega)]; exact h1, BND_fr h2 (fun k j k0 k1 => e k j (by omega) (by omega)), by rw [e4]; exact h3, by rw [e3]; exact h4⟩
theorem CP_step {G1 : zG} (ha : 5 ≤ a) (h : CP B n a x G S) (f : fr G G1 S52) (hC : CT B n G1 (nx B n S.1.2.2.1)) : CP B n a x G1 (oStep B n S) := by
  obtain ⟨h1, h2, h3, h4, h5, h6⟩ := h
  have e : ∀ k j, ¬ (k = 2 ∧ 5 ≤ j ∧ j ≤ 8) → G1 k j = G k j := fun k j h => f k j h
  exact ⟨(step_go h1).1, hC, fun p p0 p1 hp => by rw [e _ _ (by omega), e _ _ (by omega)]; exact h3 p p0 p1 hp, ⟨(e _ _ (by omega)).trans h4.1, (e _ _ (by omega)).trans h4.2⟩, DRX_fr h5 h1.2.1 (fun k j k0 k1 => e _ _ (by omega)), CQ_fr ha h6 (fun k j k0 k1 => e _ _ (by omega)) (e _ _ (by omega)) (e _ _ (by omega))⟩
theorem CE_of {G1 : zG} (ha : 5 ≤ a) (h : CQ a G) (f : fr G G1 SKR) {k p : Int} (hk : 1 ≤ k ∧ k ≤ 3) (hF : RF G1 k p) : CE a G1 (k, p) := by
  have e : ∀ k j, ¬ (k = 2 ∧ (j = 0 ∨ j = 1 ∨ (5 ≤ j ∧ j ≤ 8))) → G1 k j = G k j := fun k j h => f k j h
  exact ⟨hk, hF, CQ_fr ha h (fun k j k0 k1 => e _ _ (by omega)) (e _ _ (by omega)) (e _ _ (by omega))⟩
theorem ska52 {a k j : Int} (t : S52 k j) : SKA a k j := Or.inl ⟨t.1, Or.inr (Or.inr t.2)⟩
theorem skaKR {a k j : Int} (t : SKR k j) : SKA a k j := Or.inl t
/-- refused where it stands -/
theorem refuse_at (ha : 5 ≤ a) (h : CP B n a x G S) {k : Int} (hk : 1 ≤ k ∧ k ≤ 3) : fr G (zu (zu G 2 0 k) 2 1 (G 2 7)) (SKA a) ∧ CE a (zu (zu G 2 0 k) 2 1 (G 2 7)) (k, S.1.2.1) := by
  have e7 := (CT_n h.2.1).2.2.1
  rw [e7]
  exact ⟨fr_wide (sk_u _ _ _) (fun _ _ t => skaKR t), CE_of ha h.2.2.2.2.2 (sk_u _ _ _) hk (RF_u _)⟩
theorem CP_NU (ha : 5 ≤ a) (h : CP B n a 0 G S) : NU B n S.2.2 a (S.2.1 2) (S.2.1 3) G := by
  obtain ⟨h1, h2, h3, h4, h5, h6⟩ := h
  have nn := WF_n h1.2.1
  exact ⟨h6.2.2.1, ha, h5.2.1.1, by rw [h5.2.1.2.1]; omega, by omega, by omega, h3, fun i i0 i1 => h1.2.2.2.2 i (by omega), fun i i0 i1 => h1.2.2.2.2 (8 + i) (by omega)⟩
set_option maxHeartbeats 4000000 in
theorem c43 (hT : TP B n) (ha : 5 ≤ a) (h : CP B n a 0 G S) (hQ : ∀ G1 v, fr G G1 (SKA a) → CS B n a v G1 (oEnd B n S) → Q (some (zi v)) G1) : zW (d + 5) 43 [zr 2 0 2] G Q := by
  obtain ⟨h1, h2, h3, h4, h5, h6⟩ := h
  obtain ⟨e2, e5, e7, e6, eB, a0, a5⟩ := CT_n h2
  have hCP : CP B n a 0 G S := ⟨h1, h2, h3, h4, h5, h6⟩
  have e24 : G 2 4 = a := h6.2.2.1
  refine zm_43 ?_
  apply zs_43_0 <;> intros
  case h3 =>
    have k3 : S.1.1 = 3 := by omega
    have hs : oEnd B n S = Except.ok (oSet 5 ((oStep B n S).2.1 5 + 1) (oStep B n S)) := by
      unfold oEnd oStop; rw [if_pos k3]; rfl
    rw [e24]
    have hC1 : CT B n (zu G a 2 (G a 2 + 1)) S.1 := CT_fr h2 (fun k j h => zu_kj (by omega))
    refine c52s hT hC1 (fun G1 f1 hC2 => zs_43_31 (hQ G1 1 ?_ ?_))
    · exact fr_trans (fr_u (fr_refl _ _) (Or.inr (Or.inr (Or.inr ⟨by omega, by omega⟩)))) f1 (fun _ _ t => ska52 t)
    rw [hs]
    have e : ∀ k j, ¬ (k = 2 ∧ 5 ≤ j ∧ j ≤ 8) → ¬ (k = a ∧ j = 2) → G1 k j = G k j := fun k j h g => (f1 k j h).trans (if_neg g)
    have e2 : G1 a 2 = G a 2 + 1 := by rw [f1 _ _ (fun t => by unfold S52 at t; omega), zu_s]
    have ew : (oStep B n S).2.1 = S.2.1 := rfl
    refine ⟨rfl, (stop5_ok hT.1.2 h1 k3).1, hC2, fun p p0 p1 hp => by rw [e _ _ (by omega) (by omega), e _ _ (by omega) (by omega)]; exact h3 p p0 p1 hp, ⟨(e _ _ (by omega) (by omega)).trans h4.1, (e _ _ (by omega) (by omega)).trans h4.2⟩, ?_, ?_⟩
    · show DRX G1 a (zpd S.2.1 5 (S.2.1 5 + 1)) 0
      refine DRX_top h1.2.1 h5 (fun k j k0 k1 => e _ _ (by omega) (by omega)) (fun j j0 j1 => zpd_n (by omega)) (fun j j0 => zpd_n (by omega)) (zpd_n (by omega)) (zpd_n (by omega)) ?_
      refine ⟨⟨?_, ?_, ?_⟩, ⟨?_, ?_, ?_⟩, ?_⟩
      · rw [e _ _ (by omega) (by omega), zpd_n (by omega)]; exact h5.1.1
      · rw [e _ _ (by omega) (by omega), zpd_n (by omega)]; exact h5.1.2.1
      · rw [e2, zpd_s, h5.1.2.2]
      · rw [e _ _ (by omega) (by omega), zpd_n (by omega)]; exact h5.2.1.1
      · rw [e _ _ (by omega) (by omega), zpd_n (by omega)]; exact h5.2.1.2.1
      · rw [e _ _ (by omega) (by omega), zpd_n (by omega)]; exact h5.2.1.2.2
      · rw [e _ _ (by omega) (by omega)]; exact h5.2.2.1
    · obtain ⟨q1, q2, q3, q4⟩ := h6
      exact ⟨by rw [e _ _ (by omega) (by omega)]; exact q1, BND_fr q2 (fun k j k0 k1 => e _ _ (by omega) (by omega)), (e _ _ (by omega) (by omega)).trans q3, by rw [e _ _ (by omega) (by omega)]; exact q4⟩
  case h4 =>
    have hs : oEnd B n S = Except.error (1, S.1.2.1) := by
      unfold oEnd oStop; rw [if_neg (by omega)]; rfl
    have := refuse_at ha hCP (k := 1) (by omega)
    exact hQ _ 0 this.1 (by rw [hs]; exact ⟨rfl, this.2⟩)
  all_goals first | omega | (repeat' first | exact hrg _ | assumption | (unfold rg; omega) | omega | refine And.intro ?_ ?_)
set_option maxHeartbeats 4000000 in
theorem c44p (hT : TP B n) (ha : 5 ≤ a) (h : CP B n a 0 G S) {slot : Int} (hs0 : 0 ≤ slot ∧ slot < 18) (hs : ¬ ((0 ≤ slot ∧ slot < S.2.1 2) ∨ (8 ≤ slot ∧ slot < 8 + S.2.1 3))) (hQ : ∀ G1 v, fr G G1 (SKA a) → CS B n a v G1 (oNew B n slot S) → Q (some (zi v)) G1) : zW (d + 6) 44 [zr 2 0 2, zi slot] G Q := by
  obtain ⟨h1, h2, h3, h4, h5, h6⟩ := h
  have hCP : CP B n a 0 G S := ⟨h1, h2, h3, h4, h5, h6⟩
  refine c44 hT h2 hs0 (CP_NU ha hCP) (fun k1 hgood G2 f2 hC2 g3 g4 => ?_) (fun k1 G2 f2 hF => ?_) (fun k1 hbad G2 f2 hF => ?_)
  · have hnew : oNew B n slot S = Except.ok (nx B n S.1.2.2.1, S.2.1, zpn S.2.2 slot (S.1.2.1, S.1.2.2.1 - S.1.2.1)) := by
      unfold oNew; rw [if_pos k1, cif_f hgood]
    have hPS := (name_ok h1 hs hnew).1
    have e : ∀ k j, ¬ ((k = 2 ∧ 5 ≤ j ∧ j ≤ 8) ∨ ((k = 3 ∨ k = 4) ∧ j = slot)) → G2 k j = G k j := fun k j h => f2 k j h
    refine hQ G2 1 (fr_wide f2 (fun k j t => ?_)) ?_
    · rcases t with t | t
      · exact ska52 t
      · exact Or.inr (by omega)
    rw [hnew]
    refine ⟨rfl, hPS, hC2, fun p p0 p1 hp => ?_, ⟨(e _ _ (by omega)).trans h4.1, (e _ _ (by omega)).trans h4.2⟩, DRX_fr h5 h1.2.1 (fun k j k0 k1 => e _ _ (by omega)), CQ_fr ha h6 (fun k j k0 k1 => e _ _ (by omega)) (e _ _ (by omega)) (e _ _ (by omega))⟩
    by_cases c : p = slot
    · have : zpn S.2.2 slot (S.1.2.1, S.1.2.2.1 - S.1.2.1) p = (S.1.2.1, S.1.2.2.1 - S.1.2.1) := if_pos c
      show G2 3 p = (zpn S.2.2 slot (S.1.2.1, S.1.2.2.1 - S.1.2.1) p).1 ∧ G2 4 p = (zpn S.2.2 slot (S.1.2.1, S.1.2.2.1 - S.1.2.1) p).2
      rw [this, c]; exact ⟨g3, g4⟩
    · have : zpn S.2.2 slot (S.1.2.1, S.1.2.2.1 - S.1.2.1) p = S.2.2 p := if_neg c
      have hp : (zpn S.2.2 slot (S.1.2.1, S.1.2.2.1 - S.1.2.1) p).2 ≠ 0 := hp
      show G2 3 p = (zpn S.2.2 slot (S.1.2.1, S.1.2.2.1 - S.1.2.1) p).1 ∧ G2 4 p = (zpn S.2.2 slot (S.1.2.1, S.1.2.2.1 - S.1.2.1) p).2
      rw [this] at hp ⊢
      rw [e _ _ (by omega), e _ _ (by omega)]; exact h3 p p0 p1 hp
  · have hnew : oNew B n slot S = Except.error (1, S.1.2.1) := by unfold oNew; rw [if_neg k1]
    exact hQ G2 0 (fr_wide f2 (fun _ _ t => skaKR t)) (by rw [hnew]; exact ⟨rfl, CE_of ha h6 f2 (by omega) hF⟩)
  · have hnew : oNew B n slot S = Except.error (2, S.1.2.1) := by unfold oNew; rw [if_pos k1, cif_t hbad]
    exact hQ G2 0 (fr_wide f2 (fun _ _ t => skaKR t)) (by rw [hnew]; exact ⟨rfl, CE_of ha h6 f2 (by omega) hF⟩)
theorem CS_v {v : Int} {r : RE PS} (h : CS B n a v G r) : v = 0 ∨ v = 1 := by
  cases r with
  | error e => exact Or.inl h.1
  | ok S => exact Or.inr h.1
set_option maxHeartbeats 4000000 in
theorem k36 (hT : TP B n) (ha : 5 ≤ a) (h : CP B n a 0 G S) (hQ : ∀ G1 v, fr G G1 (SKA a) → CS B n a v G1 (Except.bind (oPage B n S) (oEnd B n)) → Q (some (zi v)) G1) : zW (d + 7) 36 [zr 2 0 2] G Q := by
  have e24 : G 2 4 = a := h.2.2.2.2.2.2.2.1
  have nn := WF_n h.1.2.1
  have e3 : G (G 2 4) 3 = S.2.1 2 := by rw [e24]; exact h.2.2.2.2.1.2.1.1
  refine zm_36 ?_
  apply zs_36_0 <;> intros
  case h2 =>
    refine c52s hT h.2.1 (fun G1 f1 hC1 => ?_)
    have hP1 := CP_step ha h f1 hC1
    have hfull : oFull B n 2 8 S = Except.ok (oStep B n S) := by unfold oFull; rw [if_neg (by omega)]
    have hs : oPage B n S = Except.bind (oNew B n (S.2.1 2) (oStep B n S)) (fun S => Except.ok (oSet 2 (S.2.1 2 + 1) S)) := by
      unfold oPage; rw [hfull]; rfl
    have ew : (oStep B n S).2.1 = S.2.1 := rfl
    generalize oStep B n S = S1 at *
    clear hC1
    have fA := fr_wide f1 (fun k j t => ska52 (a := a) t)
    have d24 : G1 2 4 = a := hP1.2.2.2.2.2.2.2.1
    have d3 : G1 (G1 2 4) 3 = S.2.1 2 := by rw [d24, ← ew]; exact hP1.2.2.2.2.1.2.1.1
    apply zs_36_22 <;> intros
    case h2 =>
      rw [d3]
      refine c44p hT ha hP1 (slot := S.2.1 2) ⟨by omega, by omega⟩ (by rw [ew]; omega) (fun G2 v f2 hS2 => ?_)
      have fB := fr_trans fA f2 (fun _ _ t => t)
      cases hnew : oNew B n (S.2.1 2) S1 with
      | error e =>
        rw [hnew] at hS2 hs
        rw [hs] at hQ
        obtain ⟨hv, hE⟩ := hS2
        rw [hv]
        apply zs_36_33 <;> intros
        case h4 => exact hQ G2 0 fB ⟨rfl, hE⟩
        all_goals first | omega | (repeat' first | exact hrg _ | assumption | (unfold rg; omega) | omega | refine And.intro ?_ ?_)
      | ok T =>
        rw [hnew] at hS2 hs
        have hs : oPage B n S = Except.ok (oSet 2 (T.2.1 2 + 1) T) := hs
        have hPS := (page_ok h.1 hs).1
        rw [hs] at hQ
        have hQ : ∀ G1 v, fr G G1 (SKA a) → CS B n a v G1 (oEnd B n (oSet 2 (T.2.1 2 + 1) T)) → Q (some (zi v)) G1 := hQ
        obtain ⟨hv, p1, p2, p3, p4, p5, p6⟩ := hS2
        rw [hv]
        have eT : T.2.1 = S.2.1 := by rw [(new_ok hnew).1]; exact ew
        have b24 : G2 2 4 = a := p6.2.2.1
        have b3 : G2 a 3 = T.2.1 2 := p5.2.1.1
        apply zs_36_33 <;> intros
        case h3 =>
          rw [b24, b3]
          have g : ∀ k j, ¬ (k = a ∧ j = 3) → zu G2 a 3 (T.2.1 2 + 1) k j = G2 k j := fun k j h => if_neg h
          refine c43 hT ha ⟨hPS, CT_fr p2 (fun k j h => g _ _ (by omega)), fun p p0 p1 hp => ?_, ⟨?_, ?_⟩, ?_, ?_⟩ (fun G3 v f3 hS3 => ?_)
          · rw [g _ _ (by omega), g _ _ (by omega)]
            exact p3 p p0 p1 hp
          · rw [g _ _ (by omega)]; exact p4.1
          · rw [g _ _ (by omega)]; exact p4.2
          · show DRX (zu G2 a 3 (T.2.1 2 + 1)) a (zpd T.2.1 2 (T.2.1 2 + 1)) 0
            refine DRX_top p1.2.1 p5 (fun k j k0 k1 => by rw [g _ _ (by omega)]) (fun j j0 j1 => zpd_n (by omega)) (fun j j0 => zpd_n (by omega)) (zpd_n (by omega)) (zpd_n (by omega)) ?_
            refine ⟨⟨?_, ?_, ?_⟩, ⟨?_, ?_, ?_⟩, ?_⟩
            · rw [g _ _ (by omega), zpd_n (by omega)]; exact p5.1.1
            · rw [g _ _ (by omega), zpd_n (by omega)]; exact p5.1.2.1
            · rw [g _ _ (by omega), zpd_n (by omega)]; exact p5.1.2.2
            · rw [zu_s, zpd_s]
            · rw [g _ _ (by omega), zpd_n (by omega)]; exact p5.2.1.2.1
            · rw [g _ _ (by omega), zpd_n (by omega)]; exact p5.2.1.2.2
            · rw [g _ _ (by omega)]; exact p5.2.2.1
          · obtain ⟨q1, q2, q3, q4⟩ := p6
            exact ⟨by rw [g _ _ (by omega)]; exact q1, BND_fr q2 (fun k j k0 k1 => by rw [g _ _ (by omega)]), by rw [g _ _ (by omega)]; exact q3, by rw [g _ _ (by omega)]; exact q4⟩
          · have hQ3 := hQ G3 v (fr_trans (fr_u fB (Or.inr (Or.inr (Or.inr ⟨by omega, by omega⟩)))) f3 (fun _ _ t => t)) hS3
            apply zs_36_55 <;> intros
            case h1 => exact CS_v hS3
            case h2 => exact hQ3
        all_goals first | omega | (repeat' first | exact hrg _ | assumption | (unfold rg; omega) | omega | refine And.intro ?_ ?_)
    all_goals first | omega | (repeat' first | exact hrg _ | assumption | (unfold rg; omega) | omega | refine And.intro ?_ ?_)
  case h3 =>
    have hs : oPage B n S = Except.error (3, S.1.2.1) := by
      unfold oPage oFull; rw [if_pos (by omega)]; rfl
    rw [hs] at hQ
    have := refuse_at ha h (k := 3) (by omega)
    exact hQ _ 0 this.1 ⟨rfl, this.2⟩
  all_goals first | omega | (repeat' first | exact hrg _ | assumption | (unfold rg; omega) | omega | refine And.intro ?_ ?_)
end CL
