/-! THE CLASS: the index is built, the nearest by it -/
theorem turn_rk {l e y day : Int} (hl : 0 ≤ l ∧ l ≤ 2) (e0 : 0 ≤ e) (ey : e < y) (y1 : y ≤ 365) (d0 : 0 ≤ day) (d1 : day ≤ 365) : (turn l e y ≤ day → rk l day y < rk l day e) ∧ (day < turn l e y → rk l day e < rk l day y) := by
  unfold turn rk
  constructor <;> intro h
  · repeat' split at h
    all_goals repeat' split
    all_goals omega
  · repeat' split at h
    all_goals repeat' split
    all_goals omega
theorem turn_mono {l e y z : Int} (ey : e < y) (yz : y < z) : turn l e y ≤ turn l y z := by
  unfold turn
  repeat' split
  all_goals omega
theorem turn_in {l e y : Int} (e0 : 0 ≤ e) (ey : e < y) (y1 : y ≤ 365) : 0 ≤ turn l e y ∧ turn l e y ≤ 365 := by
  unfold turn
  repeat' split
  all_goals omega
section OO
variable {w o st : Int → Int} {dr p : Int}
theorem OD_snv (wf : WF w) (h : OD w dr o st) (p0 : 0 ≤ p) (p1 : p < 8) {k : Int} (k0 : st p ≤ k) (k1 : k < st (p + 1)) : snv w dr (o k) = if k = st p then 0 else turn (w 0) (w ((116 + (4 * (o (k - 1)))) + 1)) (w ((116 + (4 * (o k))) + 1)) := by
  have hs := h.2.1 p p0 p1 k k0 k1
  unfold snv
  rw [hs.2.2.2, OD_ah0 wf h p0 p1 k0 k1]
  by_cases c : k = st p
  · rw [if_pos c, if_pos c, if_pos rfl]
  · have := (h.2.1 p p0 p1 (k - 1) (by omega) (by omega)).1
    rw [if_neg c, if_neg c, if_neg (by omega)]
theorem OD_day (wf : WF w) (h : OD w dr o st) (p0 : 0 ≤ p) (p1 : p < 8) {k : Int} (k0 : st p ≤ k) (k1 : k < st (p + 1)) : 0 ≤ (w ((116 + (4 * (o k))) + 1)) ∧ (w ((116 + (4 * (o k))) + 1)) ≤ 365 := by
  have hs := h.2.1 p p0 p1 k k0 k1
  exact (WF_s wf hs.1 hs.2.1).2.1
theorem OD_mono (wf : WF w) (h : OD w dr o st) (p0 : 0 ≤ p) (p1 : p < 8) {i : Int} (i0 : st p ≤ i) : ∀ r : Nat, i + r < st (p + 1) → snv w dr (o i) ≤ snv w dr (o (i + r)) := by
  intro r
  induction r with
  | zero => intro _; rw [show i + ((0 : Nat) : Int) = i by omega]; exact Int.le_refl _
  | succ r ih =>
    intro hr
    have ih := ih (by omega)
    rw [show i + ((r + 1 : Nat) : Int) = i + r + 1 by omega]
    have e1 := OD_snv wf h p0 p1 (k := i + r + 1) (by omega) (by omega)
    have e2 := OD_snv wf h p0 p1 (k := i + r) (by omega) (by omega)
    rw [if_neg (by omega), show i + r + 1 - 1 = i + r by omega] at e1
    have d1 := OD_day wf h p0 p1 (k := i + r) (by omega) (by omega)
    have d2 := OD_day wf h p0 p1 (k := i + r + 1) (by omega) (by omega)
    have l1 := h.2.2.1 p p0 p1 (i + r) (i + r + 1) (by omega) (by omega) (by omega)
    by_cases c : i + r = st p
    · rw [if_pos c] at e2
      have := turn_in (l := w 0) d1.1 l1 d2.2
      omega
    · rw [if_neg c] at e2
      have l0 := h.2.2.1 p p0 p1 (i + r - 1) (i + r) (by omega) (by omega) (by omega)
      have := turn_mono (l := w 0) l0 l1
      omega
theorem OD_mono2 (wf : WF w) (h : OD w dr o st) (p0 : 0 ≤ p) (p1 : p < 8) {i k : Int} (i0 : st p ≤ i) (ik : i ≤ k) (k1 : k < st (p + 1)) : snv w dr (o i) ≤ snv w dr (o k) := by
  have := OD_mono wf h p0 p1 i0 (k - i).toNat (by omega)
  rw [show i + (((k - i).toNat : Nat) : Int) = k by omega] at this
  exact this
/-- the last one whose day has come is the nearest -/
theorem nr_char (wf : WF w) (h : OD w dr o st) (p0 : 0 ≤ p) (p1 : p < 8) {f day : Int} (d0 : 0 ≤ day) (d1 : day ≤ 365) (f0 : st p ≤ f) (f1 : f < st (p + 1)) (hf : snv w dr (o f) ≤ day) (hg : f + 1 = st (p + 1) ∨ day < snv w dr (o (f + 1))) : nr w dr p day = o f := by
  have n0 := (WF_n wf).1
  have dn : ∀ r : Nat, st p ≤ f - r → rk (w 0) day (w ((116 + (4 * (o f))) + 1)) ≤ rk (w 0) day (w ((116 + (4 * (o (f - r)))) + 1)) := by
    intro r
    induction r with
    | zero => intro _; rw [show f - ((0 : Nat) : Int) = f by omega]; exact Int.le_refl _
    | succ r ih =>
      intro hr
      have ih := ih (by omega)
      have e := OD_snv wf h p0 p1 (k := f - r) (by omega) (by omega)
      rw [if_neg (by omega)] at e
      have m := OD_mono2 wf h p0 p1 (i := f - r) (k := f) (by omega) (by omega) f1
      have := (turn_rk n0 (OD_day wf h p0 p1 (k := f - r - 1) (by omega) (by omega)).1 (h.2.2.1 p p0 p1 (f - r - 1) (f - r) (by omega) (by omega) (by omega)) (OD_day wf h p0 p1 (k := f - r) (by omega) (by omega)).2 d0 d1).1 (by omega)
      rw [show f - ((r + 1 : Nat) : Int) = f - r - 1 by omega]
      omega
  have up : ∀ r : Nat, f + r < st (p + 1) → rk (w 0) day (w ((116 + (4 * (o f))) + 1)) ≤ rk (w 0) day (w ((116 + (4 * (o (f + r)))) + 1)) := by
    intro r
    induction r with
    | zero => intro _; rw [show f + ((0 : Nat) : Int) = f by omega]; exact Int.le_refl _
    | succ r ih =>
      intro hr
      have ih := ih (by omega)
      have e := OD_snv wf h p0 p1 (k := f + r + 1) (by omega) (by omega)
      rw [if_neg (by omega), show f + r + 1 - 1 = f + r by omega] at e
      have m := OD_mono2 wf h p0 p1 (i := f + 1) (k := f + r + 1) (by omega) (by omega) (by omega)
      have := (turn_rk n0 (OD_day wf h p0 p1 (k := f + r) (by omega) (by omega)).1 (h.2.2.1 p p0 p1 (f + r) (f + r + 1) (by omega) (by omega) (by omega)) (OD_day wf h p0 p1 (k := f + r + 1) (by omega) (by omega)).2 d0 d1).2 (by omega)
      rw [show f + ((r + 1 : Nat) : Int) = f + r + 1 by omega]
      omega
  refine nr_eq wf d0 d1 (Or.inr ⟨h.2.1 p p0 p1 f f0 f1, fun t ht => ?_⟩)
  obtain ⟨j, j0, j1, e⟩ := h.2.2.2 p p0 p1 t ht
  show rk (w 0) day (w ((116 + (4 * (o f))) + 1)) ≤ rk (w 0) day (w ((116 + (4 * t)) + 1))
  rw [← e]
  rcases Int.le_total j f with c | c
  · have := dn (f - j).toNat (by omega)
    rw [show f - (((f - j).toNat : Nat) : Int) = j by omega] at this
    exact this
  · have := up (j - f).toNat (by omega)
    rw [show f + (((j - f).toNat : Nat) : Int) = j by omega] at this
    exact this
theorem nr_none (wf : WF w) (h : OD w dr o st) (p0 : 0 ≤ p) (p1 : p < 8) {day : Int} (d0 : 0 ≤ day) (d1 : day ≤ 365) (he : st (p + 1) ≤ st p) : nr w dr p day = -1 := by
  refine nr_eq wf d0 d1 (Or.inl ⟨rfl, fun t ht => ?_⟩)
  obtain ⟨j, j0, j1, e⟩ := h.2.2.2 p p0 p1 t ht
  omega
theorem nr_ex (wf : WF w) (h : OD w dr o st) (p0 : 0 ≤ p) (p1 : p < 8) {day : Int} (d0 : 0 ≤ day) (hs : st p < st (p + 1)) : ∃ f, st p ≤ f ∧ f < st (p + 1) ∧ snv w dr (o f) ≤ day ∧ (f + 1 = st (p + 1) ∨ day < snv w dr (o (f + 1))) := by
  have key : ∀ (r : Nat) (f : Int), st p ≤ f → f + 1 + r = st (p + 1) → snv w dr (o f) ≤ day → ∃ f, st p ≤ f ∧ f < st (p + 1) ∧ snv w dr (o f) ≤ day ∧ (f + 1 = st (p + 1) ∨ day < snv w dr (o (f + 1))) := by
    intro r
    induction r with
    | zero => intro f f0 f1 hf; exact ⟨f, f0, by omega, hf, Or.inl (by omega)⟩
    | succ r ih =>
      intro f f0 f1 hf
      rcases Int.lt_or_le day (snv w dr (o (f + 1))) with c | c
      · exact ⟨f, f0, by omega, hf, Or.inr c⟩
      · exact ih (f + 1) (by omega) (by omega) c
  have e := OD_snv wf h p0 p1 (k := st p) (by omega) hs
  rw [if_pos rfl] at e
  exact key (st (p + 1) - st p - 1).toNat (st p) (by omega) (by omega) (by omega)
/-- without a turn the nearest stays -/
theorem nr_turn (wf : WF w) (h : OD w dr o st) (p0 : 0 ≤ p) (p1 : p < 8) {day : Int} (d0 : 1 ≤ day) (d1 : day ≤ 365) (hn : ∀ s, sho w dr (w (116 + (4 * s))) s → snv w dr s ≠ day) : nr w dr p day = nr w dr p (day - 1) := by
  rcases Int.lt_or_le (st p) (st (p + 1)) with c | c
  · obtain ⟨f, f0, f1, f2, f3⟩ := nr_ex wf h p0 p1 (day := day - 1) (by omega) c
    rw [nr_char wf h p0 p1 (by omega) (by omega) f0 f1 f2 f3]
    refine nr_char wf h p0 p1 (by omega) (by omega) f0 f1 (by omega) ?_
    rcases f3 with f3 | f3
    · exact Or.inl f3
    · by_cases c2 : f + 1 = st (p + 1)
      · exact Or.inl c2
      · have hs := h.2.1 p p0 p1 (f + 1) (by omega) (by omega)
        have := hn (o (f + 1)) ⟨hs.1, hs.2.1, hs.2.2.1, rfl⟩
        exact Or.inr (by omega)
  · rw [nr_none wf h p0 p1 (by omega) (by omega) c, nr_none wf h p0 p1 (by omega) (by omega) c]
end OO
def TRN (w : Int → Int) (dr q : Int) (T : Int → Int) : Prop := ∀ day, 0 ≤ day → day ≤ 365 → (T day = 1 ∧ (day = 0 ∨ ∃ s, sho w dr (w (116 + (4 * s))) s ∧ (w (116 + (4 * s))) < q ∧ snv w dr s = day)) ∨ (T day = 0 ∧ day ≠ 0 ∧ ∀ s, sho w dr (w (116 + (4 * s))) s → (w (116 + (4 * s))) < q → snv w dr s ≠ day)
def IX (G : zG) (x a : Int) (w : Int → Int) (dr : Int) : Prop := G x 0 = a ∧ G x 1 = w 1 ∧ G x 2 = w 0 ∧ OD w dr (G (x + 1)) (G (x + 2)) ∧ (∀ s, sho w dr (w (116 + (4 * s))) s → IXB G x w dr s ∧ G (x + 6) s = snv w dr s ∧ IXR G x w dr s) ∧ TRN w dr 8 (G (x + 7))
theorem IX_fr {G G1 : zG} {x a dr : Int} {w : Int → Int} (h : IX G x a w dr) (e : ∀ k j, x ≤ k → k ≤ x + 12 → G1 k j = G k j) : IX G1 x a w dr := by
  obtain ⟨h1, h2, h3, h4, h5, h6⟩ := h
  have ef : ∀ k, x ≤ k → k ≤ x + 12 → G1 k = G k := fun k k0 k1 => funext fun j => e k j k0 k1
  refine ⟨by rw [ef x (by omega) (by omega)]; exact h1, by rw [ef x (by omega) (by omega)]; exact h2, by rw [ef x (by omega) (by omega)]; exact h3, by rw [ef _ (by omega) (by omega), ef _ (by omega) (by omega)]; exact h4, ?_, by rw [ef _ (by omega) (by omega)]; exact h6⟩
  unfold IXB IXR at *
  rw [ef (x + 3) (by omega) (by omega), ef (x + 4) (by omega) (by omega), ef (x + 5) (by omega) (by omega), ef (x + 6) (by omega) (by omega), ef (x + 8) (by omega) (by omega), ef (x + 9) (by omega) (by omega), ef (x + 10) (by omega) (by omega), ef (x + 11) (by omega) (by omega), ef (x + 12) (by omega) (by omega)]
  exact h5
section CL
variable {d : Nat} {G : zG} {Q : zQ} {a x dr : Int} {w : Int → Int}
set_option maxHeartbeats 8000000 in
theorem c19 (wf : WF w) (ha : 5 ≤ a ∧ a ≤ 54) (hx : 66 ≤ x ∧ x ≤ 79) (hA : ARC G a w) (hdr : rg dr) (hQ : ∀ G1, fr G G1 (fun k _ => x ≤ k ∧ k ≤ x + 12) → IX G1 x a w dr → Q none G1) : zW (d + 4) 19 [zr 1 0 x, zr 0 0 a, zi (w 0), zi (w 1), zi dr] G Q := by
  obtain ⟨n0, n1, n2, n3, n4, n5⟩ := WF_n wf
  have hsho : ∀ s, sho w dr (w (116 + (4 * s))) s → (w (116 + (4 * s))) < 8 := fun s hs => by have := (WF_s wf hs.1 hs.2.1).1; omega
  refine zm_19 (zs_19_0 ?_)
  have f1 : fr G (zu (zu (zu G x 0 a) x 2 (w 0)) x 1 (w 1)) (fun k _ => x ≤ k ∧ k ≤ x + 12) := fr_u (fr_u (fr_u (fr_refl _ _) (by omega)) (by omega)) (by omega)
  have g10 : zu (zu (zu G x 0 a) x 2 (w 0)) x 1 (w 1) x 0 = a := by rw [zu_j (by omega), zu_j (by omega), zu_s]
  have g12 : zu (zu (zu G x 0 a) x 2 (w 0)) x 1 (w 1) x 2 = w 0 := by rw [zu_j (by omega), zu_s]
  have g11 : zu (zu (zu G x 0 a) x 2 (w 0)) x 1 (w 1) x 1 = w 1 := zu_s
  generalize zu (zu (zu G x 0 a) x 2 (w 0)) x 1 (w 1) = G1 at *
  have A1 : ARC G1 a w := ARC_fr hA (fun k j k0 k1 => f1 k j (by omega))
  have s5 := A1.2.2.1
  have shp := A1.2.2.2.2
  refine c20 ha hx g10 (by omega) hdr (fun t t0 t1 => ?_) (fun t t0 t1 => ?_) (fun s t s0 s1 t0 t1 e1 e2 => ?_) (fun G2 m f2 m0 m1 hS hT => ?_)
  · rw [s5] at t1; rw [(shp t t0 t1).1]; have := (WF_s wf t0 t1).1; omega
  · rw [s5] at t1; rw [(shp t t0 t1).2.1]; have := (WF_s wf t0 t1).2.1; omega
  · rw [s5] at s1 t1
    rw [(shp s s0 s1).1, (shp t t0 t1).1] at e1
    rw [(shp s s0 s1).2.1, (shp t t0 t1).2.1] at e2
    exact WF_d wf s0 s1 t0 t1 e1 e2
  rw [s5] at hS m1
  have hO := OD_of wf A1 (by omega) hS hT
  have A2 : ARC G2 a w := ARC_fr A1 (fun k j k0 k1 => f2 k j (by omega))
  have f02 : fr G G2 (fun k _ => x ≤ k ∧ k ≤ x + 12) := fr_trans f1 f2 (by intro k j t; omega)
  have e20 : G2 x 0 = a := (f2 _ _ (by omega)).trans g10
  have e22 : G2 x 2 = w 0 := (f2 _ _ (by omega)).trans g12
  have e21 : G2 x 1 = w 1 := (f2 _ _ (by omega)).trans g11
  have f0 : ∀ G3, fr G2 G3 (fun k _ => x + 3 ≤ k ∧ k ≤ x + 12) → G3 x 0 = a ∧ G3 x 2 = w 0 ∧ G3 x 1 = w 1 ∧ ARC G3 a w ∧ OD w dr (G3 (x + 1)) (G3 (x + 2)) := fun G3 h => ⟨(h _ _ (by omega)).trans e20, (h _ _ (by omega)).trans e22, (h _ _ (by omega)).trans e21, ARC_fr A2 (fun k j k0 k1 => h k j (by omega)), by rw [fr_k h (by omega), fr_k h (by omega)]; exact hO⟩
  have k56 : ∀ (r : Nat) (q : Int) (G3 : zG), q + r = 8 → 0 ≤ q → fr G2 G3 (fun k _ => x + 3 ≤ k ∧ k ≤ x + 12) → (∀ s, sho w dr (w (116 + (4 * s))) s → (w (116 + (4 * s))) < q → IXB G3 x w dr s ∧ G3 (x + 6) s = snv w dr s ∧ IXR G3 x w dr s) → TRN w dr q (G3 (x + 7)) → ∀ l1 l2 l3 l4, zAt xT_19 (zW (d + 3)) Q 56 [zr 1 0 x, l1, l2, l3, l4, zi q] [] G3 := by
    intro r
    induction r with
    | zero =>
      intro q G3 hr q0 h3 hB hT3 l1 l2 l3 l4
      have e : q = 8 := by omega
      subst e
      obtain ⟨y1, y2, y3, y4, y5⟩ := f0 G3 h3
      apply zs_19_56 <;> intros
      case h2 => exact hQ G3 (fr_trans f02 h3 (by intro k j t; omega)) ⟨y1, y3, y2, y5, fun s hs => hB s hs (hsho s hs), hT3⟩
      all_goals first | omega | (unfold rg; omega)
    | succ r ih =>
      intro q G3 hr q0 h3 hB hT3 l1 l2 l3 l4
      obtain ⟨y1, y2, y3, y4, y5⟩ := f0 G3 h3
      apply zs_19_56 <;> intros
      case h3 =>
        refine c22 wf ha hx y1 y4 y5 q0 (by omega) (fun G4 h4 hB4 => zs_19_69 ?_)
        have h4' : fr G2 G4 (fun k _ => x + 3 ≤ k ∧ k ≤ x + 12) := fr_trans h3 h4 (by intro k j t; omega)
        obtain ⟨z1, z2, z3, z4, z5⟩ := f0 G4 h4'
        refine c23 wf ha hx z1 z2 z4 z5 q0 (by omega) (fun G5 h5 hN5 hT5 => zs_19_75 ?_)
        have h5' : fr G2 G5 (fun k _ => x + 3 ≤ k ∧ k ≤ x + 12) := fr_trans h4' h5 (by intro k j t; omega)
        obtain ⟨u1, u2, u3, u4, u5⟩ := f0 G5 h5'
        refine c25 wf ha hx u1 u4 u5 q0 (by omega) (fun s hs => ?_) (fun G6 h6 hR6 => zs_19_81 ?_)
        · rw [h5 _ _ (by omega)]; exact (hB4 s hs).2.2
        · have h6' : fr G2 G6 (fun k _ => x + 3 ≤ k ∧ k ≤ x + 12) := fr_trans h5' h6 (by intro k j t; omega)
          have t7 : G6 (x + 7) = G5 (x + 7) := fr_k h6 (by omega)
          have t7b : G4 (x + 7) = G3 (x + 7) := fr_k h4 (by omega)
          refine ih (q + 1) G6 (by omega) (by omega) h6' (fun s hs hq => ?_) (fun day d0 d1 => ?_) _ _ _ _
          · by_cases c : (w (116 + (4 * s))) = q
            · have hsq : sho w dr q s := ⟨hs.1, hs.2.1, hs.2.2.1, c⟩
              refine ⟨?_, ?_, hR6 s hsq⟩
              · obtain ⟨b1, b2, b3⟩ := hB4 s hsq
                unfold IXB
                rw [h6 _ _ (by omega), h6 _ _ (by omega), h6 _ _ (by omega), h5 _ _ (by omega), h5 _ _ (by omega), h5 _ _ (by omega)]
                exact ⟨b1, b2, b3⟩
              · rw [h6 _ _ (by omega)]; exact hN5 s hsq
            · have hn : ∀ k, k ≠ x + 7 → G6 k s = G3 k s := fun k hk => by
                have ns : ¬ sho w dr q s := fun z => c z.2.2.2
                rw [h6 k s (fun z => ns z.2), h5 k s (fun z => by rcases z with z | z; exact ns z.2; exact hk z), h4 k s (fun z => ns z.2)]
              have := hB s hs (by omega)
              unfold IXB IXR at *
              rw [hn _ (by omega), hn _ (by omega), hn _ (by omega), hn _ (by omega), hn _ (by omega), hn _ (by omega), hn _ (by omega), hn _ (by omega), hn _ (by omega)]
              exact this
          · rw [t7]
            rcases hT5 day with h | ⟨h, s, hs, e⟩
            · rw [t7b] at h
              rcases hT3 day d0 d1 with g | g
              · refine Or.inl ⟨h.1.trans g.1, g.2.imp id (fun z => ?_)⟩
                obtain ⟨s, z1, z2, z3⟩ := z
                exact ⟨s, z1, by omega, z3⟩
              · refine Or.inr ⟨h.1.trans g.1, g.2.1, fun s hs hq => ?_⟩
                by_cases c : (w (116 + (4 * s))) = q
                · exact h.2 s ⟨hs.1, hs.2.1, hs.2.2.1, c⟩
                · exact g.2.2 s hs (by omega)
            · have hp := hs.2.2.2
              exact Or.inl ⟨h, Or.inr ⟨s, ⟨hs.1, hs.2.1, hs.2.2.1, rfl⟩, by omega, e⟩⟩
      all_goals first | omega | (unfold rg; omega)
  have k24 : ∀ (r : Nat) (q : Int) (G3 : zG), q + r = 366 → 1 ≤ q → fr G2 G3 (fun k _ => x + 3 ≤ k ∧ k ≤ x + 12) → (∀ j, 1 ≤ j → j < q → G3 (x + 7) j = 0) → ∀ l1 l2 l3 l4, zAt xT_19 (zW (d + 3)) Q 24 [zr 1 0 x, l1, l2, l3, l4, zi q] [] G3 := by
    intro r
    induction r with
    | zero =>
      intro q G3 hr q0 h3 hz l1 l2 l3 l4
      apply zs_19_24 <;> intros
      case h2 =>
        refine k56 8 0 _ (by omega) (by omega) (fr_u h3 (by omega)) (fun s hs hq => ?_) (fun day d0 d1 => ?_) _ _ _ _
        · have := (WF_s wf hs.1 hs.2.1).1; omega
        · by_cases c : day = 0
          · exact Or.inl ⟨by rw [c, zu_s], Or.inl c⟩
          · refine Or.inr ⟨by rw [zu_j c]; exact hz day (by omega) (by omega), c, fun s hs hq => ?_⟩
            have := (WF_s wf hs.1 hs.2.1).1; omega
      all_goals first | omega | (unfold rg; omega)
    | succ r ih =>
      intro q G3 hr q0 h3 hz l1 l2 l3 l4
      apply zs_19_24 <;> intros
      case h4 =>
        refine ih (q + 1) _ (by omega) (by omega) (fr_u h3 (by omega)) (fun j j0 j1 => ?_) _ _ _ _
        by_cases c : j = q
        · rw [c, zu_s]
        · rw [zu_j c]; exact hz j j0 (by omega)
      all_goals first | omega | (unfold rg; omega)
  exact zs_19_21 (k24 365 1 G2 (by omega) (by omega) (fr_refl _ _) (fun j j0 j1 => by omega) _ _ _ _)
set_option maxHeartbeats 4000000 in
theorem c29 (wf : WF w) (hI : IX G x a w dr) {p day : Int} (p0 : 0 ≤ p) (p1 : p < 8) (d0 : 0 ≤ day) (d1 : day ≤ 365) (hQ : Q (some (zi (nr w dr p day))) G) : zW (d + 1) 29 [zr 1 0 x, zi p, zi day] G Q := by
  obtain ⟨n0, n1, n2, n3, n4, n5⟩ := WF_n wf
  obtain ⟨i1, i2, i3, hO, hB, hT⟩ := hI
  have hst := hO.1 p p0 p1
  have sn : ∀ k, G (x + 2) p ≤ k → k < G (x + 2) (p + 1) → 0 ≤ G (x + 1) k ∧ G (x + 1) k < 60 ∧ G (x + 6) (G (x + 1) k) = snv w dr (G (x + 1) k) ∧ 0 ≤ snv w dr (G (x + 1) k) ∧ snv w dr (G (x + 1) k) ≤ 365 := fun k k0 k1 => by
    have hs := hO.2.1 p p0 p1 k k0 k1
    have h0 := hs.1
    have h1 := hs.2.1
    refine ⟨h0, by omega, (hB _ ⟨h0, h1, hs.2.2.1, rfl⟩).2.1, ?_⟩
    have e := OD_snv wf hO p0 p1 k0 k1
    by_cases c : k = G (x + 2) p
    · rw [if_pos c] at e; omega
    · rw [if_neg c] at e
      rw [e]
      exact turn_in (OD_day wf hO p0 p1 (k := k - 1) (by omega) (by omega)).1 (hO.2.2.1 p p0 p1 (k - 1) k (by omega) (by omega) k1) (OD_day wf hO p0 p1 k0 k1).2
  refine zm_29 ?_
  have key : ∀ (r : Nat) (k f : Int), k + r = G (x + 2) (p + 1) → G (x + 2) p ≤ k → ((k = G (x + 2) p ∧ f = -1) ∨ (G (x + 2) p < k ∧ f = G (x + 1) (k - 1) ∧ snv w dr (G (x + 1) (k - 1)) ≤ day)) → zAt xT_29 (zW d) Q 10 [zr 1 0 x, zi p, zi day, zi f, zi k] [] G := by
    intro r
    induction r with
    | zero =>
      intro k f hr k0 hf
      apply zs_29_10 <;> intros
      case h2 =>
        rcases hf with ⟨e1, e2⟩ | ⟨e1, e2, e3⟩
        · rw [e2]; rw [nr_none wf hO p0 p1 d0 d1 (by omega)] at hQ; exact hQ
        · rw [nr_char wf hO p0 p1 d0 d1 (f := k - 1) (by omega) (by omega) e3 (Or.inl (by omega))] at hQ
          rw [e2]; exact hQ
      all_goals first | omega | (refine ⟨by omega, ?_, ?_⟩ <;> (unfold rg; omega))
    | succ r ih =>
      intro k f hr k0 hf
      have sk := sn k k0 (by omega)
      apply zs_29_10 <;> intros
      case h4 =>
        rename_i h
        rw [sk.2.2.1] at h
        rcases hf with ⟨e1, e2⟩ | ⟨e1, e2, e3⟩
        · have e := OD_snv wf hO p0 p1 k0 (by omega)
          rw [if_pos e1] at e
          omega
        · rw [nr_char wf hO p0 p1 d0 d1 (f := k - 1) (by omega) (by omega) e3 (Or.inr (by rw [show k - 1 + 1 = k by omega]; exact h))] at hQ
          rw [e2]; exact hQ
      case h5 =>
        rename_i h
        rw [sk.2.2.1] at h
        exact ih (k + 1) _ (by omega) (by omega) (Or.inr ⟨by omega, by rw [show k + 1 - 1 = k by omega], by rw [show k + 1 - 1 = k by omega]; exact h⟩)
      case h1 => refine ⟨by omega, ?_, ?_⟩ <;> (unfold rg; omega)
      case h2 => omega
      case h3 => rw [sk.2.2.1]; refine ⟨by omega, by omega, ?_, ?_⟩ <;> (unfold rg; omega)
  apply zs_29_0 <;> intros
  case h2 => exact key (G (x + 2) (p + 1) - G (x + 2) p).toNat _ (-1) (by omega) (by omega) (Or.inl ⟨rfl, rfl⟩)
  all_goals omega
end CL
