/-! THE CLASS: runs of an index; the index is built -/
section CL
variable {d : Nat} {G : zG} {Q : zQ} {a x dr : Int} {w : Int → Int}
theorem OD_cnt (wf : WF w) {o st : Int → Int} {p : Int} (h : OD w dr o st) (p0 : 0 ≤ p) (p1 : p < 8) {f : Int} (f0 : st p ≤ f) : ∀ (r : Nat), f + r < st (p + 1) → ci (RNG w dr p (w ((116 + (4 * (o f))) + 1)) (w ((116 + (4 * (o (f + r)))) + 1))) (w 4) = r + 1 := by
  have w4 := (WF_n wf).2.2.2.2.1
  intro r
  induction r with
  | zero =>
    intro hr
    have hs := h.2.1 p p0 p1 f f0 (by omega)
    rw [show f + ((0 : Nat) : Int) = f by omega]
    have := cn_add (P := RNG w dr p (w ((116 + (4 * (o f))) + 1)) (w ((116 + (4 * (o f))) + 1))) (R := fun _ => False) (a := o f) (w 4).toNat hs.1 (by have := hs.2.1; omega) (fun h => h) (fun t t0 t1 => ⟨fun h => Or.inr (sho_inj wf h.1 hs (by have := h.2; omega)), fun h => by
      rcases h with h | h
      · exact h.elim
      · rw [h]; exact ⟨hs, by omega, by omega⟩⟩)
    unfold ci
    rw [this, cn_0 _ (fun t t0 t1 h => h)]
    rfl
  | succ r ih =>
    intro hr
    have ih := ih (by omega)
    have e : f + ((r + 1 : Nat) : Int) = f + r + 1 := by omega
    rw [e]
    have hs := h.2.1 p p0 p1 (f + r + 1) (by omega) (by omega)
    have hlt := h.2.2.1 p p0 p1 (f + r) (f + r + 1) (by omega) (by omega) (by omega)
    have hfl := h.2.2.1 p p0 p1 f (f + r + 1) (by omega) (by omega) (by omega)
    have := cn_add (P := RNG w dr p (w ((116 + (4 * (o f))) + 1)) (w ((116 + (4 * (o (f + r + 1)))) + 1))) (R := RNG w dr p (w ((116 + (4 * (o f))) + 1)) (w ((116 + (4 * (o (f + r)))) + 1))) (a := o (f + r + 1)) (w 4).toNat hs.1 (by have := hs.2.1; omega) (fun z => by have := z.2.2; omega) (fun t t0 t1 => ⟨fun z => ?_, fun z => ?_⟩)
    · unfold ci at *
      rw [this, ih]
      omega
    · obtain ⟨j, j0, j1, e2⟩ := h.2.2.2 p p0 p1 t z.1
      by_cases c : j = f + r + 1
      · exact Or.inr (by rw [← e2, c])
      · refine Or.inl ⟨z.1, z.2.1, ?_⟩
        have hj : ¬ (w ((116 + (4 * (o (f + r + 1)))) + 1)) < (w ((116 + (4 * (o j))) + 1)) := by rw [e2]; have := z.2.2; omega
        rw [OD_lt h p0 p1 (by omega) (by omega) j0 j1] at hj
        rw [← e2]
        have : ¬ (w ((116 + (4 * (o (f + r)))) + 1)) < (w ((116 + (4 * (o j))) + 1)) := by rw [OD_lt h p0 p1 (by omega) (by omega) j0 j1]; omega
        omega
    · rcases z with z | z
      · exact ⟨z.1, z.2.1, by have := z.2.2; omega⟩
      · rw [z]; exact ⟨hs, by omega, by omega⟩
def RFR (x : Int) (o : Int → Int) (f l k j : Int) : Prop := (x + 8 ≤ k ∧ k ≤ x + 12) ∧ ∃ i, f ≤ i ∧ i ≤ l ∧ j = o i
def RVL (G : zG) (x : Int) (s a b c e n : Int) : Prop := G (x + 8) s = a ∧ G (x + 9) s = b ∧ G (x + 10) s = c ∧ G (x + 11) s = e ∧ G (x + 12) s = n
set_option maxHeartbeats 8000000 in
theorem c27 (wf : WF w) (ha : 5 ≤ a ∧ a ≤ 54) (hx : 66 ≤ x ∧ x ≤ 79) (hof : G x 0 = a) (hA : ARC G a w) (hO : OD w dr (G (x + 1)) (G (x + 2))) {p f l : Int} (p0 : 0 ≤ p) (p1 : p < 8) (f0 : G (x + 2) p ≤ f) (fl : f ≤ l) (l1 : l < G (x + 2) (p + 1))
    (hQ : ∀ G1, fr G G1 (RFR x (G (x + 1)) f l) → (∀ j, f ≤ j → j ≤ l → RVL G1 x (G (x + 1) j) (w ((116 + (4 * (G (x + 1) f))) + 1)) (w ((116 + (4 * (G (x + 1) l))) + 1)) (if f = G (x + 2) p then 0 else (w ((116 + (4 * (G (x + 1) (f - 1)))) + 1)) + 1) (if l + 1 = G (x + 2) (p + 1) then 365 else (w ((116 + (4 * (G (x + 1) (l + 1)))) + 1)) - 1) (l - f + 1)) → Q none G1) : zW (d + 1) 27 [zr 1 0 x, zi p, zi f, zi l] G Q := by
  obtain ⟨n0, n1, n2, n3, n4, n5⟩ := WF_n wf
  have hrg := WF_rg wf
  have fz : ∀ G1, fr G G1 (RFR x (G (x + 1)) f l) → G1 x 0 = a ∧ G1 (x + 1) = G (x + 1) ∧ G1 (x + 2) = G (x + 2) ∧ ARC G1 a w := fun G1 h => ⟨(h _ _ (fun e => by have := e.1; omega)).trans hof, fr_k h (fun j e => by have := e.1; omega), fr_k h (fun j e => by have := e.1; omega), ARC_fr hA (fun k j k0 k1 => h k j (fun e => by have := e.1; omega))⟩
  have hst := hO.1 p p0 p1
  have sh : ∀ k, G (x + 2) p ≤ k → k < G (x + 2) (p + 1) → 0 ≤ G (x + 1) k ∧ G (x + 1) k < 60 ∧ G (a + 8) (G (x + 1) k) = (w ((116 + (4 * (G (x + 1) k))) + 1)) := fun k k0 k1 => by
    have := hO.2.1 p p0 p1 k k0 k1
    have h1 := this.1
    have h2 := this.2.1
    exact ⟨h1, by omega, (hA.2.2.2.2 _ h1 h2).2.1⟩
  have key : ∀ mf mt, mf = (if f = G (x + 2) p then 0 else (w ((116 + (4 * (G (x + 1) (f - 1)))) + 1)) + 1) → mt = (if l + 1 = G (x + 2) (p + 1) then 365 else (w ((116 + (4 * (G (x + 1) (l + 1)))) + 1)) - 1) → ∀ (r : Nat) (k : Int) (G1 : zG), k + r = l + 1 → f ≤ k → fr G G1 (RFR x (G (x + 1)) f l) → (∀ j, f ≤ j → j < k → RVL G1 x (G (x + 1) j) (w ((116 + (4 * (G (x + 1) f))) + 1)) (w ((116 + (4 * (G (x + 1) l))) + 1)) mf mt (l - f + 1)) → ∀ l1 l7, zAt xT_27 (zW d) Q 77 [zr 1 0 x, l1, zi f, zi l, zi mf, zi mt, zi k, l7] [] G1 := by
    intro mf mt hmf hmt r
    induction r with
    | zero =>
      intro k G1 hr kf hf hB l1 l7
      apply zs_27_77 <;> intros
      case h2 => refine hQ G1 hf (fun j j0 j1 => ?_); rw [← hmf, ← hmt]; exact hB j j0 (by omega)
      all_goals first | omega | (unfold rg; omega)
    | succ r ih =>
      intro k G1 hr kf hf hB l1' l7
      obtain ⟨y1, y2, y3, y4⟩ := fz G1 hf
      have sk := sh k (by omega) (by omega)
      have sf := sh f (by omega) (by omega)
      have sl := sh l (by omega) (by omega)
      have g8 : ∀ j, G (x + 2) p ≤ j → j < G (x + 2) (p + 1) → G1 (a + 8) (G (x + 1) j) = (w ((116 + (4 * (G (x + 1) j))) + 1)) := fun j j0 j1 => by
        have := hO.2.1 p p0 p1 j j0 j1
        exact (y4.2.2.2.2 _ this.1 this.2.1).2.1
      have e0 : ∀ v u, zu G1 (x + 8) v u x 0 = a := fun v u => by rw [zu_kj (by omega)]; exact y1
      have e1 : ∀ v u, zu G1 (x + 8) v u (x + 1) l = G (x + 1) l := fun v u => by rw [zu_kj (by omega), y2]
      apply zs_27_77 <;> intros
      case h4 =>
        rw [e0, e1, zu_kj (by omega), y2, y1, g8 f (by omega) (by omega), g8 l (by omega) (by omega)]
        refine ih (k + 1) _ (by omega) (by omega) ?_ (fun j j0 j1 => ?_) _ _
        · repeat' (first | exact hf | refine fr_u ?_ ⟨by omega, k, kf, by omega, rfl⟩)
        · by_cases c : j = k
          · rw [c]
            refine ⟨?_, ?_, ?_, ?_, ?_⟩
            · rw [zu_kj (by omega), zu_kj (by omega), zu_kj (by omega), zu_kj (by omega), zu_s]
            · rw [zu_kj (by omega), zu_kj (by omega), zu_kj (by omega), zu_s]
            · rw [zu_kj (by omega), zu_kj (by omega), zu_s]
            · rw [zu_kj (by omega), zu_s]
            · rw [zu_s]
          · have hne : G (x + 1) j ≠ G (x + 1) k := fun e => by
              have := (OD_lt hO p0 p1 (j := j) (k := k) (by omega) (by omega) (by omega) (by omega)).mpr (by omega)
              rw [e] at this; omega
            obtain ⟨b1, b2, b3, b4, b5⟩ := hB j j0 (by omega)
            refine ⟨?_, ?_, ?_, ?_, ?_⟩ <;> rw [zu_j hne, zu_j hne, zu_j hne, zu_j hne, zu_j hne] <;> assumption
      case h3 => rw [e0, e1, y1, y2]; omega
      all_goals first | omega | (unfold rg; omega)
  have go := fun mf mt (h1 : mf = (if f = G (x + 2) p then 0 else (w ((116 + (4 * (G (x + 1) (f - 1)))) + 1)) + 1)) (h2 : mt = (if l + 1 = G (x + 2) (p + 1) then 365 else (w ((116 + (4 * (G (x + 1) (l + 1)))) + 1)) - 1)) => key mf mt h1 h2 (l + 1 - f).toNat f G (by omega) (by omega) (fr_refl _ _) (fun j j0 j1 => by omega) (zi p) z0
  refine zm_27 ?_
  have s1 := fun (h : G (x + 2) p < f) => sh (f - 1) (by omega) (by omega)
  have s2 := fun (h : l + 1 < G (x + 2) (p + 1)) => sh (l + 1) (by omega) (by omega)
  apply zs_27_0 <;> intros
  case h3 => exact go _ _ (by rw [if_pos (by omega)]) (by rw [if_pos (by omega)])
  case h5 => rename_i h1 h2; rw [hof, (s2 h2).2.2]; exact go _ _ (by rw [if_pos (by omega)]) (by rw [if_neg (by omega)])
  case h7 => rename_i h1 h2; rw [hof, (s1 h1).2.2]; exact go _ _ (by rw [if_neg (by omega)]) (by rw [if_pos (by omega)])
  case h9 => rename_i h1 h2; rw [hof, (s1 h1).2.2, (s2 h2).2.2]; exact go _ _ (by rw [if_neg (by omega)]) (by rw [if_neg (by omega)])
  case h1 => refine ⟨by omega, ?_, ?_⟩ <;> (unfold rg; omega)
  case h2 => refine ⟨by omega, ?_, ?_⟩ <;> (unfold rg; omega)
  case h4 => rename_i h1 h2; have := s2 h2; omega
  case h6 => rename_i h1; have := s1 h1; refine ⟨by omega, by omega, by omega, by omega, ?_, ?_⟩ <;> (unfold rg; omega)
  case h8 => rename_i h1 h2; have := s2 h2; omega
/-- the run of each of them -/
theorem run_of (wf : WF w) {o st mk : Int → Int} {p f l : Int} (hO : OD w dr o st) (p0 : 0 ≤ p) (p1 : p < 8) (f0 : st p ≤ f) (fl : f ≤ l) (l1 : l < st (p + 1)) (hmk : ∀ s, sho w dr p s → mk s = mkv w dr s) (hch : ∀ i, f ≤ i → i < l → mk (o i) ≠ -1 ∧ mk (o i) = mk (o (i + 1))) (hfi : f = st p ∨ ¬ (mk (o (f - 1)) ≠ -1 ∧ mk (o (f - 1)) = mk (o f))) (hla : l + 1 = st (p + 1) ∨ ¬ (mk (o l) ≠ -1 ∧ mk (o l) = mk (o (l + 1)))) {j : Int} (j0 : f ≤ j) (j1 : j ≤ l) : IsRun w dr (o j) (w ((116 + (4 * (o f))) + 1)) (w ((116 + (4 * (o l))) + 1)) (if f = st p then 0 else (w ((116 + (4 * (o (f - 1)))) + 1)) + 1) (if l + 1 = st (p + 1) then 365 else (w ((116 + (4 * (o (l + 1)))) + 1)) - 1) (l - f + 1) := by
  have hall : ∀ (r : Nat), f + r ≤ l → mk (o (f + r)) = mk (o f) ∧ (0 < r → mk (o f) ≠ -1) := by
    intro r
    induction r with
    | zero => intro _; rw [show f + ((0 : Nat) : Int) = f by omega]; exact ⟨rfl, fun h => absurd h (Nat.lt_irrefl 0)⟩
    | succ r ih =>
      intro hr
      have i1 := ih (by omega)
      have c := hch (f + r) (by omega) (by omega)
      rw [show f + ((r + 1 : Nat) : Int) = f + r + 1 by omega]
      exact ⟨by rw [← c.2]; exact i1.1, fun _ => by rw [← i1.1]; exact c.1⟩
  have hm : ∀ i, f ≤ i → i ≤ l → mk (o i) = mk (o f) := fun i i0 i1 => by
    have := (hall (i - f).toNat (by omega)).1
    rw [show f + (((i - f).toNat : Nat) : Int) = i by omega] at this
    exact this
  have hne : f < l → mk (o f) ≠ -1 := fun h => (hall 1 (by omega)).2 (by omega)
  have sj := hO.2.1 p p0 p1 j (by omega) (by omega)
  have hp : (w (116 + (4 * (o j)))) = p := sj.2.2.2
  have lk : ∀ i, st p ≤ i → i < st (p + 1) → (LIKE w dr (o j) (o i) ↔ (mk (o f) ≠ -1 ∧ mk (o f) = mk (o i))) := fun i i0 i1 => by
    have si := hO.2.1 p p0 p1 i i0 i1
    rw [mkv_like wf sj.1 sj.2.1 si.1 si.2.1, ← hmk _ sj, ← hmk _ si, hm j j0 j1]
  have ofl : ∀ i k, st p ≤ i → i ≤ k → k < st (p + 1) → (w ((116 + (4 * (o i))) + 1)) ≤ (w ((116 + (4 * (o k))) + 1)) := fun i k i0 ik k1 => by
    by_cases c : i = k
    · rw [c]; omega
    · have := hO.2.2.1 p p0 p1 i k i0 (by omega) k1; omega
  refine ⟨⟨ofl f j f0 j0 (by omega), ofl j l (by omega) j1 l1, fun t ht => ?_, ⟨o f, by rw [hp]; exact hO.2.1 p p0 p1 f f0 (by omega), rfl⟩, ⟨o l, by rw [hp]; exact hO.2.1 p p0 p1 l (by omega) l1, rfl⟩, ?_⟩, ?_, ?_⟩
  · rw [hp] at ht
    obtain ⟨i, i0, i1, e⟩ := hO.2.2.2 p p0 p1 t ht.1
    have h1 : ¬ (w ((116 + (4 * (o i))) + 1)) < (w ((116 + (4 * (o f))) + 1)) := by rw [e]; have := ht.2.1; omega
    have h2 : ¬ (w ((116 + (4 * (o l))) + 1)) < (w ((116 + (4 * (o i))) + 1)) := by rw [e]; have := ht.2.2; omega
    rw [OD_lt hO p0 p1 i0 i1 f0 (by omega)] at h1
    rw [OD_lt hO p0 p1 (by omega) l1 i0 i1] at h2
    by_cases c : i = j
    · exact Or.inl (by rw [← e, c])
    · refine Or.inr ?_
      rw [← e, lk i i0 i1]
      exact ⟨hne (by omega), (hm i (by omega) (by omega)).symm⟩
  · rw [hp]
    have := OD_cnt wf hO p0 p1 f0 (l - f).toNat (by omega)
    rw [show f + (((l - f).toNat : Nat) : Int) = l by omega] at this
    rw [this]; omega
  · unfold RUNa
    rw [hp, OD_ah0 wf hO p0 p1 f0 (by omega)]
    by_cases c : f = st p
    · rw [if_pos c, if_pos c]; exact Or.inl ⟨rfl, rfl⟩
    · have sf := hO.2.1 p p0 p1 (f - 1) (by omega) (by omega)
      have s0 := sf.1
      rw [if_neg c, if_neg c]
      refine Or.inr ⟨by omega, ?_, rfl⟩
      rw [lk (f - 1) (by omega) (by omega)]
      rcases hfi with h | h
      · exact absurd h c
      · intro e; exact h ⟨by rw [← e.2]; exact e.1, e.2.symm⟩
  · unfold RUNb
    rw [hp, OD_be wf hO p0 p1 (by omega) l1]
    by_cases c : l + 1 = st (p + 1)
    · rw [if_pos c, if_pos c]; exact Or.inl ⟨rfl, rfl⟩
    · have sf := hO.2.1 p p0 p1 (l + 1) (by omega) (by omega)
      have s0 := sf.1
      rw [if_neg c, if_neg c]
      refine Or.inr ⟨by omega, ?_, rfl⟩
      rw [lk (l + 1) (by omega) (by omega)]
      rcases hla with h | h
      · exact absurd h c
      · rw [hm l (by omega) (by omega)] at h; exact h
def IXR (G : zG) (x : Int) (w : Int → Int) (dr s : Int) : Prop := IsRun w dr s (G (x + 8) s) (G (x + 9) s) (G (x + 10) s) (G (x + 11) s) (G (x + 12) s)
set_option maxHeartbeats 8000000 in
theorem c25 (wf : WF w) (ha : 5 ≤ a ∧ a ≤ 54) (hx : 66 ≤ x ∧ x ≤ 79) (hof : G x 0 = a) (hA : ARC G a w) (hO : OD w dr (G (x + 1)) (G (x + 2))) {p : Int} (p0 : 0 ≤ p) (p1 : p < 8) (hmk : ∀ s, sho w dr p s → G (x + 5) s = mkv w dr s)
    (hQ : ∀ G1, fr G G1 (fun k j => (x + 8 ≤ k ∧ k ≤ x + 12) ∧ sho w dr p j) → (∀ s, sho w dr p s → IXR G1 x w dr s) → Q none G1) : zW (d + 3) 25 [zr 1 0 x, zi p] G Q := by
  obtain ⟨n0, n1, n2, n3, n4, n5⟩ := WF_n wf
  have fz : ∀ G1, fr G G1 (fun k j => (x + 8 ≤ k ∧ k ≤ x + 12) ∧ sho w dr p j) → G1 x 0 = a ∧ G1 (x + 1) = G (x + 1) ∧ G1 (x + 2) = G (x + 2) ∧ ARC G1 a w ∧ G1 (x + 5) = G (x + 5) := fun G1 h => ⟨(h _ _ (by omega)).trans hof, fr_k h (by omega), fr_k h (by omega), ARC_fr hA (fun k j k0 k1 => h k j (by omega)), fr_k h (by omega)⟩
  have hst := hO.1 p p0 p1
  have mr : ∀ s, sho w dr p s → -1 ≤ mkv w dr s ∧ mkv w dr s ≤ 32 := fun s hs => by
    have b := bo_rg wf (dr := dr) hs.1 hs.2.1
    have ws := WF_s wf hs.1 hs.2.1
    unfold mkv
    split
    · have := lq_is (w := w) (b := bo w dr s) (by omega); have h1 := this.1; have h2 := this.2.1; omega
    · repeat' split
      all_goals omega
  have key : ∀ (r : Nat) (k f : Int) (G1 : zG), k + r = G (x + 2) (p + 1) → G (x + 2) p ≤ f → f ≤ k → (f = k ∨ k < G (x + 2) (p + 1)) → fr G G1 (fun k j => (x + 8 ≤ k ∧ k ≤ x + 12) ∧ sho w dr p j) → (∀ j, G (x + 2) p ≤ j → j < f → IXR G1 x w dr (G (x + 1) j)) → (∀ i, f ≤ i → i < k → G (x + 5) (G (x + 1) i) ≠ -1 ∧ G (x + 5) (G (x + 1) i) = G (x + 5) (G (x + 1) (i + 1))) → (f = G (x + 2) p ∨ f = G (x + 2) (p + 1) ∨ ¬ (G (x + 5) (G (x + 1) (f - 1)) ≠ -1 ∧ G (x + 5) (G (x + 1) (f - 1)) = G (x + 5) (G (x + 1) f))) → zAt xT_25 (zW (d + 2)) Q 24 [zr 1 0 x, zi p, zi (G (x + 2) (p + 1)), zi f, zi k] [] G1 := by
    intro r
    induction r with
    | zero =>
      intro k f G1 hr f0 fk hfk hf hB hch hfi
      apply zs_25_24 <;> intros
      case h2 =>
        refine hQ G1 hf (fun s hs => ?_)
        obtain ⟨j, j0, j1, e⟩ := hO.2.2.2 p p0 p1 s hs
        rw [← e]; exact hB j j0 (by omega)
      all_goals first | omega | (unfold rg; omega)
    | succ r ih =>
      intro k f G1 hr f0 fk hfk hf hB hch hfi
      obtain ⟨y1, y2, y3, y4, y5⟩ := fz G1 hf
      have sk := hO.2.1 p p0 p1 k (by omega) (by omega)
      have sk0 := sk.1
      have sk1 := sk.2.1
      have mk0 := mr _ sk
      rw [← hmk _ sk] at mk0
      have call : (k + 1 = G (x + 2) (p + 1) ∨ ¬ (G (x + 5) (G (x + 1) k) ≠ -1 ∧ G (x + 5) (G (x + 1) k) = G (x + 5) (G (x + 1) (k + 1)))) → zW (d + 2) 27 [zr 1 0 x, zi p, zi f, zi k] G1 (fun r G1 => zq0 r (zAt xT_25 (zW (d + 2)) Q 72 [zr 1 0 x, zi p, zi (G (x + 2) (p + 1)), zi f, zi k] [] G1)) := by
        intro hla
        refine c27 wf ha hx y1 y4 (by rw [y2, y3]; exact hO) p0 p1 (by rw [y3]; exact f0) fk (by rw [y3]; omega) (fun G2 h2 hV => ?_)
        rw [y2, y3] at hV
        rw [y2] at h2
        have hf2 : fr G G2 (fun k j => (x + 8 ≤ k ∧ k ≤ x + 12) ∧ sho w dr p j) := fr_trans hf h2 (fun k' j t => ⟨t.1, by
          obtain ⟨i, i0, i1, e⟩ := t.2
          rw [e]; exact hO.2.1 p p0 p1 i (by omega) (by omega)⟩)
        have hrun := fun j j0 j1 => run_of wf hO p0 p1 f0 fk (by omega) hmk hch (by rcases hfi with h | h | h; exact Or.inl h; omega; exact Or.inr h) hla (j := j) j0 j1
        refine zs_25_72 (ih (k + 1) (k + 1) G2 (by omega) (by omega) (by omega) (Or.inl rfl) hf2 (fun j j0 j1 => ?_) (fun i i0 i1 => by omega) ?_)
        · by_cases c : f ≤ j
          · have := hrun j c (by omega)
            obtain ⟨v1, v2, v3, v4, v5⟩ := hV j c (by omega)
            unfold IXR
            rw [v1, v2, v3, v4, v5]; exact this
          · have := hB j j0 (by omega)
            have hn : ∀ q, G2 q (G (x + 1) j) = G1 q (G (x + 1) j) := fun q => h2 _ _ (fun t => by
              obtain ⟨i, i0, i1, e⟩ := t.2
              have := (OD_lt hO p0 p1 (j := j) (k := i) (by omega) (by omega) (by omega) (by omega)).mpr (by omega)
              rw [e] at this; omega)
            unfold IXR at *
            rw [hn, hn, hn, hn, hn]; exact this
        · rcases hla with h | h
          · exact Or.inr (Or.inl h)
          · rw [show k + 1 - 1 = k by omega]; exact Or.inr (Or.inr h)
      apply zs_25_24 <;> intros
      case h4 => exact call (Or.inl (by omega))
      case h6 => rename_i h; rw [y2, y5] at h; exact call (Or.inr (fun e => e.1 h))
      case h8 => rename_i h; rw [y2, y5] at h; exact call (Or.inr (fun e => h e.2))
      case h9 =>
        rename_i h1 h2 h3
        rw [y2, y5] at h2 h3
        refine ih (k + 1) f G1 (by omega) f0 (by omega) (Or.inr h1) hf hB (fun i i0 i1 => ?_) hfi
        by_cases c : i = k
        · rw [c]; exact ⟨h2, h3⟩
        · exact hch i i0 (by omega)
      case h5 => rw [y2, y5]; refine ⟨by omega, by omega, by omega, ?_⟩; unfold rg; omega
      case h7 =>
        rename_i h1 _
        have sk2 := hO.2.1 p p0 p1 (k + 1) (by omega) h1
        have q0 := sk2.1
        have q1 := sk2.2.1
        have mk1 := mr _ sk2
        rw [← hmk _ sk2] at mk1
        rw [y2, y5]; refine ⟨by omega, ?_⟩; unfold rg; omega
      all_goals first | omega | (unfold rg; omega)
  refine zm_25 ?_
  apply zs_25_0 <;> intros
  case h2 =>
    by_cases c : G (x + 2) p = G (x + 2) (p + 1)
    · exact key 0 _ _ G (by omega) (by omega) (by omega) (Or.inl rfl) (fr_refl _ _) (fun j j0 j1 => by omega) (fun i i0 i1 => by omega) (Or.inl rfl)
    · exact key (G (x + 2) (p + 1) - G (x + 2) p).toNat _ _ G (by omega) (by omega) (by omega) (Or.inl rfl) (fr_refl _ _) (fun j j0 j1 => by omega) (fun i i0 i1 => by omega) (Or.inl rfl)
  all_goals omega
end CL
