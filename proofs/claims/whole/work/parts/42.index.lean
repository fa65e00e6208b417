/-! THE CLASS: bodies, turns, runs of an index -/
section CL
variable {d : Nat} {G : zG} {Q : zQ} {a x dr : Int} {w : Int → Int}
def lt1 (w : Int → Int) (f : Int) : Int := if f ≠ -1 ∧ (w ((116 + (4 * f)) + 2)) = 0 then (w ((116 + (4 * f)) + 3)) else -1
theorem bo_of {s : Int} : bo w dr s = if (w ((116 + (4 * s)) + 2)) = 0 then (w ((116 + (4 * s)) + 3)) else if (w ((116 + (4 * s)) + 2)) = 1 then lt1 w (ah w dr (w (116 + (4 * s))) (w ((116 + (4 * s)) + 1)) 1) else -1 := rfl
/-- what an index says of a shot's body -/
def IXB (G : zG) (x : Int) (w : Int → Int) (dr s : Int) : Prop := G (x + 3) s = bo w dr s ∧ G (x + 4) s = sta w dr s ∧ G (x + 5) s = mkv w dr s
set_option maxHeartbeats 8000000 in
theorem c22 (wf : WF w) (ha : 5 ≤ a ∧ a ≤ 54) (hx : 66 ≤ x ∧ x ≤ 79) (hof : G x 0 = a) (hA : ARC G a w) (hO : OD w dr (G (x + 1)) (G (x + 2))) {p : Int} (p0 : 0 ≤ p) (p1 : p < 8)
    (hQ : ∀ G1, fr G G1 (fun k j => (k = x + 3 ∨ k = x + 4 ∨ k = x + 5) ∧ sho w dr p j) → (∀ s, sho w dr p s → IXB G1 x w dr s) → Q none G1) : zW (d + 2) 22 [zr 1 0 x, zi p] G Q := by
  obtain ⟨n0, n1, n2, n3, n4, n5⟩ := WF_n wf
  have hrg := WF_rg wf
  have f0 : ∀ G1, fr G G1 (fun k j => (k = x + 3 ∨ k = x + 4 ∨ k = x + 5) ∧ sho w dr p j) → G1 x 0 = a ∧ G1 (x + 1) = G (x + 1) ∧ G1 (x + 2) = G (x + 2) ∧ ARC G1 a w := fun G1 h => ⟨(h _ _ (by omega)).trans hof, fr_k h (by omega), fr_k h (by omega), ARC_fr hA (fun k j k0 k1 => h k j (by omega))⟩
  have hst := hO.1 p p0 p1
  have key : ∀ (r : Nat) (k la : Int) (G1 : zG), k + r = G (x + 2) (p + 1) → G (x + 2) p ≤ k → fr G G1 (fun k j => (k = x + 3 ∨ k = x + 4 ∨ k = x + 5) ∧ sho w dr p j) → (∀ j, G (x + 2) p ≤ j → j < k → IXB G1 x w dr (G (x + 1) j)) → (k < G (x + 2) (p + 1) → la = lt1 w (ah w dr p (w ((116 + (4 * (G (x + 1) k))) + 1)) 1)) → rg la → ∀ l4 l5, zAt xT_22 (zW (d + 1)) Q 9 [zr 1 0 x, zi p, zi la, zi k, l4, l5] [] G1 := by
    intro r
    induction r with
    | zero =>
      intro k la G1 hr k0 hf hB hl hlr l4 l5
      obtain ⟨y1, y2, y3, y4⟩ := f0 G1 hf
      apply zs_22_9 <;> intros
      case h1 => rw [y3]; refine ⟨by omega, ?_, ?_⟩ <;> (unfold rg; omega)
      case h2 =>
        refine hQ G1 hf (fun s hs => ?_)
        obtain ⟨j, j0, j1, e⟩ := hO.2.2.2 p p0 p1 s hs
        rw [← e]; exact hB j j0 (by omega)
      all_goals (rw [y3] at *; omega)
    | succ r ih =>
      intro k la G1 hr k0 hf hB hl hlr l4 l5
      obtain ⟨y1, y2, y3, y4⟩ := f0 G1 hf
      have hs := hO.2.1 p p0 p1 k k0 (by omega)
      have hl := hl (by omega)
      have hstep := fun (h : k + 1 < G (x + 2) (p + 1)) => OD_ah1_step wf hO p0 p1 k0 h
      generalize hsk : G (x + 1) k = s at *
      have s0 := hs.1
      have s1 := hs.2.1
      have hpg := hs.2.2.2
      have ws := WF_s wf s0 s1
      obtain ⟨a7, a8, a9, a10⟩ := y4.2.2.2.2 s s0 s1
      have hbo := bo_of (w := w) (dr := dr) (s := s)
      rw [hpg, ← hl] at hbo
      have bb := bo_rg wf (dr := dr) s0 s1
      have k67 : ∀ la2, la2 = bo w dr s → (k + 1 < G (x + 2) (p + 1) → la2 = lt1 w (ah w dr p (w ((116 + (4 * (G (x + 1) (k + 1)))) + 1)) 1)) → zAt xT_22 (zW (d + 1)) Q 67 [zr 1 0 x, zi p, zi la2, zi k, zi s, zi (w ((116 + (4 * s)) + 2))] [] G1 := by
        intro la2 h2 hn
        have fin : ∀ u v, u = sta w dr s → v = mkv w dr s → ∀ l4 l5, zAt xT_22 (zW (d + 1)) Q 9 [zr 1 0 x, zi p, zi la2, zi (k + 1), l4, l5] [] (zu (zu (zu G1 (x + 3) s la2) (x + 4) s u) (x + 5) s v) := by
          intro u v hu hv l4 l5
          refine ih (k + 1) la2 _ (by omega) (by omega) (fr_u (fr_u (fr_u hf ⟨by omega, hs⟩) ⟨by omega, hs⟩) ⟨by omega, hs⟩) (fun j j0 j1 => ?_) hn ⟨by omega, by omega⟩ _ _
          by_cases c : j = k
          · rw [c, hsk]
            refine ⟨?_, ?_, ?_⟩
            · rw [zu_kj (by omega), zu_kj (by omega), zu_s]; exact h2
            · rw [zu_kj (by omega), zu_s]; exact hu
            · rw [zu_s]; exact hv
          · have hne : G (x + 1) j ≠ s := fun e => by
              have := (OD_lt hO p0 p1 (j := j) (k := k) j0 (by omega) k0 (by omega)).mpr (by omega)
              rw [hsk, e] at this; omega
            have := hB j j0 (by omega)
            refine ⟨?_, ?_, ?_⟩
            · rw [zu_j hne, zu_j hne, zu_j hne]; exact this.1
            · rw [zu_j hne, zu_j hne, zu_j hne]; exact this.2.1
            · rw [zu_j hne, zu_j hne, zu_j hne]; exact this.2.2
        have ex : ∀ u, zu (zu G1 (x + 3) s la2) (x + 4) s u x 0 = a := fun u => by rw [zu_kj (by omega), zu_kj (by omega)]; exact y1
        apply zs_22_67 <;> intros
        case h3 => exact fin _ _ (by unfold sta; rw [← h2, if_neg (by omega), if_neg (by omega)]) (by unfold mkv; rw [← h2, if_neg (by omega), if_neg (by omega), if_neg (by omega)]) _ _
        case h5 =>
          rw [ex, zu_kj (by omega), zu_kj (by omega), a10 (by omega)]
          exact fin _ _ (by unfold sta; rw [← h2, if_neg (by omega), if_neg (by omega)]) (by unfold mkv; rw [← h2, if_neg (by omega), if_neg (by omega), if_pos (by omega)]) _ _
        case h6 => exact fin _ _ (by unfold sta; rw [← h2, if_neg (by omega), if_pos (by omega)]) (by unfold mkv; rw [← h2, if_neg (by omega), if_pos (by omega)]) _ _
        case h8 =>
          rw [ex, zu_kj (by omega), zu_kj (by omega), (y4.2.2.2.1 la2 (by omega) (by omega)).2.2.2.1]
          exact fin _ _ (by unfold sta; rw [← h2, if_pos (by omega)]) (by unfold mkv; rw [← h2, if_pos (by omega)]) _ _
        case h4 => rw [ex]; omega
        case h7 => rw [ex]; omega
        case h1 => exact ⟨by omega, by unfold rg; omega⟩
        case h2 => exact hrg _
      apply zs_22_9 <;> intros
      case h1 => rw [y3]; refine ⟨by omega, ?_, ?_⟩ <;> (unfold rg; omega)
      case h2 => rw [y3] at *; omega
      case h3 => rw [y1, y2, hsk, a9]; exact ⟨by omega, by omega, by omega, hrg _⟩
      case h4 =>
        rename_i h
        rw [y1, y2, hsk, a9] at h ⊢
        refine k67 la (by rw [hbo, if_neg (by omega), if_pos h]) (fun hlt => ?_)
        rw [hstep hlt, if_pos h]; exact hl
      case h5 =>
        rename_i h1 h2
        rw [y1, y2, hsk, a9] at h1 h2 ⊢
        refine k67 (-1) (by rw [hbo, if_neg h2, if_neg h1]) (fun hlt => ?_)
        rw [hstep hlt, if_neg h1]; unfold lt1; rw [if_neg (fun e => h2 e.2)]
      case h6 =>
        rename_i h1 h2
        rw [y1, y2, hsk, a9] at h1 h2 ⊢
        rw [a10 (Or.inl h2)]
        refine k67 (w ((116 + (4 * s)) + 3)) (by rw [hbo, if_pos h2]) (fun hlt => ?_)
        rw [hstep hlt, if_neg h1]; unfold lt1; rw [if_pos ⟨by omega, h2⟩]
  refine zm_22 ?_
  apply zs_22_0 <;> intros
  case h2 =>
    refine key (G (x + 2) (p + 1) - G (x + 2) p).toNat _ (-1) G (by omega) (by omega) (fr_refl _ _) (fun j j0 j1 => by omega) (fun h => ?_) ⟨by omega, by omega⟩ _ _
    rw [OD_ah1_first wf hO p0 p1 h]; unfold lt1; rw [if_neg (fun e => e.1 rfl)]
  all_goals omega
set_option maxHeartbeats 8000000 in
theorem c23 (wf : WF w) (ha : 5 ≤ a ∧ a ≤ 54) (hx : 66 ≤ x ∧ x ≤ 79) (hof : G x 0 = a) (hlaw : G x 2 = w 0) (hA : ARC G a w) (hO : OD w dr (G (x + 1)) (G (x + 2))) {p : Int} (p0 : 0 ≤ p) (p1 : p < 8)
    (hQ : ∀ G1, fr G G1 (fun k j => (k = x + 6 ∧ sho w dr p j) ∨ (k = x + 7)) → (∀ s, sho w dr p s → G1 (x + 6) s = snv w dr s) → (∀ j, (G1 (x + 7) j = G (x + 7) j ∧ ∀ s, sho w dr p s → snv w dr s ≠ j) ∨ (G1 (x + 7) j = 1 ∧ ∃ s, sho w dr p s ∧ snv w dr s = j)) → Q none G1) : zW (d + 2) 23 [zr 1 0 x, zi p] G Q := by
  obtain ⟨n0, n1, n2, n3, n4, n5⟩ := WF_n wf
  have hrg := WF_rg wf
  have f0 : ∀ G1, fr G G1 (fun k j => (k = x + 6 ∧ sho w dr p j) ∨ (k = x + 7)) → G1 x 0 = a ∧ G1 (x + 1) = G (x + 1) ∧ G1 (x + 2) = G (x + 2) ∧ ARC G1 a w ∧ G1 x 2 = w 0 := fun G1 h => ⟨(h _ _ (by omega)).trans hof, fr_k h (by omega), fr_k h (by omega), ARC_fr hA (fun k j k0 k1 => h k j (by omega)), (h _ _ (by omega)).trans hlaw⟩
  have hst := hO.1 p p0 p1
  have key : ∀ (r : Nat) (k : Int) (G1 : zG), k + r = G (x + 2) (p + 1) → G (x + 2) p ≤ k → fr G G1 (fun k j => (k = x + 6 ∧ sho w dr p j) ∨ (k = x + 7)) → (∀ j, G (x + 2) p ≤ j → j < k → G1 (x + 6) (G (x + 1) j) = snv w dr (G (x + 1) j)) → (∀ j, (G1 (x + 7) j = G (x + 7) j ∧ ∀ i, G (x + 2) p ≤ i → i < k → snv w dr (G (x + 1) i) ≠ j) ∨ (G1 (x + 7) j = 1 ∧ ∃ i, G (x + 2) p ≤ i ∧ i < k ∧ snv w dr (G (x + 1) i) = j)) → ∀ l3, zAt xT_23 (zW (d + 1)) Q 7 [zr 1 0 x, zi p, zi k, l3] [] G1 := by
    intro r
    induction r with
    | zero =>
      intro k G1 hr k0 hf hB hT l3
      obtain ⟨y1, y2, y3, y4, y5⟩ := f0 G1 hf
      apply zs_23_7 <;> intros
      case h1 => rw [y3]; refine ⟨by omega, ?_, ?_⟩ <;> (unfold rg; omega)
      case h2 =>
        refine hQ G1 hf (fun s hs => ?_) (fun j => ?_)
        · obtain ⟨j, j0, j1, e⟩ := hO.2.2.2 p p0 p1 s hs
          rw [← e]; exact hB j j0 (by omega)
        · rcases hT j with h | ⟨h1, i, i0, i1, h2⟩
          · refine Or.inl ⟨h.1, fun s hs => ?_⟩
            obtain ⟨i, i0, i1, e⟩ := hO.2.2.2 p p0 p1 s hs
            rw [← e]; exact h.2 i i0 (by omega)
          · exact Or.inr ⟨h1, _, hO.2.1 p p0 p1 i i0 (by omega), h2⟩
      all_goals (rw [y3] at *; omega)
    | succ r ih =>
      intro k G1 hr k0 hf hB hT l3
      obtain ⟨y1, y2, y3, y4, y5⟩ := f0 G1 hf
      have hs := hO.2.1 p p0 p1 k k0 (by omega)
      have hah := OD_ah0 wf hO p0 p1 k0 (by omega)
      have hsp := fun (h : k ≠ G (x + 2) p) => hO.2.1 p p0 p1 (k - 1) (by omega) (by omega)
      generalize hsk : G (x + 1) k = s at *
      have s0 := hs.1
      have s1 := hs.2.1
      have hpg := hs.2.2.2
      have ws := WF_s wf s0 s1
      have hsn : snv w dr s = if k = G (x + 2) p then 0 else turn (w 0) (w ((116 + (4 * (G (x + 1) (k - 1)))) + 1)) (w ((116 + (4 * s)) + 1)) := by
        unfold snv
        rw [hpg, hah]
        by_cases c : k = G (x + 2) p
        · rw [if_pos c, if_pos c, if_pos rfl]
        · rw [if_neg c, if_neg c, if_neg (by have := (hsp c).1; omega)]
      obtain ⟨a7, a8, a9, a10⟩ := y4.2.2.2.2 s s0 s1
      have hpr := fun (h : k ≠ G (x + 2) p) => (y4.2.2.2.2 _ (hsp h).1 (hsp h).2.1).2.1
      have hpd := fun (h : k ≠ G (x + 2) p) => (WF_s wf (hsp h).1 (hsp h).2.1).2.1
      have hpo := fun (h : k ≠ G (x + 2) p) => hO.2.2.1 p p0 p1 (k - 1) k (by omega) (by omega) (by omega)
      rw [hsk] at hpo
      have fin : ∀ v, v = snv w dr s → 0 ≤ v → v ≤ 365 → ∀ l3, zAt xT_23 (zW (d + 1)) Q 7 [zr 1 0 x, zi p, zi (k + 1), l3] [] (zu (zu G1 (x + 6) s v) (x + 7) ((zu G1 (x + 6) s v) (x + 6) s) 1) := by
        intro v hv v0 v1 l3
        rw [zu_s]
        refine ih (k + 1) _ (by omega) (by omega) (fr_u (fr_u hf (Or.inl ⟨rfl, hs⟩)) (Or.inr rfl)) (fun j j0 j1 => ?_) (fun j => ?_) _
        · by_cases c : j = k
          · rw [c, hsk, zu_kj (by omega), zu_s]; exact hv
          · have hne : G (x + 1) j ≠ s := fun e => by
              have := (OD_lt hO p0 p1 (j := j) (k := k) j0 (by omega) k0 (by omega)).mpr (by omega)
              rw [hsk, e] at this; omega
            rw [zu_kj (by omega), zu_j hne]; exact hB j j0 (by omega)
        · by_cases c : j = v
          · exact Or.inr ⟨by rw [c, zu_s], k, k0, by omega, by rw [hsk, c]; exact hv.symm⟩
          · rw [zu_j c, zu_kj (by omega)]
            rcases hT j with h | ⟨h1, i, i0, i1, h2⟩
            · refine Or.inl ⟨h.1, fun i i0 i1 => ?_⟩
              by_cases c2 : i = k
              · rw [c2, hsk, ← hv]; exact fun e => c e.symm
              · exact h.2 i i0 (by omega)
            · exact Or.inr ⟨h1, i, i0, by omega, h2⟩
      apply zs_23_7 <;> intros
      case h1 => rw [y3]; refine ⟨by omega, ?_, ?_⟩ <;> (unfold rg; omega)
      case h2 => rw [y3] at *; omega
      case h3 => rw [y3]; exact ⟨by omega, by omega, by unfold rg; omega⟩
      case h14 =>
        rename_i h
        rw [y3] at h
        rw [y2, hsk]
        exact fin 0 (by rw [hsn, if_pos h]) (by omega) (by omega) _
      case h13 => rw [y2, hsk, zu_s]; omega
      case h7 =>
        rename_i h h2
        rw [y3] at h
        rw [y5] at h2
        rw [y2, hsk, y1, a8, hpr h]
        have := hpd h
        have := hpo h
        exact fin _ (by rw [hsn, if_neg h]; unfold turn; rw [if_pos h2]) (by omega) (by omega) _
      case h10 =>
        rename_i h h2 h3
        rw [y3] at h
        rw [y5] at h2 h3
        rw [y2, hsk, y1, a8, hpr h]
        have := hpd h
        have := hpo h
        exact fin _ (by rw [hsn, if_neg h]; unfold turn; rw [if_neg h2, if_pos h3]) (by omega) (by omega) _
      case h12 =>
        rename_i h h2 h3
        rw [y3] at h
        rw [y5] at h2 h3
        rw [y2, hsk, y1, a8]
        exact fin _ (by rw [hsn, if_neg h]; unfold turn; rw [if_neg h2, if_neg h3]) (by omega) (by omega) _
      case h4 =>
        rename_i h
        rw [y3] at h
        have := hsp h
        have t1 := this.1
        have t2 := this.2.1
        rw [y2, hsk, y1, y5]
        exact ⟨by omega, by omega, by omega, by omega, hrg _⟩
      case h5 =>
        rename_i h _
        rw [y3] at h
        have := hpd h
        rw [y2, hsk, y1, a8, hpr h]
        omega
      case h8 =>
        rename_i h _ _
        rw [y3] at h
        have := hpd h
        rw [y2, hsk, y1, a8, hpr h]
        omega
      case h6 =>
        rename_i h _
        rw [y3] at h
        have := hpd h
        have := hpo h
        rw [y2, hsk, zu_s, y1, a8, hpr h]
        omega
      case h9 =>
        rename_i h _ _
        rw [y3] at h
        have := hpd h
        have := hpo h
        rw [y2, hsk, zu_s, y1, a8, hpr h]
        omega
      case h11 =>
        rename_i h _ _
        rw [y2, hsk, zu_s, y1, a8]
        omega
  refine zm_23 ?_
  apply zs_23_0 <;> intros
  case h2 => exact key (G (x + 2) (p + 1) - G (x + 2) p).toNat _ G (by omega) (by omega) (fr_refl _ _) (fun j j0 j1 => by omega) (fun j => Or.inl ⟨rfl, fun i i0 i1 => by omega⟩) _
  all_goals omega
end CL
