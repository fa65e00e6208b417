/-! THE REFERENCE: runs -/
def RNG (w : Int → Int) (dr p lo hi t : Int) : Prop := sho w dr p t ∧ lo ≤ (w ((116 + (4 * t)) + 1)) ∧ (w ((116 + (4 * t)) + 1)) ≤ hi
/-- what is so of the run as far as it is known -/
def RUN0 (w : Int → Int) (dr s lo hi n : Int) : Prop := lo ≤ (w ((116 + (4 * s)) + 1)) ∧ (w ((116 + (4 * s)) + 1)) ≤ hi ∧ (∀ t, RNG w dr (w (116 + (4 * s))) lo hi t → t = s ∨ LIKE w dr s t) ∧ (∃ t, sho w dr (w (116 + (4 * s))) t ∧ (w ((116 + (4 * t)) + 1)) = lo) ∧ (∃ t, sho w dr (w (116 + (4 * s))) t ∧ (w ((116 + (4 * t)) + 1)) = hi) ∧ n = ci (RNG w dr (w (116 + (4 * s))) lo hi) (w 4)
def RUNa (w : Int → Int) (dr s lo mf : Int) : Prop := (ah w dr (w (116 + (4 * s))) lo 0 = -1 ∧ mf = 0) ∨ (ah w dr (w (116 + (4 * s))) lo 0 ≠ -1 ∧ ¬ LIKE w dr s (ah w dr (w (116 + (4 * s))) lo 0) ∧ mf = (w ((116 + (4 * (ah w dr (w (116 + (4 * s))) lo 0))) + 1)) + 1)
def RUNb (w : Int → Int) (dr s hi mt : Int) : Prop := (be w dr (w (116 + (4 * s))) hi = -1 ∧ mt = 365) ∨ (be w dr (w (116 + (4 * s))) hi ≠ -1 ∧ ¬ LIKE w dr s (be w dr (w (116 + (4 * s))) hi) ∧ mt = (w ((116 + (4 * (be w dr (w (116 + (4 * s))) hi))) + 1)) - 1)
def IsRun (w : Int → Int) (dr s sf st mf mt n : Int) : Prop := RUN0 w dr s sf st n ∧ RUNa w dr s sf mf ∧ RUNb w dr s st mt
theorem RUN0_start {w : Int → Int} (wf : WF w) {dr s : Int} (hs : sho w dr (w (116 + (4 * s))) s) : RUN0 w dr s (w ((116 + (4 * s)) + 1)) (w ((116 + (4 * s)) + 1)) 1 := by
  refine ⟨by omega, by omega, fun t ht => Or.inl (sho_inj wf ht.1 hs (by have := ht.2; omega)), ⟨s, hs, rfl⟩, ⟨s, hs, rfl⟩, ?_⟩
  unfold ci
  have h4 := (WF_n wf).2.2.2.2.1
  have := cn_add (P := RNG w dr (w (116 + (4 * s))) (w ((116 + (4 * s)) + 1)) (w ((116 + (4 * s)) + 1))) (R := fun _ => False) (a := s) (w 4).toNat hs.1 (by have := hs.2.1; omega) (fun h => h) (fun t t0 t1 => ⟨fun h => Or.inr (sho_inj wf h.1 hs (by have := h.2; omega)), fun h => by
    rcases h with h | h
    · exact h.elim
    · rw [h]; exact ⟨hs, by omega, by omega⟩⟩)
  rw [this, cn_0 _ (fun t t0 t1 h => h)]
  rfl
theorem RUN0_a {w : Int → Int} (wf : WF w) {dr s lo hi n : Int} (hs : sho w dr (w (116 + (4 * s))) s) (h : RUN0 w dr s lo hi n) (ha : ah w dr (w (116 + (4 * s))) lo 0 ≠ -1) (hl : LIKE w dr s (ah w dr (w (116 + (4 * s))) lo 0)) : RUN0 w dr s (w ((116 + (4 * (ah w dr (w (116 + (4 * s))) lo 0))) + 1)) hi (n + 1) := by
  rcases ah_is (w := w) dr (w (116 + (4 * s))) lo 0 with e | ⟨e1, e2⟩
  · exact absurd e.1 ha
  generalize ah w dr (w (116 + (4 * s))) lo 0 = a at *
  obtain ⟨h1, h2, h3, h4, h5, h6⟩ := h
  have e0 := e1.2.1
  have hx : ∀ t, RNG w dr (w (116 + (4 * s))) (w ((116 + (4 * a)) + 1)) hi t ↔ (RNG w dr (w (116 + (4 * s))) lo hi t ∨ t = a) := by
    intro t
    constructor
    · intro ht
      by_cases c : lo ≤ (w ((116 + (4 * t)) + 1))
      · exact Or.inl ⟨ht.1, c, ht.2.2⟩
      · have : -(w ((116 + (4 * a)) + 1)) ≤ -(w ((116 + (4 * t)) + 1)) := e2 t ⟨ht.1, by omega, by omega⟩
        exact Or.inr (sho_inj wf ht.1 e1.1 (by have := ht.2.1; omega))
    · intro ht
      rcases ht with ht | ht
      · exact ⟨ht.1, by have := ht.2.1; omega, ht.2.2⟩
      · rw [ht]; exact ⟨e1.1, by omega, by omega⟩
  refine ⟨by omega, h2, fun t ht => ?_, ⟨a, e1.1, rfl⟩, h5, ?_⟩
  · rcases (hx t).mp ht with c | c
    · exact h3 t c
    · rw [c]; exact Or.inr hl
  · rw [h6]
    have w4 := (WF_n wf).2.2.2.2.1
    exact (cn_add (w 4).toNat e1.1.1 (by have := e1.1.2.1; omega) (fun z => by have := z.2.1; omega) (fun t _ _ => hx t)).symm
theorem RUN0_b {w : Int → Int} (wf : WF w) {dr s lo hi n : Int} (hs : sho w dr (w (116 + (4 * s))) s) (h : RUN0 w dr s lo hi n) (ha : be w dr (w (116 + (4 * s))) hi ≠ -1) (hl : LIKE w dr s (be w dr (w (116 + (4 * s))) hi)) : RUN0 w dr s lo (w ((116 + (4 * (be w dr (w (116 + (4 * s))) hi))) + 1)) (n + 1) := by
  rcases be_is (w := w) dr (w (116 + (4 * s))) hi with e | ⟨e1, e2⟩
  · exact absurd e.1 ha
  generalize be w dr (w (116 + (4 * s))) hi = a at *
  obtain ⟨h1, h2, h3, h4, h5, h6⟩ := h
  have e0 := e1.2
  have hx : ∀ t, RNG w dr (w (116 + (4 * s))) lo (w ((116 + (4 * a)) + 1)) t ↔ (RNG w dr (w (116 + (4 * s))) lo hi t ∨ t = a) := by
    intro t
    constructor
    · intro ht
      by_cases c : (w ((116 + (4 * t)) + 1)) ≤ hi
      · exact Or.inl ⟨ht.1, ht.2.1, c⟩
      · have : (w ((116 + (4 * a)) + 1)) ≤ (w ((116 + (4 * t)) + 1)) := e2 t ⟨ht.1, by omega⟩
        exact Or.inr (sho_inj wf ht.1 e1.1 (by have := ht.2.2; omega))
    · intro ht
      rcases ht with ht | ht
      · exact ⟨ht.1, ht.2.1, by have := ht.2.2; omega⟩
      · rw [ht]; exact ⟨e1.1, by omega, by omega⟩
  refine ⟨h1, by omega, fun t ht => ?_, h4, ⟨a, e1.1, rfl⟩, ?_⟩
  · rcases (hx t).mp ht with c | c
    · exact h3 t c
    · rw [c]; exact Or.inr hl
  · rw [h6]
    have w4 := (WF_n wf).2.2.2.2.1
    exact (cn_add (w 4).toNat e1.1.1 (by have := e1.1.2.1; omega) (fun z => by have := z.2.2; omega) (fun t _ _ => hx t)).symm
def S188 (k j : Int) : Prop := k = 297 ∧ 19 ≤ j ∧ j ≤ 23
section RE
variable {d : Nat} {G : zG} {Q : zQ}
set_option maxHeartbeats 4000000 in
theorem c188 (wf : WF (G 298)) (hdr : rg (G 297 7)) {s : Int} (hs : sho (G 298) (G 297 7) ((G 298) (116 + (4 * s))) s) (hQ : ∀ G1, fr G G1 S188 → IsRun (G 298) (G 297 7) s (G1 297 19) (G1 297 20) (G1 297 21) (G1 297 22) (G1 297 23) → Q none G1) : zW (d + 5) 188 [zr 9 0 297, zi s] G Q := by
  obtain ⟨n0, n1, n2, n3, n4, n5⟩ := WF_n wf
  have s0 := hs.1
  have s4 := hs.2.1
  have ws := WF_s wf s0 s4
  have f0 : ∀ G1, fr G G1 S188 → G1 298 = G 298 ∧ G1 297 7 = G 297 7 := fun G1 h => ⟨fr_k h (fun j e => by have := e.1; omega), h _ _ (fun e => by have := e.2; omega)⟩
  generalize hw : G 298 = w at *
  generalize hdd : G 297 7 = dr at *
  have hrg := WF_rg wf
  have k153 : ∀ G1 v3, fr G G1 S188 → RUN0 w dr s (G1 297 19) (G1 297 20) (G1 297 23) → ∀ v2, v2 = ah w dr (w (116 + (4 * s))) (G1 297 19) 0 → v3 = be w dr (w (116 + (4 * s))) (G1 297 20) → (v2 = -1 ∨ ¬ LIKE w dr s v2) → (v3 = -1 ∨ ¬ LIKE w dr s v3) → ∀ l1, zAt xT_188 (zW (d + 4)) Q 153 [zr 9 0 297, l1, zi v2, zi v3] [] G1 := by
    intro G1 v3 hf h0 v2 e2 e3 l2 l3 l1
    obtain ⟨g1, g2⟩ := f0 G1 hf
    have r2 : v2 = -1 ∨ (0 ≤ v2 ∧ v2 < w 4) := by
      rcases ah_rg (w := w) dr (w (116 + (4 * s))) (G1 297 19) 0 with e | e
      · exact Or.inl (by omega)
      · rw [← e2] at e; exact Or.inr ⟨e.1.1, e.1.2.1⟩
    have r3 : v3 = -1 ∨ (0 ≤ v3 ∧ v3 < w 4) := by
      rcases be_rg (w := w) dr (w (116 + (4 * s))) (G1 297 20) with e | e
      · exact Or.inl (by omega)
      · rw [← e3] at e; exact Or.inr ⟨e.1.1, e.1.2.1⟩
    have fin : ∀ x y, RUNa w dr s (G1 297 19) x → RUNb w dr s (G1 297 20) y → Q none (zu (zu G1 297 21 x) 297 22 y) := by
      intro x y hx hy
      refine hQ _ (fr_u (fr_u hf ⟨rfl, by omega, by omega⟩) ⟨rfl, by omega, by omega⟩) ⟨?_, ?_, ?_⟩
      · rw [zu_j (by omega), zu_j (by omega), zu_j (by omega), zu_j (by omega), zu_j (by omega), zu_j (by omega)]; exact h0
      · rw [zu_j (by omega), zu_j (by omega), zu_j (by omega), zu_s]; exact hx
      · rw [zu_j (by omega), zu_j (by omega), zu_s]; exact hy
    apply zs_188_153 <;> intros
    case h4 => exact fin _ _ (Or.inr ⟨by omega, by rw [← e2]; exact l2.resolve_left (by omega), by rw [← e2, g1]⟩) (Or.inr ⟨by omega, by rw [← e3]; exact l3.resolve_left (by omega), by rw [← e3, g1]⟩)
    case h5 => exact fin _ _ (Or.inr ⟨by omega, by rw [← e2]; exact l2.resolve_left (by omega), by rw [← e2, g1]⟩) (Or.inl ⟨by omega, rfl⟩)
    case h8 => exact fin _ _ (Or.inl ⟨by omega, rfl⟩) (Or.inr ⟨by omega, by rw [← e3]; exact l3.resolve_left (by omega), by rw [← e3, g1]⟩)
    case h9 => exact fin _ _ (Or.inl ⟨by omega, rfl⟩) (Or.inl ⟨by omega, rfl⟩)
    all_goals (repeat' first | exact hrg _ | assumption | (unfold rg; omega) | omega | refine And.intro ?_ ?_)
  have k103 : ∀ (m : Nat) G1 v3, fr G G1 S188 → 365 - G1 297 20 ≤ m → RUN0 w dr s (G1 297 19) (G1 297 20) (G1 297 23) → ∀ v2, v2 = ah w dr (w (116 + (4 * s))) (G1 297 19) 0 → v3 = be w dr (w (116 + (4 * s))) (G1 297 20) → (v2 = -1 ∨ ¬ LIKE w dr s v2) → zAt xT_188 (zW (d + 4)) Q 103 [zr 9 0 297, zi s, zi v2, zi v3] [] G1 := by
    intro m
    induction m with
    | zero =>
      intro G1 v3 hf hm h0 v2 e2 e3 l2
      have e : v3 = -1 := by
        rcases be_rg (w := w) dr (w (116 + (4 * s))) (G1 297 20) with e | e
        · omega
        · have := (WF_s wf e.1.1 e.1.2.1).2.1; have := e.2; omega
      apply zs_188_103 <;> intros
      case h2 => exact k153 _ _ hf h0 _ e2 e3 l2 (Or.inl e) _
      all_goals first | omega | (repeat' first | exact hrg _ | assumption | (unfold rg; omega) | omega | refine And.intro ?_ ?_)
    | succ m ih =>
      intro G1 v3 hf hm h0 v2 e2 e3 l2
      obtain ⟨g1, g2⟩ := f0 G1 hf
      rcases be_rg (w := w) dr (w (116 + (4 * s))) (G1 297 20) with e | e
      · apply zs_188_103 <;> intros
        case h2 => exact k153 _ _ hf h0 _ e2 e3 l2 (Or.inl (by omega)) _
        all_goals first | omega | (repeat' first | exact hrg _ | assumption | (unfold rg; omega) | omega | refine And.intro ?_ ?_)
      · rw [← e3] at e
        have v0 := e.1.1
        have v4 := e.1.2.1
        have wv := WF_s wf v0 v4
        apply zs_188_103 <;> intros
        case h3 =>
          refine c186 (by rw [g1]; exact wf) (by rw [g2]; exact hdr) s0 (by rw [g1]; exact s4) v0 (by rw [g1]; exact v4) (fun y => ?_) (fun n => ?_)
          · rw [g1, g2] at y
            have y2 := y
            rw [e3] at y2
            have := RUN0_b wf hs h0 (by omega) y2
            rw [← e3] at this
            apply zs_188_114 <;> intros
            case h4 =>
              rw [g1]
              refine c177 (by rw [zu_k (by omega), zu_k (by omega), g1]; exact wf) (by rw [zu_j (by omega), zu_j (by omega), g2]; exact hdr) (hrg _) (hrg _) (fun r hr r1 r2 => zs_188_149 ?_)
              rw [zu_k (by omega), zu_k (by omega), g1, zu_j (by omega), zu_j (by omega), g2] at hr
              refine ih _ _ (fr_u (fr_u hf ⟨rfl, by omega, by omega⟩) ⟨rfl, by omega, by omega⟩) ?_ ?_ _ ?_ ?_ l2
              · rw [zu_s]; have := e.2; omega
              · rw [zu_j (by omega), zu_j (by omega), zu_s, zu_j (by omega), zu_s]; exact this
              · rw [zu_j (by omega), zu_j (by omega)]; exact e2
              · rw [zu_s]; exact (be_eq wf hr).symm
            all_goals first | omega | (repeat' first | exact hrg _ | assumption | (unfold rg; omega) | omega | refine And.intro ?_ ?_)
          · rw [g1, g2] at n
            apply zs_188_114 <;> intros
            case h2 => exact k153 _ _ hf h0 _ e2 e3 l2 (Or.inr n) _
            all_goals first | omega | (repeat' first | exact hrg _ | assumption | (unfold rg; omega) | omega | refine And.intro ?_ ?_)
        all_goals first | omega | (repeat' first | exact hrg _ | assumption | (unfold rg; omega) | omega | refine And.intro ?_ ?_)
  have k38 : ∀ (m : Nat) G1 v2, fr G G1 S188 → G1 297 19 ≤ m → 0 ≤ G1 297 19 → RUN0 w dr s (G1 297 19) (G1 297 20) (G1 297 23) → (G1 297 20 = (w ((116 + (4 * s)) + 1))) → v2 = ah w dr (w (116 + (4 * s))) (G1 297 19) 0 → ∀ l3, zAt xT_188 (zW (d + 4)) Q 38 [zr 9 0 297, zi s, zi v2, l3] [] G1 := by
    intro m
    induction m with
    | zero =>
      intro G1 v2 hf hm hm0 h0 he e2 l3
      obtain ⟨g1, g2⟩ := f0 G1 hf
      have e : v2 = -1 := by
        rcases ah_rg (w := w) dr (w (116 + (4 * s))) (G1 297 19) 0 with e | e
        · omega
        · have := (WF_s wf e.1.1 e.1.2.1).2.1; have := e.2.1; omega
      apply zs_188_38 <;> intros
      case h3 =>
        rw [g1]
        refine c177 (by rw [g1]; exact wf) (by rw [g2]; exact hdr) (hrg _) (by rw [he]; exact hrg _) (fun r hr r1 r2 => zs_188_102 ?_)
        rw [g1, g2] at hr
        exact k103 365 _ _ hf (by omega) h0 _ e2 (be_eq wf hr).symm (Or.inl e)
      all_goals first | omega | (repeat' first | exact hrg _ | assumption | (unfold rg; omega) | omega | refine And.intro ?_ ?_)
    | succ m ih =>
      intro G1 v2 hf hm hm0 h0 he e2 l3
      obtain ⟨g1, g2⟩ := f0 G1 hf
      have nx : (v2 = -1 ∨ ¬ LIKE w dr s v2) → zW (d + 4) 177 [zr 9 0 297, zi (G1 298 (116 + 4 * s)), zi (G1 297 20)] G1 (fun r G1 => zqI r fun x => zAt xT_188 (zW (d + 4)) Q 102 [zr 9 0 297, zi s, zi v2, z0] [zi x] G1) := by
        intro l2
        rw [g1]
        refine c177 (by rw [g1]; exact wf) (by rw [g2]; exact hdr) (hrg _) (by rw [he]; exact hrg _) (fun r hr r1 r2 => zs_188_102 ?_)
        rw [g1, g2] at hr
        exact k103 365 _ _ hf (by omega) h0 _ e2 (be_eq wf hr).symm l2
      rcases ah_rg (w := w) dr (w (116 + (4 * s))) (G1 297 19) 0 with e | e
      · apply zs_188_38 <;> intros
        case h3 => exact nx (Or.inl (by omega))
        all_goals first | omega | (repeat' first | exact hrg _ | assumption | (unfold rg; omega) | omega | refine And.intro ?_ ?_)
      · rw [← e2] at e
        have v0 := e.1.1
        have v4 := e.1.2.1
        have wv := WF_s wf v0 v4
        apply zs_188_38 <;> intros
        case h4 =>
          refine c186 (by rw [g1]; exact wf) (by rw [g2]; exact hdr) s0 (by rw [g1]; exact s4) v0 (by rw [g1]; exact v4) (fun y => ?_) (fun n => ?_)
          · rw [g1, g2] at y
            have y2 := y
            rw [e2] at y2
            have := RUN0_a wf hs h0 (by omega) y2
            rw [← e2] at this
            apply zs_188_49 <;> intros
            case h5 =>
              rw [g1]
              refine c176 (by rw [zu_k (by omega), zu_k (by omega), g1]; exact wf) (by rw [zu_j (by omega), zu_j (by omega), g2]; exact hdr) (hrg _) (hrg _) (Or.inl rfl) (fun r hr r1 r2 => zs_188_85 ?_)
              rw [zu_k (by omega), zu_k (by omega), g1, zu_j (by omega), zu_j (by omega), g2] at hr
              refine ih _ _ (fr_u (fr_u hf ⟨rfl, by omega, by omega⟩) ⟨rfl, by omega, by omega⟩) ?_ ?_ ?_ ?_ ?_ _
              · rw [zu_s]; have := e.2.1; omega
              · rw [zu_s]; omega
              · rw [zu_s, zu_j (by omega), zu_j (by omega), zu_j (by omega), zu_s]; exact this
              · rw [zu_j (by omega), zu_j (by omega)]; exact he
              · rw [zu_s]; exact (ah_eq wf hr).symm
            all_goals first | omega | (repeat' first | exact hrg _ | assumption | (unfold rg; omega) | omega | refine And.intro ?_ ?_)
          · rw [g1, g2] at n
            apply zs_188_49 <;> intros
            case h3 => exact nx (Or.inr n)
            all_goals first | omega | (repeat' first | exact hrg _ | assumption | (unfold rg; omega) | omega | refine And.intro ?_ ?_)
        all_goals first | omega | (repeat' first | exact hrg _ | assumption | (unfold rg; omega) | omega | refine And.intro ?_ ?_)
  refine zm_188 ?_
  apply zs_188_0 <;> intros
  case h2 =>
    rw [hw]
    refine c176 (by rw [zu_k (by omega), zu_k (by omega), zu_k (by omega), hw]; exact wf) (by rw [zu_j (by omega), zu_j (by omega), zu_j (by omega), hdd]; exact hdr) (hrg _) (hrg _) (Or.inl rfl) (fun r hr r1 r2 => zs_188_37 ?_)
    rw [zu_k (by omega), zu_k (by omega), zu_k (by omega), hw, zu_j (by omega), zu_j (by omega), zu_j (by omega), hdd] at hr
    refine k38 365 _ _ (fr_u (fr_u (fr_u (fr_refl _ _) ⟨rfl, by omega, by omega⟩) ⟨rfl, by omega, by omega⟩) ⟨rfl, by omega, by omega⟩) ?_ ?_ ?_ ?_ ?_ _
    · rw [zu_j (by omega), zu_s]; omega
    · rw [zu_j (by omega), zu_s]; omega
    · rw [zu_j (by omega), zu_s, zu_s, zu_j (by omega), zu_j (by omega), zu_s]; exact RUN0_start wf hs
    · rw [zu_s]
    · rw [zu_j (by omega), zu_s]; exact (ah_eq wf hr).symm
  all_goals (repeat' first | exact hrg _ | assumption | (unfold rg; omega) | omega | refine And.intro ?_ ?_)
end RE
