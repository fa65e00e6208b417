/-! THE CALLS: runs, blank -/
section SPEC
variable (w : Int → Int) (p : Int)
def RP (s : Int) : Prop := sho w (-1) p s ∧ bo w (-1) s ≠ -1 ∧ (ah w (-1) p (w ((116 + (4 * s)) + 1)) 0 = -1 ∨ ¬ LIKE w (-1) s (ah w (-1) p (w ((116 + (4 * s)) + 1)) 0))
noncomputable def q_runs : Int := bP (0 ≤ p ∧ p < w 2) (cn (RP w p) (w 4).toNat) (-2)
noncomputable def dst (t : Int) : Int := mn (fun m => m) (fun m => ∃ s, sho w (-1) p s ∧ zabs ((w ((116 + (4 * s)) + 1)) - t) = m)
noncomputable def bl : Nat → Int × Int
  | 0 => (-1, 0)
  | n + 1 => if (bl n).2 < dst w p n then ((n : Int), dst w p n) else bl n
noncomputable def q_blank : Int := bP (0 ≤ p ∧ p < w 2) (bl w p 366).1 (-2)
end SPEC
section SL
variable {w : Int → Int} {p : Int}
theorem dst_2 {t r1 r2 : Int} (h1 : IsMn (fun t => -(w ((116 + (4 * t)) + 1))) (qah w (-1) p (t + 1) 0) r1) (h2 : IsMn (fun t => (w ((116 + (4 * t)) + 1))) (qbe w (-1) p (t - 1)) r2) (p1 : -1 ≤ r1) (p2 : -1 ≤ r2) : (r1 = -1 → r2 = -1 → dst w p t = -1) ∧ (r1 = -1 → r2 ≠ -1 → dst w p t = (w ((116 + (4 * r2)) + 1)) - t) ∧ (r1 ≠ -1 → r2 = -1 → dst w p t = t - (w ((116 + (4 * r1)) + 1))) ∧ (r1 ≠ -1 → r2 ≠ -1 → dst w p t = min (t - (w ((116 + (4 * r1)) + 1))) ((w ((116 + (4 * r2)) + 1)) - t)) ∧ (r1 ≠ -1 → (w ((116 + (4 * r1)) + 1)) ≤ t) ∧ (r2 ≠ -1 → t ≤ (w ((116 + (4 * r2)) + 1))) := by
  have n1 : r1 = -1 → ∀ s, sho w (-1) p s → t < (w ((116 + (4 * s)) + 1)) := fun e s hs => by
    rcases h1 with h | h
    · by_cases c : t < (w ((116 + (4 * s)) + 1))
      · exact c
      · exact absurd ⟨hs, by omega, by omega⟩ (h.2 s)
    · have := h.1.1.1; omega
  have n2 : r2 = -1 → ∀ s, sho w (-1) p s → (w ((116 + (4 * s)) + 1)) < t := fun e s hs => by
    rcases h2 with h | h
    · by_cases c : (w ((116 + (4 * s)) + 1)) < t
      · exact c
      · exact absurd ⟨hs, by omega⟩ (h.2 s)
    · have := h.1.1.1; omega
  have y1 : r1 ≠ -1 → sho w (-1) p r1 ∧ (w ((116 + (4 * r1)) + 1)) ≤ t ∧ ∀ s, sho w (-1) p s → (w ((116 + (4 * s)) + 1)) ≤ t → (w ((116 + (4 * s)) + 1)) ≤ (w ((116 + (4 * r1)) + 1)) := fun e => by
    rcases h1 with h | h
    · exact absurd h.1 e
    · refine ⟨h.1.1, by have := h.1.2.1; omega, fun s hs hd => ?_⟩
      have := h.2 s ⟨hs, by omega, by omega⟩
      have this : -(w ((116 + (4 * r1)) + 1)) ≤ -(w ((116 + (4 * s)) + 1)) := this
      omega
  have y2 : r2 ≠ -1 → sho w (-1) p r2 ∧ t ≤ (w ((116 + (4 * r2)) + 1)) ∧ ∀ s, sho w (-1) p s → t ≤ (w ((116 + (4 * s)) + 1)) → (w ((116 + (4 * r2)) + 1)) ≤ (w ((116 + (4 * s)) + 1)) := fun e => by
    rcases h2 with h | h
    · exact absurd h.1 e
    · refine ⟨h.1.1, by have := h.1.2; omega, fun s hs hd => ?_⟩
      exact h.2 s ⟨hs, by omega⟩
  have inj : ∀ a b : Int, (∃ s, sho w (-1) p s ∧ zabs ((w ((116 + (4 * s)) + 1)) - t) = a) → (∃ s, sho w (-1) p s ∧ zabs ((w ((116 + (4 * s)) + 1)) - t) = b) → a = b → a = b := fun _ _ _ _ h => h
  refine ⟨fun e1 e2 => ?_, fun e1 e2 => ?_, fun e1 e2 => ?_, fun e1 e2 => ?_, fun e => (y1 e).2.1, fun e => (y2 e).2.1⟩
  · refine mn_eq inj (Or.inl ⟨rfl, fun m ⟨s, hs, _⟩ => ?_⟩)
    have := n1 e1 s hs
    have := n2 e2 s hs
    omega
  · obtain ⟨a1, a2, a3⟩ := y2 e2
    refine mn_eq inj (Or.inr ⟨⟨r2, a1, by unfold zabs; omega⟩, fun m ⟨s, hs, e⟩ => ?_⟩)
    have := n1 e1 s hs
    have := a3 s hs (by omega)
    show (w ((116 + (4 * r2)) + 1)) - t ≤ m
    unfold zabs at e
    omega
  · obtain ⟨a1, a2, a3⟩ := y1 e1
    refine mn_eq inj (Or.inr ⟨⟨r1, a1, by unfold zabs; omega⟩, fun m ⟨s, hs, e⟩ => ?_⟩)
    have := n2 e2 s hs
    have := a3 s hs (by omega)
    show t - (w ((116 + (4 * r1)) + 1)) ≤ m
    unfold zabs at e
    omega
  · obtain ⟨a1, a2, a3⟩ := y1 e1
    obtain ⟨b1, b2, b3⟩ := y2 e2
    have ex : ∃ s, sho w (-1) p s ∧ zabs ((w ((116 + (4 * s)) + 1)) - t) = min (t - (w ((116 + (4 * r1)) + 1))) ((w ((116 + (4 * r2)) + 1)) - t) := by
      by_cases c : t - (w ((116 + (4 * r1)) + 1)) ≤ (w ((116 + (4 * r2)) + 1)) - t
      · exact ⟨r1, a1, by unfold zabs; omega⟩
      · exact ⟨r2, b1, by unfold zabs; omega⟩
    refine mn_eq inj (Or.inr ⟨ex, fun m ⟨s, hs, e⟩ => ?_⟩)
    show min (t - (w ((116 + (4 * r1)) + 1))) ((w ((116 + (4 * r2)) + 1)) - t) ≤ m
    unfold zabs at e
    by_cases c : (w ((116 + (4 * s)) + 1)) ≤ t
    · have := a3 s hs c
      omega
    · have := b3 s hs (by omega)
      omega
theorem dst_rg (wf : WF w) {t : Int} (t0 : 0 ≤ t) (t1 : t ≤ 365) : -1 ≤ dst w p t ∧ dst w p t ≤ 365 := by
  have h := dst_2 (w := w) (p := p) (t := t) (ah_is (-1) p (t + 1) 0) (be_is (-1) p (t - 1)) (by
    rcases ah_rg (w := w) (-1) p (t + 1) 0 with h | h
    · omega
    · have := h.1.1; omega) (by
    rcases be_rg (w := w) (-1) p (t - 1) with h | h
    · omega
    · have := h.1.1; omega)
  have b1 : ah w (-1) p (t + 1) 0 ≠ -1 → 0 ≤ (w ((116 + (4 * (ah w (-1) p (t + 1) 0))) + 1)) ∧ (w ((116 + (4 * (ah w (-1) p (t + 1) 0))) + 1)) ≤ 365 := fun e => by
    have hs := ((ah_rg (w := w) (-1) p (t + 1) 0).resolve_left e).1
    exact (WF_s wf hs.1 hs.2.1).2.1
  have b2 : be w (-1) p (t - 1) ≠ -1 → 0 ≤ (w ((116 + (4 * (be w (-1) p (t - 1)))) + 1)) ∧ (w ((116 + (4 * (be w (-1) p (t - 1)))) + 1)) ≤ 365 := fun e => by
    have hs := ((be_rg (w := w) (-1) p (t - 1)).resolve_left e).1
    exact (WF_s wf hs.1 hs.2.1).2.1
  obtain ⟨h1, h2, h3, h4, h5, h6⟩ := h
  by_cases c1 : ah w (-1) p (t + 1) 0 = -1
  · by_cases c2 : be w (-1) p (t - 1) = -1
    · rw [h1 c1 c2]; omega
    · rw [h2 c1 c2]; have := b2 c2; have := h6 c2; omega
  · by_cases c2 : be w (-1) p (t - 1) = -1
    · rw [h3 c1 c2]; have := b1 c1; have := h5 c1; omega
    · rw [h4 c1 c2]; have := b1 c1; have := b2 c2; have := h5 c1; have := h6 c2; omega
theorem bl_rg (wf : WF w) : ∀ n : Nat, n ≤ 366 → 0 ≤ (bl w p n).2 ∧ (bl w p n).2 ≤ 365 := by
  intro n
  induction n with
  | zero => intro _; exact ⟨by show (0 : Int) ≤ 0; omega, by show (0 : Int) ≤ 365; omega⟩
  | succ n ih =>
    intro hn
    have ih := ih (by omega)
    have hd := dst_rg (p := p) wf (t := n) (by omega) (by omega)
    unfold bl
    split
    · simp only; omega
    · exact ih
theorem bl_none (h : ∀ s, ¬ sho w (-1) p s) : ∀ n : Nat, bl w p n = (-1, 0) := by
  intro n
  induction n with
  | zero => rfl
  | succ n ih =>
    unfold bl
    rw [ih]
    have : dst w p n = -1 := mn_eq (fun _ _ _ _ h => h) (Or.inl ⟨rfl, fun m ⟨s, hs, _⟩ => h s hs⟩)
    rw [this, if_neg (by show ¬ (0 : Int) < -1; omega)]
end SL
section RE
variable {d : Nat} {G : zG} {Q : zQ} {w : Int → Int}
set_option maxHeartbeats 4000000 in
theorem r_runs (wf : WF w) (hw : G 298 = w) (hd : G 297 7 = -1) {p : Int} (hp : rg p) (hQ : ∀ G1, fr G G1 SR → Q (some (zi (q_runs w p))) G1) : zW (d + 8) 252 [zr 9 0 297, zi p] G Q := by
  subst hw
  obtain ⟨n0, n1, n2, n3, n4, n5⟩ := WF_n wf; have hrg := WF_rg wf
  unfold q_runs at hQ
  refine zm_252 ?_
  have hQ := hQ G (fr_refl _ _)
  by_cases hg : 0 ≤ p ∧ p < G 298 2
  · rw [bP_t hg] at hQ
    have hdr : rg (G 297 7) := by rw [hd]; exact ⟨by omega, by omega⟩
    have key : ∀ (m : Nat) (D v3 v4 : Int), 366 ≤ D + m → -1 ≤ D → D ≤ 365 → ((v3 = -1 ∧ ∀ s, sho (G 298) (-1) p s → D < ((G 298) ((116 + (4 * s)) + 1))) ∨ (sho (G 298) (-1) p v3 ∧ ((G 298) ((116 + (4 * v3)) + 1)) = D)) → IsMn (fun t => ((G 298) ((116 + (4 * t)) + 1))) (qbe (G 298) (-1) p D) v4 → -1 ≤ v4 → v4 < G 298 4 → zAt xT_252 (zW (d + 7)) Q 23 [zr 9 0 297, zi p, zi (cn (fun s => RP (G 298) p s ∧ ((G 298) ((116 + (4 * s)) + 1)) ≤ D) (G 298 4).toNat), zi v3, zi v4] [] G := by
      intro m
      induction m with
      | zero => intro D v3 v4 h1 h2 h3; omega
      | succ m ih =>
        intro D v3 v4 h1 h2 h3 hv3 hv4 p4 q4
        have fin : v4 = -1 → Q (some (zi (cn (fun s => RP (G 298) p s ∧ ((G 298) ((116 + (4 * s)) + 1)) ≤ D) (G 298 4).toNat))) G := fun e => by
          rw [cn_congr (P := fun s => RP (G 298) p s ∧ ((G 298) ((116 + (4 * s)) + 1)) ≤ D) (R := RP (G 298) p) (G 298 4).toNat (fun t _ _ => ⟨fun z => z.1, fun z => ⟨z, by
            rcases hv4 with h | h
            · by_cases c : ((G 298) ((116 + (4 * t)) + 1)) ≤ D
              · exact c
              · exact absurd ⟨z.1, by omega⟩ (h.2 t)
            · have := h.1.1.1; omega⟩⟩)]
          exact hQ
        by_cases c4 : v4 = -1
        · apply zs_252_23 <;> intros
          case h2 => exact fin c4
          all_goals first | omega | (repeat' first | exact hrg _ | assumption | (unfold rg; omega) | omega | refine And.intro ?_ ?_)
        · have h4 := hv4.resolve_left (fun z => c4 z.1)
          have s4 := h4.1.1
          have d4 := h4.1.2
          have w4 := (WF_s wf s4.1 s4.2.1).2.1
          have least : ∀ s, sho (G 298) (-1) p s → D < ((G 298) ((116 + (4 * s)) + 1)) → ((G 298) ((116 + (4 * v4)) + 1)) ≤ ((G 298) ((116 + (4 * s)) + 1)) := fun s hs h => h4.2 s ⟨hs, h⟩
          have hb := bo_rg (dr := -1) wf s4.1 s4.2.1
          have pv : ah (G 298) (-1) p ((G 298) ((116 + (4 * v4)) + 1)) 0 = v3 := by
            refine ah_eq wf ?_
            rcases hv3 with h | h
            · refine Or.inl ⟨h.1, fun t ht => ?_⟩
              have := least t ht.1 (h.2 t ht.1)
              have := ht.2.1
              omega
            · refine Or.inr ⟨⟨h.1, by omega, by omega⟩, fun t ht => ?_⟩
              show -((G 298) ((116 + (4 * v3)) + 1)) ≤ -((G 298) ((116 + (4 * t)) + 1))
              by_cases c : D < ((G 298) ((116 + (4 * t)) + 1))
              · have := least t ht.1 c
                have := ht.2.1
                omega
              · omega
          have nx : ∀ r, IsMn (fun t => ((G 298) ((116 + (4 * t)) + 1))) (qbe (G 298) (-1) p ((G 298) ((116 + (4 * v4)) + 1))) r → -1 ≤ r → r < G 298 4 → zAt xT_252 (zW (d + 7)) Q 23 [zr 9 0 297, zi p, zi (cn (fun s => RP (G 298) p s ∧ ((G 298) ((116 + (4 * s)) + 1)) ≤ ((G 298) ((116 + (4 * v4)) + 1))) (G 298 4).toNat), zi v4, zi r] [] G := fun r hr r0 r1 => ih ((G 298) ((116 + (4 * v4)) + 1)) v4 r (by omega) (by omega) (by omega) (Or.inr ⟨s4, rfl⟩) hr r0 r1
          have iff' : ∀ t, RP (G 298) p t ∧ ((G 298) ((116 + (4 * t)) + 1)) ≤ ((G 298) ((116 + (4 * v4)) + 1)) ↔ ((RP (G 298) p t ∧ ((G 298) ((116 + (4 * t)) + 1)) ≤ D) ∨ (t = v4 ∧ RP (G 298) p v4)) := fun t => by
            constructor
            · rintro ⟨ht, hd⟩
              by_cases c : ((G 298) ((116 + (4 * t)) + 1)) ≤ D
              · exact Or.inl ⟨ht, c⟩
              · have := least t ht.1 (by omega)
                have e := sho_inj wf ht.1 s4 (by omega)
                exact Or.inr ⟨e, e ▸ ht⟩
            · rintro (⟨ht, hd⟩ | ⟨e, h⟩)
              · exact ⟨ht, by omega⟩
              · rw [e]; exact ⟨h, by omega⟩
          have no : ¬ RP (G 298) p v4 → cn (fun s => RP (G 298) p s ∧ ((G 298) ((116 + (4 * s)) + 1)) ≤ ((G 298) ((116 + (4 * v4)) + 1))) (G 298 4).toNat = cn (fun s => RP (G 298) p s ∧ ((G 298) ((116 + (4 * s)) + 1)) ≤ D) (G 298 4).toNat := fun h => cn_congr _ (fun t _ _ => (iff' t).trans ⟨fun z => z.resolve_right (fun e => h e.2), Or.inl⟩)
          have yes : RP (G 298) p v4 → cn (fun s => RP (G 298) p s ∧ ((G 298) ((116 + (4 * s)) + 1)) ≤ ((G 298) ((116 + (4 * v4)) + 1))) (G 298 4).toNat = cn (fun s => RP (G 298) p s ∧ ((G 298) ((116 + (4 * s)) + 1)) ≤ D) (G 298 4).toNat + 1 := fun h => cn_add (a := v4) _ s4.1 (by have := s4.2.1; omega) (fun z => by have := z.2; omega) (fun t _ _ => (iff' t).trans ⟨fun z => z.imp id (fun e => e.1), fun z => z.imp id (fun e => ⟨e, h⟩)⟩)
          have go : ∀ c, cn (fun s => RP (G 298) p s ∧ ((G 298) ((116 + (4 * s)) + 1)) ≤ ((G 298) ((116 + (4 * v4)) + 1))) (G 298 4).toNat = c → zW (d + 7) 177 [zr 9 0 297, zi p, zi ((G 298) ((116 + (4 * v4)) + 1))] G (fun r G1 => zqI r fun x => zAt xT_252 (zW (d + 7)) Q 71 [zr 9 0 297, zi p, zi c, zi v4, zi v4] [zi x] G1) := fun c hc => by
            refine c177 (d := d + 5) wf hdr ⟨by omega, by omega⟩ ⟨by omega, by omega⟩ (fun r hr r0 r1 => zs_252_71 ?_)
            rw [hd] at hr
            have := nx r hr r0 r1
            rw [hc] at this
            exact this
          have hv3r : -1 ≤ v3 ∧ v3 < 60 := by
            rcases hv3 with h | h
            · omega
            · have := h.1.1; have := h.1.2.1; omega
          apply zs_252_23 <;> intros
          case h3 =>
            refine c178 wf hdr s4.1 s4.2.1 ?_
            rw [hd]
            by_cases cb : bo (G 298) (-1) v4 = -1
            · apply zs_252_35 <;> intros
              case h3 => exact go _ (no (fun z => z.2.1 cb))
              all_goals first | omega | (repeat' first | exact hrg _ | assumption | (unfold rg; omega) | omega | refine And.intro ?_ ?_)
            · by_cases c3 : v3 = -1
              · apply zs_252_35 <;> intros
                case h6 => exact go _ (yes ⟨s4, cb, Or.inl (pv.trans c3)⟩)
                all_goals first | omega | (repeat' first | exact hrg _ | assumption | (unfold rg; omega) | omega | refine And.intro ?_ ?_)
              · have s3 := hv3.resolve_left (fun z => c3 z.1)
                apply zs_252_35 <;> intros
                case h7 =>
                  refine c186 wf hdr s4.1 s4.2.1 s3.1.1 s3.1.2.1 (fun hl => ?_) (fun hl => ?_)
                  · rw [hd] at hl
                    apply zs_252_51 <;> intros
                    case h3 => exact go _ (no (fun z => z.2.2.elim (fun e => c3 (pv.symm.trans e)) (fun e => e (by rw [pv]; exact hl))))
                    all_goals first | omega | (repeat' first | exact hrg _ | assumption | (unfold rg; omega) | omega | refine And.intro ?_ ?_)
                  · rw [hd] at hl
                    apply zs_252_51 <;> intros
                    case h5 => exact go _ (yes ⟨s4, cb, Or.inr (by rw [pv]; exact hl)⟩)
                    all_goals first | omega | (repeat' first | exact hrg _ | assumption | (unfold rg; omega) | omega | refine And.intro ?_ ?_)
                all_goals first | omega | (repeat' first | exact hrg _ | assumption | (unfold rg; omega) | omega | refine And.intro ?_ ?_)
          all_goals first | omega | (repeat' first | exact hrg _ | assumption | (unfold rg; omega) | omega | refine And.intro ?_ ?_)
    apply zs_252_0 <;> intros
    case h2 =>
      refine c177 wf hdr hp ⟨by omega, by omega⟩ (fun r hr r0 r1 => zs_252_21 ?_)
      rw [hd] at hr
      have := key 367 (-1) (-1) r (by omega) (by omega) (by omega) (Or.inl ⟨rfl, fun s hs => by have := (WF_s wf hs.1 hs.2.1).2.1; omega⟩) hr r0 r1
      rw [cn_0 (P := fun s => RP (G 298) p s ∧ ((G 298) ((116 + (4 * s)) + 1)) ≤ -1) (G 298 4).toNat (fun t t0 t1 z => by have := (WF_s wf z.1.1.1 z.1.1.2.1).2.1; have := z.2; omega)] at this
      exact this
    all_goals first | omega | (repeat' first | exact hrg _ | assumption | (unfold rg; omega) | omega | refine And.intro ?_ ?_)
  · rw [bP_f hg] at hQ
    apply zs_252_0 <;> intros
    all_goals first | omega | exact hQ | (repeat' first | exact hrg _ | assumption | (unfold rg; omega) | omega | refine And.intro ?_ ?_)
set_option maxHeartbeats 4000000 in
theorem r_blank (wf : WF w) (hw : G 298 = w) (hd : G 297 7 = -1) {p : Int} (hp : rg p) (hQ : ∀ G1, fr G G1 SR → Q (some (zi (q_blank w p))) G1) : zW (d + 8) 264 [zr 9 0 297, zi p] G Q := by
  subst hw
  obtain ⟨n0, n1, n2, n3, n4, n5⟩ := WF_n wf; have hrg := WF_rg wf
  unfold q_blank at hQ
  refine zm_264 ?_
  have hQ := hQ G (fr_refl _ _)
  by_cases hg : 0 ≤ p ∧ p < G 298 2
  · rw [bP_t hg] at hQ
    have hdr : rg (G 297 7) := by rw [hd]; exact ⟨by omega, by omega⟩
    have key : ∀ (r t : Nat), t + r = 366 → ∀ l5 l6 l7 l8 l9, zAt xT_264 (zW (d + 7)) Q 18 [zr 9 0 297, zi p, zi (bl (G 298) p t).1, zi (bl (G 298) p t).2, zi t, l5, l6, l7, l8, l9] [] G := by
      intro r
      induction r with
      | zero =>
        intro t t1 l5 l6 l7 l8 l9
        have e : t = 366 := by omega
        apply zs_264_18 <;> intros
        case h2 => rw [e]; exact hQ
        all_goals first | omega | (repeat' first | exact hrg _ | assumption | (unfold rg; omega) | omega | refine And.intro ?_ ?_)
      | succ r ih =>
        intro t t1 l5 l6 l7 l8 l9
        have hb := bl_rg (p := p) wf t (by omega)
        have e : bl (G 298) p (t + 1) = if (bl (G 298) p t).2 < dst (G 298) p t then ((t : Int), dst (G 298) p t) else bl (G 298) p t := rfl
        have ih := ih (t + 1) (by omega)
        rw [e] at ih
        have take : ∀ m, m = dst (G 298) p t → (bl (G 298) p t).2 < m → ∀ l5 l6 l7 l8 l9, zAt xT_264 (zW (d + 7)) Q 18 [zr 9 0 297, zi p, zi t, zi m, zi ((t : Int) + 1), l5, l6, l7, l8, l9] [] G := fun m hm h => by
          rw [if_pos (by omega), ← hm] at ih; exact ih
        have skip : ∀ m, m = dst (G 298) p t → m ≤ (bl (G 298) p t).2 → ∀ l5 l6 l7 l8 l9, zAt xT_264 (zW (d + 7)) Q 18 [zr 9 0 297, zi p, zi (bl (G 298) p t).1, zi (bl (G 298) p t).2, zi ((t : Int) + 1), l5, l6, l7, l8, l9] [] G := fun m hm h => by
          rw [if_neg (by omega)] at ih; exact ih
        apply zs_264_18 <;> intros
        case h3 =>
          refine c176 wf hdr hp ⟨by omega, by omega⟩ (Or.inl rfl) (fun r1 hr1 r10 r11 => zs_264_36 (c177 wf hdr hp ⟨by omega, by omega⟩ (fun r2 hr2 r20 r21 => ?_)))
          rw [hd] at hr1 hr2
          obtain ⟨z1, z2, z3, z4, z5, z6⟩ := dst_2 hr1 hr2 r10 r20
          have b1 : r1 ≠ -1 → 0 ≤ ((G 298) ((116 + (4 * r1)) + 1)) ∧ ((G 298) ((116 + (4 * r1)) + 1)) ≤ 365 := fun e => (WF_s wf (by omega) r11).2.1
          have b2 : r2 ≠ -1 → 0 ≤ ((G 298) ((116 + (4 * r2)) + 1)) ∧ ((G 298) ((116 + (4 * r2)) + 1)) ≤ 365 := fun e => (WF_s wf (by omega) r21).2.1
          apply zs_264_47 <;> intros
          case h6 => exact take _ (z4 (by assumption) (by assumption)).symm (by assumption) _ _ _ _ _
          case h7 => exact skip _ (z4 (by assumption) (by assumption)).symm (by assumption) _ _ _ _ _
          case h16 => exact take _ (z3 (by assumption) (by assumption)).symm (by assumption) _ _ _ _ _
          case h17 => exact skip _ (z3 (by assumption) (by assumption)).symm (by assumption) _ _ _ _ _
          case h23 => exact take _ (z2 (by assumption) (by assumption)).symm (by assumption) _ _ _ _ _
          case h24 => exact skip _ (z2 (by assumption) (by assumption)).symm (by assumption) _ _ _ _ _
          case h26 => exact take _ (z1 (by assumption) (by assumption)).symm (by assumption) _ _ _ _ _
          case h27 => exact skip _ (z1 (by assumption) (by assumption)).symm (by assumption) _ _ _ _ _
          all_goals first | omega | (have := z5 (by assumption); have := b1 (by assumption); omega) | (have := z6 (by assumption); have := b2 (by assumption); omega) | (have := z5 (by assumption); have := b1 (by assumption); have := z6 (by assumption); have := b2 (by assumption); (repeat' first | exact hrg _ | assumption | (unfold rg; omega) | omega | refine And.intro ?_ ?_)) | (have := z5 (by assumption); have := b1 (by assumption); (repeat' first | exact hrg _ | assumption | (unfold rg; omega) | omega | refine And.intro ?_ ?_)) | (have := z6 (by assumption); have := b2 (by assumption); (repeat' first | exact hrg _ | assumption | (unfold rg; omega) | omega | refine And.intro ?_ ?_)) | (repeat' first | exact hrg _ | assumption | (unfold rg; omega) | omega | refine And.intro ?_ ?_)
        all_goals first | omega | (repeat' first | exact hrg _ | assumption | (unfold rg; omega) | omega | refine And.intro ?_ ?_)
    apply zs_264_0 <;> intros
    case h2 => exact key 366 0 (by omega) _ _ _ _ _
    all_goals first | omega | (repeat' first | exact hrg _ | assumption | (unfold rg; omega) | omega | refine And.intro ?_ ?_)
  · rw [bP_f hg] at hQ
    apply zs_264_0 <;> intros
    all_goals first | omega | exact hQ | (repeat' first | exact hrg _ | assumption | (unfold rg; omega) | omega | refine And.intro ?_ ?_)
end RE
section KV
variable {d : Nat} {G : zG} {Q : zQ} {a : Int} {w : Int → Int}
set_option maxHeartbeats 4000000 in
theorem c31 (wf : WF w) {x p : Int} (hx : 66 ≤ x) (hI : IX G x a w (-1)) (hg : 0 ≤ p ∧ p < w 2) (hQ : Q (some (zi (cn (RP w p) (w 4).toNat))) G) : zW (d + 2) 31 [zr 1 0 x, zi p] G Q := by
  obtain ⟨n0, n1, n2, n3, n4, n5⟩ := WF_n wf
  have hO := hI.2.2.2.1
  have p8 : p < 8 := by omega
  have hst := hO.1 p hg.1 p8
  have hix := hI.2.2.2.2.1
  generalize ho : G (x + 1) = o at *
  generalize hs : G (x + 2) = st at *
  have lt : ∀ {j k : Int}, st p ≤ j → j < st (p + 1) → st p ≤ k → k < st (p + 1) → ((w ((116 + (4 * (o j))) + 1)) < (w ((116 + (4 * (o k))) + 1)) ↔ j < k) := fun j0 j1 k0 k1 => OD_lt hO hg.1 p8 j0 j1 k0 k1
  have sh := hO.2.1 p hg.1 p8
  have key : ∀ (r : Nat) (k : Int), st p ≤ k → k + r = st (p + 1) → ∀ l4, zAt xT_31 (zW (d + 1)) Q 9 [zr 1 0 x, zi p, zi (cn (fun s => RP w p s ∧ ∃ j, st p ≤ j ∧ j < k ∧ o j = s) (w 4).toNat), zi k, l4] [] G := by
    intro r
    induction r with
    | zero =>
      intro k k0 k1 l4
      apply zs_31_9 <;> intros
      case h2 =>
        rw [cn_congr (P := fun s => RP w p s ∧ ∃ j, st p ≤ j ∧ j < k ∧ o j = s) (R := RP w p) (w 4).toNat (fun t _ _ => ⟨fun z => z.1, fun z => ⟨z, by
          obtain ⟨j, j0, j1, e⟩ := hO.2.2.2 p hg.1 p8 t z.1
          exact ⟨j, j0, by omega, e⟩⟩⟩)]
        exact hQ
      all_goals (rw [hs] at *; first | omega | (repeat' first | exact hrg _ | assumption | (unfold rg; omega) | omega | refine And.intro ?_ ?_))
    | succ r ih =>
      intro k k0 k1 l4
      have sk := sh k k0 (by omega)
      have s0 := sk.1
      have s1 := sk.2.1
      have hb := bo_rg (dr := -1) wf s0 s1
      have hk := hix (o k) (by rw [sk.2.2.2]; exact sk)
      have ih := ih (k + 1) (by omega) (by omega)
      have pv0 : k = st p → ah w (-1) p (w ((116 + (4 * (o k))) + 1)) 0 = -1 := fun e => ah_eq wf (Or.inl ⟨rfl, fun t ht => by
        obtain ⟨j, j0, j1, ej⟩ := hO.2.2.2 p hg.1 p8 t ht.1
        have h := ht.2.1
        rw [← ej, lt j0 j1 k0 (by omega)] at h
        omega⟩)
      have pv1 : k ≠ st p → ah w (-1) p (w ((116 + (4 * (o k))) + 1)) 0 = o (k - 1) := fun e => ah_eq wf (Or.inr ⟨⟨sh (k - 1) (by omega) (by omega), (lt (by omega) (by omega) k0 (by omega)).mpr (by omega), by omega⟩, fun t ht => by
        obtain ⟨j, j0, j1, ej⟩ := hO.2.2.2 p hg.1 p8 t ht.1
        have h := ht.2.1
        rw [← ej, lt j0 j1 k0 (by omega)] at h
        show -(w ((116 + (4 * (o (k - 1)))) + 1)) ≤ -(w ((116 + (4 * t)) + 1))
        by_cases c : j = k - 1
        · rw [← ej, c]; omega
        · have := (lt (j := j) (k := k - 1) j0 j1 (by omega) (by omega)).mpr (by omega)
          rw [ej] at this
          omega⟩)
      have iff' : ∀ t, (RP w p t ∧ ∃ j, st p ≤ j ∧ j < k + 1 ∧ o j = t) ↔ ((RP w p t ∧ ∃ j, st p ≤ j ∧ j < k ∧ o j = t) ∨ (t = o k ∧ RP w p (o k))) := fun t => by
        constructor
        · rintro ⟨ht, j, j0, j1, e⟩
          by_cases c : j = k
          · rw [c] at e; exact Or.inr ⟨e.symm, e ▸ ht⟩
          · exact Or.inl ⟨ht, j, j0, by omega, e⟩
        · rintro (⟨ht, j, j0, j1, e⟩ | ⟨e, h⟩)
          · exact ⟨ht, j, j0, by omega, e⟩
          · rw [e]; exact ⟨h, k, k0, by omega, rfl⟩
      have no : ¬ RP w p (o k) → ∀ l4, zAt xT_31 (zW (d + 1)) Q 9 [zr 1 0 x, zi p, zi (cn (fun s => RP w p s ∧ ∃ j, st p ≤ j ∧ j < k ∧ o j = s) (w 4).toNat), zi (k + 1), l4] [] G := fun h => by
        rw [cn_congr (P := fun s => RP w p s ∧ ∃ j, st p ≤ j ∧ j < k + 1 ∧ o j = s) (R := fun s => RP w p s ∧ ∃ j, st p ≤ j ∧ j < k ∧ o j = s) (w 4).toNat (fun t _ _ => (iff' t).trans ⟨fun z => z.resolve_right (fun e => h e.2), Or.inl⟩)] at ih
        exact ih
      have yes : RP w p (o k) → ∀ l4, zAt xT_31 (zW (d + 1)) Q 9 [zr 1 0 x, zi p, zi (cn (fun s => RP w p s ∧ ∃ j, st p ≤ j ∧ j < k ∧ o j = s) (w 4).toNat + 1), zi (k + 1), l4] [] G := fun h => by
        rw [cn_add (P := fun s => RP w p s ∧ ∃ j, st p ≤ j ∧ j < k + 1 ∧ o j = s) (R := fun s => RP w p s ∧ ∃ j, st p ≤ j ∧ j < k ∧ o j = s) (a := o k) (w 4).toNat s0 (by omega) (fun z => by
          obtain ⟨_, j, j0, j1, e⟩ := z
          have := (lt (j := j) (k := k) j0 (by omega) k0 (by omega)).mpr j1
          rw [e] at this
          omega) (fun t _ _ => (iff' t).trans ⟨fun z => z.imp id (fun e => e.1), fun z => z.imp id (fun e => ⟨e, h⟩)⟩)] at ih
        exact ih
      have hbo : G (x + 3) (G (x + 1) k) = bo w (-1) (o k) := by rw [ho]; exact hk.1.1
      have s52 : (ah w (-1) p (w ((116 + (4 * (o k))) + 1)) 0 = -1 ∨ ¬ LIKE w (-1) (o k) (ah w (-1) p (w ((116 + (4 * (o k))) + 1)) 0)) → ∀ l4, zAt xT_31 (zW (d + 1)) Q 52 [zr 1 0 x, zi p, zi (cn (fun s => RP w p s ∧ ∃ j, st p ≤ j ∧ j < k ∧ o j = s) (w 4).toNat), zi k, l4] [] G := fun h l4 => by
        apply zs_31_52 <;> intros
        case h2 => exact no (fun z => z.2.1 (by omega)) _
        case h3 => exact yes ⟨sk, by omega, h⟩ _
        case h1 => rw [hbo, ho]; (repeat' first | exact hrg _ | assumption | (unfold rg; omega) | omega | refine And.intro ?_ ?_)
      have hm : G (x + 5) (G (x + 1) k) = mkv w (-1) (o k) := by rw [ho]; exact hk.1.2.2
      by_cases c0 : k = st p
      · apply zs_31_9 <;> intros
        case h4 => exact s52 (Or.inl (pv0 c0)) _
        all_goals (rw [hs] at *; first | omega | (repeat' first | exact hrg _ | assumption | (unfold rg; omega) | omega | refine And.intro ?_ ?_))
      · have sj := sh (k - 1) (by omega) (by omega)
        have sj0 := sj.1
        have sj1 := sj.2.1
        have hj := hix (o (k - 1)) (by rw [sj.2.2.2]; exact sj)
        have hmj : G (x + 5) (G (x + 1) (k - 1)) = mkv w (-1) (o (k - 1)) := by rw [ho]; exact hj.1.2.2
        have lk := mkv_like (dr := -1) wf s0 s1 sj0 sj1
        have mr : ∀ s, 0 ≤ s → s < w 4 → rg (mkv w (-1) s) := fun s a0 a1 => by
          have hbs := bo_rg (dr := -1) wf a0 a1
          have ws := WF_s wf a0 a1
          unfold mkv
          by_cases c1 : bo w (-1) s = -1
          · rw [if_neg (by omega)]
            split
            · exact ⟨by omega, by omega⟩
            · split
              · rename_i h; have := ws.2.2.2.2 h; unfold rg; omega
              · exact ⟨by omega, by omega⟩
          · rw [if_pos c1]
            have := lq_is (w := w) (b := bo w (-1) s) (by omega)
            have h1 := this.1
            have h2 := this.2.1
            unfold rg; omega
        have r1 := mr _ s0 s1
        have r2 := mr _ sj0 sj1
        apply zs_31_9 <;> intros
        case h6 => rename_i h; rw [hmj] at h; exact s52 (Or.inr (by rw [pv1 c0, lk]; omega)) _
        case h8 => rename_i h; rw [hmj, hm] at h; exact s52 (Or.inr (by rw [pv1 c0, lk]; omega)) _
        case h9 =>
          rename_i h1 h2
          rw [hmj, hm] at h2
          rw [hmj] at h1
          refine no (fun z => z.2.2.elim (fun e => ?_) (fun e => e ?_)) _
          · rw [pv1 c0] at e; omega
          · rw [pv1 c0, lk]; omega
        all_goals first | omega | (rw [hs] at *; omega) | (rw [hmj, ho]; (repeat' first | exact hrg _ | assumption | (unfold rg; omega) | omega | refine And.intro ?_ ?_); done) | (rw [hm, ho]; (repeat' first | exact hrg _ | assumption | (unfold rg; omega) | omega | refine And.intro ?_ ?_); done) | (rw [hs] at *; (repeat' first | exact hrg _ | assumption | (unfold rg; omega) | omega | refine And.intro ?_ ?_))
  refine zm_31 ?_
  apply zs_31_0 <;> intros
  case h2 =>
    have := key (st (p + 1) - st p).toNat (st p) (by omega) (by omega) z0
    rw [cn_0 (P := fun s => RP w p s ∧ ∃ j, st p ≤ j ∧ j < st p ∧ o j = s) (w 4).toNat (fun t _ _ ⟨_, j, j0, j1, _⟩ => by omega)] at this
    rw [hs]; exact this
  all_goals first | omega | (repeat' first | exact hrg _ | assumption | (unfold rg; omega) | omega | refine And.intro ?_ ?_)
set_option maxHeartbeats 4000000 in
theorem k_runs (wf : WF w) (hC : CI G a w) {p : Int} (hp : rg p) (hQ : ∀ G1, fr G G1 SC → CI G1 a w → Q (some (zi (q_runs w p))) G1) : zW (d + 8) 129 [zr 8 0 0, zi p] G Q := by
  obtain ⟨h03, ha, hA, ⟨ha0, ha1, ha2⟩, hs7, hix⟩ := hC; have hC : CI G a w := ⟨h03, ha, hA, ⟨ha0, ha1, ha2⟩, hs7, hix⟩; obtain ⟨n0, n1, n2, n3, n4, n5⟩ := WF_n wf; have hrg := WF_rg wf; have e3 : G (G 0 3) 3 = w 2 := by { rw [h03]; exact hA.1 }; have e4 : G (G 0 3) 4 = w 3 := by { rw [h03]; exact hA.2.1 }; have e5 : G (G 0 3) 5 = w 4 := by { rw [h03]; exact hA.2.2.1 }; have e2 : G (G 0 3) 2 = w 5 := by { rw [h03]; exact ha2 }
  unfold q_runs at hQ
  refine zm_129 ?_
  by_cases hg : 0 ≤ p ∧ p < w 2
  · rw [bP_t hg] at hQ
    apply zs_129_0 <;> intros
    case h4 => exact c153 wf hC (fun G1 f1 hC1 hI1 h71 => zs_129_17 (c31 wf (by omega) hI1 hg (zs_129_21 (hQ G1 (fr_wide f1 (by intro k j t; unfold SC; omega)) hC1))))
    all_goals first | omega | (repeat' first | exact hrg _ | assumption | (unfold rg; omega) | omega | refine And.intro ?_ ?_)
  · rw [bP_f hg] at hQ
    apply zs_129_0 <;> intros
    all_goals first | omega | exact zs_129_21 (hQ G (fr_refl _ _) hC) | (repeat' first | exact hrg _ | assumption | (unfold rg; omega) | omega | refine And.intro ?_ ?_)
set_option maxHeartbeats 4000000 in
theorem c30 (wf : WF w) {x p t : Int} (hx : 66 ≤ x) (ha : 5 ≤ a) (hI : IX G x a w (-1)) (hA : ARC G a w) (hg : 0 ≤ p ∧ p < w 2) (t0 : 0 ≤ t) (t1 : t ≤ 365) (hn : G (x + 2) p < G (x + 2) (p + 1)) (hQ : Q (some (zi (dst w p t))) G) : zW (d + 2) 30 [zr 1 0 x, zi p, zi t] G Q := by
  obtain ⟨n0, n1, n2, n3, n4, n5⟩ := WF_n wf
  have hO := hI.2.2.2.1
  have hxa := hI.1
  have p8 : p < 8 := by omega
  have hst := hO.1 p hg.1 p8
  generalize ho : G (x + 1) = o at *
  generalize hs : G (x + 2) = st at *
  have sh := hO.2.1 p hg.1 p8
  have key : ∀ (r : Nat) (k m : Int), st p ≤ k → k + r = st (p + 1) → (m = 365 ∨ ∃ j, st p ≤ j ∧ j < k ∧ zabs ((w ((116 + (4 * (o j))) + 1)) - t) = m) → 0 ≤ m → m ≤ 365 → (∀ j, st p ≤ j → j < k → m ≤ zabs ((w ((116 + (4 * (o j))) + 1)) - t)) → zAt xT_30 (zW (d + 1)) Q 12 [zr 1 0 x, zi p, zi t, zi m, zi k] [] G := by
    intro r
    induction r with
    | zero =>
      intro k m k0 k1 hm m0 m1 hl
      apply zs_30_12 <;> intros
      case h2 =>
        have e : dst w p t = m := mn_eq (fun _ _ _ _ h => h) (Or.inr ⟨by
          rcases hm with h | ⟨j, j0, j1, e⟩
          · have s1 := sh (st p) (by omega) (by omega)
            have wd := (WF_s wf s1.1 s1.2.1).2.1
            have := hl (st p) (by omega) (by omega)
            refine ⟨o (st p), s1, ?_⟩
            unfold zabs at *
            omega
          · exact ⟨o j, sh j j0 (by omega), e⟩, fun y ⟨s, hsh, e⟩ => by
          obtain ⟨j, j0, j1, ej⟩ := hO.2.2.2 p hg.1 p8 s hsh
          have := hl j j0 (by omega)
          rw [ej, e] at this
          exact this⟩)
        rw [e] at hQ; exact hQ
      all_goals (rw [hs] at *; first | omega | (repeat' first | exact hrg _ | assumption | (unfold rg; omega) | omega | refine And.intro ?_ ?_))
    | succ r ih =>
      intro k m k0 k1 hm m0 m1 hl
      have sk := sh k k0 (by omega)
      have s0 := sk.1
      have s1 := sk.2.1
      have wd := (WF_s wf s0 s1).2.1
      have hdy : G ((G x 0) + 8) (G (x + 1) k) = (w ((116 + (4 * (o k))) + 1)) := by rw [hxa, ho]; exact (hA.2.2.2.2 (o k) s0 s1).2.1
      have hz : 0 ≤ zabs ((w ((116 + (4 * (o k))) + 1)) - t) ∧ zabs ((w ((116 + (4 * (o k))) + 1)) - t) ≤ 365 := by unfold zabs; omega
      apply zs_30_12 <;> intros
      case h4 =>
        rw [hdy]
        refine ih (k + 1) _ (by omega) (by omega) ?_ (by omega) (by omega) (fun j j0 j1 => ?_)
        · by_cases c : m ≤ zabs ((w ((116 + (4 * (o k))) + 1)) - t)
          · rw [Int.min_eq_left c]
            rcases hm with h | ⟨j, j0, j1, e⟩
            · exact Or.inl h
            · exact Or.inr ⟨j, j0, by omega, e⟩
          · rw [Int.min_eq_right (by omega)]
            exact Or.inr ⟨k, k0, by omega, rfl⟩
        · by_cases c : j = k
          · rw [c]; omega
          · have := hl j j0 (by omega); omega
      case h3 => rw [hdy, hxa, ho]; (repeat' first | exact hrg _ | assumption | (unfold rg; omega) | omega | refine And.intro ?_ ?_)
      all_goals (rw [hs] at *; first | omega | (repeat' first | exact hrg _ | assumption | (unfold rg; omega) | omega | refine And.intro ?_ ?_))
  refine zm_30 ?_
  apply zs_30_0 <;> intros
  case h2 =>
    rw [hs]
    exact key (st (p + 1) - st p).toNat (st p) 365 (by omega) (by omega) (Or.inl rfl) (by omega) (by omega) (fun j j0 j1 => by omega)
  all_goals first | omega | (repeat' first | exact hrg _ | assumption | (unfold rg; omega) | omega | refine And.intro ?_ ?_)
set_option maxHeartbeats 4000000 in
theorem k_blank (wf : WF w) (hC : CI G a w) {p : Int} (hp : rg p) (hQ : ∀ G1, fr G G1 SC → CI G1 a w → Q (some (zi (q_blank w p))) G1) : zW (d + 8) 133 [zr 8 0 0, zi p] G Q := by
  obtain ⟨h03, ha, hA, ⟨ha0, ha1, ha2⟩, hs7, hix⟩ := hC; have hC : CI G a w := ⟨h03, ha, hA, ⟨ha0, ha1, ha2⟩, hs7, hix⟩; obtain ⟨n0, n1, n2, n3, n4, n5⟩ := WF_n wf; have hrg := WF_rg wf; have e3 : G (G 0 3) 3 = w 2 := by { rw [h03]; exact hA.1 }; have e4 : G (G 0 3) 4 = w 3 := by { rw [h03]; exact hA.2.1 }; have e5 : G (G 0 3) 5 = w 4 := by { rw [h03]; exact hA.2.2.1 }; have e2 : G (G 0 3) 2 = w 5 := by { rw [h03]; exact ha2 }
  unfold q_blank at hQ
  refine zm_133 ?_
  by_cases hg : 0 ≤ p ∧ p < w 2
  · rw [bP_t hg] at hQ
    apply zs_133_0 <;> intros
    case h4 =>
      refine c153 wf hC (fun G1 f1 hC1 hI1 h71 => zs_133_15 ?_)
      have hQ1 := hQ G1 (fr_wide f1 (by intro k j t; unfold SC; omega)) hC1
      have hst := hI1.2.2.2.1.1 p hg.1 (by omega)
      have key : ∀ (r t : Nat), t + r = 366 → ∀ l0 l6, zAt xT_133 (zW (d + 7)) Q 24 [l0, zi p, zr 1 0 66, zi (bl w p t).1, zi (bl w p t).2, zi t, l6] [] G1 := by
        intro r
        induction r with
        | zero =>
          intro t t1 l0 l6
          have e : t = 366 := by omega
          apply zs_133_24 <;> intros
          case h2 => rw [e]; exact hQ1
          all_goals first | omega | (repeat' first | exact hrg _ | assumption | (unfold rg; omega) | omega | refine And.intro ?_ ?_)
        | succ r ih =>
          intro t t1 l0 l6
          have hb := bl_rg (p := p) wf t (by omega)
          have hd := dst_rg (p := p) wf (t := t) (by omega) (by omega)
          have e : bl w p (t + 1) = if (bl w p t).2 < dst w p t then ((t : Int), dst w p t) else bl w p t := rfl
          have ih := ih (t + 1) (by omega)
          rw [e] at ih
          apply zs_133_24 <;> intros
          case h4 =>
            rename_i h
            have hn : ∀ s, ¬ sho w (-1) p s := fun s hs => by
              obtain ⟨j, j0, j1, _⟩ := hI1.2.2.2.1.2.2.2 p hg.1 (by omega) s hs
              omega
            rw [bl_none hn] at hQ1 ⊢
            exact hQ1
          case h5 =>
            refine c30 wf (by omega) ha.1 hI1 hC1.2.2.1 hg (by omega) (by omega) (by omega) ?_
            apply zs_133_47 <;> intros
            case h2 => rw [if_neg (by omega)] at ih; exact ih _ _
            case h3 => rw [if_pos (by omega)] at ih; exact ih _ _
            all_goals first | omega | (repeat' first | exact hrg _ | assumption | (unfold rg; omega) | omega | refine And.intro ?_ ?_)
          all_goals first | omega | (repeat' first | exact hrg _ | assumption | (unfold rg; omega) | omega | refine And.intro ?_ ?_)
      exact key 366 0 (by omega) _ _
    all_goals first | omega | (repeat' first | exact hrg _ | assumption | (unfold rg; omega) | omega | refine And.intro ?_ ?_)
  · rw [bP_f hg] at hQ
    apply zs_133_0 <;> intros
    all_goals first | omega | exact hQ G (fr_refl _ _) hC | (repeat' first | exact hrg _ | assumption | (unfold rg; omega) | omega | refine And.intro ?_ ?_)
end KV
