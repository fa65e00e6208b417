/-! THE WORLD: what the reference's row says. -/
def WF (w : Int → Int) : Prop :=
  (∀ j, rg (w j)) ∧ (0 ≤ w 0 ∧ w 0 ≤ 2) ∧ (0 ≤ w 1 ∧ w 1 ≤ 1) ∧ (0 ≤ w 2 ∧ w 2 ≤ 8) ∧ (0 ≤ w 3 ∧ w 3 ≤ 10) ∧ (0 ≤ w 4 ∧ w 4 ≤ 60) ∧ (0 ≤ w 5 ∧ w 5 ≤ 1200) ∧
  (∀ s, 0 ≤ s → s < w 4 → (0 ≤ (w (116 + (4 * s))) ∧ (w (116 + (4 * s))) < w 2) ∧ (0 ≤ (w ((116 + (4 * s)) + 1)) ∧ (w ((116 + (4 * s)) + 1)) ≤ 365) ∧ (0 ≤ (w ((116 + (4 * s)) + 2)) ∧ (w ((116 + (4 * s)) + 2)) ≤ 3) ∧ ((w ((116 + (4 * s)) + 2)) = 0 → 0 ≤ (w ((116 + (4 * s)) + 3)) ∧ (w ((116 + (4 * s)) + 3)) < w 3) ∧ ((w ((116 + (4 * s)) + 2)) = 2 → 0 ≤ (w ((116 + (4 * s)) + 3)) ∧ (w ((116 + (4 * s)) + 3)) < w 2)) ∧
  (∀ s t, 0 ≤ s → s < w 4 → 0 ≤ t → t < w 4 → (w (116 + (4 * s))) = (w (116 + (4 * t))) → (w ((116 + (4 * s)) + 1)) = (w ((116 + (4 * t)) + 1)) → s = t) ∧
  (∀ b, 0 ≤ b → b < w 3 → (1 ≤ (w (6 + (11 * b))) ∧ (w (6 + (11 * b))) ≤ 999) ∧ (0 ≤ (w ((6 + (11 * b)) + 1)) ∧ (w ((6 + (11 * b)) + 1)) ≤ 4) ∧ (0 ≤ (w ((6 + (11 * b)) + 2)) ∧ (w ((6 + (11 * b)) + 2)) ≤ 4) ∧ (∀ i, 0 ≤ i → i < (w ((6 + (11 * b)) + 1)) → 0 ≤ (w (((6 + (11 * b)) + 3) + i)) ∧ (w (((6 + (11 * b)) + 3) + i)) < w 2) ∧ (∀ i, 0 ≤ i → i < (w ((6 + (11 * b)) + 2)) → 0 ≤ (w (((6 + (11 * b)) + 7) + i)) ∧ (w (((6 + (11 * b)) + 7) + i)) < w 2))
theorem WF_rg {w : Int → Int} (h : WF w) (j : Int) : rg (w j) := h.1 j
theorem WF_n {w : Int → Int} (h : WF w) : (0 ≤ w 0 ∧ w 0 ≤ 2) ∧ (0 ≤ w 1 ∧ w 1 ≤ 1) ∧ (0 ≤ w 2 ∧ w 2 ≤ 8) ∧ (0 ≤ w 3 ∧ w 3 ≤ 10) ∧ (0 ≤ w 4 ∧ w 4 ≤ 60) ∧ (0 ≤ w 5 ∧ w 5 ≤ 1200) := ⟨h.2.1, h.2.2.1, h.2.2.2.1, h.2.2.2.2.1, h.2.2.2.2.2.1, h.2.2.2.2.2.2.1⟩
theorem WF_s {w : Int → Int} (h : WF w) {s : Int} (h1 : 0 ≤ s) (h2 : s < w 4) : (0 ≤ (w (116 + (4 * s))) ∧ (w (116 + (4 * s))) < w 2) ∧ (0 ≤ (w ((116 + (4 * s)) + 1)) ∧ (w ((116 + (4 * s)) + 1)) ≤ 365) ∧ (0 ≤ (w ((116 + (4 * s)) + 2)) ∧ (w ((116 + (4 * s)) + 2)) ≤ 3) ∧ ((w ((116 + (4 * s)) + 2)) = 0 → 0 ≤ (w ((116 + (4 * s)) + 3)) ∧ (w ((116 + (4 * s)) + 3)) < w 3) ∧ ((w ((116 + (4 * s)) + 2)) = 2 → 0 ≤ (w ((116 + (4 * s)) + 3)) ∧ (w ((116 + (4 * s)) + 3)) < w 2) := h.2.2.2.2.2.2.2.1 s h1 h2
theorem WF_d {w : Int → Int} (h : WF w) {s t : Int} (h1 : 0 ≤ s) (h2 : s < w 4) (h3 : 0 ≤ t) (h4 : t < w 4) (h5 : (w (116 + (4 * s))) = (w (116 + (4 * t)))) (h6 : (w ((116 + (4 * s)) + 1)) = (w ((116 + (4 * t)) + 1))) : s = t := h.2.2.2.2.2.2.2.2.1 s t h1 h2 h3 h4 h5 h6
theorem WF_b {w : Int → Int} (h : WF w) {b : Int} (h1 : 0 ≤ b) (h2 : b < w 3) : (1 ≤ (w (6 + (11 * b))) ∧ (w (6 + (11 * b))) ≤ 999) ∧ (0 ≤ (w ((6 + (11 * b)) + 1)) ∧ (w ((6 + (11 * b)) + 1)) ≤ 4) ∧ (0 ≤ (w ((6 + (11 * b)) + 2)) ∧ (w ((6 + (11 * b)) + 2)) ≤ 4) ∧ (∀ i, 0 ≤ i → i < (w ((6 + (11 * b)) + 1)) → 0 ≤ (w (((6 + (11 * b)) + 3) + i)) ∧ (w (((6 + (11 * b)) + 3) + i)) < w 2) ∧ (∀ i, 0 ≤ i → i < (w ((6 + (11 * b)) + 2)) → 0 ≤ (w (((6 + (11 * b)) + 7) + i)) ∧ (w (((6 + (11 * b)) + 7) + i)) < w 2) := h.2.2.2.2.2.2.2.2.2 b h1 h2
/-- upwards to n: what holds at the end holds ahead of it -/
theorem up_ind {P : Int → Prop} (a n : Int) (hn : P n) (st : ∀ s, a ≤ s → s < n → P (s + 1) → P s) : ∀ s, a ≤ s → s ≤ n → P s := by
  have key : ∀ (m : Nat) (s : Int), a ≤ s → s ≤ n → n - s = m → P s := by
    intro m
    induction m with
    | zero => intro s h1 h2 h3; have : s = n := by omega
              rw [this]; exact hn
    | succ m ih => intro s h1 h2 h3; exact st s h1 (by omega) (ih (s + 1) (by omega) (by omega) (by omega))
  intro s h1 h2
  exact key (n - s).toNat s h1 h2 (by omega)
/-- the one of a kind at which f is least; -1: there is none -/
def IsMn (f : Int → Int) (q : Int → Prop) (r : Int) : Prop := (r = -1 ∧ ∀ t, ¬ q t) ∨ (q r ∧ ∀ t, q t → f r ≤ f t)
def sho (w : Int → Int) (dr p t : Int) : Prop := 0 ≤ t ∧ t < w 4 ∧ t ≠ dr ∧ (w (116 + (4 * t))) = p
def qah (w : Int → Int) (dr p day o t : Int) : Prop := sho w dr p t ∧ (w ((116 + (4 * t)) + 1)) < day ∧ ¬ (o = 1 ∧ (w ((116 + (4 * t)) + 2)) = 1)
def qbe (w : Int → Int) (dr p day t : Int) : Prop := sho w dr p t ∧ day < (w ((116 + (4 * t)) + 1))
/-- how near a day of a shot is, by the law -/
def rk (l day x : Int) : Int := if l = 2 then (if x ≤ day then day - x else 1000 + x - day) else if x ≤ day then 2 * (day - x) + (if l = 1 ∧ x < day then 1 else 0) else 2 * (x - day) + (if l = 0 then 1 else 0)
theorem sho_inj {w : Int → Int} (wf : WF w) {dr p a b : Int} (ha : sho w dr p a) (hb : sho w dr p b) (h : (w ((116 + (4 * a)) + 1)) = (w ((116 + (4 * b)) + 1))) : a = b := WF_d wf ha.1 ha.2.1 hb.1 hb.2.1 (by rw [ha.2.2.2, hb.2.2.2]) h
theorem rk_inj {l day x y : Int} (hl : 0 ≤ l ∧ l ≤ 2) (h0 : 0 ≤ day) (h1 : day ≤ 365) (hx : 0 ≤ x) (hy : 0 ≤ y) (h : rk l day x = rk l day y) : x = y := by
  unfold rk at h
  split at h <;> split at h <;> split at h <;> omega
theorem mn_uniq {f : Int → Int} {q : Int → Prop} {r s : Int} (inj : ∀ a b, q a → q b → f a = f b → a = b) (h : IsMn f q r) (g : IsMn f q s) : r = s := by
  rcases h with ⟨a, b⟩ | ⟨a, b⟩
  · rcases g with ⟨c, d⟩ | ⟨c, d⟩
    · rw [a, c]
    · exact absurd c (b _)
  · rcases g with ⟨c, d⟩ | ⟨c, d⟩
    · exact absurd a (d _)
    · exact inj _ _ a c (by have := b _ c; have := d _ a; omega)
theorem mn_skip {f : Int → Int} {q : Int → Prop} {s b : Int} (hs : ¬ q s) (h : IsMn f (fun t => q t ∧ t < s) b) : IsMn f (fun t => q t ∧ t < s + 1) b := by
  have e : ∀ t, q t → t < s + 1 → t < s := fun t ht hl => by
    by_cases c : t = s
    · rw [c] at ht; exact absurd ht hs
    · omega
  rcases h with ⟨a, c⟩ | ⟨a, c⟩
  · exact Or.inl ⟨a, fun t ht => c t ⟨ht.1, e t ht.1 ht.2⟩⟩
  · exact Or.inr ⟨⟨a.1, by have := a.2; omega⟩, fun t ht => c t ⟨ht.1, e t ht.1 ht.2⟩⟩
theorem mn_keep {f : Int → Int} {q : Int → Prop} {s b : Int} (hb : b ≠ -1) (hf : f b ≤ f s) (h : IsMn f (fun t => q t ∧ t < s) b) : IsMn f (fun t => q t ∧ t < s + 1) b := by
  rcases h with ⟨a, c⟩ | ⟨a, c⟩
  · exact absurd a hb
  · refine Or.inr ⟨⟨a.1, by have := a.2; omega⟩, fun t ht => ?_⟩
    by_cases e : t = s
    · rw [e]; exact hf
    · exact c t ⟨ht.1, by have := ht.2; omega⟩
theorem mn_new {f : Int → Int} {q : Int → Prop} {s b : Int} (hs : q s) (hf : b = -1 ∨ f s ≤ f b) (h0 : ∀ t, q t → 0 ≤ t) (h : IsMn f (fun t => q t ∧ t < s) b) : IsMn f (fun t => q t ∧ t < s + 1) s := by
  refine Or.inr ⟨⟨hs, by omega⟩, fun t ht => ?_⟩
  by_cases e : t = s
  · rw [e]; omega
  · have hts : t < s := by have := ht.2; omega
    rcases h with ⟨a, c⟩ | ⟨a, c⟩
    · exact absurd ⟨ht.1, hts⟩ (c t)
    · rcases hf with hf | hf
      · have := h0 b a.1; omega
      · have := c t ⟨ht.1, hts⟩; omega
theorem mn_fin {f : Int → Int} {q : Int → Prop} {n b : Int} (h0 : ∀ t, q t → t < n) (h : IsMn f (fun t => q t ∧ t < n) b) : IsMn f q b :=
  h.imp (fun h => ⟨h.1, fun t ht => h.2 t ⟨ht, h0 t ht⟩⟩) (fun h => ⟨h.1.1, fun t ht => h.2 t ⟨ht, h0 t ht⟩⟩)
section RE
variable {d : Nat} {G : zG} {Q : zQ}
set_option maxHeartbeats 4000000 in
theorem c176 (wf : WF (G 298)) (hdr : rg (G 297 7)) {p day o : Int} (hp : rg p) (hday : rg day) (ho : o = 0 ∨ o = 1) (hQ : ∀ r, IsMn (fun t => -((G 298) ((116 + (4 * t)) + 1))) (qah (G 298) (G 297 7) p day o) r → -1 ≤ r → r < G 298 4 → Q (some (zi r)) G) : zW (d + 2) 176 [zr 9 0 297, zi p, zi day, zi o] G Q := by
  refine zm_176 (zs_176_0 ?_)
  obtain ⟨n0, n1, n2, n3, n4, n5⟩ := WF_n wf
  have hrg := WF_rg wf
  have q0 : ∀ t, qah (G 298) (G 297 7) p day o t → 0 ≤ t := fun t h => h.1.1
  have q1 : ∀ t, qah (G 298) (G 297 7) p day o t → t < G 298 4 := fun t h => h.1.2.1
  have key : ∀ s, 0 ≤ s → s ≤ G 298 4 → ∀ b, -1 ≤ b → b < s → IsMn (fun t => -((G 298) ((116 + (4 * t)) + 1))) (fun t => qah (G 298) (G 297 7) p day o t ∧ t < s) b → zAt xT_176 (zW (d + 1)) Q 6 [zr 9 0 297, zi p, zi day, zi o, zi b, zi s] [] G := by
    refine up_ind 0 (G 298 4) ?_ ?_
    · intro b b1 b2 hb
      apply zs_176_6 <;> intros
      case h2 => exact hQ b (mn_fin q1 hb) b1 b2
      all_goals (unfold rg at *; omega)
    · intro s s1 s2 ihs b b1 b2 hb
      have ws := WF_s wf s1 s2
      have h63 : qah (G 298) (G 297 7) p day o s → zAt xT_176 (zW (d + 1)) Q 63 [zr 9 0 297, zi p, zi day, zi o, zi b, zi s] [] G := by
        intro hs
        apply zs_176_63 <;> intros
        case h1 => (repeat' first | exact hrg _ | assumption | (unfold rg; omega) | omega | refine And.intro ?_ ?_)
        case h3 => (repeat' first | exact hrg _ | assumption | (unfold rg; omega) | omega | refine And.intro ?_ ?_)
        case h2 => exact ihs _ (by omega) (by omega) (mn_new hs (Or.inl (by assumption)) q0 hb)
        case h4 => exact ihs _ (by omega) (by omega) (mn_keep (by assumption) (by omega) hb)
        case h5 => exact ihs _ (by omega) (by omega) (mn_new hs (Or.inr (by omega)) q0 hb)
      have hsk : ¬ qah (G 298) (G 297 7) p day o s → zAt xT_176 (zW (d + 1)) Q 6 [zr 9 0 297, zi p, zi day, zi o, zi b, zi (s + 1)] [] G := fun hs => ihs b b1 (by omega) (mn_skip hs hb)
      apply zs_176_6 <;> intros
      case h2 => omega
      all_goals first
        | (refine hsk ?_; unfold qah sho; omega)
        | (refine h63 ?_; unfold qah sho; omega)
        | (repeat' first | exact hrg _ | assumption | (unfold rg; omega) | omega | refine And.intro ?_ ?_)
  exact key 0 (by omega) (by omega) (-1) (by omega) (by omega) (Or.inl ⟨rfl, fun t ht => by have := ht.1.1.1; have := ht.2; omega⟩)
set_option maxHeartbeats 4000000 in
theorem c177 (wf : WF (G 298)) (hdr : rg (G 297 7)) {p day : Int} (hp : rg p) (hday : rg day) (hQ : ∀ r, IsMn (fun t => ((G 298) ((116 + (4 * t)) + 1))) (qbe (G 298) (G 297 7) p day) r → -1 ≤ r → r < G 298 4 → Q (some (zi r)) G) : zW (d + 2) 177 [zr 9 0 297, zi p, zi day] G Q := by
  refine zm_177 (zs_177_0 ?_)
  obtain ⟨n0, n1, n2, n3, n4, n5⟩ := WF_n wf
  have hrg := WF_rg wf
  have q0 : ∀ t, qbe (G 298) (G 297 7) p day t → 0 ≤ t := fun t h => h.1.1
  have q1 : ∀ t, qbe (G 298) (G 297 7) p day t → t < G 298 4 := fun t h => h.1.2.1
  have key : ∀ s, 0 ≤ s → s ≤ G 298 4 → ∀ b, -1 ≤ b → b < s → IsMn (fun t => ((G 298) ((116 + (4 * t)) + 1))) (fun t => qbe (G 298) (G 297 7) p day t ∧ t < s) b → zAt xT_177 (zW (d + 1)) Q 5 [zr 9 0 297, zi p, zi day, zi b, zi s] [] G := by
    refine up_ind 0 (G 298 4) ?_ ?_
    · intro b b1 b2 hb
      apply zs_177_5 <;> intros
      case h2 => exact hQ b (mn_fin q1 hb) b1 b2
      all_goals (unfold rg at *; omega)
    · intro s s1 s2 ihs b b1 b2 hb
      have ws := WF_s wf s1 s2
      have hsk : ¬ qbe (G 298) (G 297 7) p day s → zAt xT_177 (zW (d + 1)) Q 5 [zr 9 0 297, zi p, zi day, zi b, zi (s + 1)] [] G := fun hs => ihs b b1 (by omega) (mn_skip hs hb)
      have hne : qbe (G 298) (G 297 7) p day s → (b = -1 ∨ ((G 298) ((116 + (4 * s)) + 1)) < ((G 298) ((116 + (4 * b)) + 1))) → zAt xT_177 (zW (d + 1)) Q 5 [zr 9 0 297, zi p, zi day, zi s, zi (s + 1)] [] G := fun hs hf => ihs _ (by omega) (by omega) (mn_new hs (by omega) q0 hb)
      have hke : b ≠ -1 → ((G 298) ((116 + (4 * b)) + 1)) ≤ ((G 298) ((116 + (4 * s)) + 1)) → zAt xT_177 (zW (d + 1)) Q 5 [zr 9 0 297, zi p, zi day, zi b, zi (s + 1)] [] G := fun hb1 hf => ihs _ (by omega) (by omega) (mn_keep hb1 hf hb)
      apply zs_177_5 <;> intros
      case h2 => omega
      all_goals first
        | (refine hsk ?_; unfold qbe sho; omega)
        | (refine hne ?_ ?_; unfold qbe sho; omega; omega)
        | (refine hke ?_ ?_ <;> omega)
        | (repeat' first | exact hrg _ | assumption | (unfold rg; omega) | omega | refine And.intro ?_ ?_)
  exact key 0 (by omega) (by omega) (-1) (by omega) (by omega) (Or.inl ⟨rfl, fun t ht => by have := ht.1.1.1; have := ht.2; omega⟩)
end RE
