/-! THE WORLD: what the reference's row says; shots, bodies, the least of a kind. -/
def rgI (z : Int) : Prop := -2147483648 ≤ z ∧ z < 2147483648
def pg (w : Int → Int) (s : Int) : Int := w (116 + 4 * s)
def dy (w : Int → Int) (s : Int) : Int := w (116 + 4 * s + 1)
def kd (w : Int → Int) (s : Int) : Int := w (116 + 4 * s + 2)
def fo (w : Int → Int) (s : Int) : Int := w (116 + 4 * s + 3)
def wt (w : Int → Int) (b : Int) : Int := w (6 + 11 * b)
def np (w : Int → Int) (b : Int) : Int := w (6 + 11 * b + 1)
def nl (w : Int → Int) (b : Int) : Int := w (6 + 11 * b + 2)
def pa (w : Int → Int) (b i : Int) : Int := w (6 + 11 * b + 3 + i)
def li (w : Int → Int) (b i : Int) : Int := w (6 + 11 * b + 7 + i)
def WF (w : Int → Int) : Prop :=
  (∀ j, rgI (w j)) ∧ (0 ≤ w 0 ∧ w 0 ≤ 2) ∧ (0 ≤ w 1 ∧ w 1 ≤ 1) ∧ (0 ≤ w 2 ∧ w 2 ≤ 8) ∧ (0 ≤ w 3 ∧ w 3 ≤ 10) ∧ (0 ≤ w 4 ∧ w 4 ≤ 60) ∧ (0 ≤ w 5 ∧ w 5 ≤ 1200) ∧
  (∀ s, 0 ≤ s → s < w 4 → (0 ≤ pg w s ∧ pg w s < w 2) ∧ (0 ≤ dy w s ∧ dy w s ≤ 365) ∧ (0 ≤ kd w s ∧ kd w s ≤ 3) ∧ (kd w s = 0 → 0 ≤ fo w s ∧ fo w s < w 3) ∧ (kd w s = 2 → 0 ≤ fo w s ∧ fo w s < w 2)) ∧
  (∀ s t, 0 ≤ s → s < w 4 → 0 ≤ t → t < w 4 → pg w s = pg w t → dy w s = dy w t → s = t) ∧
  (∀ b, 0 ≤ b → b < w 3 → (1 ≤ wt w b ∧ wt w b ≤ 999) ∧ (0 ≤ np w b ∧ np w b ≤ 4) ∧ (0 ≤ nl w b ∧ nl w b ≤ 4) ∧ (∀ i, 0 ≤ i → i < np w b → 0 ≤ pa w b i ∧ pa w b i < w 2) ∧ (∀ i, 0 ≤ i → i < nl w b → 0 ≤ li w b i ∧ li w b i < w 2))
theorem WF_rg {w : Int → Int} (h : WF w) (j : Int) : rgI (w j) := h.1 j
theorem WF_n {w : Int → Int} (h : WF w) : (0 ≤ w 0 ∧ w 0 ≤ 2) ∧ (0 ≤ w 1 ∧ w 1 ≤ 1) ∧ (0 ≤ w 2 ∧ w 2 ≤ 8) ∧ (0 ≤ w 3 ∧ w 3 ≤ 10) ∧ (0 ≤ w 4 ∧ w 4 ≤ 60) ∧ (0 ≤ w 5 ∧ w 5 ≤ 1200) := ⟨h.2.1, h.2.2.1, h.2.2.2.1, h.2.2.2.2.1, h.2.2.2.2.2.1, h.2.2.2.2.2.2.1⟩
theorem WF_s {w : Int → Int} (h : WF w) {s : Int} (h1 : 0 ≤ s) (h2 : s < w 4) : (0 ≤ pg w s ∧ pg w s < w 2) ∧ (0 ≤ dy w s ∧ dy w s ≤ 365) ∧ (0 ≤ kd w s ∧ kd w s ≤ 3) ∧ (kd w s = 0 → 0 ≤ fo w s ∧ fo w s < w 3) ∧ (kd w s = 2 → 0 ≤ fo w s ∧ fo w s < w 2) := h.2.2.2.2.2.2.2.1 s h1 h2
theorem WF_d {w : Int → Int} (h : WF w) {s t : Int} (h1 : 0 ≤ s) (h2 : s < w 4) (h3 : 0 ≤ t) (h4 : t < w 4) (h5 : pg w s = pg w t) (h6 : dy w s = dy w t) : s = t := h.2.2.2.2.2.2.2.2.1 s t h1 h2 h3 h4 h5 h6
theorem WF_b {w : Int → Int} (h : WF w) {b : Int} (h1 : 0 ≤ b) (h2 : b < w 3) : (1 ≤ wt w b ∧ wt w b ≤ 999) ∧ (0 ≤ np w b ∧ np w b ≤ 4) ∧ (0 ≤ nl w b ∧ nl w b ≤ 4) ∧ (∀ i, 0 ≤ i → i < np w b → 0 ≤ pa w b i ∧ pa w b i < w 2) ∧ (∀ i, 0 ≤ i → i < nl w b → 0 ≤ li w b i ∧ li w b i < w 2) := h.2.2.2.2.2.2.2.2.2 b h1 h2
/-- the one of a kind at which f is least; -1: there is none -/
def IsMn (f : Int → Int) (q : Int → Prop) (r : Int) : Prop := (r = -1 ∧ ∀ t, ¬ q t) ∨ (q r ∧ ∀ t, q t → f r ≤ f t)
noncomputable def mn (f : Int → Int) (q : Int → Prop) : Int := (Classical.propDecidable (∃ r, IsMn f q r)).casesOn (fun _ => -1) (fun h => h.choose)
theorem mn_is {f : Int → Int} {q : Int → Prop} {r : Int} (h : IsMn f q r) : IsMn f q (mn f q) := by
  unfold mn
  cases Classical.propDecidable (∃ r, IsMn f q r) with
  | isFalse n => exact absurd ⟨r, h⟩ n
  | isTrue y => exact y.choose_spec
theorem mn_eq {f : Int → Int} {q : Int → Prop} {r : Int} (inj : ∀ a b, q a → q b → f a = f b → a = b) (h : IsMn f q r) : mn f q = r := by
  rcases mn_is h with ⟨a, b⟩ | ⟨a, b⟩
  · rcases h with ⟨c, d⟩ | ⟨c, d⟩
    · rw [a, c]
    · exact absurd c (b _)
  · rcases h with ⟨c, d⟩ | ⟨c, d⟩
    · exact absurd a (d _)
    · exact inj _ _ a c (by have := b _ c; have := d _ a; omega)
/-- a shot of a page (one passed over) -/
def sho (w : Int → Int) (dr p t : Int) : Prop := 0 ≤ t ∧ t < w 4 ∧ t ≠ dr ∧ pg w t = p
def qah (w : Int → Int) (dr p day o t : Int) : Prop := sho w dr p t ∧ dy w t < day ∧ ¬ (o = 1 ∧ kd w t = 1)
def qbe (w : Int → Int) (dr p day t : Int) : Prop := sho w dr p t ∧ day < dy w t
noncomputable def ah (w : Int → Int) (dr p day o : Int) : Int := mn (fun t => -dy w t) (qah w dr p day o)
noncomputable def be (w : Int → Int) (dr p day : Int) : Int := mn (dy w) (qbe w dr p day)
/-- how near a day of a shot is, by the law -/
def rk (l day x : Int) : Int := if l = 2 then (if x ≤ day then day - x else 1000 + x - day) else if x ≤ day then 2 * (day - x) + (if l = 1 ∧ x < day then 1 else 0) else 2 * (x - day) + (if l = 0 then 1 else 0)
noncomputable def nr (w : Int → Int) (dr p day : Int) : Int := mn (fun t => rk (w 0) day (dy w t)) (sho w dr p)
noncomputable def bo (w : Int → Int) (dr s : Int) : Int := if kd w s = 0 then fo w s else if kd w s = 1 then (if ah w dr (pg w s) (dy w s) 1 = -1 then -1 else if kd w (ah w dr (pg w s) (dy w s) 1) = 0 then fo w (ah w dr (pg w s) (dy w s) 1) else -1) else -1
theorem sho_inj {w : Int → Int} (wf : WF w) {dr p a b : Int} (ha : sho w dr p a) (hb : sho w dr p b) (h : dy w a = dy w b) : a = b := WF_d wf ha.1 ha.2.1 hb.1 hb.2.1 (by rw [ha.2.2.2, hb.2.2.2]) h
theorem ah_eq {w : Int → Int} (wf : WF w) {dr p day o r : Int} (h : IsMn (fun t => -dy w t) (qah w dr p day o) r) : ah w dr p day o = r := mn_eq (fun a b ha hb e => sho_inj wf ha.1 hb.1 (by have : -dy w a = -dy w b := e; omega)) h
theorem be_eq {w : Int → Int} (wf : WF w) {dr p day r : Int} (h : IsMn (dy w) (qbe w dr p day) r) : be w dr p day = r := mn_eq (fun a b ha hb e => sho_inj wf ha.1 hb.1 e) h
theorem rk_inj {l day x y : Int} (hl : 0 ≤ l ∧ l ≤ 2) (h0 : 0 ≤ day) (h1 : day ≤ 365) (hx : 0 ≤ x) (hy : 0 ≤ y) (h : rk l day x = rk l day y) : x = y := by
  unfold rk at h
  grind
theorem nr_eq {w : Int → Int} (wf : WF w) {dr p day r : Int} (h0 : 0 ≤ day) (h1 : day ≤ 365) (h : IsMn (fun t => rk (w 0) day (dy w t)) (sho w dr p) r) : nr w dr p day = r := mn_eq (fun a b ha hb e => sho_inj wf ha hb (rk_inj (WF_n wf).1 h0 h1 (WF_s wf ha.1 ha.2.1).2.1.1 (WF_s wf hb.1 hb.2.1).2.1.1 e)) h
