/-! THE CALLS: reach, clicks by the class: breadth first -/
def STP (w : Int → Int) (p0 d0 : Int) : Nat → Int → Int → Prop
  | 0, p, d => p = p0 ∧ d = d0
  | c + 1, p, d => ∃ p1 d1, STP w p0 d0 c p1 d1 ∧ hbd w p1 d1 ≠ -1 ∧ d = ndy w p1 d1 ∧ ∃ i, 0 ≤ i ∧ i < (w ((6 + (11 * (hbd w p1 d1))) + 2)) ∧ (w (((6 + (11 * (hbd w p1 d1))) + 7) + i)) = p
section ST
variable {w : Int → Int}
theorem STP_head : ∀ (c : Nat) (p0 d0 p d : Int), STP w p0 d0 (c + 1) p d ↔ (hbd w p0 d0 ≠ -1 ∧ ∃ i, 0 ≤ i ∧ i < (w ((6 + (11 * (hbd w p0 d0))) + 2)) ∧ STP w (w (((6 + (11 * (hbd w p0 d0))) + 7) + i)) (ndy w p0 d0) c p d) := by
  intro c
  induction c with
  | zero =>
    intro p0 d0 p d
    constructor
    · rintro ⟨p1, d1, ⟨e1, e2⟩, h1, h2, i, i0, i1, h3⟩
      rw [e1, e2] at h1 h2 i1 h3
      exact ⟨h1, i, i0, i1, h3.symm, h2⟩
    · rintro ⟨h1, i, i0, i1, h2, h3⟩
      exact ⟨p0, d0, ⟨rfl, rfl⟩, h1, h3, i, i0, i1, h2.symm⟩
  | succ c ih =>
    intro p0 d0 p d
    constructor
    · rintro ⟨p1, d1, h, h1, h2, h3⟩
      obtain ⟨g1, i, i0, i1, g2⟩ := (ih p0 d0 p1 d1).mp h
      exact ⟨g1, i, i0, i1, p1, d1, g2, h1, h2, h3⟩
    · rintro ⟨g1, i, i0, i1, p1, d1, g2, h1, h2, h3⟩
      exact ⟨p1, d1, (ih p0 d0 p1 d1).mpr ⟨g1, i, i0, i1, g2⟩, h1, h2, h3⟩
theorem RCH_STP : ∀ (k : Nat) (p d b : Int), RCH w k p d b ↔ ∃ c, c ≤ k ∧ ∃ d', STP w p d c b d' := by
  intro k
  induction k with
  | zero =>
    intro p d b
    constructor
    · intro h; exact ⟨0, Nat.le_refl _, d, h, rfl⟩
    · rintro ⟨c, c0, d', h⟩
      have e : c = 0 := by omega
      rw [e] at h; exact h.1
  | succ k ih =>
    intro p d b
    constructor
    · rintro (h | ⟨h1, i, i0, i1, h⟩)
      · exact ⟨0, by omega, d, h, rfl⟩
      · obtain ⟨c, c0, d', h⟩ := (ih _ _ _).mp h
        exact ⟨c + 1, by omega, d', (STP_head c p d b d').mpr ⟨h1, i, i0, i1, h⟩⟩
    · rintro ⟨c, c0, d', h⟩
      cases c with
      | zero => exact Or.inl h.1
      | succ c =>
        obtain ⟨h1, i, i0, i1, h⟩ := (STP_head c p d b d').mp h
        exact Or.inr ⟨h1, i, i0, i1, (ih _ _ _).mpr ⟨c, by omega, d', h⟩⟩
end ST
def zpd (f : Int → Int) (i v : Int) : Int → Int := fun j => if j = i then v else f j
theorem zpd_s {f : Int → Int} {i v : Int} : zpd f i v i = v := if_pos rfl
theorem zpd_n {f : Int → Int} {i v j : Int} (h : j ≠ i) : zpd f i v j = f j := if_neg h
theorem zu_f {G : zG} {k i v : Int} : zu G k i v k = zpd (G k) i v := funext fun j => by
  by_cases c : j = i
  · rw [c, zu_s, zpd_s]
  · rw [zu_j c, zpd_n c]
/-- the day that a mark stands for -/
def kdy (w : Int → Int) (d0 s : Int) : Int := if w 1 = 1 then (w ((116 + (4 * s)) + 1)) else d0
def BQ (w : Int → Int) (p0 d0 : Int) (pg dyy cc : Int → Int) (n : Int) (mk best : Int → Int) : Prop :=
  (1 ≤ n ∧ n ≤ 481) ∧ (pg 0 = p0 ∧ dyy 0 = d0 ∧ cc 0 = 0) ∧
  (∀ e, 0 ≤ e → e < n → STP w p0 d0 (cc e).toNat (pg e) (dyy e) ∧ (0 ≤ cc e ∧ cc e ≤ 6) ∧ okPD w (pg e) (dyy e) ∧ (w 1 ≠ 1 → dyy e = d0)) ∧
  (∀ e f, 0 ≤ e → e ≤ f → f < n → cc e ≤ cc f) ∧
  (∀ q s, 0 ≤ q → q < 8 → 0 ≤ s → s < 60 → (mk ((q * 60) + s) = 0 ∨ (mk ((q * 60) + s) = 1 ∧ ∃ e, 0 ≤ e ∧ e < n ∧ pg e = q ∧ dyy e = kdy w d0 s))) ∧
  cn (fun m => mk m ≠ 0) 480 = n - 1 ∧
  (∀ e, 0 ≤ e → e < n → best (pg e) ≤ cc e) ∧ (∀ q, 0 ≤ q → q < 8 → best q = 7 ∨ ∃ e, 0 ≤ e ∧ e < n ∧ pg e = q ∧ cc e = best q)
theorem BQ_b {w : Int → Int} {p0 d0 n : Int} {pg dyy cc mk best : Int → Int} (h : BQ w p0 d0 pg dyy cc n mk best) {q : Int} (q0 : 0 ≤ q) (q1 : q < 8) : 0 ≤ best q ∧ best q ≤ 7 := by
  rcases h.2.2.2.2.2.2.2 q q0 q1 with e | ⟨e, e0, e1, _, e3⟩
  · omega
  · have := (h.2.2.1 e e0 e1).2.1; omega
theorem BQ_push {w : Int → Int} (wf : WF w) {p0 d0 n q s dd c : Int} {pg dyy cc mk best : Int → Int} (h : BQ w p0 d0 pg dyy cc n mk best) (q0 : 0 ≤ q) (q1 : q < w 2) (s0 : 0 ≤ s) (s1 : s < 60) (hm : mk ((q * 60) + s) = 0) (hd : dd = kdy w d0 s) (hd2 : 0 ≤ dd ∧ dd ≤ 365) (hd3 : w 1 ≠ 1 → dd = d0) (hc : 0 ≤ c ∧ c ≤ 6) (hS : STP w p0 d0 c.toNat q dd) (hcc : ∀ e, 0 ≤ e → e < n → cc e ≤ c) : n < 481 ∧ BQ w p0 d0 (zpd pg n q) (zpd dyy n dd) (zpd cc n c) (n + 1) (zpd mk ((q * 60) + s) 1) (zpd best q (min (best q) c)) := by
  have n2 := (WF_n wf).2.2.1
  have hbq := BQ_b h (q := q) q0 (by omega)
  obtain ⟨⟨h1, h2⟩, ⟨h3, h4, h5⟩, h6, h7, h8, h9, h10, h11⟩ := h
  have ca := cn_add (P := fun m => zpd mk ((q * 60) + s) 1 m ≠ 0) (R := fun m => mk m ≠ 0) (a := (q * 60) + s) 480 (by omega) (by omega) (fun z => z hm) (fun t _ _ => by
    by_cases c : t = (q * 60) + s
    · rw [c, zpd_s]; exact ⟨fun _ => Or.inr rfl, fun _ => by omega⟩
    · rw [zpd_n c]; exact ⟨Or.inl, fun z => z.resolve_right c⟩)
  have cr := cn_rg (fun m => zpd mk ((q * 60) + s) 1 m ≠ 0) 480
  have hn : n < 481 := by omega
  have old : ∀ e, 0 ≤ e → e < n → zpd pg n q e = pg e ∧ zpd dyy n dd e = dyy e ∧ zpd cc n c e = cc e := fun e e0 e1 => ⟨zpd_n (by omega), zpd_n (by omega), zpd_n (by omega)⟩
  refine ⟨hn, ⟨by omega, by omega⟩, ?_, fun e e0 e1 => ?_, fun e f e0 ef f1 => ?_, fun q' s' q0' q1' s0' s1' => ?_, by omega, fun e e0 e1 => ?_, fun q' q0' q1' => ?_⟩
  · have := old 0 (by omega) (by omega)
    rw [this.1, this.2.1, this.2.2]; exact ⟨h3, h4, h5⟩
  · by_cases ce : e = n
    · rw [ce, zpd_s, zpd_s, zpd_s]; exact ⟨hS, hc, ⟨⟨q0, q1⟩, hd2⟩, hd3⟩
    · have := old e e0 (by omega)
      rw [this.1, this.2.1, this.2.2]; exact h6 e e0 (by omega)
  · by_cases cf : f = n
    · rw [cf, zpd_s]
      by_cases ce : e = n
      · rw [ce, zpd_s]; omega
      · rw [zpd_n ce]; exact hcc e e0 (by omega)
    · rw [zpd_n cf, zpd_n (by omega)]; exact h7 e f e0 ef (by omega)
  · by_cases cm : (q' * 60) + s' = (q * 60) + s
    · have e1 : q' = q := by omega
      have e2 : s' = s := by omega
      rw [cm, zpd_s]
      exact Or.inr ⟨rfl, n, by omega, by omega, by rw [zpd_s, e1], by rw [zpd_s, hd, e2]⟩
    · rw [zpd_n cm]
      refine (h8 q' s' q0' q1' s0' s1').imp id (fun ⟨h, e, e0, e1, e2, e3⟩ => ⟨h, e, e0, by omega, ?_, ?_⟩)
      · rw [(old e e0 e1).1]; exact e2
      · rw [(old e e0 e1).2.1]; exact e3
  · by_cases ce : e = n
    · rw [ce, zpd_s, zpd_s, zpd_s]; omega
    · have := old e e0 (by omega)
      rw [this.1, this.2.2]
      have hb := h10 e e0 (by omega)
      by_cases cq : pg e = q
      · rw [cq, zpd_s]; rw [cq] at hb; omega
      · rw [zpd_n cq]; exact hb
  · by_cases cq : q' = q
    · rw [cq, zpd_s]
      by_cases cm : best q ≤ c
      · rw [Int.min_eq_left cm]
        refine (h11 q q0 (by omega)).imp id (fun ⟨e, e0, e1, e2, e3⟩ => ⟨e, e0, by omega, ?_, ?_⟩)
        · rw [(old e e0 e1).1]; exact e2
        · rw [(old e e0 e1).2.2]; exact e3
      · rw [Int.min_eq_right (by omega)]
        exact Or.inr ⟨n, by omega, by omega, zpd_s, zpd_s⟩
    · rw [zpd_n cq]
      refine (h11 q' q0' q1').imp id (fun ⟨e, e0, e1, e2, e3⟩ => ⟨e, e0, by omega, ?_, ?_⟩)
      · rw [(old e e0 e1).1]; exact e2
      · rw [(old e e0 e1).2.2]; exact e3
/-- all done: distances are what they should be -/
theorem BQ_end {w : Int → Int} {p0 d0 n : Int} {pg dyy cc mk best : Int → Int} (h : BQ w p0 d0 pg dyy cc n mk best) (hp : ∀ e, 0 ≤ e → e < n → cc e < 6 → hbd w (pg e) (dyy e) ≠ -1 → ∀ i, 0 ≤ i → i < (w ((6 + (11 * (hbd w (pg e) (dyy e)))) + 2)) → ∃ f, 0 ≤ f ∧ f < n ∧ pg f = (w (((6 + (11 * (hbd w (pg e) (dyy e)))) + 7) + i)) ∧ dyy f = ndy w (pg e) (dyy e) ∧ cc f ≤ cc e + 1) : ∀ q, 0 ≤ q → q < 8 → ∀ k : Int, 0 ≤ k → k ≤ 6 → (RCH w k.toNat p0 d0 q ↔ best q ≤ k) := by
  have all : ∀ (c : Nat) (p d : Int), c ≤ 6 → STP w p0 d0 c p d → ∃ e, 0 ≤ e ∧ e < n ∧ pg e = p ∧ dyy e = d ∧ cc e ≤ c := by
    intro c
    induction c with
    | zero =>
      intro p d _ hs
      obtain ⟨e1, e2⟩ := hs
      exact ⟨0, by omega, by have := h.1; omega, by rw [e1]; exact h.2.1.1, by rw [e2]; exact h.2.1.2.1, by rw [h.2.1.2.2]; omega⟩
    | succ c ih =>
      intro p d c6 hs
      obtain ⟨p1, d1, g, h1, h2, i, i0, i1, h3⟩ := hs
      obtain ⟨e, e0, e1, e2, e3, e4⟩ := ih p1 d1 (by omega) g
      rw [← e2, ← e3] at h1 h2 i1 h3
      obtain ⟨f, f0, f1, f2, f3, f4⟩ := hp e e0 e1 (by omega) h1 i i0 i1
      exact ⟨f, f0, f1, by rw [f2]; exact h3, by rw [f3]; exact h2.symm, by omega⟩
  intro q q0 q1 k k0 k6
  rw [RCH_STP]
  constructor
  · rintro ⟨c, c0, d', hs⟩
    obtain ⟨e, e0, e1, e2, e3, e4⟩ := all c q d' (by omega) hs
    have := h.2.2.2.2.2.2.1 e e0 e1
    rw [e2] at this
    omega
  · intro hb
    obtain ⟨e, e0, e1, e2, e3⟩ := (h.2.2.2.2.2.2.2 q q0 q1).resolve_left (fun z => by omega)
    have hs := h.2.2.1 e e0 e1
    exact ⟨(cc e).toNat, by omega, dyy e, by rw [← e2]; exact hs.1⟩
