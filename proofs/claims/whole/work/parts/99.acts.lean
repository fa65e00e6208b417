/-! ACTS: what each of them takes back -/
def c0 (v : Int → Int) : Int → Int := cut (fun _ => 0) v
theorem c0_in {v : Int → Int} {j : Int} (h : 0 ≤ j ∧ j < 356) : c0 v j = v j := cut_in h
def ACTR (G : zG) (L i : Int) (v u : Int → Int) : Prop :=
  (G L (i * 6) = 0 ∧ G L (i * 6 + 1) = v 4 ∧ u 4 = v 4 + 1 ∧ ∀ j, 0 ≤ j → j < 116 + 4 * v 4 → j ≠ 4 → u j = v j) ∨
  (G L (i * 6) = 1 ∧ (0 ≤ G L (i * 6 + 1) ∧ G L (i * 6 + 1) < v 4) ∧ u 4 = v 4 - 1 ∧ (∀ j, 0 ≤ j → j < 116 + 4 * G L (i * 6 + 1) → j ≠ 4 → u j = v j) ∧ (∀ j, 116 + 4 * G L (i * 6 + 1) ≤ j → j < 116 + 4 * (v 4 - 1) → u j = v (j + 4)) ∧ G L (i * 6 + 2) = (v (116 + (4 * (G L (i * 6 + 1))))) ∧ G L (i * 6 + 3) = (v ((116 + (4 * (G L (i * 6 + 1)))) + 1)) ∧ G L (i * 6 + 4) = (v ((116 + (4 * (G L (i * 6 + 1)))) + 2)) ∧ ((v ((116 + (4 * (G L (i * 6 + 1)))) + 2)) = 0 ∨ (v ((116 + (4 * (G L (i * 6 + 1)))) + 2)) = 2 → G L (i * 6 + 5) = (v ((116 + (4 * (G L (i * 6 + 1)))) + 3)))) ∨
  (G L (i * 6) = 2 ∧ G L (i * 6 + 2) = v 0 ∧ G L (i * 6 + 3) = v 1 ∧ ∀ j, 2 ≤ j → j < 116 + 4 * v 4 → u j = v j)
theorem ACTR_of {G G1 : zG} {L M i : Int} {v u v2 u2 : Int → Int} (wv : WF v) (wu : WF u) (h : ACTR G L i v u) (e : ∀ c, 0 ≤ c → c < 6 → G1 M (i * 6 + c) = G L (i * 6 + c)) (ev : ∀ j, 0 ≤ j → j < 356 → v2 j = v j) (eu : ∀ j, 0 ≤ j → j < 356 → u2 j = u j) : ACTR G1 M i v2 u2 := by
  have nv := (WF_n wv).2.2.2.2.1
  have nu := (WF_n wu).2.2.2.2.1
  have e0 : G1 M (i * 6) = G L (i * 6) := by have := e 0 (by omega) (by omega); rw [Int.add_zero] at this; exact this
  have e4 := ev 4 (by omega) (by omega)
  have u4 := eu 4 (by omega) (by omega)
  unfold ACTR
  rw [e0, e 1 (by omega) (by omega), e 2 (by omega) (by omega), e 3 (by omega) (by omega), e 4 (by omega) (by omega), e 5 (by omega) (by omega), e4, u4]
  rcases h with ⟨h1, h2, h3, h4⟩ | ⟨h1, h2, h3, h4, h5, h6, h7, h8, h9⟩ | ⟨h1, h2, h3, h4⟩
  · exact Or.inl ⟨h1, h2, h3, fun j j0 j1 j4 => by rw [eu _ (by omega) (by omega), ev _ (by omega) (by omega)]; exact h4 j j0 j1 j4⟩
  · refine Or.inr (Or.inl ⟨h1, h2, h3, fun j j0 j1 j4 => by rw [eu _ (by omega) (by omega), ev _ (by omega) (by omega)]; exact h4 j j0 j1 j4, fun j j0 j1 => by rw [eu _ (by omega) (by omega), ev _ (by omega) (by omega)]; exact h5 j j0 j1, ?_, ?_, ?_, ?_⟩)
    · rw [ev _ (by omega) (by omega)]; exact h6
    · rw [ev _ (by omega) (by omega)]; exact h7
    · rw [ev _ (by omega) (by omega)]; exact h8
    · rw [ev _ (by omega) (by omega), ev _ (by omega) (by omega)]; exact h9
  · exact Or.inr (Or.inr ⟨h1, by rw [ev _ (by omega) (by omega)]; exact h2, by rw [ev _ (by omega) (by omega)]; exact h3, fun j j0 j1 => by rw [eu _ (by omega) (by omega), ev _ (by omega) (by omega)]; exact h4 j j0 j1⟩)
theorem EQB_cong {w u : Int → Int} (wf : WF w) (e : ∀ j, 6 ≤ j → j < 116 → u j = w j) {a b : Int} (a0 : 0 ≤ a ∧ a < w 3) (b0 : 0 ≤ b ∧ b < w 3) : EQB u a b ↔ EQB w a b := by
  have n3 := (WF_n wf).2.2.2.1
  have wa := WF_b wf a0.1 a0.2
  unfold EQB
  rw [e (6 + (11 * a)) (by omega) (by omega), e (6 + (11 * b)) (by omega) (by omega), e ((6 + (11 * a)) + 1) (by omega) (by omega), e ((6 + (11 * b)) + 1) (by omega) (by omega), e ((6 + (11 * a)) + 2) (by omega) (by omega), e ((6 + (11 * b)) + 2) (by omega) (by omega)]
  have h1 : (∀ i, 0 ≤ i → i < (w ((6 + (11 * a)) + 1)) → (u (((6 + (11 * a)) + 3) + i)) = (u (((6 + (11 * b)) + 3) + i))) ↔ (∀ i, 0 ≤ i → i < (w ((6 + (11 * a)) + 1)) → (w (((6 + (11 * a)) + 3) + i)) = (w (((6 + (11 * b)) + 3) + i))) := by
    constructor
    · intro h i i0 i1
      have := h i i0 i1
      rw [e _ (by omega) (by omega), e _ (by omega) (by omega)] at this
      exact this
    · intro h i i0 i1
      rw [e _ (by omega) (by omega), e _ (by omega) (by omega)]
      exact h i i0 i1
  have h2 : (∀ i, 0 ≤ i → i < (w ((6 + (11 * a)) + 2)) → (u (((6 + (11 * a)) + 7) + i)) = (u (((6 + (11 * b)) + 7) + i))) ↔ (∀ i, 0 ≤ i → i < (w ((6 + (11 * a)) + 2)) → (w (((6 + (11 * a)) + 7) + i)) = (w (((6 + (11 * b)) + 7) + i))) := by
    constructor
    · intro h i i0 i1
      have := h i i0 i1
      rw [e _ (by omega) (by omega), e _ (by omega) (by omega)] at this
      exact this
    · intro h i i0 i1
      rw [e _ (by omega) (by omega), e _ (by omega) (by omega)]
      exact h i i0 i1
  rw [h1, h2]
theorem lq_cong {w u : Int → Int} (wf : WF w) (e : ∀ j, 6 ≤ j → j < 116 → u j = w j) {b : Int} (b0 : 0 ≤ b ∧ b < w 3) : lq u b = lq w b := by
  obtain ⟨h1, h2, h3, h4⟩ := lq_is (w := w) b0.1
  exact lq_eq ⟨h1, h2, (EQB_cong wf e ⟨h1, by omega⟩ b0).mpr h3, fun c c0 c1 hc => h4 c c0 c1 ((EQB_cong wf e ⟨c0, by omega⟩ b0).mp hc)⟩
/-- other shots, the same bodies -/
theorem ARC_re {G G1 : zG} {a : Int} {w u : Int → Int} (wf : WF w) (h : ARC G a w) (e : ∀ j, 2 ≤ j → j < 116 → j ≠ 4 → u j = w j) (ek : ∀ k j, a + 1 ≤ k → k ≤ a + 6 → G1 k j = G k j) (e3 : G1 a 3 = G a 3) (e4 : G1 a 4 = G a 4) (e5 : G1 a 5 = u 4) (hs : ∀ s, 0 ≤ s → s < u 4 → SH1 G1 a u s) : ARC G1 a u := by
  obtain ⟨h1, h2, h3, h4, h5⟩ := h
  have nn := WF_n wf
  refine ⟨by rw [e3, e _ (by omega) (by omega) (by omega)]; exact h1, by rw [e4, e _ (by omega) (by omega) (by omega)]; exact h2, e5, fun b b0 b1 => ?_, fun s s0 s1 => hs s s0 s1⟩
  rw [e 3 (by omega) (by omega) (by omega)] at b1
  have wb := WF_b wf b0 b1
  obtain ⟨q1, q2, q3, q4, q5, q6⟩ := h4 b b0 b1
  rw [lq_cong wf (fun j j0 j1 => e j (by omega) j1 (by omega)) ⟨b0, b1⟩, ek _ _ (by omega) (by omega), ek _ _ (by omega) (by omega), ek _ _ (by omega) (by omega), ek _ _ (by omega) (by omega), e (6 + (11 * b)) (by omega) (by omega) (by omega), e ((6 + (11 * b)) + 1) (by omega) (by omega) (by omega), e ((6 + (11 * b)) + 2) (by omega) (by omega) (by omega)]
  exact ⟨q1, q2, q3, q4, fun i i0 i1 => by rw [ek _ _ (by omega) (by omega), e _ (by omega) (by omega) (by omega)]; exact q5 i i0 i1, fun i i0 i1 => by rw [ek _ _ (by omega) (by omega), e _ (by omega) (by omega) (by omega)]; exact q6 i i0 i1⟩
/-- an archive of the class at key a: its world, its acts, what was before each -/
def HS (G : zG) (a : Int) (W : Int → Int) (m : Int) (P : Int → Int → Int) : Prop := WF W ∧ ARC G a W ∧ (G a 0 = W 0 ∧ G a 1 = W 1 ∧ G a 2 = W 5) ∧ (G a 6 = m ∧ 0 ≤ m ∧ m ≤ 20) ∧ BND G a ∧ ∀ i, 0 ≤ i → i < m → WF (P i) ∧ P i 5 = W 5 ∧ ACTR G (a + 11) i (P i) (if i + 1 = m then W else P (i + 1))
theorem HS_next {G : zG} {a m i : Int} {W : Int → Int} {P : Int → Int → Int} (h : HS G a W m P) (i0 : 0 ≤ i) (i1 : i < m) : WF (if i + 1 = m then W else P (i + 1)) := by
  split
  · exact h.1
  · exact (h.2.2.2.2.2 (i + 1) (by omega) (by omega)).1
theorem HS_cong {G : zG} {a m : Int} {W U : Int → Int} {P R : Int → Int → Int} (h : HS G a W m P) (hU : ∀ j, rg (U j)) (eU : ∀ j, 0 ≤ j → j < 356 → U j = W j) (hR : ∀ i, 0 ≤ i → i < m → ∀ j, rg (R i j)) (eR : ∀ i, 0 ≤ i → i < m → ∀ j, 0 ≤ j → j < 356 → R i j = P i j) : HS G a U m R := by
  obtain ⟨h1, h2, h3, h4, h5, h6⟩ := h
  have n1 := WF_n h1
  have wfc : ∀ {w u : Int → Int}, WF w → (∀ j, rg (u j)) → (∀ j, 0 ≤ j → j < 356 → u j = w j) → WF u := fun {w u} wf hr e => by
    obtain ⟨n0, n1, n2, n3, n4, n5⟩ := WF_n wf
    exact WF_of wf hr (by rw [e _ (by omega) (by omega)]; exact n0) (by rw [e _ (by omega) (by omega)]; exact n1) (by rw [e _ (by omega) (by omega)]; omega) (e _ (by omega) (by omega)) (e _ (by omega) (by omega)) (by rw [e _ (by omega) (by omega)]; exact n5) (fun j j0 j1 => e _ (by omega) (by omega)) (fun j j0 j1 => e _ (by omega) (by omega))
  refine ⟨wfc h1 hU eU, ?_, by rw [eU _ (by omega) (by omega), eU _ (by omega) (by omega), eU _ (by omega) (by omega)]; exact h3, h4, h5, fun i i0 i1 => ?_⟩
  · refine ARC_re h1 h2 (fun j j0 j1 _ => eU j (by omega) (by omega)) (fun _ _ _ _ => rfl) rfl rfl (by rw [eU _ (by omega) (by omega)]; exact h2.2.2.1) (fun s s0 s1 => ?_)
    rw [eU _ (by omega) (by omega)] at s1
    exact SH1_of (G := G) (w := W) (h2.2.2.2.2 s s0 s1) (fun _ _ _ => rfl) (fun j j0 j1 => eU j (by omega) (by omega))
  · obtain ⟨q1, q2, q3⟩ := h6 i i0 i1
    refine ⟨wfc q1 (hR i i0 i1) (eR i i0 i1), by rw [eR i i0 i1 5 (by omega) (by omega), eU _ (by omega) (by omega)]; exact q2, ?_⟩
    by_cases c : i + 1 = m
    · rw [if_pos c] at q3 ⊢
      exact ACTR_of q1 h1 q3 (fun _ _ _ => rfl) (eR i i0 i1) eU
    · rw [if_neg c] at q3 ⊢
      exact ACTR_of q1 (h6 (i + 1) (by omega) (by omega)).1 q3 (fun _ _ _ => rfl) (eR i i0 i1) (eR (i + 1) (by omega) (by omega))
section CL
variable {d : Nat} {G : zG} {Q : zQ} {a : Int}
/-- the shot x onto the place t -/
def mv (G : zG) (a x t : Int) : zG := fun k j => if (a + 7 ≤ k ∧ k ≤ a + 10) ∧ j = t then G k x else G k j
theorem mv_eq (G : zG) (a x t : Int) : zu (zu (zu (zu G (a + 7) t (G (a + 7) x)) (a + 8) t ((zu G (a + 7) t (G (a + 7) x)) (a + 8) x)) (a + 9) t ((zu (zu G (a + 7) t (G (a + 7) x)) (a + 8) t ((zu G (a + 7) t (G (a + 7) x)) (a + 8) x)) (a + 9) x)) (a + 10) t ((zu (zu (zu G (a + 7) t (G (a + 7) x)) (a + 8) t ((zu G (a + 7) t (G (a + 7) x)) (a + 8) x)) (a + 9) t ((zu (zu G (a + 7) t (G (a + 7) x)) (a + 8) t ((zu G (a + 7) t (G (a + 7) x)) (a + 8) x)) (a + 9) x)) (a + 10) x) = mv G a x t := by
  have e8 : (zu G (a + 7) t (G (a + 7) x)) (a + 8) x = G (a + 8) x := zu_kj (by omega)
  rw [e8]
  have e9 : (zu (zu G (a + 7) t (G (a + 7) x)) (a + 8) t (G (a + 8) x)) (a + 9) x = G (a + 9) x := by rw [zu_kj (by omega), zu_kj (by omega)]
  rw [e9]
  have e10 : (zu (zu (zu G (a + 7) t (G (a + 7) x)) (a + 8) t (G (a + 8) x)) (a + 9) t (G (a + 9) x)) (a + 10) x = G (a + 10) x := by rw [zu_kj (by omega), zu_kj (by omega), zu_kj (by omega)]
  rw [e10]
  funext k j
  unfold mv
  by_cases c : (a + 7 ≤ k ∧ k ≤ a + 10) ∧ j = t
  · rw [if_pos c]
    have hk : k = a + 7 ∨ k = a + 8 ∨ k = a + 9 ∨ k = a + 10 := by omega
    rcases hk with hk | hk | hk | hk
    · rw [hk, c.2, zu_kj (by omega), zu_kj (by omega), zu_kj (by omega), zu_s]
    · rw [hk, c.2, zu_kj (by omega), zu_kj (by omega), zu_s]
    · rw [hk, c.2, zu_kj (by omega), zu_s]
    · rw [hk, c.2, zu_s]
  · rw [if_neg c]
    have g : ∀ (H : zG) (q v : Int), a + 7 ≤ q → q ≤ a + 10 → zu H q t v k j = H k j := fun H q v q0 q1 => if_neg (by omega)
    rw [g _ _ _ (by omega) (by omega), g _ _ _ (by omega) (by omega), g _ _ _ (by omega) (by omega), g _ _ _ (by omega) (by omega)]
/-- what a shot less leaves: m shots before -/
def RM (G G1 : zG) (a s m : Int) : Prop := G1 a 5 = m - 1 ∧ (∀ k j, ¬ (a + 7 ≤ k ∧ k ≤ a + 10) → ¬ (k = a ∧ j = 5) → G1 k j = G k j) ∧ (∀ k j, a + 7 ≤ k → k ≤ a + 10 → 0 ≤ j → j < s → G1 k j = G k j) ∧ (∀ k j, a + 7 ≤ k → k ≤ a + 10 → s ≤ j → j < m - 1 → G1 k j = G k (j + 1))
set_option maxHeartbeats 4000000 in
theorem c11 {s m : Int} (h5 : G a 5 = m) (s0 : 0 ≤ s ∧ s < m) (m1 : m ≤ 60) (hQ : ∀ G1, RM G G1 a s m → Q none G1) : zW (d + 2) 11 [zr 0 0 a, zi s] G Q := by
  refine zm_11 (zs_11_0 ?_)
  rw [h5]
  have key : ∀ (rem : Nat) (t : Int) (G1 : zG), t + rem = m - 1 → s ≤ t → G1 a 5 = m - 1 → (∀ k j, ¬ (a + 7 ≤ k ∧ k ≤ a + 10) → ¬ (k = a ∧ j = 5) → G1 k j = G k j) → (∀ k j, a + 7 ≤ k → k ≤ a + 10 → (j < s ∨ t ≤ j) → G1 k j = G k j) → (∀ k j, a + 7 ≤ k → k ≤ a + 10 → s ≤ j → j < t → G1 k j = G k (j + 1)) → ∀ l1, zAt xT_11 (zW (d + 1)) Q 12 [zr 0 0 a, l1, zi t] [] G1 := by
    intro rem
    induction rem with
    | zero =>
      intro t G1 ht hst e5 e0 e1 e2 l1
      have ht : t = m - 1 := by simpa using ht
      apply zs_11_12 <;> intros
      case h2 => exact hQ G1 ⟨e5, e0, fun k j k0 k1 j0 j1 => e1 k j k0 k1 (Or.inl j1), fun k j k0 k1 j0 j1 => e2 k j k0 k1 j0 (by omega)⟩
      all_goals first | omega | (repeat' first | exact hrg _ | assumption | (unfold rg; omega) | omega | refine And.intro ?_ ?_)
    | succ rem ih =>
      intro t G1 ht hst e5 e0 e1 e2 l1
      apply zs_11_12 <;> intros
      case h4 =>
        rw [mv_eq]
        have g : ∀ k j, ¬ ((a + 7 ≤ k ∧ k ≤ a + 10) ∧ j = t) → mv G1 a (t + 1) t k j = G1 k j := fun k j h => if_neg h
        have g2 : ∀ k, a + 7 ≤ k → k ≤ a + 10 → mv G1 a (t + 1) t k t = G1 k (t + 1) := fun k k0 k1 => if_pos ⟨⟨k0, k1⟩, rfl⟩
        refine ih (t + 1) _ (by omega) (by omega) (by rw [g _ _ (by omega)]; exact e5) (fun k j h1 h2 => by rw [g _ _ (by omega)]; exact e0 k j h1 h2) (fun k j k0 k1 hj => by rw [g _ _ (by omega)]; exact e1 k j k0 k1 (by omega)) (fun k j k0 k1 j0 j1 => ?_) _
        by_cases c : j = t
        · rw [c, g2 k k0 k1]; exact e1 k _ k0 k1 (by omega)
        · rw [g _ _ (by omega)]; exact e2 k j k0 k1 j0 (by omega)
      all_goals first | omega | (repeat' first | exact hrg _ | assumption | (unfold rg; omega) | omega | refine And.intro ?_ ?_)
  exact key (m - 1 - s).toNat s _ (by omega) (by omega) zu_s (fun k j h1 h2 => if_neg h2) (fun k j k0 k1 hj => zu_kj (by omega)) (fun k j k0 k1 j0 j1 => by omega) _
/-- a shot more, at s -/
def PT (G G1 : zG) (a s m p y k o : Int) : Prop := G1 a 5 = m + 1 ∧ (∀ q j, ¬ (a + 7 ≤ q ∧ q ≤ a + 10) → ¬ (q = a ∧ j = 5) → G1 q j = G q j) ∧ (∀ q j, a + 7 ≤ q → q ≤ a + 10 → 0 ≤ j → j < s → G1 q j = G q j) ∧ (∀ q j, a + 7 ≤ q → q ≤ a + 10 → s < j → j ≤ m → G1 q j = G q (j - 1)) ∧ G1 (a + 7) s = p ∧ G1 (a + 8) s = y ∧ G1 (a + 9) s = k ∧ G1 (a + 10) s = o
set_option maxHeartbeats 4000000 in
theorem c10 {s m p y k o : Int} (h5 : G a 5 = m) (s0 : 0 ≤ s ∧ s ≤ m) (m1 : m < 60) (hQ : ∀ G1, PT G G1 a s m p y k o → Q none G1) : zW (d + 2) 10 [zr 0 0 a, zi s, zi p, zi y, zi k, zi o] G Q := by
  refine zm_10 (zs_10_0 ?_)
  rw [h5]
  have key : ∀ (rem : Nat) (t : Int) (G1 : zG), s + rem = t → t ≤ m → (∀ q j, ¬ (a + 7 ≤ q ∧ q ≤ a + 10) → G1 q j = G q j) → (∀ q j, a + 7 ≤ q → q ≤ a + 10 → j ≤ t → G1 q j = G q j) → (∀ q j, a + 7 ≤ q → q ≤ a + 10 → t < j → j ≤ m → G1 q j = G q (j - 1)) → zAt xT_10 (zW (d + 1)) Q 6 [zr 0 0 a, zi s, zi p, zi y, zi k, zi o, zi t] [] G1 := by
    intro rem
    induction rem with
    | zero =>
      intro t G1 ht htm e0 e1 e2
      have ht : s = t := by simpa using ht
      have e5 : G1 a 5 = m := (e0 _ _ (by omega)).trans h5
      apply zs_10_6 <;> intros
      case h3 =>
        rw [zu_kj (by omega), zu_kj (by omega), zu_kj (by omega), zu_kj (by omega), e5]
        refine hQ _ ⟨zu_s, fun q j h1 h2 => ?_, fun q j q0 q1 j0 j1 => ?_, fun q j q0 q1 j0 j1 => ?_, ?_, ?_, ?_, ?_⟩
        · rw [show ∀ H : zG, zu H a 5 (m + 1) q j = H q j from fun H => if_neg h2, zu_kj (by omega), zu_kj (by omega), zu_kj (by omega), zu_kj (by omega)]; exact e0 q j h1
        · rw [zu_kj (by omega), zu_j (by omega), zu_j (by omega), zu_j (by omega), zu_j (by omega)]; exact e1 q j q0 q1 (by omega)
        · rw [zu_kj (by omega), zu_j (by omega), zu_j (by omega), zu_j (by omega), zu_j (by omega)]; exact e2 q j q0 q1 (by omega) j1
        · rw [zu_kj (by omega), zu_kj (by omega), zu_kj (by omega), zu_kj (by omega), zu_s]
        · rw [zu_kj (by omega), zu_kj (by omega), zu_kj (by omega), zu_s]
        · rw [zu_kj (by omega), zu_kj (by omega), zu_s]
        · rw [zu_kj (by omega), zu_s]
      all_goals first | omega | (repeat' first | exact hrg _ | assumption | (unfold rg; omega) | omega | refine And.intro ?_ ?_)
    | succ rem ih =>
      intro t G1 ht htm e0 e1 e2
      apply zs_10_6 <;> intros
      case h5 =>
        rw [mv_eq]
        have g : ∀ q j, ¬ ((a + 7 ≤ q ∧ q ≤ a + 10) ∧ j = t) → mv G1 a (t - 1) t q j = G1 q j := fun q j h => if_neg h
        have g2 : ∀ q, a + 7 ≤ q → q ≤ a + 10 → mv G1 a (t - 1) t q t = G1 q (t - 1) := fun q k0 k1 => if_pos ⟨⟨k0, k1⟩, rfl⟩
        refine ih (t + (-1)) _ (by omega) (by omega) (fun q j h1 => by rw [g _ _ (by omega)]; exact e0 q j h1) (fun q j q0 q1 hj => by rw [g _ _ (by omega)]; exact e1 q j q0 q1 (by omega)) (fun q j q0 q1 j0 j1 => ?_)
        by_cases c : j = t
        · rw [c, g2 q q0 q1]; exact e1 q _ q0 q1 (by omega)
        · rw [g _ _ (by omega)]; exact e2 q j q0 q1 (by omega) j1
      all_goals first | omega | (repeat' first | exact hrg _ | assumption | (unfold rg; omega) | omega | refine And.intro ?_ ?_)
  exact key (m - s).toNat m G (by omega) (by omega) (fun _ _ _ => rfl) (fun _ _ _ _ _ => rfl) (fun q j q0 q1 j0 j1 => by omega)
end CL
