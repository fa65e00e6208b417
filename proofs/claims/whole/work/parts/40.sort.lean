/-! THE CLASS: an index is sorted -/
def SRT (P D : Int → Int) (n dr : Int) (o : Int → Int) (m : Int) : Prop := (∀ k, 0 ≤ k → k < m → 0 ≤ o k ∧ o k < n ∧ o k ≠ dr) ∧ (∀ t, 0 ≤ t → t < n → t ≠ dr → ∃ k, 0 ≤ k ∧ k < m ∧ o k = t) ∧ (∀ k k', 0 ≤ k → k < k' → k' < m → P (o k) * 1000 + D (o k) < P (o k') * 1000 + D (o k'))
theorem SRT_skip {P D o : Int → Int} {n dr m : Int} (h : SRT P D n dr o m) (e : n = dr) : SRT P D (n + 1) dr o m := by
  refine ⟨fun k k0 k1 => ?_, fun t t0 t1 t2 => h.2.1 t t0 (by omega) t2, h.2.2⟩
  have := h.1 k k0 k1
  exact ⟨this.1, by omega, this.2.2⟩
theorem SRT_ins {P D o o2 : Int → Int} {n dr m k : Int} (h : SRT P D n dr o m) (n0 : 0 ≤ n) (hn : n ≠ dr) (k0 : 0 ≤ k) (km : k ≤ m) (hlo : ∀ j, 0 ≤ j → j < k → o2 j = o j) (hk : o2 k = n) (hhi : ∀ j, k < j → j ≤ m → o2 j = o (j - 1)) (hb : ∀ j, 0 ≤ j → j < k → P (o j) * 1000 + D (o j) < P n * 1000 + D n) (hg : ∀ j, k ≤ j → j < m → P n * 1000 + D n < P (o j) * 1000 + D (o j)) : SRT P D (n + 1) dr o2 (m + 1) := by
  have cs : ∀ j, 0 ≤ j → j < m + 1 → (j < k ∧ o2 j = o j) ∨ (j = k ∧ o2 j = n) ∨ (k < j ∧ o2 j = o (j - 1)) := by
    intro j j0 j1
    rcases Int.lt_trichotomy j k with c | c | c
    · exact Or.inl ⟨c, hlo j j0 c⟩
    · exact Or.inr (Or.inl ⟨c, by rw [c]; exact hk⟩)
    · exact Or.inr (Or.inr ⟨c, hhi j c (by omega)⟩)
  refine ⟨fun j j0 j1 => ?_, fun t t0 t1 t2 => ?_, fun i j i0 ij j1 => ?_⟩
  · rcases cs j j0 j1 with ⟨c, e⟩ | ⟨c, e⟩ | ⟨c, e⟩
    · have := h.1 j j0 (by omega); rw [e]; exact ⟨this.1, by omega, this.2.2⟩
    · rw [e]; exact ⟨n0, by omega, hn⟩
    · have := h.1 (j - 1) (by omega) (by omega); rw [e]; exact ⟨this.1, by omega, this.2.2⟩
  · by_cases c : t = n
    · exact ⟨k, k0, by omega, by rw [hk, c]⟩
    · obtain ⟨j, j0, j1, e⟩ := h.2.1 t t0 (by omega) t2
      by_cases c2 : j < k
      · exact ⟨j, j0, by omega, by rw [hlo j j0 c2]; exact e⟩
      · exact ⟨j + 1, by omega, by omega, by rw [hhi (j + 1) (by omega) (by omega), show j + 1 - 1 = j by omega]; exact e⟩
  · rcases cs i i0 (by omega) with ⟨c, e⟩ | ⟨c, e⟩ | ⟨c, e⟩ <;> rcases cs j (by omega) j1 with ⟨c2, e2⟩ | ⟨c2, e2⟩ | ⟨c2, e2⟩ <;> rw [e, e2]
    · exact h.2.2 i j i0 ij (by omega)
    · exact hb i i0 c
    · exact h.2.2 i (j - 1) i0 (by omega) (by omega)
    · omega
    · omega
    · exact hg (j - 1) (by omega) (by omega)
    · omega
    · omega
    · exact h.2.2 (i - 1) (j - 1) (by omega) (by omega) (by omega)
/-- where the pages begin -/
def STS (P : Int → Int) (o st : Int → Int) (m q : Int) : Prop := ∀ p, 0 ≤ p → p < q → (0 ≤ st p ∧ st p ≤ m) ∧ ∀ j, 0 ≤ j → j < m → (P (o j) < p ↔ j < st p)
section CL
variable {d : Nat} {G : zG} {Q : zQ}
set_option maxHeartbeats 8000000 in
theorem c20 {a x dr : Int} (ha : 5 ≤ a ∧ a ≤ 54) (hx : 66 ≤ x ∧ x ≤ 79) (hof : G x 0 = a) (hn : 0 ≤ G a 5 ∧ G a 5 ≤ 60) (hdr : rg dr) (hP : ∀ t, 0 ≤ t → t < G a 5 → 0 ≤ G (a + 7) t ∧ G (a + 7) t < 8) (hD : ∀ t, 0 ≤ t → t < G a 5 → 0 ≤ G (a + 8) t ∧ G (a + 8) t ≤ 365) (hI : ∀ s t, 0 ≤ s → s < G a 5 → 0 ≤ t → t < G a 5 → G (a + 7) s = G (a + 7) t → G (a + 8) s = G (a + 8) t → s = t)
    (hQ : ∀ G1 m, fr G G1 (fun k _ => k = x + 1 ∨ k = x + 2) → 0 ≤ m → m ≤ G a 5 → SRT (G (a + 7)) (G (a + 8)) (G a 5) dr (G1 (x + 1)) m → STS (G (a + 7)) (G1 (x + 1)) (G1 (x + 2)) m 9 → Q none G1) : zW (d + 2) 20 [zr 1 0 x, zi dr] G Q := by
  have f0 : ∀ G1, fr G G1 (fun k _ => k = x + 1 ∨ k = x + 2) → G1 x 0 = a ∧ G1 a 5 = G a 5 ∧ G1 (a + 7) = G (a + 7) ∧ G1 (a + 8) = G (a + 8) := fun G1 h => ⟨(h _ _ (by omega)).trans hof, h _ _ (by omega), fr_k h (by omega), fr_k h (by omega)⟩
  have k92 : ∀ (m : Int), 0 ≤ m → m ≤ G a 5 → ∀ (r : Nat) (p k : Int) (G1 : zG), p + r = 9 → 0 ≤ p → 0 ≤ k → k ≤ m → fr G G1 (fun k _ => k = x + 1 ∨ k = x + 2) → SRT (G (a + 7)) (G (a + 8)) (G a 5) dr (G1 (x + 1)) m → STS (G (a + 7)) (G1 (x + 1)) (G1 (x + 2)) m p → (∀ j, 0 ≤ j → j < k → G (a + 7) (G1 (x + 1) j) < p) → ∀ l1, zAt xT_20 (zW (d + 1)) Q 92 [zr 1 0 x, l1, zi m, zi k, zi p] [] G1 := by
    intro m m0 m1 r
    induction r with
    | zero =>
      intro p k G1 hp p0 k0 km hf hS hT hlo l1
      have e : p = 9 := by omega
      subst e
      apply zs_20_92 <;> intros
      case h2 => exact hQ G1 m hf m0 m1 hS hT
      all_goals first | omega | (unfold rg; omega)
    | succ r ih =>
      intro p k G1 hp p0 k0 km hf hS hT hlo l1
      have inner : ∀ (z : Nat) (k : Int), k + z = m → 0 ≤ k → (∀ j, 0 ≤ j → j < k → G (a + 7) (G1 (x + 1) j) < p) → ∀ l1, zAt xT_20 (zW (d + 1)) Q 99 [zr 1 0 x, l1, zi m, zi k, zi p] [] G1 := by
        have done : ∀ k, 0 ≤ k → k ≤ m → (∀ j, 0 ≤ j → j < k → G (a + 7) (G1 (x + 1) j) < p) → (k < m → p ≤ G (a + 7) (G1 (x + 1) k)) → zAt xT_20 (zW (d + 1)) Q 92 [zr 1 0 x, z0, zi m, zi k, zi (p + 1)] [] (zu G1 (x + 2) p k) := by
          intro k k0 km hlo hge
          refine ih (p + 1) k _ (by omega) (by omega) k0 km (fr_u hf (Or.inr rfl)) (by rw [zu_k (by omega)]; exact hS) ?_ (fun j j0 j1 => by rw [zu_k (by omega)]; have := hlo j j0 j1; omega) _
          rw [zu_k (by omega)]
          intro q q0 q1
          by_cases c : q = p
          · rw [c, zu_s]
            refine ⟨⟨k0, km⟩, fun j j0 j1 => ⟨fun h => ?_, fun h => hlo j j0 h⟩⟩
            rcases Int.lt_or_le j k with c2 | c2
            · exact c2
            · exfalso
              have hge := hge (by omega)
              by_cases c3 : j = k
              · rw [c3] at h; omega
              · have h1 := hS.2.2 k j k0 (by omega) j1
                have a1 := hS.1 k k0 (by omega)
                have a2 := hS.1 j j0 j1
                have b1 := hD _ a1.1 a1.2.1
                have b2 := hD _ a2.1 a2.2.1
                omega
          · rw [zu_j c]; exact hT q q0 (by omega)
        intro z
        induction z with
        | zero =>
          intro k hk k0 hlo l1
          obtain ⟨y1, y2, y3, y4⟩ := f0 G1 hf
          apply zs_20_99 <;> intros
          case h3 => exact done k k0 (by omega) hlo (by omega)
          all_goals first | omega | (unfold rg; omega)
        | succ z ihz =>
          intro k hk k0 hlo l1
          obtain ⟨y1, y2, y3, y4⟩ := f0 G1 hf
          have a1 := hS.1 k k0 (by omega)
          have b1 := hP _ a1.1 a1.2.1
          apply zs_20_99 <;> intros
          case h6 => rw [y1, y3] at *; exact done k k0 (by omega) hlo (fun _ => by assumption)
          case h7 =>
            rename_i h
            rw [y1, y3] at h
            refine ihz (k + 1) (by omega) (by omega) (fun j j0 j1 => ?_) _
            by_cases c : j = k
            · rw [c]; exact h
            · exact hlo j j0 (by omega)
          case h4 => rw [y1, y3]; refine ⟨by omega, by omega, by omega, ?_, ?_⟩ <;> (unfold rg; omega)
          all_goals first | omega | (unfold rg; omega)
      apply zs_20_92 <;> intros
      case h3 => exact inner (m - k).toNat k (by omega) k0 hlo _
      all_goals first | omega | (unfold rg; omega)
  have k26 : ∀ (s m : Int) (o : Int → Int), 0 ≤ s → s < G a 5 → 0 ≤ m → m ≤ s → s ≠ dr → SRT (G (a + 7)) (G (a + 8)) s dr o m → (∀ G2, fr G G2 (fun k _ => k = x + 1 ∨ k = x + 2) → SRT (G (a + 7)) (G (a + 8)) (s + 1) dr (G2 (x + 1)) (m + 1) → ∀ l4, zAt xT_20 (zW (d + 1)) Q 4 [zr 1 0 x, zi dr, zi (m + 1), zi (s + 1), l4] [] G2) → ∀ (z : Nat) (G1 : zG), (z : Int) ≤ m → fr G G1 (fun k _ => k = x + 1 ∨ k = x + 2) → (∀ j : Int, 0 ≤ j → j < (z : Int) → G1 (x + 1) j = o j) → (∀ j, (z : Int) < j → j ≤ m → G1 (x + 1) j = o (j - 1)) → (∀ j, (z : Int) ≤ j → j < m → G (a + 7) s * 1000 + G (a + 8) s < G (a + 7) (o j) * 1000 + G (a + 8) (o j)) → zAt xT_20 (zW (d + 1)) Q 26 [zr 1 0 x, zi dr, zi m, zi s, zi z] [] G1 := by
    intro s m o s0 s1 m0 ms hs hS hnx z
    have ps := hP s s0 s1
    have ds := hD s s0 s1
    have done : ∀ (z : Nat) (G1 : zG), (z : Int) ≤ m → fr G G1 (fun k _ => k = x + 1 ∨ k = x + 2) → (∀ j : Int, 0 ≤ j → j < (z : Int) → G1 (x + 1) j = o j) → (∀ j, (z : Int) < j → j ≤ m → G1 (x + 1) j = o (j - 1)) → (∀ j, (z : Int) ≤ j → j < m → G (a + 7) s * 1000 + G (a + 8) s < G (a + 7) (o j) * 1000 + G (a + 8) (o j)) → ((z : Int) = 0 ∨ G (a + 7) (o (z - 1)) * 1000 + G (a + 8) (o (z - 1)) < G (a + 7) s * 1000 + G (a + 8) s) → zAt xT_20 (zW (d + 1)) Q 4 [zr 1 0 x, zi dr, zi (m + 1), zi (s + 1), zi z] [] (zu G1 (x + 1) z s) := by
      intro z G1 zm hf hlo hhi hg hz
      refine hnx _ (fr_u hf (Or.inl rfl)) (SRT_ins hS s0 hs (by omega) zm (fun j j0 j1 => by rw [zu_j (by omega)]; exact hlo j j0 j1) zu_s (fun j j0 j1 => by rw [zu_j (by omega)]; exact hhi j j0 j1) (fun j j0 j1 => ?_) hg) _
      rcases hz with hz | hz
      · omega
      · by_cases c : j = z - 1
        · rw [c]; exact hz
        · have := hS.2.2 j (z - 1) j0 (by omega) (by omega); omega
    induction z with
    | zero =>
      intro G1 zm hf hlo hhi hg
      apply zs_20_26 <;> intros
      case h3 => exact done 0 G1 zm hf hlo hhi hg (Or.inl rfl)
      all_goals first | omega | (unfold rg; omega)
    | succ z ih =>
      intro G1 zm hf hlo hhi hg
      obtain ⟨y1, y2, y3, y4⟩ := f0 G1 hf
      have e1 : ((z + 1 : Nat) : Int) - 1 = z := by omega
      have hz := hlo z (by omega) (by omega)
      have a1 := hS.1 z (by omega) (by omega)
      have p1 := hP _ a1.1 (by omega)
      have d1 := hD _ a1.1 (by omega)
      have nx : G (a + 7) s * 1000 + G (a + 8) s < G (a + 7) (o z) * 1000 + G (a + 8) (o z) → zAt xT_20 (zW (d + 1)) Q 26 [zr 1 0 x, zi dr, zi m, zi s, zi (((z + 1 : Nat) : Int) + -1)] [] (zu G1 (x + 1) ((z + 1 : Nat) : Int) (G1 (x + 1) (((z + 1 : Nat) : Int) - 1))) := by
        intro hlt
        rw [e1, hz, show ((z + 1 : Nat) : Int) + -1 = z by omega]
        refine ih _ (by omega) (fr_u hf (Or.inl rfl)) (fun j j0 j1 => by rw [zu_j (by omega)]; exact hlo j j0 (by omega)) (fun j j0 j1 => ?_) (fun j j0 j1 => ?_)
        · by_cases c : j = (z + 1 : Nat)
          · rw [c, zu_s, e1]
          · rw [zu_j c]; exact hhi j (by omega) j1
        · by_cases c : j = z
          · rw [c]; exact hlt
          · exact hg j (by omega) j1
      have fi : G (a + 7) (o z) * 1000 + G (a + 8) (o z) < G (a + 7) s * 1000 + G (a + 8) s → zAt xT_20 (zW (d + 1)) Q 4 [zr 1 0 x, zi dr, zi (m + 1), zi (s + 1), zi ((z + 1 : Nat) : Int)] [] (zu G1 (x + 1) ((z + 1 : Nat) : Int) s) := fun hlt => done (z + 1) G1 zm hf hlo hhi hg (Or.inr (by rw [e1]; exact hlt))
      have hne : ¬ (G (a + 7) (o z) = G (a + 7) s ∧ G (a + 8) (o z) = G (a + 8) s) := fun e => by
        have := hI (o z) s a1.1 (by omega) s0 s1 e.1 e.2; omega
      apply zs_20_26 <;> intros
      case h7 => rw [e1, hz, y1, y3, y4] at *; exact fi (by omega)
      case h11 => rw [e1, hz, y1, y3] at *; exact fi (by omega)
      case h9 => have h1 := nx; rw [e1, hz, y1, y3, y4] at *; exact h1 (by omega)
      case h13 => have h1 := nx; rw [e1, hz, y1, y3] at *; exact h1 (by omega)
      case h4 => rw [e1, hz, y1, y3]; refine ⟨by omega, by omega, by omega, by omega, ?_, ?_⟩ <;> (unfold rg; omega)
      case h5 => rw [e1, hz, y1, y4]; refine ⟨?_, ?_⟩ <;> (unfold rg; omega)
      all_goals first | omega | (unfold rg; omega)
  have k4 : ∀ (r : Nat) (s m : Int) (G1 : zG), s + r = G a 5 → 0 ≤ s → 0 ≤ m → m ≤ s → fr G G1 (fun k _ => k = x + 1 ∨ k = x + 2) → SRT (G (a + 7)) (G (a + 8)) s dr (G1 (x + 1)) m → ∀ l4, zAt xT_20 (zW (d + 1)) Q 4 [zr 1 0 x, zi dr, zi m, zi s, l4] [] G1 := by
    intro r
    induction r with
    | zero =>
      intro s m G1 hr s0 m0 ms hf hS l4
      obtain ⟨y1, y2, y3, y4⟩ := f0 G1 hf
      have e : s = G a 5 := by omega
      subst e
      apply zs_20_4 <;> intros
      case h2 => exact k92 m m0 ms 9 0 0 G1 (by omega) (by omega) (by omega) m0 hf hS (fun q q0 q1 => by omega) (fun j j0 j1 => by omega) _
      case h1 => rw [y1, y2]; refine ⟨by omega, ?_, ?_⟩ <;> (unfold rg; omega)
      all_goals (rw [y1, y2] at *; omega)
    | succ r ih =>
      intro s m G1 hr s0 m0 ms hf hS l4
      obtain ⟨y1, y2, y3, y4⟩ := f0 G1 hf
      apply zs_20_4 <;> intros
      case h1 => rw [y1, y2]; refine ⟨by omega, ?_, ?_⟩ <;> (unfold rg; omega)
      case h2 => rw [y1, y2] at *; omega
      case h3 => exact hdr
      case h5 => exact ih (s + 1) m G1 (by omega) (by omega) m0 (by omega) hf (SRT_skip hS (by assumption)) _
      case h4 =>
        have := k26 s m (G1 (x + 1)) s0 (by omega) m0 ms (by assumption) hS (fun G2 h2 hS2 l4 => ih (s + 1) (m + 1) G2 (by omega) (by omega) (by omega) (by omega) h2 hS2 l4) m.toNat G1 (by omega) hf (fun j _ _ => rfl) (fun j j0 j1 => by omega) (fun j j0 j1 => by omega)
        rw [Int.toNat_of_nonneg m0] at this
        exact this
  refine zm_20 (zs_20_0 (k4 (G a 5).toNat 0 0 G (by omega) (by omega) (by omega) (by omega) (fr_refl _ _) ⟨fun k k0 k1 => by omega, fun t t0 t1 => by omega, fun k k' k0 k1 k2 => by omega⟩ _))
end CL
