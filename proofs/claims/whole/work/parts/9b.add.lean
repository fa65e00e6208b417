/-! ACTS by the class: add, drop, rule -/
theorem zu_ne {G : zG} {q i v k j : Int} (h : ¬ (k = q ∧ j = i)) : zu G q i v k j = G k j := if_neg h
def rmS (w : Int → Int) (s : Int) : Int → Int := fun j => if j = 4 then w 4 - 1 else if 116 + 4 * s ≤ j ∧ j < 116 + 4 * (w 4 - 1) then w (j + 4) else w j
theorem rmS_4 {w : Int → Int} {s : Int} : rmS w s 4 = w 4 - 1 := if_pos rfl
theorem rmS_lo {w : Int → Int} {s j : Int} (h4 : j ≠ 4) (h : j < 116 + 4 * s) : rmS w s j = w j := by unfold rmS; rw [if_neg h4, if_neg (by omega)]
theorem rmS_hi {w : Int → Int} {s j : Int} (s0 : 0 ≤ s) (h1 : 116 + 4 * s ≤ j) (h2 : j < 116 + 4 * (w 4 - 1)) : rmS w s j = w (j + 4) := by unfold rmS; rw [if_neg (by omega), if_pos ⟨h1, h2⟩]
theorem WF_rm {w : Int → Int} (wf : WF w) {s : Int} (s0 : 0 ≤ s ∧ s < w 4) : WF (rmS w s) := by
  obtain ⟨n0, n1, n2, n3, n4, n5⟩ := WF_n wf
  have lo : ∀ j, j ≠ 4 → j < 116 → rmS w s j = w j := fun j h4 h => rmS_lo h4 (by omega)
  have cell : ∀ t c, 0 ≤ t → t < w 4 - 1 → 0 ≤ c → c < 4 → rmS w s (116 + (4 * t) + c) = w (116 + (4 * (if t < s then t else t + 1)) + c) := fun t c t0 t1 c0 c1 => by
    by_cases h : t < s
    · rw [if_pos h, rmS_lo (by omega) (by omega)]
    · rw [if_neg h, rmS_hi s0.1 (by omega) (by omega)]; congr 1; omega
  have c0 : ∀ t, 0 ≤ t → t < w 4 - 1 → rmS w s (116 + (4 * t)) = (w (116 + (4 * (if t < s then t else t + 1)))) := fun t t0 t1 => by have := cell t 0 t0 t1 (by omega) (by omega); rw [Int.add_zero, Int.add_zero] at this; exact this
  have hr : ∀ j, rg (rmS w s j) := fun j => by
    unfold rmS
    split
    · exact ⟨by omega, by omega⟩
    · split <;> exact WF_rg wf _
  refine ⟨hr, by rw [lo _ (by omega) (by omega)]; exact n0, by rw [lo _ (by omega) (by omega)]; exact n1, by rw [lo _ (by omega) (by omega)]; exact n2, by rw [lo _ (by omega) (by omega)]; exact n3, by rw [rmS_4]; omega, by rw [lo _ (by omega) (by omega)]; exact n5, fun t t0 t1 => ?_, fun t x t0 t1 x0 x1 e1 e2 => ?_, fun b b0 b1 => ?_⟩
  · rw [rmS_4] at t1
    rw [c0 t t0 t1, cell t 1 t0 t1 (by omega) (by omega), cell t 2 t0 t1 (by omega) (by omega), cell t 3 t0 t1 (by omega) (by omega), lo 2 (by omega) (by omega), lo 3 (by omega) (by omega)]
    exact WF_s wf (s := if t < s then t else t + 1) (by split <;> omega) (by split <;> omega)
  · rw [rmS_4] at t1 x1
    rw [c0 t t0 t1, c0 x x0 x1] at e1
    rw [cell t 1 t0 t1 (by omega) (by omega), cell x 1 x0 x1 (by omega) (by omega)] at e2
    have := WF_d wf (s := if t < s then t else t + 1) (t := if x < s then x else x + 1) (by split <;> omega) (by split <;> omega) (by split <;> omega) (by split <;> omega) e1 e2
    split at this <;> split at this <;> omega
  · rw [lo 3 (by omega) (by omega)] at b1
    have wb := WF_b wf b0 b1
    rw [lo 2 (by omega) (by omega), lo (6 + (11 * b)) (by omega) (by omega), lo ((6 + (11 * b)) + 1) (by omega) (by omega), lo ((6 + (11 * b)) + 2) (by omega) (by omega)]
    exact ⟨wb.1, wb.2.1, wb.2.2.1, fun i i0 i1 => by rw [lo _ (by omega) (by omega)]; exact wb.2.2.2.1 i i0 i1, fun i i0 i1 => by rw [lo _ (by omega) (by omega)]; exact wb.2.2.2.2 i i0 i1⟩
def Pn (P : Int → Int → Int) (m : Int) (W : Int → Int) : Int → Int → Int := fun i => if i = m then W else P i
section CL
variable {d : Nat} {G : zG} {Q : zQ} {a m : Int} {W : Int → Int} {P : Int → Int → Int}
theorem HS_push {G1 : zG} {U : Int → Int} (h : HS G a W m P) (m1 : m < 20) (hU : WF U) (hU5 : U 5 = W 5) (hA : ARC G1 a U) (h3 : G1 a 0 = U 0 ∧ G1 a 1 = U 1 ∧ G1 a 2 = U 5) (h6 : G1 a 6 = m + 1) (hb : BND G1 a) (hl : ∀ j, 0 ≤ j → j < m * 6 → G1 (a + 11) j = G (a + 11) j) (hact : ACTR G1 (a + 11) m W U) : HS G1 a U (m + 1) (Pn P m W) := by
  have hH := h
  obtain ⟨z1, z2, z3, z4, z5, z6⟩ := h
  have hm := z4.2
  refine ⟨hU, hA, h3, ⟨h6, by omega, by omega⟩, hb, fun i i0 i1 => ?_⟩
  by_cases c : i = m
  · have e : Pn P m W i = W := if_pos c
    rw [e, if_pos (by omega), c]
    exact ⟨z1, hU5.symm, hact⟩
  · have e : Pn P m W i = P i := if_neg c
    obtain ⟨r1, r2, r3⟩ := z6 i i0 (by omega)
    rw [e, if_neg (by omega), hU5]
    refine ⟨r1, r2, ?_⟩
    have e2 : Pn P m W (i + 1) = if i + 1 = m then W else P (i + 1) := rfl
    rw [e2]
    exact ACTR_of r1 (HS_next hH i0 (by omega)) r3 (fun c c0 c1 => hl _ (by omega) (by omega)) (fun _ _ _ => rfl) (fun _ _ _ => rfl)
def SMU (a k j : Int) : Prop := (a ≤ k ∧ k ≤ a + 11) ∨ (k = 0 ∧ j = 7)
def okA (W : Int → Int) (p y k o : Int) : Prop := (0 ≤ p ∧ p < W 2) ∧ (0 ≤ y ∧ y ≤ 365) ∧ (0 ≤ k ∧ k ≤ 3) ∧ (k = 0 → 0 ≤ o ∧ o < W 3) ∧ (k = 2 → 0 ≤ o ∧ o < W 2)
def ofA (k o : Int) : Int := if k = 0 ∨ k = 2 then o else -1
set_option maxHeartbeats 8000000 in
theorem c13 (ha : 5 ≤ a) (h : HS G a W m P) (m1 : m < 20) (h4 : W 4 < 60) {p y k o : Int} (hok : okA W p y k o) (hn : ¬ has W p y) (hQ : ∀ G1, fr G G1 (fun k _ => a ≤ k ∧ k ≤ a + 11) → HS G1 a (putS W p y k (ofA k o)) (m + 1) (Pn P m W) → Q none G1) : zW (d + 3) 13 [zr 0 0 a, zi p, zi y, zi k, zi o] G Q := by
  have hH := h
  obtain ⟨z1, z2, z3, z4, z5, z6⟩ := h
  have hm := z4.2
  have nn := WF_n z1
  have a5 : G a 5 = W 4 := z2.2.2.1
  refine zm_13 ?_
  apply zs_13_0
  · rw [z4.1]; exact ⟨⟨by omega, by omega⟩, ⟨by omega, by omega⟩⟩
  generalize hG0 : zu (zu (zu G (a + 11) ((G a 6) * 6) 0) (a + 11) (((G a 6) * 6) + 1) (G a 5)) a 6 (((zu (zu G (a + 11) ((G a 6) * 6) 0) (a + 11) (((G a 6) * 6) + 1) (G a 5)) a 6) + 1) = G0
  have g : ∀ q j, ¬ (q = a ∧ j = 6) → ¬ (q = a + 11 ∧ m * 6 ≤ j) → G0 q j = G q j := fun q j c1 c2 => by
    rw [← hG0, z4.1]
    simp (disch := omega) only [zu_ne]
  have g6 : G0 a 6 = m + 1 := by rw [← hG0, zu_s]; simp (disch := omega) only [zu_ne]; rw [z4.1]
  have g0 : G0 (a + 11) (m * 6) = 0 := by rw [← hG0, z4.1]; simp (disch := omega) only [zu_ne, zu_s]
  have g1 : G0 (a + 11) (m * 6 + 1) = W 4 := by rw [← hG0, z4.1, a5]; simp (disch := omega) only [zu_ne, zu_s]
  have b5 : G0 a 5 = W 4 := (g _ _ (by omega) (by omega)).trans a5
  rw [b5]
  refine c10 (m := W 4) b5 ⟨by omega, by omega⟩ h4 (fun G1 hR => zs_13_23 ?_)
  obtain ⟨r1, r2, r3, r4, r5, r6, r7, r8⟩ := hR
  have f2 : ∀ q j, ¬ (a + 7 ≤ q ∧ q ≤ a + 10) → ¬ (q = a ∧ (j = 5 ∨ j = 6)) → ¬ (q = a + 11 ∧ m * 6 ≤ j) → G1 q j = G q j := fun q j c1 c2 c3 => by rw [r2 q j c1 (by omega), g _ _ (by omega) (by omega)]
  have po : ∀ j, (j < 116 + 4 * W 4 ∨ 116 + 4 * W 4 + 4 ≤ j) → j ≠ 4 → putS W p y k (ofA k o) j = W j := fun j c1 c2 => putS_o c1 c2
  have pa := putS_at (w := W) (p := p) (day := y) (k := k) (o := ofA k o) (by omega)
  have ho : rg (ofA k o) := by
    unfold ofA
    by_cases c : k = 0 ∨ k = 2
    · rw [if_pos c]
      rcases c with c | c
      · have := hok.2.2.2.1 c; exact ⟨by omega, by omega⟩
      · have := hok.2.2.2.2 c; exact ⟨by omega, by omega⟩
    · rw [if_neg c]; exact ⟨by omega, by omega⟩
  have hwf : WF (putS W p y k (ofA k o)) := WF_ns z1 h4 hok.1 hok.2.1 hok.2.2.1 (fun c => by unfold ofA; rw [if_pos (Or.inl c)]; exact hok.2.2.2.1 c) (fun c => by unfold ofA; rw [if_pos (Or.inr c)]; exact hok.2.2.2.2 c) ho hn
  refine hQ G1 (fun q j hk => f2 _ _ (by omega) (by omega) (by omega)) (HS_push hH m1 hwf (po _ (by omega) (by omega)) ?_ ⟨?_, ?_, ?_⟩ ?_ (BND_fr z5 (fun q j k0 k1 => f2 _ _ (by omega) (by omega) (by omega))) (fun j j0 j1 => f2 _ _ (by omega) (by omega) (by omega)) ?_)
  · refine ARC_re z1 z2 (fun j j0 j1 j4 => po j (by omega) j4) (fun q j k0 k1 => f2 _ _ (by omega) (by omega) (by omega)) (f2 _ _ (by omega) (by omega) (by omega)) (f2 _ _ (by omega) (by omega) (by omega)) (by rw [r1, pa.1]) (fun s s0 s1 => ?_)
    rw [pa.1] at s1
    by_cases c : s = W 4
    · unfold SH1
      rw [c, pa.2.1, pa.2.2.1, pa.2.2.2.1, pa.2.2.2.2]
      exact ⟨r5, r6, r7, fun hh => by rw [r8]; unfold ofA; rw [if_pos hh]⟩
    · exact SH1_of (G := G) (w := W) (z2.2.2.2.2 s s0 (by omega)) (fun q k0 k1 => by rw [r3 q s (by omega) k1 s0 (by omega), g _ _ (by omega) (by omega)]) (fun j j0 j1 => po j (by omega) (by omega))
  · rw [f2 _ _ (by omega) (by omega) (by omega), po _ (by omega) (by omega)]; exact z3.1
  · rw [f2 _ _ (by omega) (by omega) (by omega), po _ (by omega) (by omega)]; exact z3.2.1
  · rw [f2 _ _ (by omega) (by omega) (by omega), po _ (by omega) (by omega)]; exact z3.2.2
  · rw [r2 _ _ (by omega) (by omega)]; exact g6
  · refine Or.inl ⟨by rw [r2 _ _ (by omega) (by omega)]; exact g0, by rw [r2 _ _ (by omega) (by omega)]; exact g1, pa.1, fun j j0 j1 j4 => po j (Or.inl j1) j4⟩
set_option maxHeartbeats 8000000 in
theorem k_add (h03 : G 0 3 = a) (ha : 5 ≤ a) (h : HS G a W m P) {p y k o : Int} (hp : rg p) (hy : rg y) (hk : rg k) (ho : rg o) (h2 : ¬ okA W p y k o → Q (some (zi (-2))) G) (h5 : okA W p y k o → (W 4 = 60 ∨ m = 20 ∨ has W p y) → Q (some (zi (-5))) G) (hQ : okA W p y k o → ¬ (W 4 = 60 ∨ m = 20 ∨ has W p y) → ∀ G1, fr G G1 (SMU a) → HS G1 a (putS W p y k (ofA k o)) (m + 1) (Pn P m W) → G1 0 7 = 1 → Q (some (zi (W 4))) G1) : zW (d + 4) 139 [zr 8 0 0, zi p, zi y, zi k, zi o] G Q := by
  have hH := h
  obtain ⟨z1, z2, z3, z4, z5, z6⟩ := h
  have hm := z4.2
  have nn := WF_n z1
  have e3 : G (G 0 3) 3 = W 2 := by rw [h03]; exact z2.1
  have e4 : G (G 0 3) 4 = W 3 := by rw [h03]; exact z2.2.1
  have e5 : G (G 0 3) 5 = W 4 := by rw [h03]; exact z2.2.2.1
  have e6 : G (G 0 3) 6 = m := by rw [h03]; exact z4.1
  have g66 : okA W p y k o → zAt xT_139 (zW (d + 3)) Q 66 [zr 8 0 0, zi p, zi y, zi k, zi o] [] G := by
    intro hok
    apply zs_139_66 <;> intros
    case h2 => exact h5 hok (Or.inl (by omega))
    case h4 => exact h5 hok (Or.inr (Or.inl (by omega)))
    case h5 =>
      rw [h03]
      refine c7 z1 z2.2.2.1 (fun s s0 s1 => ⟨(z2.2.2.2.2 s s0 s1).1, (z2.2.2.2.2 s s0 s1).2.1⟩) hp hy (fun hh => ?_) (fun hh => ?_)
      · apply zs_139_99 <;> intros
        case h4 => exact h5 hok (Or.inr (Or.inr hh))
        all_goals first | omega | (repeat' first | exact hrg _ | assumption | (unfold rg; omega) | omega | refine And.intro ?_ ?_)
      · have hno : ¬ (W 4 = 60 ∨ m = 20 ∨ has W p y) := by
          rintro (c | c | c)
          · omega
          · omega
          · exact hh c
        apply zs_139_99 <;> intros
        case h3 =>
          rw [h03]
          refine c13 ha hH (by omega) (by omega) hok hh (fun G1 f1 hH1 => ?_)
          have b03 : G1 0 3 = a := (f1 _ _ (by omega)).trans h03
          have b5 : G1 a 5 = W 4 + 1 := by rw [hH1.2.1.2.2.1]; exact (putS_at (by omega)).1
          apply zs_139_117
          · omega
          rw [b03, zu_kj (by omega), b5, show W 4 + 1 - 1 = W 4 by omega]
          exact hQ hok hno _ (fr_u (fr_wide f1 (fun k j t => Or.inl t)) (Or.inr ⟨rfl, rfl⟩)) (HS_fr hH1 (fun k j k0 k1 => zu_kj (by omega))) zu_s
        all_goals first | omega | (repeat' first | exact hrg _ | assumption | (unfold rg; omega) | omega | refine And.intro ?_ ?_)
    all_goals first | omega | (repeat' first | exact hrg _ | assumption | (unfold rg; omega) | omega | refine And.intro ?_ ?_)
  unfold okA at *
  refine zm_139 ?_
  apply zs_139_0 <;> intros
  case h8 => exact g66 (by omega)
  case h12 => exact g66 (by omega)
  case h18 => exact g66 (by omega)
  case h20 => omega
  all_goals first | omega | (refine h2 ?_; omega) | (repeat' first | exact hrg _ | assumption | (unfold rg; omega) | omega | refine And.intro ?_ ?_)
end CL
