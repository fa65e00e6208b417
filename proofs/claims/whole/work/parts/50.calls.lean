/-! THE CALLS: what both keep, the class's fresh index, its view -/
def CI (G : zG) (a : Int) (w : Int → Int) : Prop := G 0 3 = a ∧ (5 ≤ a ∧ a ≤ 54) ∧ ARC G a w ∧ (G a 0 = w 0 ∧ G a 1 = w 1 ∧ G a 2 = w 5) ∧ (G 0 7 = 0 ∨ G 0 7 = 1) ∧ (G 0 7 = 0 → IX G 66 a w (-1))
def SC (k j : Int) : Prop := (66 ≤ k ∧ k ≤ 293) ∨ k = 296 ∨ (k = 0 ∧ j = 7)
def SR (k j : Int) : Prop := (303 ≤ k ∧ k ≤ 311) ∨ (315 ≤ k ∧ k ≤ 318) ∨ (k = 297 ∧ ((9 ≤ j ∧ j ≤ 11) ∨ (18 ≤ j ∧ j ≤ 28) ∨ (42 ≤ j ∧ j ≤ 45)))
def okPD (w : Int → Int) (p day : Int) : Prop := (0 ≤ p ∧ p < w 2) ∧ (0 ≤ day ∧ day ≤ 365)
section CL
variable {d : Nat} {G : zG} {Q : zQ} {a : Int} {w : Int → Int}
theorem CI_fr {G1 : zG} (hC : CI G a w) (h : fr G G1 SC) (hi : IX G1 66 a w (-1)) (h7 : G1 0 7 = 0) : CI G1 a w := by
  obtain ⟨h03, ha, hA, ⟨h0, h1, h2⟩, hs, hx⟩ := hC
  refine ⟨(h _ _ (by unfold SC; omega)).trans h03, ha, ARC_fr hA (fun k j k0 k1 => h k j (by unfold SC; omega)), ⟨(h _ _ (by unfold SC; omega)).trans h0, (h _ _ (by unfold SC; omega)).trans h1, (h _ _ (by unfold SC; omega)).trans h2⟩, Or.inl h7, fun _ => hi⟩
set_option maxHeartbeats 4000000 in
theorem c153 (wf : WF w) (hC : CI G a w) (hQ : ∀ G1, fr G G1 (fun k j => (66 ≤ k ∧ k ≤ 78) ∨ (k = 0 ∧ j = 7)) → CI G1 a w → IX G1 66 a w (-1) → G1 0 7 = 0 → Q (some (zr 1 0 66)) G1) : zW (d + 5) 153 [zr 8 0 0] G Q := by
  obtain ⟨h03, ha, hA, ⟨ha0, ha1, ha2⟩, hs7, hix⟩ := hC; have hC : CI G a w := ⟨h03, ha, hA, ⟨ha0, ha1, ha2⟩, hs7, hix⟩; obtain ⟨n0, n1, n2, n3, n4, n5⟩ := WF_n wf; have hrg := WF_rg wf; have e3 : G (G 0 3) 3 = w 2 := by { rw [h03]; exact hA.1 }; have e4 : G (G 0 3) 4 = w 3 := by { rw [h03]; exact hA.2.1 }; have e5 : G (G 0 3) 5 = w 4 := by { rw [h03]; exact hA.2.2.1 }; have e2 : G (G 0 3) 2 = w 5 := by { rw [h03]; exact ha2 }
  refine zm_153 ?_
  apply zs_153_0 <;> intros
  case h2 => exact hQ G (fr_refl _ _) hC (hix (by assumption)) (by assumption)
  case h4 =>
    rw [h03, ha0, ha1]
    refine c19 wf ha (by omega) hA ⟨by omega, by omega⟩ (fun G1 f1 hI => zs_153_33 ?_)
    have f2 : fr G (zu G1 0 7 0) (fun k j => (66 ≤ k ∧ k ≤ 78) ∨ (k = 0 ∧ j = 7)) := fr_u (fr_wide f1 (by intro k j t; omega)) (by omega)
    have hI2 : IX (zu G1 0 7 0) 66 a w (-1) := IX_fr hI (fun k j k0 k1 => zu_kj (by omega))
    exact hQ _ f2 (CI_fr hC (fr_wide f2 (by intro k j t; unfold SC; omega)) hI2 zu_s) hI2 zu_s
  all_goals first | omega | (unfold rg; omega)
set_option maxHeartbeats 4000000 in
theorem c154 (wf : WF w) (hC : CI G a w) {p day : Int} (hp : rg p) (hd : rg day) (hN : ¬ okPD w p day → Q (some (zi 0)) G) (hY : okPD w p day → ∀ G1, fr G G1 SC → CI G1 a w → IX G1 66 a w (-1) → VC G1 94 w (-1) (vw w (-1) p day) → G1 94 0 = 66 → Q (some (zi 1)) G1) : zW (d + 10) 154 [zr 8 0 0, zi p, zi day] G Q := by
  obtain ⟨h03, ha, hA, ⟨ha0, ha1, ha2⟩, hs7, hix⟩ := hC; have hC : CI G a w := ⟨h03, ha, hA, ⟨ha0, ha1, ha2⟩, hs7, hix⟩; obtain ⟨n0, n1, n2, n3, n4, n5⟩ := WF_n wf; have hrg := WF_rg wf; have e3 : G (G 0 3) 3 = w 2 := by { rw [h03]; exact hA.1 }; have e4 : G (G 0 3) 4 = w 3 := by { rw [h03]; exact hA.2.1 }; have e5 : G (G 0 3) 5 = w 4 := by { rw [h03]; exact hA.2.2.1 }; have e2 : G (G 0 3) 2 = w 5 := by { rw [h03]; exact ha2 }
  unfold okPD at *
  refine zm_154 ?_
  apply zs_154_0 <;> intros
  case h6 =>
    refine c153 wf hC (fun G1 f1 hC1 hI1 h71 => zs_154_26 ?_)
    refine c73 wf ha (by omega) (by omega) hI1 hC1.2.2.1 (p := p) (by omega) (by omega) (by omega) (by omega) (fun G2 f2 hV h0 => zs_154_31 ?_)
    have f3 : fr G G2 SC := fr_trans (fr_wide f1 (by intro k j t; unfold SC; omega)) f2 (by intro k j t; unfold SB at t; unfold SC; omega)
    have hI2 : IX G2 66 a w (-1) := IX_fr hI1 (fun k j k0 k1 => f2 k j (by unfold SB; omega))
    have h72 : G2 0 7 = 0 := (f2 _ _ (by unfold SB; omega)).trans h71
    exact hY (by omega) G2 f3 (CI_fr hC f3 hI2 h72) hI2 hV h0
  all_goals first | (refine hN ?_; omega) | omega | (repeat' first | exact hrg _ | assumption | (unfold rg; omega) | omega | refine And.intro ?_ ?_)
end CL
