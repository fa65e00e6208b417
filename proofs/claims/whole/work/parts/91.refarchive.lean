/-! THE READER by the reference: archive -/
def w00 (u : Int → Int) : Int → Int := fun j => if 0 ≤ j ∧ j < 356 then 0 else u j
def N00 : Int → Int × Int := fun _ => (0, 0)
noncomputable def oRd (B : Int → Int) (n : Int) (u : Int → Int) : RE PS := oAll B n 1201 (nx B n 0, w00 u, N00)
def cut (u w : Int → Int) : Int → Int := fun j => if 0 ≤ j ∧ j < 356 then w j else u j
theorem w00_in {u : Int → Int} {j : Int} (h : 0 ≤ j ∧ j < 356) : w00 u j = 0 := if_pos h
theorem cut_in {u w : Int → Int} {j : Int} (h : 0 ≤ j ∧ j < 356) : cut u w j = w j := if_pos h
theorem WF_w00 {u : Int → Int} (hu : ∀ j, ¬ (0 ≤ j ∧ j < 356) → rg (u j)) : WF (w00 u) := by
  have e : ∀ j, 0 ≤ j → j < 356 → w00 u j = 0 := fun j h1 h2 => w00_in ⟨h1, h2⟩
  refine ⟨fun j => ?_, by rw [e _ (by omega) (by omega)]; omega, by rw [e _ (by omega) (by omega)]; omega, by rw [e _ (by omega) (by omega)]; omega, by rw [e _ (by omega) (by omega)]; omega, by rw [e _ (by omega) (by omega)]; omega, by rw [e _ (by omega) (by omega)]; omega, fun s s0 s1 => ?_, fun s t s0 s1 => ?_, fun b b0 b1 => ?_⟩
  · by_cases c : 0 ≤ j ∧ j < 356
    · rw [w00_in c]; exact rg_0
    · unfold w00; rw [if_neg c]; exact hu j c
  · rw [e 4 (by omega) (by omega)] at s1; omega
  · rw [e 4 (by omega) (by omega)] at s1; omega
  · rw [e 3 (by omega) (by omega)] at b1; omega
theorem WF_cut {u w : Int → Int} (wf : WF w) (hu : ∀ j, rg (u j)) : WF (cut u w) := by
  have e : ∀ j, 0 ≤ j → j < 356 → cut u w j = w j := fun j h1 h2 => cut_in ⟨h1, h2⟩
  obtain ⟨n0, n1, n2, n3, n4, n5⟩ := WF_n wf
  refine WF_of wf (fun j => ?_) (by rw [e _ (by omega) (by omega)]; exact n0) (by rw [e _ (by omega) (by omega)]; exact n1) (by rw [e _ (by omega) (by omega)]; omega) (e _ (by omega) (by omega)) (e _ (by omega) (by omega)) (by rw [e _ (by omega) (by omega)]; exact n5) (fun j j0 j1 => e _ (by omega) (by omega)) (fun j j0 j1 => e _ (by omega) (by omega))
  unfold cut
  split
  · exact WF_rg wf j
  · exact hu j
section RE
variable {d : Nat} {G : zG} {Q : zQ} {B : Int → Int} {n : Int}
theorem PSok_0 (hT : TP B n) {u : Int → Int} (hu : ∀ j, ¬ (0 ≤ j ∧ j < 356) → rg (u j)) : PSok B n (nx B n 0, w00 u, N00) := by
  have h := nx_ok (B := B) (n := n) (i := 0) (by omega) hT.1.1
  have e : ∀ j, 0 ≤ j → j < 356 → w00 u j = 0 := fun j h1 h2 => w00_in ⟨h1, h2⟩
  refine ⟨h.1, WF_w00 hu, ?_, ?_, fun p hp => ?_⟩
  · show w00 u 4 ≤ 40
    rw [e _ (by omega) (by omega)]; omega
  · show w00 u 5 ≤ (nx B n 0).2.1
    rw [e _ (by omega) (by omega)]; exact h.2
  · have hp : (0 ≤ p ∧ p < w00 u 2) ∨ (8 ≤ p ∧ p < 8 + w00 u 3) := hp
    rw [e _ (by omega) (by omega), e _ (by omega) (by omega)] at hp
    omega
def SA1 (k j : Int) : Prop := SRD k j ∨ (k = 297 ∧ (j = 30 ∨ j = 32))
def SA2 (k j : Int) : Prop := SA1 k j ∨ k = 298 ∨ (k = 297 ∧ j = 4)
set_option maxHeartbeats 8000000 in
theorem r_archive (hT : TP B n) (h30 : G 297 30 = n) (hB : ∀ j, 0 ≤ j → j < n → G 312 j = B j) (hu : ∀ j, ¬ (0 ≤ j ∧ j < 356) → rg (G 299 j))
    (hE : ∀ G1 e, oRd B n (G 299) = Except.error e → fr G G1 SA1 → (1 ≤ e.1 ∧ e.1 ≤ 3) → G1 297 37 = e.1 → G1 297 38 = e.2 → G1 297 30 = 0 → Q (some (zi (-4))) G1)
    (hK : ∀ G1 S, oRd B n (G 299) = Except.ok S → PSok B n S → fr G G1 SA2 → G1 297 37 = 0 → G1 297 38 = -1 → G1 297 30 = 0 → G1 298 = cut (G 298) S.2.1 → G1 297 4 = 0 → Q (some (zi (S.2.1 5))) G1) : zW (d + 11) 216 [zr 9 0 297] G Q := by
  refine zm_216 (zs_216_0 ?_)
  have hn := hT.1
  rw [h30]
  generalize hG0 : zu (zu (zu (zu (zu G 297 32 n) 297 30 0) 297 33 0) 297 37 0) 297 38 (-1) = G0
  have f0 : fr G G0 SA1 := by
    rw [← hG0]
    repeat' (first | exact fr_refl _ _ | refine fr_u ?_ (by unfold SA1 SRD; omega))
  have a32 : G0 297 32 = n := by rw [← hG0, zu_j (by omega), zu_j (by omega), zu_j (by omega), zu_j (by omega), zu_s]
  have a30 : G0 297 30 = 0 := by rw [← hG0, zu_j (by omega), zu_j (by omega), zu_j (by omega), zu_s]
  have a33 : G0 297 33 = 0 := by rw [← hG0, zu_j (by omega), zu_j (by omega), zu_s]
  have a37 : G0 297 37 = 0 := by rw [← hG0, zu_j (by omega), zu_s]
  have a38 : G0 297 38 = -1 := by rw [← hG0, zu_s]
  have a299 : G0 299 = G 299 := funext fun j => by rw [← hG0, zu_kj (by omega), zu_kj (by omega), zu_kj (by omega), zu_kj (by omega), zu_kj (by omega)]
  have a312 : ∀ j, 0 ≤ j → j < n → G0 312 j = B j := fun j j0 j1 => by rw [f0 _ _ (fun e => by unfold SA1 SRD at e; omega)]; exact hB j j0 j1
  have srd30 : ∀ G1 G2, fr G1 G2 SRD → G2 297 30 = G1 297 30 := fun G1 G2 f => f _ _ (fun e => by unfold SRD at e; omega)
  have copy : ∀ (S : PS) (rem k : Nat) (G1 : zG), oRd B n (G 299) = Except.ok S → PSok B n S → k + rem = 356 → fr G G1 SA2 → G1 297 37 = 0 → G1 297 38 = -1 → G1 297 30 = 0 → G1 299 = S.2.1 → (∀ j : Int, 0 ≤ j → j < k → G1 298 j = S.2.1 j) → (∀ j : Int, ¬ (0 ≤ j ∧ j < k) → G1 298 j = G 298 j) → zAt xT_216 (zW (d + 10)) Q 87 [zr 9 0 297, zi k] [] G1 := by
    intro S rem
    induction rem with
    | zero =>
      intro k G1 hs hok hk f1 b37 b38 b30 b299 h1 h2
      have hk : k = 356 := by omega
      subst hk
      have e5 : G1 298 5 = S.2.1 5 := h1 5 (by omega) (by omega)
      apply zs_216_87 <;> intros
      case h2 =>
        rw [e5]
        refine hK _ S hs hok (fr_u f1 (Or.inr (Or.inr ⟨rfl, rfl⟩))) (by rw [zu_j (by omega)]; exact b37) (by rw [zu_j (by omega)]; exact b38) (by rw [zu_j (by omega)]; exact b30) ?_ zu_s
        rw [zu_k (by omega)]
        funext j
        unfold cut
        split
        · rename_i hj; exact h1 j hj.1 (by omega)
        · rename_i hj; exact h2 j (by omega)
      all_goals first | omega | (repeat' first | exact hrg _ | assumption | (unfold rg; omega) | omega | refine And.intro ?_ ?_)
    | succ rem ih =>
      intro k G1 hs hok hk f1 b37 b38 b30 b299 h1 h2
      apply zs_216_87 <;> intros
      case h4 =>
        refine ih (k + 1) _ hs hok (by omega) (fr_u f1 (Or.inr (Or.inl rfl))) (by rw [zu_kj (by omega)]; exact b37) (by rw [zu_kj (by omega)]; exact b38) (by rw [zu_kj (by omega)]; exact b30) (by rw [zu_k (by omega)]; exact b299) (fun j j0 j1 => ?_) (fun j hj => ?_)
        · by_cases c : j = k
          · rw [c, zu_s, b299]
          · rw [zu_j c]; exact h1 j j0 (by omega)
        · rw [zu_j (by omega)]; exact h2 j (by omega)
      all_goals first | omega | (repeat' first | exact hrg _ | assumption | (unfold rg; omega) | omega | refine And.intro ?_ ?_)
  have loop : ∀ (k : Nat) (S : PS) (G1 : zG), n - S.1.2.1 < k → fr G G1 SA1 → G1 297 30 = 0 → RS B n G1 (Except.ok S) → oRd B n (G 299) = oAll B n k S → ∀ l1, zAt xT_216 (zW (d + 10)) Q 54 [zr 9 0 297, l1] [] G1 := by
    intro k
    induction k with
    | zero =>
      intro S G1 hk f1 b30 hR hs l1
      have := (RS_n hR).2.2.2.2.2.2.1
      omega
    | succ k ih =>
      intro S G1 hk f1 b30 hR hs l1
      obtain ⟨e33, e34, e35, e37, e299, eB, a, a5⟩ := RS_n hR
      apply zs_216_54 <;> intros
      case h4 =>
        have hs : oRd B n (G 299) = Except.ok S := by rw [hs]; unfold oAll; rw [if_pos (by omega)]
        exact copy S 356 0 G1 hs hR.1 (by omega) (fr_wide f1 (fun k j t => Or.inl t)) hR.2.2.2.1.1 hR.2.2.2.1.2 b30 hR.2.2.2.2.1 (fun j j0 j1 => by omega) (fun j hj => by rw [f1 _ _ (fun e => by unfold SA1 SRD at e; omega)])
      case h5 =>
        have hs : oRd B n (G 299) = Except.bind (oText B n S) (oAll B n k) := by rw [hs]; show (if S.1.1 = 0 then _ else _) = _; rw [if_neg (by omega)]
        refine c215 hT hR (fun G2 f2 hR2 => zs_216_72 ?_)
        have f3 : fr G G2 SA1 := fr_trans f1 f2 (fun k j t => Or.inl t)
        have b2 : G2 297 30 = 0 := (srd30 _ _ f2).trans b30
        cases hq : oText B n S with
        | error e =>
          rw [hq] at hs hR2
          have hR2 : (1 ≤ e.1 ∧ e.1 ≤ 3) ∧ G2 297 37 = e.1 ∧ G2 297 38 = e.2 := hR2
          have h37 := hR2.2.1
          have h1 := hR2.1
          apply zs_216_54 <;> intros
          case h2 => exact hE G2 e hs f3 hR2.1 hR2.2.1 hR2.2.2 b2
          all_goals first | omega | (repeat' first | exact hrg _ | assumption | (unfold rg; omega) | omega | refine And.intro ?_ ?_)
        | ok S2 =>
          rw [hq] at hs hR2
          have hR2 : RS B n G2 (Except.ok S2) := hR2
          have := (text_ok hn.2 hR.1 hq).2
          exact ih S2 G2 (by omega) f3 b2 hR2 hs _
      all_goals first | omega | (repeat' first | exact hrg _ | assumption | (unfold rg; omega) | omega | refine And.intro ?_ ?_)
  have clear : ∀ (rem k : Nat) (G1 : zG), k + rem = 356 → fr G0 G1 (fun q j => q = 299 ∧ 0 ≤ j ∧ j < 356) → (∀ j : Int, 0 ≤ j → j < k → G1 299 j = 0) → zAt xT_216 (zW (d + 10)) Q 30 [zr 9 0 297, zi k] [] G1 := by
    intro rem
    induction rem with
    | zero =>
      intro k G1 hk f1 h1
      have hk : k = 356 := by omega
      subst hk
      have e : ∀ q j, ¬ (q = 299 ∧ 0 ≤ j ∧ j < 356) → G1 q j = G0 q j := fun q j h => f1 q j h
      have ew : G1 299 = w00 (G 299) := by
        funext j
        unfold w00
        split
        · rename_i hj; exact h1 j hj.1 (by omega)
        · rename_i hj; rw [e _ _ (by omega), a299]
      apply zs_216_30 <;> intros
      case h2 =>
        refine c195 hn hT.2 (fun j j0 j1 => (e _ _ (by omega)).trans (a312 j j0 j1)) ((e _ _ (by omega)).trans a32) (i := 0) (by omega) (by omega) ((e _ _ (by omega)).trans a33) (fun G2 f2 hT2 => ?_)
        have e2 : ∀ q j, ¬ (q = 297 ∧ 33 ≤ j ∧ j ≤ 36) → G2 q j = G1 q j := fun q j h => f2 q j h
        have hps := PSok_0 (B := B) hT hu
        have hR : RS B n G2 (Except.ok (nx B n 0, w00 (G 299), N00)) := ⟨hps, ⟨(e2 _ _ (by omega)).trans ((e _ _ (by omega)).trans a32), fun j j0 j1 => (e2 _ _ (by omega)).trans ((e _ _ (by omega)).trans (a312 j j0 j1))⟩, hT2, ⟨(e2 _ _ (by omega)).trans ((e _ _ (by omega)).trans a37), (e2 _ _ (by omega)).trans ((e _ _ (by omega)).trans a38)⟩, (funext fun j => e2 _ _ (by omega)).trans ew, fun p p0 p1 hp => absurd rfl hp⟩
        have hfr := hps.1.1
        refine loop 1201 _ G2 (by omega) (fr_trans (fr_trans f0 f1 (fun k j t => Or.inl (Or.inl t))) f2 (fun k j t => Or.inl (Or.inr (Or.inr ⟨t.1, t.2.1, by have := t.2.2; omega⟩)))) ((e2 _ _ (by omega)).trans ((e _ _ (by omega)).trans a30)) hR rfl _
      all_goals first | omega | (repeat' first | exact hrg _ | assumption | (unfold rg; omega) | omega | refine And.intro ?_ ?_)
    | succ rem ih =>
      intro k G1 hk f1 h1
      apply zs_216_30 <;> intros
      case h4 =>
        refine ih (k + 1) _ (by omega) (fr_u f1 ⟨rfl, by omega, by omega⟩) (fun j j0 j1 => ?_)
        by_cases c : j = k
        · rw [c, zu_s]
        · rw [zu_j c]; exact h1 j j0 (by omega)
      all_goals first | omega | (repeat' first | exact hrg _ | assumption | (unfold rg; omega) | omega | refine And.intro ?_ ?_)
  exact clear 356 0 G0 (by omega) (fr_refl _ _) (fun j j0 j1 => by omega)
end RE
