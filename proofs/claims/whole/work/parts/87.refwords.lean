/-! THE READER by the reference: tokens, words, numbers -/
def TP (B : Int → Int) (n : Int) : Prop := (0 ≤ n ∧ n ≤ 1200) ∧ BY B n
def LN (B : Int → Int) (G : zG) (N : Int → Int × Int) : Prop := ∀ p, 0 ≤ p → p < 18 → (N p).2 ≠ 0 → ∀ i, 0 ≤ i → i < 6 → G 314 (6 * p + i) = if i < (N p).2 then B ((N p).1 + i) else 0
def PR (B : Int → Int) (n : Int) (G : zG) (S : PS) : Prop := (G 297 32 = n ∧ ∀ j, 0 ≤ j → j < n → G 312 j = B j) ∧ TR G S.1 ∧ (G 297 37 = 0 ∧ G 297 38 = -1) ∧ G 299 = S.2.1 ∧ LN B G S.2.2
def FT (G : zG) (e : Int × Int) : Prop := (1 ≤ e.1 ∧ e.1 ≤ 3) ∧ G 297 37 = e.1 ∧ G 297 38 = e.2 ∧ ∀ j, 2 ≤ j → j ≤ 5 → 0 ≤ G 299 j ∧ G 299 j ≤ 1200
def RS (B : Int → Int) (n : Int) (G : zG) : RE PS → Prop
  | Except.ok S => PSok B n S ∧ PR B n G S
  | Except.error e => FT G e
def RSV (B : Int → Int) (n : Int) (v : Int) (G : zG) : RE (Int × PS) → Prop
  | Except.ok q => v = q.1 ∧ PSok B n q.2 ∧ PR B n G q.2
  | Except.error e => rg v ∧ FT G e
def SRD (k j : Int) : Prop := (k = 299 ∧ 0 ≤ j ∧ j < 356) ∨ k = 314 ∨ (k = 297 ∧ 33 ≤ j ∧ j ≤ 38)
theorem rg_ztx (x i : Int) : rg (ztx x i) := rg_i _
section RE
variable {d : Nat} {G : zG} {Q : zQ} {B : Int → Int} {n : Int} {S : PS} {r : RE PS}
theorem srd_u {G1 : zG} (f : fr G G1 SRD) (a b : Int) : fr G (zu (zu G1 297 37 a) 297 38 b) SRD := fr_u (fr_u f (Or.inr (Or.inr ⟨rfl, by omega, by omega⟩))) (Or.inr (Or.inr ⟨rfl, by omega, by omega⟩))
theorem RS_err (hR : RS B n G (Except.ok S)) {k : Int} (hk : 1 ≤ k ∧ k ≤ 3) : RS B n (zu (zu G 297 37 k) 297 38 (G 297 34)) (Except.error (k, S.1.2.1)) := by
  obtain ⟨h1, h2⟩ := hR
  have nn := WF_n h1.2.1
  refine ⟨hk, by rw [zu_j (by omega), zu_s], by rw [zu_s]; exact h2.2.1.2.1, fun j j0 j1 => ?_⟩
  rw [zu_kj (by omega), zu_kj (by omega), h2.2.2.2.1]
  have : j = 2 ∨ j = 3 ∨ j = 4 ∨ j = 5 := by omega
  rcases this with h | h | h | h <;> (rw [h]; omega)
/-- the numbers of a good state -/
theorem RS_n (hR : RS B n G (Except.ok S)) : G 297 33 = S.1.2.2.1 ∧ G 297 34 = S.1.2.1 ∧ G 297 35 = S.1.1 ∧ G 297 37 = 0 ∧ (∀ j, G 299 j = S.2.1 j) ∧ (∀ j, S.1.2.1 ≤ j → j < S.1.2.2.1 → G 312 j = B j) ∧ (0 ≤ S.1.2.1 ∧ S.1.2.1 ≤ S.1.2.2.1 ∧ S.1.2.2.1 ≤ n) ∧ (0 ≤ S.1.1 ∧ S.1.1 ≤ 4) := by
  obtain ⟨h1, h2⟩ := hR
  have a := h1.1.1
  exact ⟨h2.2.1.1, h2.2.1.2.1, h2.2.1.2.2.1, h2.2.2.1.1, fun j => by rw [h2.2.2.2.1], fun j j0 j1 => h2.1.2 j (by omega) (by omega), a, h1.1.2.1⟩
set_option maxHeartbeats 4000000 in
theorem c195s (hT : TP B n) (hR : RS B n G (Except.ok S)) (hQ : ∀ G1, fr G G1 SRD → RS B n G1 (Except.ok (oStep B n S)) → Q none G1) : zW (d + 2) 195 [zr 9 0 297] G Q := by
  obtain ⟨h1, h2⟩ := hR
  have a := h1.1.1
  refine c195 hT.1 hT.2 h2.1.2 h2.1.1 (i := S.1.2.2.1) (by omega) a.2.2 h2.2.1.1 (fun G1 f1 hT1 => ?_)
  have e : ∀ k j, ¬ (k = 297 ∧ 33 ≤ j ∧ j ≤ 36) → G1 k j = G k j := fun k j h => f1 k j h
  refine hQ G1 (fr_wide f1 (fun k j t => Or.inr (Or.inr ⟨t.1, t.2.1, by have := t.2.2; omega⟩))) ⟨(step_go h1).1, ⟨(e _ _ (by omega)).trans h2.1.1, fun j j0 j1 => (e _ _ (by omega)).trans (h2.1.2 j j0 j1)⟩, hT1, ⟨(e _ _ (by omega)).trans h2.2.2.1.1, (e _ _ (by omega)).trans h2.2.2.1.2⟩, (funext fun j => e _ _ (by omega)).trans h2.2.2.2.1, fun p p0 p1 hp i i0 i1 => (e _ _ (by omega)).trans (h2.2.2.2.2 p p0 p1 hp i i0 i1)⟩
set_option maxHeartbeats 4000000 in
theorem c198 (hT : TP B n) (hR : RS B n G r) {x : Int} {m : Nat} (hm : m ≤ 10) (h1 : (∃ S, r = Except.ok S ∧ isW B S.1 x m) → Q (some (zi 1)) G) (h0 : (¬ ∃ S, r = Except.ok S ∧ isW B S.1 x m) → Q (some (zi 0)) G) : zW (d + 2) 198 [zr 9 0 297, zr 15 m x] G Q := by
  have fin0 : ∀ k : Int, 0 ≤ k → k ≤ 20 → Q (some (zi 0)) G → zAt xT_198 (zW (d + 1)) Q 39 [zr 9 0 297, zr 15 m x, zi 0, zi k] [] G := by
    intro k k0 k1 hq
    apply zs_198_39 <;> intros
    case h3 => exact hq
    case h6 => exact hq
    all_goals first | omega | (repeat' first | exact hrg _ | assumption | (unfold rg; omega) | omega | refine And.intro ?_ ?_)
  refine zm_198 ?_
  cases r with
  | error e =>
    have hR : FT G e := hR
    have h37 := hR.2.1
    have hk := hR.1
    have hn : ¬ ∃ S, (Except.error e : RE PS) = Except.ok S ∧ isW B S.1 x m := fun ⟨S, h, _⟩ => by cases h
    apply zs_198_0 <;> intros
    case h2 => exact fin0 0 (by omega) (by omega) (h0 hn)
    all_goals first | omega | (repeat' first | exact hrg _ | assumption | (unfold rg; omega) | omega | refine And.intro ?_ ?_)
  | ok S =>
    obtain ⟨e33, e34, e35, e37, e299, eB, a, a5⟩ := RS_n hR
    have hn : ¬ isW B S.1 x m → Q (some (zi 0)) G := fun h => h0 (fun ⟨S', h1, h2⟩ => by cases h1; exact h h2)
    have key : ∀ (rem k : Nat), k + rem = m → S.1.1 = 1 → S.1.2.2.1 - S.1.2.1 = m → (∀ i : Int, 0 ≤ i → i < k → B (S.1.2.1 + i) = ztx x i) → zAt xT_198 (zW (d + 1)) Q 39 [zr 9 0 297, zr 15 m x, zi 1, zi k] [] G := by
      intro rem
      induction rem with
      | zero =>
        intro k hk c1 c2 hi
        have ek : k = m := by omega
        apply zs_198_39 <;> intros
        case h3 => exact h1 ⟨S, rfl, c1, c2, fun i i0 i1 => hi i i0 (by omega)⟩
        all_goals first | omega | (repeat' first | exact hrg _ | assumption | (unfold rg; omega) | omega | refine And.intro ?_ ?_)
      | succ rem ih =>
        intro k hk c1 c2 hi
        have ha := hT.1
        have hb := hT.2 (S.1.2.1 + k) (by omega) (by omega)
        have eb := eB (S.1.2.1 + k) (by omega) (by omega)
        have ee : G 312 (G 297 34 + k) = B (S.1.2.1 + k) := by rw [e34]; exact eb
        apply zs_198_39 <;> intros
        case h8 =>
          rename_i hne
          rw [ee] at hne
          exact fin0 (k + 1) (by omega) (by omega) (hn (fun h => hne (h.2.2 k (by omega) (by omega))))
        case h9 =>
          rename_i heq
          rw [ee] at heq
          refine ih (k + 1) (by omega) c1 c2 (fun i i0 i1 => ?_)
          by_cases c : i = k
          · rw [c]; exact heq
          · exact hi i i0 (by omega)
        case h7 => exact ⟨⟨by omega, by omega⟩, ⟨by omega, by omega⟩, by rw [ee]; exact ⟨by omega, by omega⟩, rg_ztx _ _⟩
        all_goals first | omega | (repeat' first | exact hrg _ | assumption | (unfold rg; omega) | omega | refine And.intro ?_ ?_)
    apply zs_198_0 <;> intros
    case h4 => exact fin0 0 (by omega) (by omega) (hn (fun h => by have := h.1; omega))
    case h6 => exact fin0 0 (by omega) (by omega) (hn (fun h => by have := h.2.1; omega))
    case h7 => exact key m 0 (by omega) (by omega) (by omega) (fun i i0 i1 => by omega)
    all_goals first | omega | (have := hT.1; (repeat' first | exact hrg _ | assumption | (unfold rg; omega) | omega | refine And.intro ?_ ?_))
set_option maxHeartbeats 4000000 in
theorem c199 (hT : TP B n) (hR : RS B n G r) {x : Int} {m : Nat} (hm : m ≤ 10) (hQ : ∀ G1, fr G G1 SRD → RS B n G1 (Except.bind r (oWord B n x m)) → Q none G1) : zW (d + 4) 199 [zr 9 0 297, zr 15 m x] G Q := by
  refine zm_199 (zs_199_0 (c198 hT hR hm (fun ⟨S, hr, hw⟩ => ?_) (fun hn => ?_)))
  · subst hr
    have hs : Except.bind (Except.ok S) (oWord B n x m) = Except.ok (oStep B n S) := by show oWord B n x m S = _; unfold oWord; rw [cif_t hw]
    rw [hs] at hQ
    apply zs_199_5 <;> intros
    case h5 => exact c195s hT hR (fun G1 f1 hR1 => zs_199_12 (hQ G1 f1 hR1))
    all_goals first | omega | (repeat' first | exact hrg _ | assumption | (unfold rg; omega) | omega | refine And.intro ?_ ?_)
  · cases r with
    | error e =>
      have hF : FT G e := hR
      have h37 := hF.2.1
      have hk := hF.1
      apply zs_199_5 <;> intros
      case h3 => exact hQ G (fr_refl _ _) hR
      all_goals first | omega | (repeat' first | exact hrg _ | assumption | (unfold rg; omega) | omega | refine And.intro ?_ ?_)
    | ok S =>
      have hs : Except.bind (Except.ok S) (oWord B n x m) = Except.error (1, S.1.2.1) := by show oWord B n x m S = _; unfold oWord; rw [cif_f (fun h => hn ⟨S, rfl, h⟩)]
      rw [hs] at hQ
      have e37 := (RS_n hR).2.2.2.1
      apply zs_199_5 <;> intros
      case h4 => exact hQ _ (srd_u (fr_refl _ _) _ _) (RS_err hR (by omega))
      all_goals first | omega | (repeat' first | exact hrg _ | assumption | (unfold rg; omega) | omega | refine And.intro ?_ ?_)
set_option maxHeartbeats 4000000 in
theorem c200 (hT : TP B n) (hR : RS B n G r) {lo hi : Int} (hlo : 0 ≤ lo) (hhi : lo ≤ hi ∧ hi ≤ 1000) (hQ : ∀ G1 v, fr G G1 SRD → RSV B n v G1 (Except.bind r (oNum B n lo hi)) → Q (some (zi v)) G1) : zW (d + 4) 200 [zr 9 0 297, zi lo, zi hi] G Q := by
  have flt : ∀ G1 e, fr G G1 SRD → FT G1 e → Except.bind r (oNum B n lo hi) = Except.error e → ∀ l3, zAt xT_200 (zW (d + 3)) Q 20 [zr 9 0 297, zi lo, zi hi, l3] [] G1 := by
    intro G1 e f1 hF he l3
    have h37 := hF.2.1
    have hk := hF.1
    apply zs_200_20 <;> intros
    case h2 => exact hQ G1 0 f1 (by rw [he]; exact ⟨rg_0, hF⟩)
    all_goals first | omega | (repeat' first | exact hrg _ | assumption | (unfold rg; omega) | omega | refine And.intro ?_ ?_)
  refine zm_200 ?_
  cases r with
  | error e =>
    have hF : FT G e := hR
    have h37 := hF.2.1
    have hk := hF.1
    apply zs_200_0 <;> intros
    case h2 => exact flt G e (fr_refl _ _) hF rfl _
    all_goals first | omega | (repeat' first | exact hrg _ | assumption | (unfold rg; omega) | omega | refine And.intro ?_ ?_)
  | ok S =>
    obtain ⟨e33, e34, e35, e37, e299, eB, a, a5⟩ := RS_n hR
    have hb : ∀ q, oNum B n lo hi S = q → Except.bind (Except.ok S) (oNum B n lo hi) = q := fun q h => h
    apply zs_200_0 <;> intros
    case h4 =>
      have h2 : S.1.1 = 2 := by omega
      have e36 : G 297 36 = min 99999 S.1.2.2.2 := hR.2.2.1.2.2.2 h2
      have hv := hR.1.1.2.2.2.2.1
      apply zs_200_20 <;> intros
      case h4 =>
        have hin : lo ≤ S.1.2.2.2 ∧ S.1.2.2.2 ≤ hi := by omega
        have ev : G 297 36 = S.1.2.2.2 := by omega
        rw [ev]
        refine c195s hT hR (fun G1 f1 hR1 => zs_200_65 (hQ G1 _ f1 ?_))
        rw [hb (Except.ok (S.1.2.2.2, oStep B n S)) (by unfold oNum; rw [if_pos h2, if_pos hin])]
        exact ⟨rfl, hR1.1, hR1.2⟩
      case h5 => exact hQ _ 0 (srd_u (fr_refl _ _) _ _) (by rw [hb (Except.error (2, S.1.2.1)) (by unfold oNum; rw [if_pos h2, if_neg (by omega)])]; exact ⟨rg_0, RS_err hR (by omega)⟩)
      case h6 => exact hQ _ 0 (srd_u (fr_refl _ _) _ _) (by rw [hb (Except.error (2, S.1.2.1)) (by unfold oNum; rw [if_pos h2, if_neg (by omega)])]; exact ⟨rg_0, RS_err hR (by omega)⟩)
      all_goals first | omega | (repeat' first | exact hrg _ | assumption | (unfold rg; omega) | omega | refine And.intro ?_ ?_)
    case h5 =>
      have h2 : ¬ S.1.1 = 2 := by omega
      exact flt _ (1, S.1.2.1) (srd_u (fr_refl _ _) _ _) (RS_err hR (by omega)) (by rw [hb (Except.error (1, S.1.2.1)) (by unfold oNum; rw [if_neg h2])]) _
    all_goals first | omega | (repeat' first | exact hrg _ | assumption | (unfold rg; omega) | omega | refine And.intro ?_ ?_)
theorem c201 (hT : TP B n) (hR : RS B n G r) {x : Int} {m : Nat} (hm : m ≤ 10) {lo hi : Int} (hlo : 0 ≤ lo) (hhi : lo ≤ hi ∧ hi ≤ 1000) (hQ : ∀ G1 v, fr G G1 SRD → RSV B n v G1 (Except.bind (Except.bind r (oWord B n x m)) (oNum B n lo hi)) → Q (some (zi v)) G1) : zW (d + 5) 201 [zr 9 0 297, zr 15 m x, zi lo, zi hi] G Q :=
  zm_201 (zs_201_0 (c199 hT hR hm (fun G1 f1 hR1 => zs_201_5 (c200 hT hR1 hlo hhi (fun G2 v f2 hR2 => zs_201_11 (hQ G2 v (fr_trans f1 f2 (fun _ _ t => t)) hR2))))))
theorem RS_set {q : RE (Int × PS)} {v j : Int} (hR : RSV B n v G q) (hj : j < 2 ∨ 6 ≤ j) (hok : ∀ p, q = Except.ok p → PSok B n p.2 → PSok B n (oSet j p.1 p.2)) : RS B n (zu G 299 j v) (Except.bind q (fun p => Except.ok (oSet j p.1 p.2))) := by
  cases q with
  | error e =>
    obtain ⟨_, h1, h2, h3, h4⟩ := hR
    exact ⟨h1, by rw [zu_kj (by omega)]; exact h2, by rw [zu_kj (by omega)]; exact h3, fun i i0 i1 => by rw [zu_j (by omega)]; exact h4 i i0 i1⟩
  | ok p =>
    obtain ⟨hv, h1, h2, h3, h4, h5, h6⟩ := hR
    refine ⟨hok p rfl h1, ⟨by rw [zu_kj (by omega)]; exact h2.1, fun i i0 i1 => by rw [zu_kj (by omega)]; exact h2.2 i i0 i1⟩, ⟨by rw [zu_kj (by omega)]; exact h3.1, by rw [zu_kj (by omega)]; exact h3.2.1, by rw [zu_kj (by omega)]; exact h3.2.2.1, fun h => by rw [zu_kj (by omega)]; exact h3.2.2.2 h⟩, ⟨by rw [zu_kj (by omega)]; exact h4.1, by rw [zu_kj (by omega)]; exact h4.2⟩, ?_, fun p p0 p1 hp i i0 i1 => by rw [zu_kj (by omega)]; exact h6 p p0 p1 hp i i0 i1⟩
    rw [zu_f, h5, hv]; rfl
end RE
