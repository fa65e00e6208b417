/-! THE CALLS: both, bothOn, by, run by the reference -/
def upQ (q A : Q4) : Q4 := (max q.1 A.1, (if A.1 ≤ A.2.1 then min q.2.1 A.2.1 else -1), max q.2.2.1 A.2.2.1, (if A.2.2.1 ≤ A.2.2.2 then min q.2.2.2 A.2.2.2 else -1))
def SN (k j : Int) : Prop := (303 ≤ k ∧ k ≤ 311) ∨ (k = 297 ∧ ((9 ≤ j ∧ j ≤ 11) ∨ (18 ≤ j ∧ j ≤ 28)))
def bQ (q : Q4) : Prop := (0 ≤ q.1 ∧ q.1 ≤ 365) ∧ (-1 ≤ q.2.1 ∧ q.2.1 ≤ 365) ∧ (0 ≤ q.2.2.1 ∧ q.2.2.1 ≤ 365) ∧ (-1 ≤ q.2.2.2 ∧ q.2.2.2 ≤ 365)
theorem upQ_b {q A : Q4} (h : bQ q) (g : Q4d A) : bQ (upQ q A) := by
  unfold bQ Q4d upQ at *
  simp only
  split <;> split <;> omega
theorem upQ_vd {A B : Q4} (hA : Q4d A) (hB : Q4d B) : (((upQ o4 A).2.1 ≠ -1 ∧ (upQ (upQ o4 A) B).2.1 ≠ -1 ∧ (upQ (upQ o4 A) B).1 ≤ (upQ (upQ o4 A) B).2.1) ↔ (nar A B).1 ≤ (nar A B).2.1) ∧ (((upQ o4 A).2.2.2 ≠ -1 ∧ (upQ (upQ o4 A) B).2.2.2 ≠ -1 ∧ (upQ (upQ o4 A) B).2.2.1 ≤ (upQ (upQ o4 A) B).2.2.2) ↔ (nar A B).2.2.1 ≤ (nar A B).2.2.2) := by
  unfold Q4d upQ nar o4 at *
  simp only
  constructor
  · by_cases a : A.1 ≤ A.2.1 <;> by_cases b : B.1 ≤ B.2.1 <;> simp only [a, b, if_true, if_false] <;> omega
  · by_cases a : A.2.2.1 ≤ A.2.2.2 <;> by_cases b : B.2.2.1 ≤ B.2.2.2 <;> simp only [a, b, if_true, if_false] <;> omega
section RE
variable {d : Nat} {G : zG} {Q : zQ} {w : Int → Int}
set_option maxHeartbeats 4000000 in
theorem c_vn {dr : Int} {m : Nat} (wf : WF w) (hdr : rg dr) (hw : G 298 = w) (hd : G 297 7 = dr) {p day : Int} (hok : okPD w p day) (hQ : ∀ G1, fr G G1 SN → VM G1 (vw w dr p day) → SM G1 (spL w dr (vw w dr p day) 0) → Q none G1) : zW (d + 9) 185 [zr 9 0 297, zi p, zi day] G (fun r G1 => zq0 r (zW (d + m + 6) 189 [zr 9 0 297] G1 Q)) := by
  refine c185 wf hdr hw hd hok.1.1 hok.1.2 hok.2.1 hok.2.2 (fun G1 f1 hV => ?_)
  have w1 : G1 298 = w := (fr_k f1 (fun j e => by unfold S184 at e; omega)).trans hw
  have d1 : G1 297 7 = dr := (f1 _ _ (fun e => by unfold S184 at e; omega)).trans hd
  refine c189 wf hdr w1 d1 hV (by have := vw_len (dr := dr) wf p day; omega) (fun x hx => ?_) (fun G2 f2 hS => ?_)
  · have := vw_ok wf hok x hx
    have e := EOK_e wf this
    exact ⟨this.1, this.2.1, by unfold rg; omega⟩
  · refine hQ G2 (fr_trans (fr_wide f1 (by intro k j t; unfold S184 at t; unfold SN; omega)) f2 (by intro k j t; unfold S189 at t; unfold SN; omega)) ?_ hS
    refine ⟨(f2 _ _ (fun e => by unfold S189 at e; omega)).trans hV.1, fun i i0 i1 => ?_⟩
    rw [f2 304 i (fun e => by unfold S189 at e; omega), f2 305 i (fun e => by unfold S189 at e; omega), f2 306 i (fun e => by unfold S189 at e; omega), f2 307 i (fun e => by unfold S189 at e; omega), f2 308 i (fun e => by unfold S189 at e; omega), f2 309 i (fun e => by unfold S189 at e; omega)]
    exact hV.2 i i0 i1
theorem SN_SR {k j : Int} (h : SN k j) : SR k j := by unfold SN at h; unfold SR; omega
set_option maxHeartbeats 4000000 in
theorem c239 (wf : WF w) (hw : G 298 = w) (hd : G 297 7 = -1) {p day : Int} (hg : okPD w p day) {q : Q4} (hq : Q4M G 315 q) (hb : bQ q) (hQ : ∀ G1, fr G G1 SR → Q4M G1 315 (upQ q (allS w (-1) (vw w (-1) p day))) → Q none G1) : zW (d + 10) 239 [zr 9 0 297, zi p, zi day] G Q := by
  subst hw
  have hl := vw_len (dr := -1) wf p day
  have hall : allS (G 298) (-1) (vw (G 298) (-1) p day) = foldB (G 298) (-1) (-1) (vw (G 298) (-1) p day) 0 o4 := (foldB_all _ 0 o4 (by omega)).symm
  rw [hall] at hQ
  have hdq := foldB_d (dr := -1) (but := -1) wf (vw (G 298) (-1) p day) 0 o4 o4_d
  refine zm_239 (zs_239_0 ?_)
  refine zW_m _ _ _ _ _ _ (fun r G1 z => zq0_m (fun y => zs_239_6 y) z) (c_vn (dr := -1) (m := 3) wf ⟨by omega, by omega⟩ rfl hd hg (fun G1 f1 hV hS => zs_239_10 ?_))
  have q1 : Q4M G1 315 q := by
    unfold Q4M
    rw [f1 315 0 (by unfold SN; omega), f1 315 1 (by unfold SN; omega), f1 315 2 (by unfold SN; omega), f1 315 3 (by unfold SN; omega)]
    exact hq
  generalize vw (G 298) (-1) p day = L at *
  obtain ⟨b1, b2, b3, b4⟩ := hb
  apply zs_239_12 <;> intros
  case h3 =>
    refine c190v (d := d + 8) wf hl hS (wh := 0) (by omega) ⟨by omega, by omega⟩ (fun G2 f2 h1 h2 => ?_)
    have hS2 := SM_190 hS f2
    have q2 : Q4M G2 315 q := by
      unfold Q4M
      rw [f2 315 0 (by unfold S190; omega), f2 315 1 (by unfold S190; omega), f2 315 2 (by unfold S190; omega), f2 315 3 (by unfold S190; omega)]
      exact q1
    have f12 : fr G G2 SR := fr_trans (fr_wide f1 (fun k j t => SN_SR t)) f2 (by intro k j t; unfold S190 at t; unfold SR; omega)
    generalize hB : foldB (G 298) (-1) (-1) L 0 o4 = A at *
    have eA0 : qA 0 A = A.1 := rfl
    have eB0 : qB 0 A = A.2.1 := rfl
    have eA2 : qA 2 A = A.2.2.1 := rfl
    have eB2 : qB 2 A = A.2.2.2 := rfl
    rw [eA0] at h1
    rw [eB0] at h2
    rw [eA0, eB0]
    have hdq' := hdq
    unfold Q4d at hdq'
    have sec : ∀ G3, fr G G3 SR → SM G3 (spL (G 298) (-1) L 0) → G3 315 0 = (upQ q A).1 → G3 315 1 = (upQ q A).2.1 → G3 315 2 = q.2.2.1 → G3 315 3 = q.2.2.2 → ∀ l4, zAt xT_239 (zW (d + 9)) Q 12 [zr 9 0 297, z0, z0, zi 2, l4] [] G3 := by
      intro G3 f3 hS3 e0 e1 e2 e3 l4
      apply zs_239_12 <;> intros
      case h3 =>
        refine c190v (d := d + 8) wf hl hS3 (wh := 2) (by omega) ⟨by omega, by omega⟩ (fun G4 f4 h1 h2 => ?_)
        rw [hB] at h1 h2 ⊢
        rw [eA2] at h1
        rw [eB2] at h2
        rw [eA2, eB2]
        have f34 : fr G G4 SR := fr_trans f3 f4 (by intro k j t; unfold S190 at t; unfold SR; omega)
        have g : ∀ j, G4 315 j = G3 315 j := fun j => f4 _ _ (by unfold S190; omega)
        have fin : ∀ x l4, x = (upQ q A).2.2.2 → zAt xT_239 (zW (d + 9)) Q 12 [zr 9 0 297, z0, z0, zi 4, l4] [] (zu (zu G4 315 2 (max q.2.2.1 A.2.2.1)) 315 3 x) := fun x l4 hx => by
          apply zs_239_12 <;> intros
          case h2 =>
            refine hQ _ (fr_u (fr_u f34 (by unfold SR; omega)) (by unfold SR; omega)) ?_
            refine ⟨?_, ?_, ?_, ?_⟩
            · (simp (disch := omega) only [zu_kj, zu_s, zl10, zl20, zl21, zl30, zl31, zl32, zl40, zl41, zl42, zl43, zl02, zl03, zl04, zl23, zl24, zl34, zl12, zl13, zl14, zl01]); rw [g, e0]
            · (simp (disch := omega) only [zu_kj, zu_s, zl10, zl20, zl21, zl30, zl31, zl32, zl40, zl41, zl42, zl43, zl02, zl03, zl04, zl23, zl24, zl34, zl12, zl13, zl14, zl01]); rw [g, e1]
            · (simp (disch := omega) only [zu_kj, zu_s, zl10, zl20, zl21, zl30, zl31, zl32, zl40, zl41, zl42, zl43, zl02, zl03, zl04, zl23, zl24, zl34, zl12, zl13, zl14, zl01]); rfl
            · (simp (disch := omega) only [zu_kj, zu_s, zl10, zl20, zl21, zl30, zl31, zl32, zl40, zl41, zl42, zl43, zl02, zl03, zl04, zl23, zl24, zl34, zl12, zl13, zl14, zl01]); exact hx
          all_goals first | omega | (repeat' first | exact hrg _ | assumption | (unfold rg; omega) | omega | refine And.intro ?_ ?_)
        refine ⟨fun hle => ?_, fun hlt => ?_⟩
        · apply zs_239_23 <;> intros
          case h5 =>
            rw [show (2 : Int) + 1 = 3 by omega, show (2 : Int) + 2 = 4 by omega]
            (simp (disch := omega) only [zu_kj, zu_s, zl10, zl20, zl21, zl30, zl31, zl32, zl40, zl41, zl42, zl43, zl02, zl03, zl04, zl23, zl24, zl34, zl12, zl13, zl14, zl01])
            rw [g, g, e2, e3, h1, h2]
            exact fin _ _ (by unfold upQ; simp only; rw [if_pos hle])
          case h4 =>
            rw [show (2 : Int) + 1 = 3 by omega]
            (simp (disch := omega) only [zu_kj, zu_s, zl10, zl20, zl21, zl30, zl31, zl32, zl40, zl41, zl42, zl43, zl02, zl03, zl04, zl23, zl24, zl34, zl12, zl13, zl14, zl01])
            rw [g, e3, h2]
            (repeat' first | exact hrg _ | assumption | (unfold rg; omega) | omega | refine And.intro ?_ ?_)
          case h1 => rw [g, e2, h1]; (repeat' first | exact hrg _ | assumption | (unfold rg; omega) | omega | refine And.intro ?_ ?_)
          all_goals first | omega | (repeat' first | exact hrg _ | assumption | (unfold rg; omega) | omega | refine And.intro ?_ ?_)
        · apply zs_239_23 <;> intros
          case h3 =>
            rw [show (2 : Int) + 1 = 3 by omega, show (2 : Int) + 2 = 4 by omega]
            rw [g, e2, h1]
            exact fin _ _ (by unfold upQ; simp only; rw [if_neg (by omega)])
          case h1 => rw [g, e2, h1]; (repeat' first | exact hrg _ | assumption | (unfold rg; omega) | omega | refine And.intro ?_ ?_)
          all_goals first | omega | (repeat' first | exact hrg _ | assumption | (unfold rg; omega) | omega | refine And.intro ?_ ?_)
      all_goals first | omega | (repeat' first | exact hrg _ | assumption | (unfold rg; omega) | omega | refine And.intro ?_ ?_)
    have go : ∀ x l4, x = (upQ q A).2.1 → zAt xT_239 (zW (d + 9)) Q 12 [zr 9 0 297, z0, z0, zi 2, l4] [] (zu (zu G2 315 0 (max q.1 A.1)) 315 1 x) := fun x l4 hx => by
      refine sec _ (fr_u (fr_u f12 (by unfold SR; omega)) (by unfold SR; omega)) ?_ ?_ ?_ ?_ ?_ l4
      · refine ⟨?_, fun i i0 i1 => ?_⟩
        · (simp (disch := omega) only [zu_kj, zu_s, zl10, zl20, zl21, zl30, zl31, zl32, zl40, zl41, zl42, zl43, zl02, zl03, zl04, zl23, zl24, zl34, zl12, zl13, zl14, zl01]); exact hS2.1
        · (simp (disch := omega) only [zu_kj, zu_s, zl10, zl20, zl21, zl30, zl31, zl32, zl40, zl41, zl42, zl43, zl02, zl03, zl04, zl23, zl24, zl34, zl12, zl13, zl14, zl01]); exact hS2.2 i i0 i1
      · (simp (disch := omega) only [zu_kj, zu_s, zl10, zl20, zl21, zl30, zl31, zl32, zl40, zl41, zl42, zl43, zl02, zl03, zl04, zl23, zl24, zl34, zl12, zl13, zl14, zl01]); rfl
      · (simp (disch := omega) only [zu_kj, zu_s, zl10, zl20, zl21, zl30, zl31, zl32, zl40, zl41, zl42, zl43, zl02, zl03, zl04, zl23, zl24, zl34, zl12, zl13, zl14, zl01]); exact hx
      · (simp (disch := omega) only [zu_kj, zu_s, zl10, zl20, zl21, zl30, zl31, zl32, zl40, zl41, zl42, zl43, zl02, zl03, zl04, zl23, zl24, zl34, zl12, zl13, zl14, zl01]); exact q2.2.2.1
      · (simp (disch := omega) only [zu_kj, zu_s, zl10, zl20, zl21, zl30, zl31, zl32, zl40, zl41, zl42, zl43, zl02, zl03, zl04, zl23, zl24, zl34, zl12, zl13, zl14, zl01]); exact q2.2.2.2
    refine ⟨fun hle => ?_, fun hlt => ?_⟩
    · apply zs_239_23 <;> intros
      case h5 =>
        rw [show (0 : Int) + 1 = 1 by omega, show (0 : Int) + 2 = 2 by omega]
        (simp (disch := omega) only [zu_kj, zu_s, zl10, zl20, zl21, zl30, zl31, zl32, zl40, zl41, zl42, zl43, zl02, zl03, zl04, zl23, zl24, zl34, zl12, zl13, zl14, zl01])
        rw [q2.1, q2.2.1, h1, h2]
        exact go _ _ (by unfold upQ; simp only; rw [if_pos hle])
      case h4 =>
        rw [show (0 : Int) + 1 = 1 by omega]
        (simp (disch := omega) only [zu_kj, zu_s, zl10, zl20, zl21, zl30, zl31, zl32, zl40, zl41, zl42, zl43, zl02, zl03, zl04, zl23, zl24, zl34, zl12, zl13, zl14, zl01])
        rw [q2.2.1, h2]
        (repeat' first | exact hrg _ | assumption | (unfold rg; omega) | omega | refine And.intro ?_ ?_)
      case h1 => rw [q2.1, h1]; (repeat' first | exact hrg _ | assumption | (unfold rg; omega) | omega | refine And.intro ?_ ?_)
      all_goals first | omega | (repeat' first | exact hrg _ | assumption | (unfold rg; omega) | omega | refine And.intro ?_ ?_)
    · apply zs_239_23 <;> intros
      case h3 =>
        rw [show (0 : Int) + 1 = 1 by omega, show (0 : Int) + 2 = 2 by omega]
        rw [q2.1, h1]
        exact go _ _ (by unfold upQ; simp only; rw [if_neg (by omega)])
      case h1 => rw [q2.1, h1]; (repeat' first | exact hrg _ | assumption | (unfold rg; omega) | omega | refine And.intro ?_ ?_)
      all_goals first | omega | (repeat' first | exact hrg _ | assumption | (unfold rg; omega) | omega | refine And.intro ?_ ?_)
  all_goals first | omega | (repeat' first | exact hrg _ | assumption | (unfold rg; omega) | omega | refine And.intro ?_ ?_)
set_option maxHeartbeats 4000000 in
theorem c240 (wf : WF w) (hw : G 298 = w) (hd : G 297 7 = -1) {p q day : Int} (hg : okPD w p day) (hq : 0 ≤ q ∧ q < w 2) (hQ : ∀ G1, fr G G1 SR → Q (some (zi (bth w p q day))) G1) : zW (d + 11) 240 [zr 9 0 297, zi p, zi q, zi day] G Q := by
  refine zm_240 (zs_240_0 ?_)
  have hgq : okPD w q day := ⟨hq, hg.2⟩
  have dA := foldB_d (dr := -1) (but := -1) wf (vw w (-1) p day) 0 o4 o4_d
  rw [foldB_all _ 0 o4 (by omega)] at dA
  have dA : Q4d (allS w (-1) (vw w (-1) p day)) := dA
  have dB := foldB_d (dr := -1) (but := -1) wf (vw w (-1) q day) 0 o4 o4_d
  rw [foldB_all _ 0 o4 (by omega)] at dB
  have dB : Q4d (allS w (-1) (vw w (-1) q day)) := dB
  have hvd := upQ_vd dA dB
  have ob : bQ o4 := by unfold bQ o4; simp only; omega
  have ub := upQ_b ob dA
  have ub2 := upQ_b ub dB
  have main : ∀ G1, fr G G1 SR → Q4M G1 315 o4 → ∀ l5 l6 l7, zAt xT_240 (zW (d + 10)) Q 3 [zr 9 0 297, zi p, zi q, zi day, zi 4, l5, l6, l7] [] G1 := by
    intro G1 f1 m1 l5 l6 l7
    have w1 : G1 298 = w := (fr_k f1 (fun j e => by unfold SR at e; omega)).trans hw
    have d1 : G1 297 7 = -1 := (f1 _ _ (fun e => by unfold SR at e; omega)).trans hd
    apply zs_240_3 <;> intros
    case h2 =>
      refine c239 wf w1 d1 hg m1 ob (fun G2 f2 m2 => zs_240_42 ?_)
      have w2 : G2 298 = w := (fr_k f2 (fun j e => by unfold SR at e; omega)).trans w1
      have d2 : G2 297 7 = -1 := (f2 _ _ (fun e => by unfold SR at e; omega)).trans d1
      rw [m2.2.1, m2.2.2.2]
      refine c239 wf w2 d2 hgq m2 ub (fun G3 f3 m3 => ?_)
      have hQ3 := hQ G3 (fr_trans (fr_trans f1 f2 (fun k j t => t)) f3 (fun k j t => t))
      unfold bth vd at hQ3
      generalize allS w (-1) (vw w (-1) p day) = A at *
      generalize allS w (-1) (vw w (-1) q day) = B at *
      obtain ⟨z1, z2, z3, z4⟩ := m3
      unfold bQ at ub ub2
      have s99 : ¬ (nar A B).1 ≤ (nar A B).2.1 → ∀ l1 l2 l3 l4, zAt xT_240 (zW (d + 10)) Q 99 [zr 9 0 297, l1, l2, l3, l4, zi (upQ o4 A).2.2.2, z0, z0] [] G3 := fun hn l1 l2 l3 l4 => by
        rw [if_neg hn] at hQ3
        have h2 := hvd.2
        apply zs_240_99 <;> intros
        case h2 => rw [if_neg (fun z => by have := h2.mpr z; omega)] at hQ3; exact hQ3
        case h4 => rw [if_neg (fun z => by have := h2.mpr z; omega)] at hQ3; exact hQ3
        case h6 => rw [if_neg (fun z => by have := h2.mpr z; omega)] at hQ3; exact hQ3
        case h7 => rw [if_pos (h2.mp (by omega))] at hQ3; exact hQ3
        all_goals first | omega | (repeat' first | exact hrg _ | assumption | (unfold rg; omega) | omega | refine And.intro ?_ ?_)
      have h1 := hvd.1
      apply zs_240_64 <;> intros
      case h2 => exact s99 (fun z => by have := h1.mpr z; omega) _ _ _ _
      case h4 => exact s99 (fun z => by have := h1.mpr z; omega) _ _ _ _
      case h6 => exact s99 (fun z => by have := h1.mpr z; omega) _ _ _ _
      case h8 => rw [if_pos (h1.mp (by omega))] at hQ3; exact hQ3
      case h10 => rw [if_pos (h1.mp (by omega))] at hQ3; exact hQ3
      case h12 => rw [if_pos (h1.mp (by omega))] at hQ3; exact hQ3
      case h13 => rw [if_pos (h1.mp (by omega))] at hQ3; exact hQ3
      all_goals first | omega | (repeat' first | exact hrg _ | assumption | (unfold rg; omega) | omega | refine And.intro ?_ ?_)
    all_goals first | omega | (repeat' first | exact hrg _ | assumption | (unfold rg; omega) | omega | refine And.intro ?_ ?_)
  have step : ∀ (v x : Int) (G1 : zG), fr G G1 SR → 0 ≤ v → v < 4 → x = (if v % 2 = 0 then 0 else 365) → (∀ l5 l6 l7, zAt xT_240 (zW (d + 10)) Q 3 [zr 9 0 297, zi p, zi q, zi day, zi (v + 1), l5, l6, l7] [] (zu G1 315 v x)) → ∀ l5 l6 l7, zAt xT_240 (zW (d + 10)) Q 3 [zr 9 0 297, zi p, zi q, zi day, zi v, l5, l6, l7] [] G1 := by
    intro v x G1 f1 v0 v1 hx h l5 l6 l7
    apply zs_240_3 <;> intros
    case h5 => rw [if_neg (by assumption)] at hx; rw [← hx]; exact h _ _ _
    case h7 => rw [if_pos (by assumption)] at hx; rw [← hx]; exact h _ _ _
    all_goals first | omega | (repeat' first | exact hrg _ | assumption | (unfold rg; omega) | omega | refine And.intro ?_ ?_)
  refine step 0 0 G (fr_refl _ _) (by omega) (by omega) (by decide) ?_ _ _ _
  refine step 1 365 _ (fr_u (fr_refl _ _) (by unfold SR; omega)) (by omega) (by omega) (by decide) ?_
  refine step 2 0 _ (fr_u (fr_u (fr_refl _ _) (by unfold SR; omega)) (by unfold SR; omega)) (by omega) (by omega) (by decide) ?_
  refine step 3 365 _ (fr_u (fr_u (fr_u (fr_refl _ _) (by unfold SR; omega)) (by unfold SR; omega)) (by unfold SR; omega)) (by omega) (by omega) (by decide) ?_
  refine main _ (fr_u (fr_u (fr_u (fr_u (fr_refl _ _) (by unfold SR; omega)) (by unfold SR; omega)) (by unfold SR; omega)) (by unfold SR; omega)) ?_
  unfold o4
  refine ⟨?_, ?_, ?_, ?_⟩ <;> (simp (disch := omega) only [zu_kj, zu_s, zl10, zl20, zl21, zl30, zl31, zl32, zl40, zl41, zl42, zl43, zl02, zl03, zl04, zl23, zl24, zl34, zl12, zl13, zl14, zl01])
set_option maxHeartbeats 4000000 in
theorem r_both (wf : WF w) (hw : G 298 = w) (hd : G 297 7 = -1) {p q day : Int} (hp : rg p) (hq : rg q) (hdd : rg day) (hQ : ∀ G1, fr G G1 SR → Q (some (zi (q_both w p q day))) G1) : zW (d + 12) 241 [zr 9 0 297, zi p, zi q, zi day] G Q := by
  subst hw
  obtain ⟨n0, n1, n2, n3, n4, n5⟩ := WF_n wf; have hrg := WF_rg wf
  unfold q_both at hQ
  refine zm_241 ?_
  by_cases hg : okPD (G 298) p day ∧ 0 ≤ q ∧ q < G 298 2
  · rw [bP_t hg] at hQ
    have hg' := hg
    unfold okPD at hg'
    apply zs_241_0 <;> intros
    case h4 => exact c240 wf rfl hd hg.1 hg.2 (fun G1 f1 => zs_241_24 (hQ G1 f1))
    all_goals first | omega | (repeat' first | exact hrg _ | assumption | (unfold rg; omega) | omega | refine And.intro ?_ ?_)
  · rw [bP_f hg] at hQ
    unfold okPD at hg
    apply zs_241_0 <;> intros
    all_goals first | omega | exact hQ G (fr_refl _ _) | (repeat' first | exact hrg _ | assumption | (unfold rg; omega) | omega | refine And.intro ?_ ?_)
set_option maxHeartbeats 4000000 in
theorem r_bothOn (wf : WF w) (hw : G 298 = w) (hd : G 297 7 = -1) {p q k : Int} (hp : rg p) (hq : rg q) (hk : rg k) (hQ : ∀ G1, fr G G1 SR → Q (some (zi (q_bothOn w p q k))) G1) : zW (d + 12) 242 [zr 9 0 297, zi p, zi q, zi k] G Q := by
  subst hw
  obtain ⟨n0, n1, n2, n3, n4, n5⟩ := WF_n wf; have hrg := WF_rg wf
  unfold q_bothOn at hQ
  refine zm_242 ?_
  by_cases hg : (0 ≤ p ∧ p < G 298 2) ∧ (0 ≤ q ∧ q < G 298 2) ∧ 0 ≤ k ∧ k ≤ 2
  · rw [bP_t hg] at hQ
    have hr : ∀ t, rg (bth (G 298) p q t) := fun t => by unfold bth vd; split; exact ⟨by omega, by omega⟩; split <;> exact ⟨by omega, by omega⟩
    have key : ∀ (r : Nat) (t : Int), 0 ≤ t → t + r = 366 → ∀ G1, fr G G1 SR → (∀ s, 0 ≤ s → s < t → bth (G 298) p q s ≠ k) → zAt xT_242 (zW (d + 11)) Q 34 [zr 9 0 297, zi p, zi q, zi k, zi t] [] G1 := by
      intro r
      induction r with
      | zero =>
        intro t t0 t1 G1 f1 hn
        apply zs_242_34 <;> intros
        case h2 =>
          have hQ1 := hQ G1 f1
          rw [mn_eq (fun _ _ _ _ h => h) (Or.inl ⟨rfl, fun s hs => hn s hs.1 (by have := hs.2.1; omega) hs.2.2⟩)] at hQ1
          exact hQ1
        all_goals first | omega | (repeat' first | exact hrg _ | assumption | (unfold rg; omega) | omega | refine And.intro ?_ ?_)
      | succ r ih =>
        intro t t0 t1 G1 f1 hn
        have w1 : G1 298 = G 298 := fr_k f1 (fun j e => by unfold SR at e; omega)
        have d1 : G1 297 7 = -1 := (f1 _ _ (fun e => by unfold SR at e; omega)).trans hd
        apply zs_242_34 <;> intros
        case h3 =>
          refine c240 wf w1 d1 ⟨hg.1, t0, by omega⟩ hg.2.1 (fun G2 f2 => ?_)
          have f12 := fr_trans f1 f2 (fun k j t => t)
          have hrt := hr t
          apply zs_242_50 <;> intros
          case h2 =>
            refine ih (t + 1) (by omega) (by omega) G2 f12 (fun s s0 s1 => ?_)
            by_cases c : s = t
            · rw [c]; assumption
            · exact hn s s0 (by omega)
          case h3 =>
            have hQ1 := hQ G2 f12
            rw [mn_eq (fun _ _ _ _ h => h) (Or.inr ⟨⟨t0, by omega, by assumption⟩, fun s hs => by
              show t ≤ s
              by_cases c : s < t
              · exact absurd hs.2.2 (hn s hs.1 c)
              · omega⟩)] at hQ1
            exact hQ1
          all_goals first | omega | (repeat' first | exact hrg _ | assumption | (unfold rg; omega) | omega | refine And.intro ?_ ?_)
        all_goals first | omega | (repeat' first | exact hrg _ | assumption | (unfold rg; omega) | omega | refine And.intro ?_ ?_)
    apply zs_242_0 <;> intros
    case h4 => exact key 366 0 (by omega) (by omega) G (fr_refl _ _) (fun s s0 s1 => by omega)
    all_goals first | omega | (repeat' first | exact hrg _ | assumption | (unfold rg; omega) | omega | refine And.intro ?_ ?_)
  · rw [bP_f hg] at hQ
    apply zs_242_0 <;> intros
    all_goals first | omega | exact hQ G (fr_refl _ _) | (repeat' first | exact hrg _ | assumption | (unfold rg; omega) | omega | refine And.intro ?_ ?_)
set_option maxHeartbeats 4000000 in
theorem r_by (wf : WF w) (hw : G 298 = w) (hd : G 297 7 = -1) {p day l m : Int} (hp : rg p) (hdd : rg day) (hl : rg l) (hm : rg m) (hQ : ∀ G1, fr G G1 SR → Q (some (zi (q_by w p day l m))) G1) : zW (d + 11) 265 [zr 9 0 297, zi p, zi day, zi l, zi m] G Q := by
  subst hw
  obtain ⟨n0, n1, n2, n3, n4, n5⟩ := WF_n wf; have hrg := WF_rg wf
  unfold q_by at hQ
  refine zm_265 ?_
  by_cases hg : okPD (G 298) p day ∧ (0 ≤ l ∧ l ≤ 2) ∧ 0 ≤ m ∧ m ≤ 1
  · rw [bP_t hg] at hQ
    have hg' := hg
    unfold okPD at hg'
    apply zs_265_0 <;> intros
    case h5 =>
      have w1 : (zu (zu G 298 0 l) 298 1 m) 298 = wby (G 298) l m := funext fun j => by
        by_cases c0 : j = 0
        · rw [c0]; (simp (disch := omega) only [zu_kj, zu_s, zl10, zl20, zl21, zl30, zl31, zl32, zl40, zl41, zl42, zl43, zl02, zl03, zl04, zl23, zl24, zl34, zl12, zl13, zl14, zl01]); rfl
        · by_cases c1 : j = 1
          · rw [c1]; (simp (disch := omega) only [zu_kj, zu_s, zl10, zl20, zl21, zl30, zl31, zl32, zl40, zl41, zl42, zl43, zl02, zl03, zl04, zl23, zl24, zl34, zl12, zl13, zl14, zl01]); rfl
          · rw [zu_j c1, zu_j c0]; unfold wby; rw [if_neg c0, if_neg c1]
      refine c191 (dr := -1) (w := wby (G 298) l m) (wby_WF wf hg.2.1 hg.2.2) ⟨by omega, by omega⟩ w1 (by (simp (disch := omega) only [zu_kj, zu_s, zl10, zl20, zl21, zl30, zl31, zl32, zl40, zl41, zl42, zl43, zl02, zl03, zl04, zl23, zl24, zl34, zl12, zl13, zl14, zl01]); exact hd) ⟨by rw [wby_k (by omega)]; exact hg.1.1, hg.1.2⟩ (fun G1 f1 hV hS => zs_265_72 ?_)
      refine hQ _ (fun k j hn => ?_)
      by_cases c : k = 298
      · by_cases c0 : j = 0
        · rw [c, c0]; (simp (disch := omega) only [zu_kj, zu_s, zl10, zl20, zl21, zl30, zl31, zl32, zl40, zl41, zl42, zl43, zl02, zl03, zl04, zl23, zl24, zl34, zl12, zl13, zl14, zl01])
        · by_cases c1 : j = 1
          · rw [c, c1]; (simp (disch := omega) only [zu_kj, zu_s, zl10, zl20, zl21, zl30, zl31, zl32, zl40, zl41, zl42, zl43, zl02, zl03, zl04, zl23, zl24, zl34, zl12, zl13, zl14, zl01])
          · rw [c, zu_j c1, zu_j c0, f1 298 j (by unfold SR; omega), zu_j c1, zu_j c0]
      · rw [zu_k c, zu_k c, f1 k j hn, zu_k c, zu_k c]
    all_goals first | omega | (repeat' first | exact hrg _ | assumption | (unfold rg; omega) | omega | refine And.intro ?_ ?_)
  · rw [bP_f hg] at hQ
    unfold okPD at hg
    apply zs_265_0 <;> intros
    all_goals first | omega | exact hQ G (fr_refl _ _) | (repeat' first | exact hrg _ | assumption | (unfold rg; omega) | omega | refine And.intro ?_ ?_)
set_option maxHeartbeats 4000000 in
theorem r_run (wf : WF w) (hw : G 298 = w) (hd : G 297 7 = -1) {s k : Int} (hs : rg s) (hk : rg k) (hQ : ∀ G1, fr G G1 SR → Q (some (zi (q_run w s k))) G1) : zW (d + 10) 238 [zr 9 0 297, zi s, zi k] G Q := by
  subst hw
  obtain ⟨n0, n1, n2, n3, n4, n5⟩ := WF_n wf; have hrg := WF_rg wf
  unfold q_run at hQ
  refine zm_238 ?_
  by_cases hg : (0 ≤ s ∧ s < G 298 4) ∧ 0 ≤ k ∧ k ≤ 4
  · rw [bP_t hg] at hQ
    have hsh : sho (G 298) (-1) ((G 298) (116 + (4 * s))) s := ⟨hg.1.1, hg.1.2, by omega, rfl⟩
    apply zs_238_0 <;> intros
    case h3 =>
      refine c187 wf (by rw [hd]; exact ⟨by omega, by omega⟩) hg.1.1 hg.1.2 (fun h1 h2 => ?_) (fun hn => ?_)
      · rw [hd] at h2
        rw [if_pos ⟨h1, h2⟩] at hQ
        apply zs_238_28 <;> intros
        case h3 => exact hQ G (fr_refl _ _)
        all_goals first | omega | (repeat' first | exact hrg _ | assumption | (unfold rg; omega) | omega | refine And.intro ?_ ?_)
      · rw [hd] at hn
        rw [if_neg hn] at hQ
        apply zs_238_28 <;> intros
        case h2 =>
          refine c188 wf (by rw [hd]; exact ⟨by omega, by omega⟩) (by rw [hd]; exact hsh) (fun G1 f1 hr => ?_)
          rw [hd] at hr
          have hQ1 := hQ G1 (fr_wide f1 (by intro k j t; unfold S188 at t; unfold SR; omega))
          rw [rn_eq hr] at hQ1
          simp only at hQ1
          apply zs_238_38 <;> intros
          case h2 => rw [if_neg (by omega), if_neg (by omega), if_neg (by omega), if_neg (by omega)] at hQ1; exact hQ1
          case h3 => rw [if_neg (by omega), if_neg (by omega), if_neg (by omega), if_pos (by omega)] at hQ1; exact hQ1
          case h4 => rw [if_neg (by omega), if_neg (by omega), if_pos (by omega)] at hQ1; exact hQ1
          case h5 => rw [if_neg (by omega), if_pos (by omega)] at hQ1; exact hQ1
          case h6 => rw [if_pos (by omega)] at hQ1; exact hQ1
          all_goals first | omega | (repeat' first | exact hrg _ | assumption | (unfold rg; omega) | omega | refine And.intro ?_ ?_)
        all_goals first | omega | (repeat' first | exact hrg _ | assumption | (unfold rg; omega) | omega | refine And.intro ?_ ?_)
    all_goals first | omega | (repeat' first | exact hrg _ | assumption | (unfold rg; omega) | omega | refine And.intro ?_ ?_)
  · rw [bP_f hg] at hQ
    apply zs_238_0 <;> intros
    all_goals first | omega | exact hQ G (fr_refl _ _) | (repeat' first | exact hrg _ | assumption | (unfold rg; omega) | omega | refine And.intro ?_ ?_)
end RE
