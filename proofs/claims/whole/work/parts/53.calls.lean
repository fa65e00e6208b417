/-! THE CALLS: whole, judged, element, common, spread, farthest, drift, heavy -/
section SPEC
variable (w : Int → Int) (dr : Int)
def whl : List EL → Prop
  | [] => True
  | y :: ys => (y.2.2.2.1 = 0 ∨ y.2.2.2.1 = 5) ∧ whl ys
/-- first and last day of the ends -/
def spM : List EL → Int → Int
  | [], m => m
  | y :: ys, m => spM ys (if y.2.2.1 = -1 then m else min m (w ((116 + (4 * (y.2.2.1))) + 1)))
def spX : List EL → Int → Int
  | [], m => m
  | y :: ys, m => spX ys (if y.2.2.1 = -1 then m else max m (w ((116 + (4 * (y.2.2.1))) + 1)))
def farF (day : Int) : List EL → Int → Int → Int → Int
  | [], _, b, _ => b
  | y :: ys, e, b, m => if y.2.2.1 ≠ -1 ∧ m < zabs ((w ((116 + (4 * (y.2.2.1))) + 1)) - day) then farF day ys (e + 1) e (zabs ((w ((116 + (4 * (y.2.2.1))) + 1)) - day)) else farF day ys (e + 1) b m
def drf (day : Int) : List EL → Int → Int
  | [], m => m
  | y :: ys, m => drf day ys (if y.2.2.1 = -1 then m else m + zabs ((w ((116 + (4 * (y.2.2.1))) + 1)) - day))
/-- the weight of the bodies in a set -/
noncomputable def sumB (P : Int → Prop) : Nat → Int
  | 0 => 0
  | n + 1 => sumB P n + @ite Int (P n) (Classical.propDecidable _) (w (6 + (11 * (n : Int)))) 0
def inL (L : List EL) (b : Int) : Prop := ∃ y ∈ L, y.2.2.2.1 = 0 ∧ lq w (bo w dr y.2.2.1) = b
end SPEC
noncomputable def bP (P : Prop) (x y : Int) : Int := @ite Int P (Classical.propDecidable _) x y
theorem bP_t {P : Prop} {x y : Int} (h : P) : bP P x y = x := if_pos h
theorem bP_f {P : Prop} {x y : Int} (h : ¬ P) : bP P x y = y := if_neg h
section SPEC2
variable (w : Int → Int)
noncomputable def q_whole (p day : Int) : Int := bP (okPD w p day) (bP (whl (vw w (-1) p day)) 1 0) (-2)
noncomputable def q_judged (p day : Int) : Int := bP (okPD w p day) (jdg w (-1) p day) (-2)
noncomputable def q_element (p day i k : Int) : Int := bP (okPD w p day ∧ 0 ≤ i ∧ 0 ≤ k ∧ k ≤ 5) (if (vw w (-1) p day).length ≤ i then -1 else if k = 0 then ((vw w (-1) p day).getD i.toNat e0).1 else if k = 1 then ((vw w (-1) p day).getD i.toNat e0).2.2.1 else if k = 2 then ((vw w (-1) p day).getD i.toNat e0).2.2.2.1 else if k = 3 then ((vw w (-1) p day).getD i.toNat e0).2.2.2.2.1 else if k = 4 then ((vw w (-1) p day).getD i.toNat e0).2.2.2.2.2 else if ((vw w (-1) p day).getD i.toNat e0).2.2.2.1 = 0 then (w (6 + (11 * (bo w (-1) ((vw w (-1) p day).getD i.toNat e0).2.2.1)))) else 0) (-2)
noncomputable def q_common (p day k : Int) : Int := bP (okPD w p day ∧ 0 ≤ k ∧ k ≤ 3) (if qA (k / 2 * 2) (allS w (-1) (vw w (-1) p day)) ≤ qB (k / 2 * 2) (allS w (-1) (vw w (-1) p day)) then (if k % 2 = 0 then qA (k / 2 * 2) (allS w (-1) (vw w (-1) p day)) else qB (k / 2 * 2) (allS w (-1) (vw w (-1) p day))) else -1) (-2)
noncomputable def q_spread (p day : Int) : Int := bP (okPD w p day) (if spX w (vw w (-1) p day) (-1) = -1 then -1 else spX w (vw w (-1) p day) (-1) - spM w (vw w (-1) p day) 365) (-2)
noncomputable def q_farthest (p day : Int) : Int := bP (okPD w p day) (farF w day (vw w (-1) p day) 0 (-1) (-1)) (-2)
noncomputable def q_drift (p day : Int) : Int := bP (okPD w p day) (drf w day (vw w (-1) p day) 0) (-2)
noncomputable def q_heavy (p day : Int) : Int := bP (okPD w p day) (sumB w (inL w (-1) (vw w (-1) p day)) (w 3).toNat) (-2)
end SPEC2
theorem getE_at {pre rem : List EL} {y : EL} : (pre ++ y :: rem).getD pre.length e0 = y := by
  rw [List.getD_eq_getElem?_getD, List.getElem?_append_right (Nat.le_refl _)]
  simp
section RE
variable {d : Nat} {G : zG} {Q : zQ} {w : Int → Int}
/-- an element as the reference has it -/
theorem VM_at {L pre rem : List EL} {y : EL} (hV : VM G L) (hL : L = pre ++ y :: rem) : G 297 18 = L.length ∧ (L.length : Int) = pre.length + (rem.length + 1) ∧ G 304 pre.length = y.1 ∧ G 306 pre.length = y.2.2.1 ∧ G 307 pre.length = y.2.2.2.1 := by
  have hl : L.length = pre.length + (rem.length + 1) := by rw [hL, List.length_append, List.length_cons]
  have := hV.2 pre.length (by omega) (by omega)
  rw [Int.toNat_natCast, hL, getE_at] at this
  exact ⟨hV.1, by omega, this.1, this.2.2.1, this.2.2.2.1⟩
theorem hplus {pre : List EL} (y : EL) : ((pre ++ [y]).length : Int) = pre.length + 1 := by rw [List.length_append]; simp
set_option maxHeartbeats 4000000 in
theorem r_whole (wf : WF w) (hw : G 298 = w) (hd : G 297 7 = -1) {p day : Int} (hp : rg p) (hdd : rg day) (hQ : ∀ G1, fr G G1 SR → Q (some (zi (q_whole w p day))) G1) : zW (d + 10) 229 [zr 9 0 297, zi p, zi day] G Q := by
  subst hw
  obtain ⟨n0, n1, n2, n3, n4, n5⟩ := WF_n wf; have hrg := WF_rg wf
  unfold q_whole at hQ
  refine zm_229 ?_
  by_cases hg : okPD (G 298) p day
  · rw [bP_t hg] at hQ
    have hg' := hg
    unfold okPD at hg'
    apply zs_229_0 <;> intros
    case h3 =>
      refine c185 (dr := -1) wf ⟨by omega, by omega⟩ rfl hd (by omega) (by omega) (by omega) (by omega) (fun G1 f1 hV => zs_229_18 ?_)
      have f2 : fr G G1 SR := fr_wide f1 (by intro k j t; unfold S184 at t; unfold SR; omega)
      have hQ1 := hQ G1 f2
      have hok := vw_ok (dr := -1) wf hg
      have hl := vw_len (dr := -1) wf p day
      generalize vw (G 298) (-1) p day = L at *
      have key : ∀ (rem pre : List EL), L = pre ++ rem → (whl L ↔ whl rem) → ∀ l1 l2, zAt xT_229 (zW (d + 9)) Q 20 [zr 9 0 297, l1, l2, zi pre.length] [] G1 := by
        intro rem
        induction rem with
        | nil =>
          intro pre hL hh l1 l2
          rw [List.append_nil] at hL
          have h18 := hV.1
          rw [hL] at h18 hl
          apply zs_229_20 <;> intros
          case h2 => rw [bP_t (hh.mpr trivial)] at hQ1; exact hQ1
          all_goals first | omega | (repeat' first | exact hrg _ | assumption | (unfold rg; omega) | omega | refine And.intro ?_ ?_)
        | cons y rem ih =>
          intro pre hL hh l1 l2
          obtain ⟨v1, v2, v3, v4, v5⟩ := VM_at hV hL
          have he := EOK_e wf (hok y (by rw [hL]; exact List.mem_append_right _ List.mem_cons_self))
          have nx : (y.2.2.2.1 = 0 ∨ y.2.2.2.1 = 5) → zAt xT_229 (zW (d + 9)) Q 20 [zr 9 0 297, z0, z0, zi (pre.length + 1)] [] G1 := fun h => by
            have := ih (pre ++ [y]) (by rw [hL, List.append_assoc]; rfl) (hh.trans ⟨fun z => z.2, fun z => ⟨h, z⟩⟩) z0 z0
            rw [hplus] at this; exact this
          apply zs_229_20 <;> intros
          case h4 => exact nx (Or.inl (by omega))
          case h5 => exact nx (Or.inr (by omega))
          case h6 => rw [bP_f (fun z => by have := (hh.mp z).1; omega)] at hQ1; exact hQ1
          all_goals first | omega | (rw [v5]; (repeat' first | exact hrg _ | assumption | (unfold rg; omega) | omega | refine And.intro ?_ ?_)) | (repeat' first | exact hrg _ | assumption | (unfold rg; omega) | omega | refine And.intro ?_ ?_)
      exact key L [] rfl Iff.rfl _ _
    all_goals first | omega | (repeat' first | exact hrg _ | assumption | (unfold rg; omega) | omega | refine And.intro ?_ ?_)
  · rw [bP_f hg] at hQ
    unfold okPD at hg
    apply zs_229_0 <;> intros
    all_goals first | omega | exact hQ G (fr_refl _ _) | (repeat' first | exact hrg _ | assumption | (unfold rg; omega) | omega | refine And.intro ?_ ?_)
set_option maxHeartbeats 4000000 in
theorem r_judged (wf : WF w) (hw : G 298 = w) (hd : G 297 7 = -1) {p day : Int} (hp : rg p) (hdd : rg day) (hQ : ∀ G1, fr G G1 SR → Q (some (zi (q_judged w p day))) G1) : zW (d + 11) 230 [zr 9 0 297, zi p, zi day] G Q := by
  subst hw
  obtain ⟨n0, n1, n2, n3, n4, n5⟩ := WF_n wf; have hrg := WF_rg wf
  unfold q_judged at hQ
  refine zm_230 ?_
  by_cases hg : okPD (G 298) p day
  · rw [bP_t hg] at hQ
    have hg' := hg
    unfold okPD at hg'
    apply zs_230_0 <;> intros
    case h3 => exact c191 (dr := -1) wf ⟨by omega, by omega⟩ rfl hd hg (fun G1 f1 hV hS => zs_230_15 (hQ G1 f1))
    all_goals first | omega | (repeat' first | exact hrg _ | assumption | (unfold rg; omega) | omega | refine And.intro ?_ ?_)
  · rw [bP_f hg] at hQ
    unfold okPD at hg
    apply zs_230_0 <;> intros
    all_goals first | omega | exact hQ G (fr_refl _ _) | (repeat' first | exact hrg _ | assumption | (unfold rg; omega) | omega | refine And.intro ?_ ?_)
set_option maxHeartbeats 4000000 in
theorem c227 {dr : Int} (wf : WF w) (hdr : rg dr) (hw : G 298 = w) (hd : G 297 7 = dr) {L : List EL} (hV : VM G L) (hl : L.length ≤ 85) (hok : ∀ y ∈ L, EOK w dr y) {i : Int} (i0 : 0 ≤ i) (i1 : i < L.length) (hQ : Q (some (zi (if (L.getD i.toNat e0).2.2.2.1 = 0 then bo w dr (L.getD i.toNat e0).2.2.1 else -1))) G) : zW (d + 4) 227 [zr 9 0 297, zi i] G Q := by
  have hv := hV.2 i i0 i1
  have hy : L.getD i.toNat e0 ∈ L := by
    have hl : i.toNat < L.length := by omega
    rw [List.getD_eq_getElem?_getD, List.getElem?_eq_getElem hl]
    exact List.getElem_mem hl
  have he := EOK_e wf (hok _ hy)
  generalize L.getD i.toNat e0 = y at *
  refine zm_227 ?_
  apply zs_227_0 <;> intros
  case h2 => rename_i h; rw [if_neg (by omega)] at hQ; exact hQ
  case h3 =>
    rename_i h
    rw [if_pos (by omega)] at hQ
    rw [hv.2.2.1]
    have h0 := he.2.2.1.mp (by omega)
    have hr := he.2.1.resolve_left h0.1
    exact c178 (by rw [hw]; exact wf) (by rw [hd]; exact hdr) hr.1 (by rw [hw]; exact hr.2.1) (zs_227_19 (by rw [hw, hd]; exact hQ))
  all_goals first | omega | (refine ⟨by omega, ?_⟩; unfold rg; omega)
set_option maxHeartbeats 4000000 in
theorem r_element (wf : WF w) (hw : G 298 = w) (hd : G 297 7 = -1) {p day i k : Int} (hp : rg p) (hdd : rg day) (hi : rg i) (hk : rg k) (hQ : ∀ G1, fr G G1 SR → Q (some (zi (q_element w p day i k))) G1) : zW (d + 10) 228 [zr 9 0 297, zi p, zi day, zi i, zi k] G Q := by
  subst hw
  obtain ⟨n0, n1, n2, n3, n4, n5⟩ := WF_n wf; have hrg := WF_rg wf
  unfold q_element at hQ
  refine zm_228 ?_
  by_cases hg : okPD (G 298) p day ∧ 0 ≤ i ∧ 0 ≤ k ∧ k ≤ 5
  · rw [bP_t hg] at hQ
    have hg' := hg
    unfold okPD at hg'
    apply zs_228_0 <;> intros
    case h6 =>
      refine c185 (dr := -1) wf ⟨by omega, by omega⟩ rfl hd (by omega) (by omega) (by omega) (by omega) (fun G1 f1 hV => ?_)
      have f2 : fr G G1 SR := fr_wide f1 (by intro k j t; unfold S184 at t; unfold SR; omega)
      have w1 : G1 298 = G 298 := fr_k f1 (fun j e => by unfold S184 at e; omega)
      have d1 : G1 297 7 = -1 := (f1 _ _ (fun e => by unfold S184 at e; omega)).trans hd
      have hQ1 := hQ G1 f2
      have hok := vw_ok (dr := -1) wf hg.1
      have hl := vw_len (dr := -1) wf p day
      generalize vw (G 298) (-1) p day = L at *
      have h18 := hV.1
      by_cases c : (L.length : Int) ≤ i
      · rw [if_pos c] at hQ1
        apply zs_228_35 <;> intros
        case h14 => exact hQ1
        all_goals first | omega | (repeat' first | exact hrg _ | assumption | (unfold rg; omega) | omega | refine And.intro ?_ ?_)
      · rw [if_neg c] at hQ1
        obtain ⟨v1, v2, v3, v4, v5, v6⟩ := hV.2 i (by omega) (by omega)
        have hy : L.getD i.toNat e0 ∈ L := by
          have hl : i.toNat < L.length := by omega
          rw [List.getD_eq_getElem?_getD, List.getElem?_eq_getElem hl]
          exact List.getElem_mem hl
        have he := EOK_e wf (hok _ hy)
        apply zs_228_35 <;> intros
        case h4 => rw [if_pos (by omega)] at hQ1; rw [v1]; exact hQ1
        case h6 => rw [if_neg (by omega), if_pos (by omega)] at hQ1; rw [v3]; exact hQ1
        case h8 => rw [if_neg (by omega), if_neg (by omega), if_pos (by omega)] at hQ1; rw [v4]; exact hQ1
        case h10 => rw [if_neg (by omega), if_neg (by omega), if_neg (by omega), if_pos (by omega)] at hQ1; rw [v5]; exact hQ1
        case h12 => rw [if_neg (by omega), if_neg (by omega), if_neg (by omega), if_neg (by omega), if_pos (by omega)] at hQ1; rw [v6]; exact hQ1
        case h13 =>
          rw [if_neg (by omega), if_neg (by omega), if_neg (by omega), if_neg (by omega), if_neg (by omega)] at hQ1
          refine c227 (dr := -1) wf ⟨by omega, by omega⟩ w1 d1 hV hl hok (by omega) (by omega) ?_
          by_cases c0 : (L.getD i.toNat e0).2.2.2.1 = 0
          · have h0 := he.2.2.1.mp c0
            have hr := he.2.1.resolve_left h0.1
            have hb := bo_rg wf (dr := -1) hr.1 hr.2.1
            rw [if_pos c0] at hQ1 ⊢
            apply zs_228_120 <;> intros
            case h2 =>
              refine c227 (dr := -1) wf ⟨by omega, by omega⟩ w1 d1 hV hl hok (by omega) (by omega) ?_
              rw [if_pos c0]
              apply zs_228_134 <;> intros
              case h2 => rw [w1]; exact hQ1
              all_goals first | omega | (repeat' first | exact hrg _ | assumption | (unfold rg; omega) | omega | refine And.intro ?_ ?_)
            all_goals first | omega | (unfold rg; omega)
          · rw [if_neg c0] at hQ1 ⊢
            apply zs_228_120 <;> intros
            case h3 => exact hQ1
            all_goals first | omega | (unfold rg; omega)
        all_goals first | omega | (repeat' first | exact hrg _ | assumption | (unfold rg; omega) | omega | refine And.intro ?_ ?_)
    all_goals first | omega | (repeat' first | exact hrg _ | assumption | (unfold rg; omega) | omega | refine And.intro ?_ ?_)
  · rw [bP_f hg] at hQ
    unfold okPD at hg
    apply zs_228_0 <;> intros
    all_goals first | omega | exact hQ G (fr_refl _ _) | (repeat' first | exact hrg _ | assumption | (unfold rg; omega) | omega | refine And.intro ?_ ?_)
end RE
