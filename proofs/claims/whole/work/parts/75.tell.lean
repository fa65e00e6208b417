/-! TELLING: bytes out, numbers -/
def OUT (G : zG) (kc jc kb : Int) (l : List Int) : Prop := G kc jc = l.length ∧ ∀ i : Nat, i < l.length → G kb i = l.getD i 0
theorem OUT_push {G : zG} {kc jc kb x : Int} {l : List Int} (hk : kb ≠ kc) (h : OUT G kc jc kb l) : OUT (zu (zu G kb (G kc jc) x) kc jc (G kc jc + 1)) kc jc kb (l ++ [x]) := by
  have hl : (l ++ [x]).length = l.length + 1 := by rw [List.length_append]; rfl
  refine ⟨by rw [zu_s, h.1, hl]; omega, fun i hi => ?_⟩
  rw [zu_k hk, h.1]
  by_cases c : i = l.length
  · rw [c, zu_s, List.getD_eq_getElem?_getD, List.getElem?_append_right (Nat.le_refl _), Nat.sub_self]; rfl
  · rw [zu_j (by omega), h.2 i (by omega), List.getD_eq_getElem?_getD, List.getD_eq_getElem?_getD, List.getElem?_append_left (by omega)]
def zch (x : Int) : Int := zb (zb x)
def dg (v : Int) : List Int := if v ≤ 9 then [zch (48 + (v % 10))] else if v ≤ 99 then [zch (48 + ((v / 10) % 10)), zch (48 + (v % 10))] else [zch (48 + (v / 100)), zch (48 + ((v / 10) % 10)), zch (48 + (v % 10))]
section RE
variable {d : Nat} {G : zG} {Q : zQ}
def SO (k j : Int) : Prop := k = 319 ∨ (k = 297 ∧ j = 49)
set_option maxHeartbeats 4000000 in
theorem c267a {v : Int} (v0 : 0 ≤ v) (v1 : v ≤ 9) {l : List Int} (hl : l.length ≤ 1400) (hO : OUT G 297 49 319 l) (hQ : ∀ G1, fr G G1 SO → OUT G1 297 49 319 (l ++ [zch (48 + (v % 10))]) → Q none G1) : zW (d + 2) 267 [zr 9 0 297, zi v] G Q := by
  have h49 := hO.1
  refine zm_267 ?_
  apply zs_267_0 <;> intros
  case h2 =>
    apply zs_267_14 <;> intros
    case h2 => exact hQ _ (fr_u (fr_u (fr_refl _ _) (Or.inl rfl)) (Or.inr ⟨rfl, rfl⟩)) (OUT_push (by omega) hO)
    all_goals first | omega | (repeat' first | exact hrg _ | assumption | (unfold rg; omega) | omega | refine And.intro ?_ ?_)
  all_goals first | omega | (repeat' first | exact hrg _ | assumption | (unfold rg; omega) | omega | refine And.intro ?_ ?_)
set_option maxHeartbeats 4000000 in
theorem c267b {v : Int} (v0 : 10 ≤ v) (v1 : v ≤ 99) {l : List Int} (hl : l.length ≤ 1400) (hO : OUT G 297 49 319 l) (hQ : ∀ G1, fr G G1 SO → OUT G1 297 49 319 (l ++ [zch (48 + ((v / 10) % 10)), zch (48 + (v % 10))]) → Q none G1) : zW (d + 3) 267 [zr 9 0 297, zi v] G Q := by
  refine zm_267 ?_
  apply zs_267_0 <;> intros
  case h4 =>
    refine c267a (by omega) (by omega) hl hO (fun G1 f1 hO1 => ?_)
    have h49 := hO1.1
    rw [List.length_append] at h49
    have e1 : [zch (48 + ((v / 10) % 10))].length = 1 := rfl
    rw [e1] at h49
    apply zs_267_14 <;> intros
    case h2 =>
      have := OUT_push (x := zb (zb (48 + (v % 10)))) (by omega) hO1
      rw [List.append_assoc] at this
      exact hQ _ (fr_u (fr_u f1 (Or.inl rfl)) (Or.inr ⟨rfl, rfl⟩)) this
    all_goals first | omega | (repeat' first | exact hrg _ | assumption | (unfold rg; omega) | omega | refine And.intro ?_ ?_)
  all_goals first | omega | (repeat' first | exact hrg _ | assumption | (unfold rg; omega) | omega | refine And.intro ?_ ?_)
set_option maxHeartbeats 4000000 in
theorem c267 {v : Int} (v0 : 0 ≤ v) (v1 : v ≤ 999) {l : List Int} (hl : l.length ≤ 1400) (hO : OUT G 297 49 319 l) (hQ : ∀ G1, fr G G1 SO → OUT G1 297 49 319 (l ++ dg v) → Q none G1) : zW (d + 4) 267 [zr 9 0 297, zi v] G Q := by
  unfold dg at hQ
  by_cases c1 : v ≤ 9
  · rw [if_pos c1] at hQ; exact c267a v0 c1 hl hO hQ
  · rw [if_neg c1] at hQ
    by_cases c2 : v ≤ 99
    · rw [if_pos c2] at hQ; exact c267b (by omega) c2 hl hO hQ
    · rw [if_neg c2] at hQ
      refine zm_267 ?_
      apply zs_267_0 <;> intros
      case h4 =>
        refine c267b (by omega) (by omega) hl hO (fun G1 f1 hO1 => ?_)
        rw [show ((v / 10) / 10) % 10 = v / 100 by omega] at hO1
        have h49 := hO1.1
        rw [List.length_append] at h49
        have e1 : [zch (48 + (v / 100)), zch (48 + ((v / 10) % 10))].length = 2 := rfl
        rw [e1] at h49
        apply zs_267_14 <;> intros
        case h2 =>
          have := OUT_push (x := zb (zb (48 + (v % 10)))) (by omega) hO1
          rw [List.append_assoc] at this
          exact hQ _ (fr_u (fr_u f1 (Or.inl rfl)) (Or.inr ⟨rfl, rfl⟩)) this
        all_goals first | omega | (repeat' first | exact hrg _ | assumption | (unfold rg; omega) | omega | refine And.intro ?_ ?_)
      all_goals first | omega | (repeat' first | exact hrg _ | assumption | (unfold rg; omega) | omega | refine And.intro ?_ ?_)
end RE
