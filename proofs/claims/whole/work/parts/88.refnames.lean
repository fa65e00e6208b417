/-! THE READER by the reference: names -/
section RE
variable {d : Nat} {G : zG} {Q : zQ} {B : Int → Int} {n : Int} {S : PS} {r : RE PS}
theorem c198k (hT : TP B n) (hR : RS B n G (Except.ok S)) {x : Int} {m : Nat} (hm : m ≤ 10) (h1 : isW B S.1 x m → Q (some (zi 1)) G) (h0 : ¬ isW B S.1 x m → Q (some (zi 0)) G) : zW (d + 2) 198 [zr 9 0 297, zr 15 m x] G Q :=
  c198 hT hR hm (fun ⟨S', h, hw⟩ => by cases h; exact h1 hw) (fun hn => h0 (fun h => hn ⟨S, rfl, h⟩))
set_option maxHeartbeats 4000000 in
theorem c204 (hT : TP B n) (hR : RS B n G (Except.ok S)) (hk : S.1.1 = 1) {p : Int} (p0 : 0 ≤ p) (p1 : p < 18) (hp : NMs B n (S.2.2 p)) (hY : isN B S.1 (S.2.2 p) → Q (some (zi 1)) G) (hN : ¬ isN B S.1 (S.2.2 p) → Q (some (zi 0)) G) : zW (d + 2) 204 [zr 9 0 297, zi p] G Q := by
  obtain ⟨e33, e34, e35, e37, e299, eB, a, a5⟩ := RS_n hR
  have hln := hR.2.2.2.2.2 p p0 p1 (by have := hp.1; omega)
  have hlt := hR.1.1.2.2.2.2.2 hk
  have hlen := hR.1.1.2.2.2.1 (by omega)
  have hn := hT.1
  have fin0 : ∀ k : Int, 0 ≤ k → k ≤ 6 → ¬ isN B S.1 (S.2.2 p) → zAt xT_204 (zW (d + 1)) Q 22 [zr 9 0 297, zi p, zi 0, zi k] [] G := by
    intro k k0 k1 hq
    apply zs_204_22 <;> intros
    case h3 => exact hN hq
    case h6 => exact hN hq
    all_goals first | omega | (repeat' first | exact hrg _ | assumption | (unfold rg; omega) | omega | refine And.intro ?_ ?_)
  have key : ∀ (rem k : Nat), k + rem = 6 → S.1.2.2.1 - S.1.2.1 ≤ 6 → (∀ i : Int, 0 ≤ i → i < k → (if i < (S.2.2 p).2 then B ((S.2.2 p).1 + i) else 0) = (if i < S.1.2.2.1 - S.1.2.1 then B (S.1.2.1 + i) else 0)) → zAt xT_204 (zW (d + 1)) Q 22 [zr 9 0 297, zi p, zi 1, zi k] [] G := by
    intro rem
    induction rem with
    | zero =>
      intro k hk6 c1 hi
      apply zs_204_22 <;> intros
      case h3 =>
        refine hY ?_
        have hl : S.1.2.2.1 - S.1.2.1 = (S.2.2 p).2 := by
          have hq := hp.1
          by_cases c2 : S.1.2.2.1 - S.1.2.1 < (S.2.2 p).2
          · have := hi (S.1.2.2.1 - S.1.2.1) (by omega) (by omega)
            rw [if_pos c2, if_neg (by omega)] at this
            have := (hp.2.2 (S.1.2.2.1 - S.1.2.1) (by omega) c2).1
            omega
          · by_cases c3 : (S.2.2 p).2 < S.1.2.2.1 - S.1.2.1
            · have := hi (S.2.2 p).2 (by omega) (by omega)
              rw [if_neg (by omega), if_pos c3] at this
              have := (hlt (S.1.2.1 + (S.2.2 p).2) (by omega) (by omega)).1
              omega
            · omega
        refine ⟨hl, fun i i0 i1 => ?_⟩
        have := hi i i0 (by have := hp.1; omega)
        rw [if_pos i1, if_pos (by omega)] at this
        exact this.symm
      all_goals first | omega | (repeat' first | exact hrg _ | assumption | (unfold rg; omega) | omega | refine And.intro ?_ ?_)
    | succ rem ih =>
      intro k hk6 c1 hi
      have eL := hln k (by omega) (by omega)
      have hrL : rg (G 314 (6 * p + k)) := by
        rw [eL]
        split
        · rename_i h
          have := hp.2.2 k (by omega) h
          exact ⟨by have := this.1; omega, by have := this.2; omega⟩
        · exact ⟨by decide, by decide⟩
      have nx : (if (k : Int) < (S.2.2 p).2 then B ((S.2.2 p).1 + k) else 0) = (if (k : Int) < S.1.2.2.1 - S.1.2.1 then B (S.1.2.1 + k) else 0) → zAt xT_204 (zW (d + 1)) Q 22 [zr 9 0 297, zi p, zi 1, zi (k + 1)] [] G := fun he => by
        refine ih (k + 1) (by omega) c1 (fun i i0 i1 => ?_)
        by_cases c : i = k
        · rw [c]; exact he
        · exact hi i i0 (by omega)
      have no : (if (k : Int) < (S.2.2 p).2 then B ((S.2.2 p).1 + k) else 0) ≠ (if (k : Int) < S.1.2.2.1 - S.1.2.1 then B (S.1.2.1 + k) else 0) → zAt xT_204 (zW (d + 1)) Q 22 [zr 9 0 297, zi p, zi 0, zi (k + 1)] [] G := fun he => by
        refine fin0 (k + 1) (by omega) (by omega) (fun h => he ?_)
        by_cases c : (k : Int) < (S.2.2 p).2
        · rw [if_pos c, if_pos (by have := h.1; omega)]; exact (h.2 k (by omega) c).symm
        · rw [if_neg c, if_neg (by have := h.1; omega)]
      rw [← eL] at nx no
      apply zs_204_22 <;> intros
      case h9 => rw [if_neg (by omega)] at no; exact no (by assumption)
      case h10 => rw [if_neg (by omega)] at nx; exact nx (by assumption)
      case h13 =>
        rename_i hne
        rw [if_pos (by omega), ← eB _ (by omega) (by omega), ← e34] at no
        exact no hne
      case h14 =>
        rename_i heq
        rw [if_pos (by omega), ← eB _ (by omega) (by omega), ← e34] at nx
        exact nx heq
      case h12 =>
        refine ⟨hrL, ?_⟩
        rw [e34, eB _ (by omega) (by omega)]
        have := hlt (S.1.2.1 + k) (by omega) (by omega)
        exact ⟨by have := this.1; omega, by have := this.2; omega⟩
      all_goals first | exact hrL | omega | (repeat' first | exact hrg _ | assumption | (unfold rg; omega) | omega | refine And.intro ?_ ?_)
  refine zm_204 ?_
  apply zs_204_0 <;> intros
  case h2 => exact fin0 0 (by omega) (by omega) (fun h => by have := h.1; have := hp.1; omega)
  case h3 => exact key 6 0 (by omega) (by omega) (fun i i0 i1 => by omega)
  all_goals first | omega | (repeat' first | exact hrg _ | assumption | (unfold rg; omega) | omega | refine And.intro ?_ ?_)
set_option maxHeartbeats 4000000 in
theorem c205 (hT : TP B n) (hR : RS B n G (Except.ok S)) (hk : S.1.1 = 1) {s base j : Int} (hs : s = 0 ∧ base = 0 ∧ j = 2 ∨ s = 1 ∧ base = 8 ∧ j = 3) (hQ : Q (some (zi (fnd B S.1 S.2.2 base (S.2.1 j)))) G) : zW (d + 3) 205 [zr 9 0 297, zi s] G Q := by
  obtain ⟨e33, e34, e35, e37, e299, eB, a, a5⟩ := RS_n hR
  have nn := WF_n hR.1.2.1
  have hnm := hR.1.2.2.2.2
  have hj : 0 ≤ S.2.1 j ∧ S.2.1 j ≤ 10 ∧ base + S.2.1 j ≤ 18 ∧ (∀ i, 0 ≤ i → i < S.2.1 j → NMs B n (S.2.2 (base + i))) := by
    rcases hs with ⟨_, h2, h3⟩ | ⟨_, h2, h3⟩
    · subst h2; subst h3; exact ⟨by omega, by omega, by omega, fun i i0 i1 => hnm _ (by omega)⟩
    · subst h2; subst h3; exact ⟨by omega, by omega, by omega, fun i i0 i1 => hnm _ (by omega)⟩
  have key : ∀ (k : Nat) (i : Int), 0 ≤ i → i + k = S.2.1 j → Q (some (zi (fnF B S.1 S.2.2 base k i))) G → zAt xT_205 (zW (d + 2)) Q 22 [zr 9 0 297, zi s, zi (S.2.1 j), zi i] [] G := by
    intro k
    induction k with
    | zero =>
      intro i i0 hi hq
      have hi : i = S.2.1 j := by simpa using hi
      apply zs_205_22 <;> intros
      case h2 => exact hq
      all_goals first | omega | (repeat' first | exact hrg _ | assumption | (unfold rg; omega) | omega | refine And.intro ?_ ?_)
    | succ k ih =>
      intro i i0 hi hq
      have hu := hj.2.2.2 i i0 (by omega)
      have hsb : s * 8 = base := by omega
      apply zs_205_22 <;> intros
      case h3 =>
        rw [hsb]
        refine c204 hT hR hk (by omega) (by omega) hu (fun hy => ?_) (fun hy => ?_)
        · have e : fnF B S.1 S.2.2 base (k + 1) i = i := by unfold fnF; rw [cif_t hy]
          rw [e] at hq
          apply zs_205_37 <;> intros
          case h3 => exact hq
          all_goals first | omega | (repeat' first | exact hrg _ | assumption | (unfold rg; omega) | omega | refine And.intro ?_ ?_)
        · have e : fnF B S.1 S.2.2 base (k + 1) i = fnF B S.1 S.2.2 base k (i + 1) := by
            show cif _ i (fnF B S.1 S.2.2 base k (i + 1)) = _
            rw [cif_f hy]
          rw [e] at hq
          apply zs_205_37 <;> intros
          case h2 => exact ih (i + 1) (by omega) (by omega) hq
          all_goals first | omega | (repeat' first | exact hrg _ | assumption | (unfold rg; omega) | omega | refine And.intro ?_ ?_)
      all_goals first | omega | (repeat' first | exact hrg _ | assumption | (unfold rg; omega) | omega | refine And.intro ?_ ?_)
  refine zm_205 ?_
  have hfin := key (S.2.1 j).toNat 0 (by omega) (by omega) hQ
  apply zs_205_0 <;> intros
  case h2 =>
    have : j = 3 := by omega
    subst this
    rw [e299]; exact hfin
  case h3 =>
    have : j = 2 := by omega
    subst this
    rw [e299]; exact hfin
  all_goals first | omega | (repeat' first | exact hrg _ | assumption | (unfold rg; omega) | omega | refine And.intro ?_ ?_)
set_option maxHeartbeats 4000000 in
theorem c206 (hT : TP B n) (hR : RS B n G (Except.ok S)) (hY : own B S.1 → Q (some (zi 1)) G) (hN : ¬ own B S.1 → Q (some (zi 0)) G) : zW (d + 3) 206 [zr 9 0 297] G Q := by
  refine zm_206 (zs_206_0 ?_)
  refine c198k hT hR (x := 1002) (m := 7) (by omega) (fun hw => ?_) (fun hn0 => ?_)
  · apply zs_206_7 <;> intros
    case h2 => exact hY (Or.inl hw)
    all_goals first | omega | (repeat' first | exact hrg _ | assumption | (unfold rg; omega) | omega | refine And.intro ?_ ?_)
  · apply zs_206_7 <;> intros
    case h3 =>
      refine c198k hT hR (x := 1000) (m := 4) (by omega) (fun hw => ?_) (fun hn1 => ?_)
      · apply zs_206_17 <;> intros
        case h2 => exact hY (Or.inr (Or.inl hw))
        all_goals first | omega | (repeat' first | exact hrg _ | assumption | (unfold rg; omega) | omega | refine And.intro ?_ ?_)
      · apply zs_206_17 <;> intros
        case h3 =>
          refine c198k hT hR (x := 1001) (m := 4) (by omega) (fun hw => ?_) (fun hn2 => ?_)
          · apply zs_206_27 <;> intros
            case h2 => exact hY (Or.inr (Or.inr (Or.inl hw)))
            all_goals first | omega | (repeat' first | exact hrg _ | assumption | (unfold rg; omega) | omega | refine And.intro ?_ ?_)
          · apply zs_206_27 <;> intros
            case h3 =>
              refine c198k hT hR (x := 1005) (m := 4) (by omega) (fun hw => ?_) (fun hn3 => ?_)
              · apply zs_206_37 <;> intros
                case h2 => exact hY (Or.inr (Or.inr (Or.inr (Or.inl hw))))
                all_goals first | omega | (repeat' first | exact hrg _ | assumption | (unfold rg; omega) | omega | refine And.intro ?_ ?_)
              · apply zs_206_37 <;> intros
                case h3 =>
                  refine c198k hT hR (x := 1006) (m := 4) (by omega) (fun hw => ?_) (fun hn4 => ?_)
                  · apply zs_206_47 <;> intros
                    case h2 => exact hY (Or.inr (Or.inr (Or.inr (Or.inr (Or.inl hw)))))
                    all_goals first | omega | (repeat' first | exact hrg _ | assumption | (unfold rg; omega) | omega | refine And.intro ?_ ?_)
                  · apply zs_206_47 <;> intros
                    case h3 =>
                      refine c198k hT hR (x := 1007) (m := 4) (by omega) (fun hw => ?_) (fun hn5 => ?_)
                      · apply zs_206_57 <;> intros
                        case h2 => exact hY (Or.inr (Or.inr (Or.inr (Or.inr (Or.inr (Or.inl hw))))))
                        all_goals first | omega | (repeat' first | exact hrg _ | assumption | (unfold rg; omega) | omega | refine And.intro ?_ ?_)
                      · apply zs_206_57 <;> intros
                        case h3 =>
                          refine c198k hT hR (x := 1008) (m := 4) (by omega) (fun hw => ?_) (fun hn6 => ?_)
                          · apply zs_206_67 <;> intros
                            case h2 => exact hY (Or.inr (Or.inr (Or.inr (Or.inr (Or.inr (Or.inr (Or.inl hw)))))))
                            all_goals first | omega | (repeat' first | exact hrg _ | assumption | (unfold rg; omega) | omega | refine And.intro ?_ ?_)
                          · apply zs_206_67 <;> intros
                            case h3 =>
                              refine c198k hT hR (x := 1010) (m := 4) (by omega) (fun hw => ?_) (fun hn7 => ?_)
                              · apply zs_206_77 <;> intros
                                case h2 => exact hY (Or.inr (Or.inr (Or.inr (Or.inr (Or.inr (Or.inr (Or.inr (Or.inl hw))))))))
                                all_goals first | omega | (repeat' first | exact hrg _ | assumption | (unfold rg; omega) | omega | refine And.intro ?_ ?_)
                              · apply zs_206_77 <;> intros
                                case h3 =>
                                  refine c198k hT hR (x := 1011) (m := 4) (by omega) (fun hw => ?_) (fun hn8 => ?_)
                                  · apply zs_206_87 <;> intros
                                    case h3 => exact hY (Or.inr (Or.inr (Or.inr (Or.inr (Or.inr (Or.inr (Or.inr (Or.inr hw))))))))
                                    all_goals first | omega | (repeat' first | exact hrg _ | assumption | (unfold rg; omega) | omega | refine And.intro ?_ ?_)
                                  · apply zs_206_87 <;> intros
                                    case h2 =>
                                      refine hN (fun h => ?_)
                                      rcases h with h | h | h | h | h | h | h | h | h
                                      · exact hn0 h
                                      · exact hn1 h
                                      · exact hn2 h
                                      · exact hn3 h
                                      · exact hn4 h
                                      · exact hn5 h
                                      · exact hn6 h
                                      · exact hn7 h
                                      · exact hn8 h
                                    all_goals first | omega | (repeat' first | exact hrg _ | assumption | (unfold rg; omega) | omega | refine And.intro ?_ ?_)
                                all_goals first | omega | (repeat' first | exact hrg _ | assumption | (unfold rg; omega) | omega | refine And.intro ?_ ?_)
                            all_goals first | omega | (repeat' first | exact hrg _ | assumption | (unfold rg; omega) | omega | refine And.intro ?_ ?_)
                        all_goals first | omega | (repeat' first | exact hrg _ | assumption | (unfold rg; omega) | omega | refine And.intro ?_ ?_)
                    all_goals first | omega | (repeat' first | exact hrg _ | assumption | (unfold rg; omega) | omega | refine And.intro ?_ ?_)
                all_goals first | omega | (repeat' first | exact hrg _ | assumption | (unfold rg; omega) | omega | refine And.intro ?_ ?_)
            all_goals first | omega | (repeat' first | exact hrg _ | assumption | (unfold rg; omega) | omega | refine And.intro ?_ ?_)
        all_goals first | omega | (repeat' first | exact hrg _ | assumption | (unfold rg; omega) | omega | refine And.intro ?_ ?_)
    all_goals first | omega | (repeat' first | exact hrg _ | assumption | (unfold rg; omega) | omega | refine And.intro ?_ ?_)
theorem PSok_nm (h : PSok B n S) {slot : Int} (hs : ¬ ((0 ≤ slot ∧ slot < S.2.1 2) ∨ (8 ≤ slot ∧ slot < 8 + S.2.1 3))) (v : Int × Int) : PSok B n (S.1, S.2.1, zpn S.2.2 slot v) := by
  obtain ⟨h1, h2, h3, h4, h5⟩ := h
  refine ⟨h1, h2, h3, h4, fun p hp => ?_⟩
  have : zpn S.2.2 slot v p = S.2.2 p := if_neg (fun e => hs (by rw [← e]; exact hp))
  show NMs B n (zpn S.2.2 slot v p)
  rw [this]; exact h5 p hp
set_option maxHeartbeats 8000000 in
theorem c207 (hT : TP B n) (hR : RS B n G r) {s : Int} (hs : s = 0 ∨ s = 1) (hr : ∀ S, r = Except.ok S → (s = 0 → S.2.1 2 < 8) ∧ (s = 1 → S.2.1 3 < 10)) (hQ : ∀ G1, fr G G1 SRD → RS B n G1 (Except.bind r (fun S => oNew B n (if s = 0 then S.2.1 2 else 8 + S.2.1 3) S)) → Q none G1) : zW (d + 5) 207 [zr 9 0 297, zi s] G Q := by
  have flt : ∀ G1 e, fr G G1 SRD → FT G1 e → Except.bind r (fun S => oNew B n (if s = 0 then S.2.1 2 else 8 + S.2.1 3) S) = Except.error e → ∀ l2 l3, zAt xT_207 (zW (d + 4)) Q 71 [zr 9 0 297, zi s, l2, l3] [] G1 := by
    intro G1 e f1 hF he l2 l3
    have h37 := hF.2.1
    have hk := hF.1
    apply zs_207_71 <;> intros
    case h2 => exact hQ G1 f1 (by rw [he]; exact hF)
    all_goals first | omega | (repeat' first | exact hrg _ | assumption | (unfold rg; omega) | omega | refine And.intro ?_ ?_)
  have flt20 : ∀ G1 e, fr G G1 SRD → FT G1 e → Except.bind r (fun S => oNew B n (if s = 0 then S.2.1 2 else 8 + S.2.1 3) S) = Except.error e → ∀ l2 l3, zAt xT_207 (zW (d + 4)) Q 20 [zr 9 0 297, zi s, l2, l3] [] G1 := by
    intro G1 e f1 hF he l2 l3
    have h37 := hF.2.1
    have hk := hF.1
    apply zs_207_20 <;> intros
    case h2 => exact flt G1 e f1 hF he _ _
    all_goals first | omega | (repeat' first | exact hrg _ | assumption | (unfold rg; omega) | omega | refine And.intro ?_ ?_)
  refine zm_207 ?_
  cases r with
  | error e =>
    have hF : FT G e := hR
    have h37 := hF.2.1
    have hk := hF.1
    apply zs_207_0 <;> intros
    case h2 => exact flt20 G e (fr_refl _ _) hF rfl _ _
    all_goals first | omega | (repeat' first | exact hrg _ | assumption | (unfold rg; omega) | omega | refine And.intro ?_ ?_)
  | ok S =>
    obtain ⟨e33, e34, e35, e37, e299, eB, a, a5⟩ := RS_n hR
    have nn := WF_n hR.1.2.1
    have hr := hr S rfl
    have hn := hT.1
    generalize hsl : (if s = 0 then S.2.1 2 else 8 + S.2.1 3) = slot at *
    have hslot : 0 ≤ slot ∧ slot < 18 ∧ ¬ ((0 ≤ slot ∧ slot < S.2.1 2) ∨ (8 ≤ slot ∧ slot < 8 + S.2.1 3)) := by
      rw [← hsl]
      by_cases c : s = 0
      · rw [if_pos c]; have := hr.1 c; omega
      · rw [if_neg c]; have := hr.2 (by omega); omega
    have hb : ∀ q, oNew B n slot S = q → Except.bind (Except.ok S) (fun S => oNew B n (if s = 0 then S.2.1 2 else 8 + S.2.1 3) S) = q := fun q h => by show oNew B n (if s = 0 then S.2.1 2 else 8 + S.2.1 3) S = q; rw [hsl]; exact h
    by_cases hk : S.1.1 = 1
    · have hbad : ∀ l2 l3, (6 < S.1.2.2.1 - S.1.2.1 ∨ own B S.1 ∨ fnd B S.1 S.2.2 0 (S.2.1 2) ≠ -1 ∨ fnd B S.1 S.2.2 8 (S.2.1 3) ≠ -1) → zAt xT_207 (zW (d + 4)) Q 71 [zr 9 0 297, zi s, l2, l3] [] (zu (zu G 297 37 2) 297 38 (G 297 34)) := fun l2 l3 hc =>
        flt _ (2, S.1.2.1) (srd_u (fr_refl _ _) _ _) (RS_err hR (by omega)) (hb _ (by unfold oNew; rw [if_pos hk, cif_t hc])) _ _
      have hgood : ¬ (6 < S.1.2.2.1 - S.1.2.1 ∨ own B S.1 ∨ fnd B S.1 S.2.2 0 (S.2.1 2) ≠ -1 ∨ fnd B S.1 S.2.2 8 (S.2.1 3) ≠ -1) → ∀ l2 l3, zAt xT_207 (zW (d + 4)) Q 71 [zr 9 0 297, zi s, l2, l3] [] G := by
        intro hc l2 l3
        have hQ1 : ∀ G1, fr G G1 SRD → RS B n G1 (Except.ok (nx B n S.1.2.2.1, S.2.1, zpn S.2.2 slot (S.1.2.1, S.1.2.2.1 - S.1.2.1))) → Q none G1 := fun G1 f1 h => hQ G1 f1 (by rw [hb _ (by unfold oNew; rw [if_pos hk, cif_f hc])]; exact h)
        have loop : ∀ (rem k : Nat) (G1 : zG), k + rem = 6 → fr G G1 (fun k j => k = 314 ∧ 6 * slot ≤ j ∧ j < 6 * slot + 6) → (∀ i : Int, 0 ≤ i → i < k → G1 314 (6 * slot + i) = if i < S.1.2.2.1 - S.1.2.1 then B (S.1.2.1 + i) else 0) → ∀ l1, zAt xT_207 (zW (d + 4)) Q 104 [zr 9 0 297, l1, zi slot, zi k] [] G1 := by
          intro rem
          induction rem with
          | zero =>
            intro k G1 hk6 f1 hi l1
            have e : ∀ q j, ¬ (q = 314 ∧ 6 * slot ≤ j ∧ j < 6 * slot + 6) → G1 q j = G q j := fun q j h => f1 q j h
            have hR1 : RS B n G1 (Except.ok (S.1, S.2.1, zpn S.2.2 slot (S.1.2.1, S.1.2.2.1 - S.1.2.1))) := by
              obtain ⟨h1, ⟨h2, h3⟩, h4, h5, h6, h7⟩ := hR
              refine ⟨PSok_nm h1 hslot.2.2 _, ⟨(e _ _ (by omega)).trans h2, fun j j0 j1 => (e _ _ (by omega)).trans (h3 j j0 j1)⟩, ⟨(e _ _ (by omega)).trans h4.1, (e _ _ (by omega)).trans h4.2.1, (e _ _ (by omega)).trans h4.2.2.1, fun h => (e _ _ (by omega)).trans (h4.2.2.2 h)⟩, ⟨(e _ _ (by omega)).trans h5.1, (e _ _ (by omega)).trans h5.2⟩, (funext fun j => e _ _ (by omega)).trans h6, fun p p0 p1 hp i i0 i1 => ?_⟩
              by_cases c : p = slot
              · have : zpn S.2.2 slot (S.1.2.1, S.1.2.2.1 - S.1.2.1) p = (S.1.2.1, S.1.2.2.1 - S.1.2.1) := if_pos c
                show G1 314 (6 * p + i) = if i < (zpn S.2.2 slot (S.1.2.1, S.1.2.2.1 - S.1.2.1) p).2 then B ((zpn S.2.2 slot (S.1.2.1, S.1.2.2.1 - S.1.2.1) p).1 + i) else 0
                rw [this, c]; exact hi i i0 (by omega)
              · have : zpn S.2.2 slot (S.1.2.1, S.1.2.2.1 - S.1.2.1) p = S.2.2 p := if_neg c
                have hp : (zpn S.2.2 slot (S.1.2.1, S.1.2.2.1 - S.1.2.1) p).2 ≠ 0 := hp
                show G1 314 (6 * p + i) = if i < (zpn S.2.2 slot (S.1.2.1, S.1.2.2.1 - S.1.2.1) p).2 then B ((zpn S.2.2 slot (S.1.2.1, S.1.2.2.1 - S.1.2.1) p).1 + i) else 0
                rw [this] at hp ⊢
                rw [e _ _ (by omega)]; exact h7 p p0 p1 hp i i0 i1
            apply zs_207_104 <;> intros
            case h2 => exact c195s hT hR1 (fun G2 f2 hR2 => zs_207_136 (hQ1 G2 (fr_trans (fr_wide f1 (fun q j t => Or.inr (Or.inl t.1))) f2 (fun _ _ t => t)) hR2))
            all_goals first | omega | (repeat' first | exact hrg _ | assumption | (unfold rg; omega) | omega | refine And.intro ?_ ?_)
          | succ rem ih =>
            intro k G1 hk6 f1 hi l1
            have e : ∀ q j, ¬ (q = 314 ∧ 6 * slot ≤ j ∧ j < 6 * slot + 6) → G1 q j = G q j := fun q j h => f1 q j h
            have d33 : G1 297 33 = S.1.2.2.1 := (e _ _ (by omega)).trans e33
            have d34 : G1 297 34 = S.1.2.1 := (e _ _ (by omega)).trans e34
            have nxt : ∀ v, v = (if (k : Int) < S.1.2.2.1 - S.1.2.1 then B (S.1.2.1 + k) else 0) → ∀ l1, zAt xT_207 (zW (d + 4)) Q 104 [zr 9 0 297, l1, zi slot, zi (k + 1)] [] (zu G1 314 (6 * slot + k) v) := by
              intro v hv
              refine ih (k + 1) _ (by omega) (fr_u f1 ⟨rfl, by omega, by omega⟩) (fun i i0 i1 => ?_)
              by_cases c : i = k
              · rw [c, zu_s]; exact hv
              · rw [zu_j (by omega)]; exact hi i i0 (by omega)
            apply zs_207_104 <;> intros
            case h5 => exact nxt 0 (by rw [if_neg (by omega)]) _
            case h8 =>
              refine nxt _ ?_ _
              rw [if_pos (by omega), e _ _ (by omega), d34]
              exact eB _ (by omega) (by omega)
            all_goals first | omega | (repeat' first | exact hrg _ | assumption | (unfold rg; omega) | omega | refine And.intro ?_ ?_)
        apply zs_207_71 <;> intros
        case h4 =>
          rw [e299]
          have : slot = 8 + S.2.1 3 := by rw [← hsl, if_neg (by omega)]
          rw [← this]
          exact loop 6 0 G (by omega) (fr_refl _ _) (fun i i0 i1 => by omega) _
        case h5 =>
          rw [e299]
          have : slot = S.2.1 2 := by rw [← hsl, if_pos (by omega)]
          rw [← this]
          exact loop 6 0 G (by omega) (fr_refl _ _) (fun i i0 i1 => by omega) _
        all_goals first | omega | (repeat' first | exact hrg _ | assumption | (unfold rg; omega) | omega | refine And.intro ?_ ?_)
      apply zs_207_0 <;> intros
      case h4 =>
        apply zs_207_20 <;> intros
        case h4 => exact hbad _ _ (Or.inl (by omega))
        case h5 =>
          refine c206 hT hR (fun ho => ?_) (fun ho => ?_)
          · apply zs_207_45 <;> intros
            case h4 => exact hbad _ _ (Or.inr (Or.inl ho))
            all_goals first | omega | (repeat' first | exact hrg _ | assumption | (unfold rg; omega) | omega | refine And.intro ?_ ?_)
          · apply zs_207_45 <;> intros
            case h5 =>
              refine c205 hT hR hk (Or.inl ⟨rfl, rfl, rfl⟩) ?_
              have hf1 := fnd_rg (B := B) (c := S.1) (N := S.2.2) (base := 0) (m := S.2.1 2) (by omega)
              apply zs_207_53 <;> intros
              case h4 => exact hbad _ _ (Or.inr (Or.inr (Or.inl (by assumption))))
              case h5 =>
                refine c205 hT hR hk (Or.inr ⟨rfl, rfl, rfl⟩) ?_
                have hf2 := fnd_rg (B := B) (c := S.1) (N := S.2.2) (base := 8) (m := S.2.1 3) (by omega)
                apply zs_207_62 <;> intros
                case h2 =>
                  refine hgood (fun h => ?_) _ _
                  rcases h with h | h | h | h
                  · omega
                  · exact ho h
                  · omega
                  · omega
                case h5 => exact hbad _ _ (Or.inr (Or.inr (Or.inr (by assumption))))
                all_goals first | omega | (repeat' first | exact hrg _ | assumption | (unfold rg; omega) | omega | refine And.intro ?_ ?_)
              all_goals first | omega | (repeat' first | exact hrg _ | assumption | (unfold rg; omega) | omega | refine And.intro ?_ ?_)
            all_goals first | omega | (repeat' first | exact hrg _ | assumption | (unfold rg; omega) | omega | refine And.intro ?_ ?_)
        all_goals first | omega | (repeat' first | exact hrg _ | assumption | (unfold rg; omega) | omega | refine And.intro ?_ ?_)
      all_goals first | omega | (repeat' first | exact hrg _ | assumption | (unfold rg; omega) | omega | refine And.intro ?_ ?_)
    · apply zs_207_0 <;> intros
      case h5 => exact flt20 _ (1, S.1.2.1) (srd_u (fr_refl _ _) _ _) (RS_err hR (by omega)) (hb _ (by unfold oNew; rw [if_neg hk])) _ _
      all_goals first | omega | (repeat' first | exact hrg _ | assumption | (unfold rg; omega) | omega | refine And.intro ?_ ?_)
set_option maxHeartbeats 4000000 in
theorem c208 (hT : TP B n) (hR : RS B n G r) {s base j : Int} (hs : s = 0 ∧ base = 0 ∧ j = 2 ∨ s = 1 ∧ base = 8 ∧ j = 3) (hQ : ∀ G1 v, fr G G1 SRD → RSV B n v G1 (Except.bind r (oTold B n base j)) → Q (some (zi v)) G1) : zW (d + 6) 208 [zr 9 0 297, zi s] G Q := by
  have flt : ∀ G1 e, fr G G1 SRD → FT G1 e → Except.bind r (oTold B n base j) = Except.error e → ∀ l2, zAt xT_208 (zW (d + 5)) Q 20 [zr 9 0 297, zi s, l2] [] G1 := by
    intro G1 e f1 hF he l2
    have h37 := hF.2.1
    have hk := hF.1
    apply zs_208_20 <;> intros
    case h2 => exact hQ G1 0 f1 (by rw [he]; exact ⟨rg_0, hF⟩)
    all_goals first | omega | (repeat' first | exact hrg _ | assumption | (unfold rg; omega) | omega | refine And.intro ?_ ?_)
  refine zm_208 ?_
  cases r with
  | error e =>
    have hF : FT G e := hR
    have h37 := hF.2.1
    have hk := hF.1
    apply zs_208_0 <;> intros
    case h2 => exact flt G e (fr_refl _ _) hF rfl _
    all_goals first | omega | (repeat' first | exact hrg _ | assumption | (unfold rg; omega) | omega | refine And.intro ?_ ?_)
  | ok S =>
    obtain ⟨e33, e34, e35, e37, e299, eB, a, a5⟩ := RS_n hR
    have nn := WF_n hR.1.2.1
    have hj : 0 ≤ S.2.1 j ∧ S.2.1 j ≤ 10 := by
      rcases hs with ⟨_, _, h3⟩ | ⟨_, _, h3⟩ <;> (rw [h3]; omega)
    have hf := fnd_rg (B := B) (c := S.1) (N := S.2.2) (base := base) (m := S.2.1 j) hj.1
    have hb : ∀ q, oTold B n base j S = q → Except.bind (Except.ok S) (oTold B n base j) = q := fun q h => h
    apply zs_208_0 <;> intros
    case h4 =>
      have hk : S.1.1 = 1 := by omega
      apply zs_208_20 <;> intros
      case h3 =>
        refine c205 hT hR hk hs ?_
        apply zs_208_32 <;> intros
        case h4 =>
          rename_i hne _
          refine c205 hT hR hk hs (zs_208_55 (c195s hT hR (fun G1 f1 hR1 => zs_208_60 (hQ G1 _ f1 ?_))))
          rw [hb (Except.ok (fnd B S.1 S.2.2 base (S.2.1 j), oStep B n S)) (by unfold oTold; rw [if_pos hk, if_neg hne])]
          exact ⟨rfl, hR1.1, hR1.2⟩
        case h7 =>
          rename_i heq _
          exact hQ _ 0 (srd_u (fr_refl _ _) _ _) (by rw [hb (Except.error (2, S.1.2.1)) (by unfold oTold; rw [if_pos hk, if_pos heq])]; exact ⟨rg_0, RS_err hR (by omega)⟩)
        all_goals first | omega | (repeat' first | exact hrg _ | assumption | (unfold rg; omega) | omega | refine And.intro ?_ ?_)
      all_goals first | omega | (repeat' first | exact hrg _ | assumption | (unfold rg; omega) | omega | refine And.intro ?_ ?_)
    case h5 =>
      have hk : ¬ S.1.1 = 1 := by omega
      exact flt _ (1, S.1.2.1) (srd_u (fr_refl _ _) _ _) (RS_err hR (by omega)) (by rw [hb (Except.error (1, S.1.2.1)) (by unfold oTold; rw [if_neg hk])]) _
    all_goals first | omega | (repeat' first | exact hrg _ | assumption | (unfold rg; omega) | omega | refine And.intro ?_ ?_)
end RE
