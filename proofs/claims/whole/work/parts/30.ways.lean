/-! THE REFERENCE: ways -/
noncomputable def wyF (w : Int → Int) (dr fm : Int) : Nat → List Int → Int → Int → List Int × Int × Int
  | 0, _, _, _ => ([], -1, 4)
  | n + 1, ms, p, day => if p ∈ ms then ([], -1, 4) else if nr w dr p day = -1 then ([], -1, 3) else if (w ((116 + (4 * (nr w dr p day))) + 2)) = 2 then (nr w dr p day :: (wyF w dr fm n (p :: ms) (w ((116 + (4 * (nr w dr p day))) + 3)) (if w 1 = 1 then (w ((116 + (4 * (nr w dr p day))) + 1)) else fm)).1, (wyF w dr fm n (p :: ms) (w ((116 + (4 * (nr w dr p day))) + 3)) (if w 1 = 1 then (w ((116 + (4 * (nr w dr p day))) + 1)) else fm)).2) else ([nr w dr p day], nr w dr p day, if (w ((116 + (4 * (nr w dr p day))) + 2)) = 3 then 1 else if bo w dr (nr w dr p day) = -1 then 2 else 0)
noncomputable def wy (w : Int → Int) (dr p day : Int) : List Int × Int × Int := wyF w dr day 9 [] p day
def WAYM (G1 : zG) (r : List Int × Int × Int) : Prop := G1 297 9 = r.1.length ∧ G1 297 10 = r.2.1 ∧ G1 297 11 = r.2.2 ∧ ∀ i : Int, 0 ≤ i → i < r.1.length → G1 303 i = r.1.getD i.toNat 0
def S182 (k j : Int) : Prop := k = 303 ∨ (k = 297 ∧ 9 ≤ j ∧ j ≤ 11)
/-- masks of pages -/
def MSK (v : Int) (ms : List Int) : Prop := ∀ q, 0 ≤ q → q < 32 → (zt v q ↔ q ∈ ms)
theorem MSK_0 : MSK 0 [] := fun q _ _ => ⟨fun h => absurd h (zt_0 q), fun h => by cases h⟩
theorem MSK_c {v p : Int} {ms : List Int} (h : MSK v ms) (p0 : 0 ≤ p) (p1 : p < 32) : MSK (zor v (zshl 1 p)) (p :: ms) := fun q q0 q1 => by
  rw [zt_or1 p0 p1 q0 q1, h q q0 q1, List.mem_cons]
  constructor
  · intro e; rcases e with e | e
    · exact Or.inr e
    · exact Or.inl e.symm
  · intro e; rcases e with e | e
    · exact Or.inr e.symm
    · exact Or.inl e
theorem ms_add {ms : List Int} {p : Int} (h : ms.length = cn (fun q => q ∈ ms) 8) (p0 : 0 ≤ p) (p1 : p < 8) (hp : p ∉ ms) : ((p :: ms).length : Int) = cn (fun q => q ∈ p :: ms) 8 := by
  have := cn_add (P := fun q => q ∈ p :: ms) (R := fun q => q ∈ ms) (a := p) 8 p0 p1 hp (fun t _ _ => by rw [List.mem_cons]; exact Or.comm)
  rw [this, ← h, List.length_cons]
  rfl
theorem getD_pre {l : List Int} {s : Int} {i : Nat} (h : i < l.length) : (l ++ [s]).getD i 0 = l.getD i 0 := by
  rw [List.getD_eq_getElem?_getD, List.getD_eq_getElem?_getD, List.getElem?_append_left h]
theorem getD_end {l : List Int} {s : Int} : (l ++ [s]).getD l.length 0 = s := by
  rw [List.getD_eq_getElem?_getD, List.getElem?_append_right (Nat.le_refl _)]
  simp
section RE
variable {d : Nat} {G : zG} {Q : zQ}
set_option maxHeartbeats 4000000 in
theorem c182 (wf : WF (G 298)) (hdr : rg (G 297 7)) {p day : Int} (p0 : 0 ≤ p) (p1 : p < G 298 2) (d0 : 0 ≤ day) (d1 : day ≤ 365) (hQ : ∀ G1, fr G G1 S182 → WAYM G1 (wy (G 298) (G 297 7) p day) → Q none G1) : zW (d + 4) 182 [zr 9 0 297, zi p, zi day] G Q := by
  obtain ⟨n0, n1, n2, n3, n4, n5⟩ := WF_n wf
  have f0 : ∀ G1, fr G G1 S182 → G1 298 = G 298 ∧ G1 297 7 = G 297 7 := fun G1 h => ⟨fr_k h (fun j e => by unfold S182 at e; omega), h _ _ (fun e => by unfold S182 at e; omega)⟩
  generalize hw : G 298 = w at *
  generalize hdd : G 297 7 = dr at *
  have hrg := WF_rg wf
  have k18 : ∀ (m : Nat) (ms pre : List Int) (v3 a dd : Int) (G1 : zG), pre.length + m = 8 → pre.length = ms.length → ms.length = cn (fun q => q ∈ ms) 8 → MSK v3 ms → 0 ≤ a → a < w 2 → 0 ≤ dd → dd ≤ 365 → fr G G1 S182 → G1 297 9 = pre.length → G1 297 10 = -1 → (∀ i : Int, 0 ≤ i → i < pre.length → G1 303 i = pre.getD i.toNat 0) → wy w dr p day = (pre ++ (wyF w dr day (m + 1) ms a dd).1, (wyF w dr day (m + 1) ms a dd).2) → ∀ l1 l6, zAt xT_182 (zW (d + 3)) Q 18 [zr 9 0 297, l1, zi day, zi v3, zi a, zi dd, l6] [] G1 := by
    intro m
    induction m with
    | zero =>
      intro ms pre v3 a dd G1 hm hl hc hk a0 a1 dd0 dd1 hf g9 g10 g303 hwy l1 l6
      have hin : a ∈ ms := by
        by_cases c : a ∈ ms
        · exact c
        · have := ms_add hc a0 (by omega) c
          have := (cn_rg (fun q => q ∈ a :: ms) 8).2
          rw [List.length_cons] at *
          omega
      apply zs_182_18 <;> intros
      case h3 =>
        refine hQ _ (fr_u hf (Or.inr ⟨rfl, by omega, by omega⟩)) ?_
        rw [hwy]
        have e : wyF w dr day (0 + 1) ms a dd = ([], -1, 4) := by unfold wyF; rw [if_pos hin]
        rw [e, List.append_nil]
        refine ⟨?_, ?_, ?_, fun i i0 i1 => ?_⟩
        · rw [zu_j (by omega)]; exact g9
        · rw [zu_j (by omega)]; exact g10
        · rw [zu_s]
        · rw [zu_kj (by omega)]; exact g303 i i0 i1
      case h2 => rename_i h; exact absurd ((zt_bit1 a0 (by omega)).mpr ((hk a a0 (by omega)).mpr hin)) h
      all_goals exact rg_zand _ _
    | succ m ih =>
      intro ms pre v3 a dd G1 hm hl hc hk a0 a1 dd0 dd1 hf g9 g10 g303 hwy l1 l6
      obtain ⟨g1, g2⟩ := f0 G1 hf
      by_cases hin : a ∈ ms
      · apply zs_182_18 <;> intros
        case h3 =>
          refine hQ _ (fr_u hf (Or.inr ⟨rfl, by omega, by omega⟩)) ?_
          rw [hwy]
          have e : wyF w dr day (m + 1 + 1) ms a dd = ([], -1, 4) := by unfold wyF; rw [if_pos hin]
          rw [e, List.append_nil]
          refine ⟨?_, ?_, ?_, fun i i0 i1 => ?_⟩
          · rw [zu_j (by omega)]; exact g9
          · rw [zu_j (by omega)]; exact g10
          · rw [zu_s]
          · rw [zu_kj (by omega)]; exact g303 i i0 i1
        case h2 => rename_i h; exact absurd ((zt_bit1 a0 (by omega)).mpr ((hk a a0 (by omega)).mpr hin)) h
        all_goals exact rg_zand _ _
      · apply zs_182_18 <;> intros
        case h3 => rename_i h; exact absurd ((hk a a0 (by omega)).mp ((zt_bit1 a0 (by omega)).mp h)) hin
        case h1 => exact rg_zand _ _
        case h2 =>
          refine c181 (by rw [g1]; exact wf) (by rw [g2]; exact hdr) ⟨by omega, by omega⟩ dd0 dd1 (fun r hr r1 r2 => ?_)
          rw [g1, g2] at hr
          rw [g1] at r2
          have hn := nr_rg (w := w) dr a dd
          have hu : wyF w dr day (m + 1 + 1) ms a dd = if nr w dr a dd = -1 then ([], -1, 3) else if (w ((116 + (4 * (nr w dr a dd))) + 2)) = 2 then (nr w dr a dd :: (wyF w dr day (m + 1) (a :: ms) (w ((116 + (4 * (nr w dr a dd))) + 3)) (if w 1 = 1 then (w ((116 + (4 * (nr w dr a dd))) + 1)) else day)).1, (wyF w dr day (m + 1) (a :: ms) (w ((116 + (4 * (nr w dr a dd))) + 3)) (if w 1 = 1 then (w ((116 + (4 * (nr w dr a dd))) + 1)) else day)).2) else ([nr w dr a dd], nr w dr a dd, if (w ((116 + (4 * (nr w dr a dd))) + 2)) = 3 then 1 else if bo w dr (nr w dr a dd) = -1 then 2 else 0) := by
            show (if a ∈ ms then _ else _) = _
            rw [if_neg hin]
          rw [hu] at hwy
          clear hu
          rw [← hr] at hwy hn
          have hs : r ≠ -1 → 0 ≤ r ∧ r < w 4 := fun h => by
            rcases hn with e | e
            · exact absurd e h
            · exact ⟨e.1, e.2.1⟩
          have hlen : ∀ x : Int, (pre.length : Int) + 1 = (pre ++ [x]).length := fun x => by rw [List.length_append]; simp
          have nx : ∀ d2, r ≠ -1 → (w ((116 + (4 * r)) + 2)) = 2 → d2 = (if w 1 = 1 then (w ((116 + (4 * r)) + 1)) else day) → ∀ l6, zAt xT_182 (zW (d + 3)) Q 18 [zr 9 0 297, z0, zi day, zi (zor v3 (zshl 1 a)), zi (w ((116 + (4 * r)) + 3)), zi d2, l6] [] (zu (zu G1 303 (G1 297 9) r) 297 9 ((G1 297 9) + 1)) := by
            intro d2 hr1 hk2 hd2 l6
            have wr := WF_s wf (hs hr1).1 (hs hr1).2
            rw [if_neg hr1, if_pos hk2] at hwy
            refine ih (a :: ms) (pre ++ [r]) _ _ _ _ ?_ ?_ (ms_add hc a0 (by omega) hin) (MSK_c hk a0 (by omega)) ?_ ?_ ?_ ?_ (fr_u (fr_u hf (Or.inl rfl)) (Or.inr ⟨rfl, by omega, by omega⟩)) ?_ ?_ ?_ ?_ _ _
            · rw [List.length_append]; simp; omega
            · rw [List.length_append, List.length_cons]; simp; omega
            · have := wr.2.2.2.2 hk2; omega
            · have := wr.2.2.2.2 hk2; omega
            · rw [hd2]; split <;> omega
            · rw [hd2]; split <;> omega
            · rw [zu_s, g9]; exact hlen r
            · rw [zu_j (by omega), zu_kj (by omega)]; exact g10
            · intro i i0 i1
              rw [zu_kj (by omega)]
              rw [← hlen r] at i1
              by_cases c : i = pre.length
              · rw [c, g9, zu_s, Int.toNat_natCast, getD_end]
              · rw [zu_j (by omega), g303 i i0 (by omega), getD_pre (by omega)]
            · rw [hwy, hd2, List.append_assoc]; rfl
          apply zs_182_49 <;> intros
          case h4 => rw [g1] at *; exact nx _ (by assumption) (by assumption) (by rw [if_neg (by assumption)]) _
          case h6 => rw [g1] at *; exact nx _ (by assumption) (by assumption) (by rw [if_pos (by assumption)]) _
          case h7 =>
            rename_i hr1 hk2 hk3
            rw [g1] at hk2 hk3
            rw [if_neg hr1, if_neg hk2, if_neg hk3] at hwy
            have f2 := fr_u (fr_u (fr_u hf (q := 303) (i := G1 297 9) (v := r) (Or.inl rfl)) (q := 297) (i := 9) (v := G1 297 9 + 1) (Or.inr ⟨rfl, by omega, by omega⟩)) (q := 297) (i := 10) (v := r) (Or.inr ⟨rfl, by omega, by omega⟩)
            obtain ⟨x1, x2⟩ := f0 _ f2
            have fin : ∀ st, st = (if bo w dr r = -1 then 2 else 0) → Q none (zu (zu (zu (zu G1 303 (G1 297 9) r) 297 9 (G1 297 9 + 1)) 297 10 r) 297 11 st) := by
              intro st hst
              refine hQ _ (fr_u f2 (Or.inr ⟨rfl, by omega, by omega⟩)) ?_
              rw [hwy]
              refine ⟨?_, ?_, ?_, fun i i0 i1 => ?_⟩
              · rw [zu_j (by omega), zu_j (by omega), zu_s, g9]; exact hlen r
              · rw [zu_j (by omega), zu_s]
              · rw [zu_s]; exact hst
              · have i1 : i < (pre ++ [r]).length := i1
                rw [← hlen r] at i1
                rw [zu_kj (by omega), zu_kj (by omega), zu_kj (by omega)]
                by_cases c : i = pre.length
                · rw [c, g9, zu_s, Int.toNat_natCast, getD_end]
                · rw [zu_j (by omega), g303 i i0 (by omega), getD_pre (by omega)]
            refine c178 (by rw [x1]; exact wf) (by rw [x2]; exact hdr) (hs hr1).1 (by rw [x1]; exact (hs hr1).2) ?_
            rw [x1, x2]
            have bb := bo_rg wf (dr := dr) (hs hr1).1 (hs hr1).2
            apply zs_182_121 <;> intros
            case h2 => exact fin 0 (by rw [if_neg (by assumption)])
            case h3 => exact fin 2 (by rw [if_pos (by assumption)])
            all_goals (repeat' first | exact hrg _ | assumption | (unfold rg; omega) | omega | refine And.intro ?_ ?_)
          case h8 =>
            rename_i hr1 hk2 hk3
            rw [g1] at hk2 hk3
            rw [if_neg hr1, if_neg hk2, if_pos hk3] at hwy
            refine hQ _ (fr_u (fr_u (fr_u (fr_u hf (Or.inl rfl)) (Or.inr ⟨rfl, by omega, by omega⟩)) (Or.inr ⟨rfl, by omega, by omega⟩)) (Or.inr ⟨rfl, by omega, by omega⟩)) ?_
            rw [hwy]
            refine ⟨?_, ?_, ?_, fun i i0 i1 => ?_⟩
            · rw [zu_j (by omega), zu_j (by omega), zu_s, g9]; exact hlen r
            · rw [zu_j (by omega), zu_s]
            · rw [zu_s]
            · have i1 : i < (pre ++ [r]).length := i1
              rw [← hlen r] at i1
              rw [zu_kj (by omega), zu_kj (by omega), zu_kj (by omega)]
              by_cases c : i = pre.length
              · rw [c, g9, zu_s, Int.toNat_natCast, getD_end]
              · rw [zu_j (by omega), g303 i i0 (by omega), getD_pre (by omega)]
          case h9 =>
            rename_i hr1
            rw [if_pos hr1, List.append_nil] at hwy
            refine hQ _ (fr_u hf (Or.inr ⟨rfl, by omega, by omega⟩)) ?_
            rw [hwy]
            refine ⟨?_, ?_, ?_, fun i i0 i1 => ?_⟩
            · rw [zu_j (by omega)]; exact g9
            · rw [zu_j (by omega)]; exact g10
            · rw [zu_s]
            · rw [zu_kj (by omega)]; exact g303 i i0 i1
          all_goals (have hrs := hs; rw [g1] at *; (repeat' first | exact hrg _ | assumption | (unfold rg; omega) | omega | refine And.intro ?_ ?_))
  refine zm_182 (zs_182_0 ?_)
  exact k18 8 [] [] 0 p day _ rfl rfl (cn_0 8 (fun t _ _ h => by cases h)).symm MSK_0 p0 p1 d0 d1 (fr_u (fr_u (fr_refl _ _) (Or.inr ⟨rfl, by omega, by omega⟩)) (Or.inr ⟨rfl, by omega, by omega⟩)) (by rw [zu_j (by omega), zu_s]; rfl) zu_s (fun i i0 i1 => by simp at i1; omega) rfl _ _
end RE
