/-! THE CALLS: clash, culprit by the class -/
section CV
variable {d : Nat} {G : zG} {Q : zQ} {w : Int → Int} {v dr : Int}
set_option maxHeartbeats 4000000 in
theorem c82 (wf : WF w) {L : List EL} (hv : 94 ≤ v ∧ v ≤ 300) (hV : VC G v w dr L) (hl : L.length ≤ 85) (hQ : Q (some (zi (mn (fun t => t) (CLP w dr L)))) G) : zW (d + 2) 82 [zr 6 0 v] G Q := by
  refine zm_82 (zs_82_0 ?_)
  have h2 := hV.1
  have at' : ∀ i : Nat, i < L.length → Q4d (spv w dr (L.getD i e0)) ∧ Q4M G (((v + 8) + 1) + (i : Int)) (spv w dr (L.getD i e0)) := fun i hi => by
    have := (hV.2.2 i (by omega) (by omega)).2.2.2.2.2
    rw [Int.toNat_natCast] at this
    exact ⟨spv_day wf _, this⟩
  have key : ∀ (r i : Nat), i + r = L.length → (∀ a c : Nat, a < c → c < L.length → a < i → ¬ clsh (spv w dr (L.getD a e0)) (spv w dr (L.getD c e0))) → ∀ l2, zAt xT_82 (zW (d + 1)) Q 2 [zr 6 0 v, zi i, l2] [] G := by
    intro r
    induction r with
    | zero =>
      intro i hi hn l2
      apply zs_82_2 <;> intros
      case h2 =>
        rw [show mn (fun t => t) (CLP w dr L) = -1 from mn_eq (fun _ _ _ _ h => h) (Or.inl ⟨rfl, fun t ⟨a, c, h1, h2, h3, _⟩ => hn a c h1 h2 (by omega) h3⟩)] at hQ
        exact hQ
      all_goals first | omega | (repeat' first | exact hrg _ | assumption | (unfold rg; omega) | omega | refine And.intro ?_ ?_)
    | succ r ih =>
      intro i hi hn l2
      obtain ⟨d1, m1⟩ := at' i (by omega)
      have inn : ∀ (q j : Nat), j + q = L.length → i < j → (∀ c : Nat, i < c → c < j → ¬ clsh (spv w dr (L.getD i e0)) (spv w dr (L.getD c e0))) → zAt xT_82 (zW (d + 1)) Q 14 [zr 6 0 v, zi i, zi j] [] G := by
        intro q
        induction q with
        | zero =>
          intro j hj hij hc
          apply zs_82_14 <;> intros
          case h2 =>
            refine ih (i + 1) (by omega) (fun a c h1 h2 h3 => ?_) _
            by_cases e : a = i
            · rw [e]; exact hc c (by omega) (by omega)
            · exact hn a c h1 h2 (by omega)
          all_goals first | omega | (repeat' first | exact hrg _ | assumption | (unfold rg; omega) | omega | refine And.intro ?_ ?_)
        | succ q ih2 =>
          intro j hj hij hc
          obtain ⟨d2, m2⟩ := at' j (by omega)
          have ih2 := ih2 (j + 1) (by omega) (by omega)
          rw [show ((j + 1 : Nat) : Int) = (j : Int) + 1 by omega] at ih2
          have take : clsh (spv w dr (L.getD i e0)) (spv w dr (L.getD j e0)) → Q (some (zi (100 * (i : Int) + j))) G := fun h => by
            rw [show mn (fun t => t) (CLP w dr L) = 100 * (i : Int) + j from mn_eq (fun _ _ _ _ h => h) (Or.inr ⟨⟨i, j, hij, by omega, h, rfl⟩, fun t ⟨a, c, h1, h2, h3, h4⟩ => by
              show 100 * (i : Int) + j ≤ t
              by_cases e : a < i
              · exact absurd h3 (hn a c h1 h2 e)
              · by_cases e2 : a = i
                · by_cases e3 : c < j
                  · rw [e2] at h3 h1; exact absurd h3 (hc c h1 e3)
                  · omega
                · omega⟩)] at hQ
            exact hQ
          obtain ⟨x0, x1, x2, x3⟩ := m1
          obtain ⟨y0, y1, y2, y3⟩ := m2
          unfold Q4d at d1 d2
          apply zs_82_14 <;> intros
          case h4 => exact take (Or.inl (by omega))
          case h7 => exact take (Or.inr (by omega))
          case h6 =>
            refine ih2 (fun c c0 c1 => ?_)
            by_cases e : c = j
            · rw [e]; intro z; unfold clsh at z; omega
            · exact hc c c0 (by omega)
          all_goals first | omega | (repeat' first | exact hrg _ | assumption | (unfold rg; omega) | omega | refine And.intro ?_ ?_)
      apply zs_82_2 <;> intros
      case h3 =>
        have := inn r (i + 1) (by omega) (by omega) (fun c c0 c1 => by omega)
        exact this
      all_goals first | omega | (repeat' first | exact hrg _ | assumption | (unfold rg; omega) | omega | refine And.intro ?_ ?_)
  exact key L.length 0 (by omega) (fun a c _ _ h => by omega) _
set_option maxHeartbeats 4000000 in
theorem c83 (wf : WF w) {L : List EL} (hv : 94 ≤ v ∧ v ≤ 300) (hV : VC G v w dr L) (hl : L.length ≤ 85) (hQ : ∀ G1, fr G G1 (fun k j => k = v + 95 ∧ 0 ≤ j ∧ j ≤ 3) → Q (some (zi (if vd (allS w dr L) = 0 then mn (fun t => t) (CUP w dr L) else -1))) G1) : zW (d + 2) 83 [zr 6 0 v] G Q := by
  refine zm_83 ?_
  have h2 := hV.1
  have dA := foldB_d (dr := dr) (but := -1) wf L 0 o4 o4_d
  rw [foldB_all _ 0 o4 (by omega)] at dA
  have dA : Q4d (allS w dr L) := dA
  obtain ⟨q1, q2, q3, q4⟩ := hV.2.1
  have q := dA
  unfold Q4d at q
  have key : vd (allS w dr L) = 0 → ∀ (r i : Nat), i + r = L.length → ∀ G1, fr G G1 (fun k j => k = v + 95 ∧ 0 ≤ j ∧ j ≤ 3) → (∀ t, CUP w dr L t → (i : Int) ≤ t) → ∀ l2, zAt xT_83 (zW (d + 1)) Q 14 [zr 6 0 v, zi i, l2] [] G1 := by
    intro hvd r
    rw [if_pos hvd] at hQ
    induction r with
    | zero =>
      intro i hi G1 f1 hn l2
      have g2 : G1 v 2 = L.length := (f1 v 2 (by omega)).trans h2
      apply zs_83_14 <;> intros
      case h2 =>
        have hQ2 := hQ G1 f1
        rw [show mn (fun t => t) (CUP w dr L) = -1 from mn_eq (fun _ _ _ _ h => h) (Or.inl ⟨rfl, fun t ht => by have := hn t ht; have := ht.2.1; omega⟩)] at hQ2
        exact hQ2
      all_goals first | omega | (repeat' first | exact hrg _ | assumption | (unfold rg; omega) | omega | refine And.intro ?_ ?_)
    | succ r ih =>
      intro i hi G1 f1 hn l2
      have g2 : G1 v 2 = L.length := (f1 v 2 (by omega)).trans h2
      have inn : ∀ (rem pre : List EL) (Q1 : Q4) (G2 : zG), L = pre ++ rem → fr G G2 (fun k j => k = v + 95 ∧ 0 ≤ j ∧ j ≤ 3) → Q4M G2 (v + 95) Q1 → Q4d Q1 → foldB w dr i L 0 o4 = foldB w dr i rem pre.length Q1 → zAt xT_83 (zW (d + 1)) Q 31 [zr 6 0 v, zi i, zi pre.length] [] G2 := by
        intro rem
        induction rem with
        | nil =>
          intro pre Q1 G2 hL f2 hq1 hd1 he
          rw [List.append_nil] at hL
          have g2 : G2 v 2 = L.length := (f2 v 2 (by omega)).trans h2
          have hpl : pre.length = L.length := by rw [hL]
          have he : foldB w dr i L 0 o4 = Q1 := he
          have hin := foldB_in (dr := dr) (but := i) wf L 0 o4 o4_in
          rw [he] at hin
          obtain ⟨z1, z2, z3, z4⟩ := hq1
          unfold Q4d at hd1
          have take : Q1.2.2.1 ≤ Q1.2.2.2 → Q (some (zi i)) G2 := fun h => by
            have hQ2 := hQ G2 f2
            rw [show mn (fun t => t) (CUP w dr L) = i from mn_eq (fun _ _ _ _ h => h) (Or.inr ⟨⟨by omega, by omega, by rw [he]; exact h⟩, fun t ht => hn t ht⟩)] at hQ2
            exact hQ2
          apply zs_83_31 <;> intros
          case h4 =>
            have := ih (i + 1) (by omega) G2 f2 (fun t ht => by
              have h := hn t ht
              by_cases c : t = i
              · rw [c] at ht; have := ht.2.2; rw [he] at this; omega
              · omega) (zi pre.length)
            exact this
          case h5 => exact take (by omega)
          case h6 => exact take (by omega)
          all_goals first | omega | (repeat' first | exact hrg _ | assumption | (unfold rg; omega) | omega | refine And.intro ?_ ?_)
        | cons y rem ih2 =>
          intro pre Q1 G2 hL f2 hq1 hd1 he
          have g2 : G2 v 2 = L.length := (f2 v 2 (by omega)).trans h2
          have hpl : L.length = pre.length + (rem.length + 1) := by rw [hL, List.length_append, List.length_cons]
          have he : foldB w dr i L 0 o4 = foldB w dr i rem (pre.length + 1) (if (pre.length : Int) = i then Q1 else nar Q1 (spv w dr y)) := he
          have nx := fun Q1 G2 f2 hq1 hd1 he => ih2 (pre ++ [y]) Q1 G2 (by rw [hL, List.append_assoc]; rfl) f2 hq1 hd1 he
          rw [hplus] at nx
          by_cases c : (pre.length : Int) = i
          · rw [if_pos c] at he
            apply zs_83_31 <;> intros
            case h8 => exact nx Q1 G2 f2 hq1 hd1 he
            all_goals first | omega | (repeat' first | exact hrg _ | assumption | (unfold rg; omega) | omega | refine And.intro ?_ ?_)
          · rw [if_neg c] at he
            have hm := (hV.2.2 pre.length (by omega) (by omega)).2.2.2.2.2
            rw [Int.toNat_natCast, hL, getE_at] at hm
            have hs := spv_day (dr := dr) wf y
            have hs' := hs
            obtain ⟨b1, b2, b3, b4⟩ := hq1
            have m1 : G2 (((v + 8) + 1) + pre.length) 0 = (spv w dr y).1 := (f2 _ _ (by omega)).trans hm.1
            have m2 : G2 (((v + 8) + 1) + pre.length) 1 = (spv w dr y).2.1 := (f2 _ _ (by omega)).trans hm.2.1
            have m3 : G2 (((v + 8) + 1) + pre.length) 2 = (spv w dr y).2.2.1 := (f2 _ _ (by omega)).trans hm.2.2.1
            have m4 : G2 (((v + 8) + 1) + pre.length) 3 = (spv w dr y).2.2.2 := (f2 _ _ (by omega)).trans hm.2.2.2
            have hd1' := hd1
            unfold Q4d at hs' hd1'
            apply zs_83_31 <;> intros
            case h10 =>
              (simp (disch := omega) only [zu_kj, zu_s, zl10, zl20, zl21, zl30, zl31, zl32, zl40, zl41, zl42, zl43, zl02, zl03, zl04, zl23, zl24, zl34, zl12, zl13, zl14, zl01])
              rw [m1, m2, m3, m4, b1, b2, b3, b4]
              refine nx (nar Q1 (spv w dr y)) _ (fr_u (fr_u (fr_u (fr_u f2 ⟨rfl, by omega, by omega⟩) ⟨rfl, by omega, by omega⟩) ⟨rfl, by omega, by omega⟩) ⟨rfl, by omega, by omega⟩) ?_ (nar_d hd1 hs) he
              unfold nar
              refine ⟨?_, ?_, ?_, ?_⟩ <;> (simp (disch := omega) only [zu_kj, zu_s, zl10, zl20, zl21, zl30, zl31, zl32, zl40, zl41, zl42, zl43, zl02, zl03, zl04, zl23, zl24, zl34, zl12, zl13, zl14, zl01])
            case h9 =>
              (simp (disch := omega) only [zu_kj, zu_s, zl10, zl20, zl21, zl30, zl31, zl32, zl40, zl41, zl42, zl43, zl02, zl03, zl04, zl23, zl24, zl34, zl12, zl13, zl14, zl01])
              rw [m1, m2, m3, m4, b1, b2, b3, b4]
              (repeat' first | exact hrg _ | assumption | (unfold rg; omega) | omega | refine And.intro ?_ ?_)
            all_goals first | omega | (repeat' first | exact hrg _ | assumption | (unfold rg; omega) | omega | refine And.intro ?_ ?_)
      apply zs_83_14 <;> intros
      case h3 =>
        refine inn L [] o4 _ rfl (fr_u (fr_u (fr_u (fr_u f1 ⟨rfl, by omega, by omega⟩) ⟨rfl, by omega, by omega⟩) ⟨rfl, by omega, by omega⟩) ⟨rfl, by omega, by omega⟩) ?_ o4_d rfl
        unfold o4
        refine ⟨?_, ?_, ?_, ?_⟩ <;> (simp (disch := omega) only [zu_kj, zu_s, zl10, zl20, zl21, zl30, zl31, zl32, zl40, zl41, zl42, zl43, zl02, zl03, zl04, zl23, zl24, zl34, zl12, zl13, zl14, zl01])
      all_goals first | omega | (repeat' first | exact hrg _ | assumption | (unfold rg; omega) | omega | refine And.intro ?_ ?_)
  have no : vd (allS w dr L) ≠ 0 → Q (some (zi (-1))) G := fun h => by have := hQ G (fr_refl _ _); rw [if_neg h] at this; exact this
  unfold vd at key no
  apply zs_83_0 <;> intros
  case h3 => exact key (by rw [if_neg (by omega), if_neg (by omega)]) L.length 0 (by omega) G (fr_refl _ _) (fun t ht => ht.1) _
  case h4 => exact no (by rw [if_neg (by omega), if_pos (by omega)]; decide)
  case h5 => exact no (by rw [if_pos (by omega)]; decide)
  all_goals first | omega | (repeat' first | exact hrg _ | assumption | (unfold rg; omega) | omega | refine And.intro ?_ ?_)
end CV
section KV
variable {d : Nat} {G : zG} {Q : zQ} {a : Int} {w : Int → Int}
set_option maxHeartbeats 4000000 in
theorem k_clash (wf : WF w) (hC : CI G a w) {p day : Int} (hp : rg p) (hdd : rg day) (hQ : ∀ G1, fr G G1 SC → CI G1 a w → Q (some (zi (q_clash w p day))) G1) : zW (d + 11) 112 [zr 8 0 0, zi p, zi day] G Q := by
  unfold q_clash at hQ
  refine zm_112 (zs_112_0 (c154 wf hC hp hdd (fun hg => ?_) (fun hg G1 f1 hC1 hI1 hV h0 => ?_)))
  · rw [bP_f hg] at hQ
    apply zs_112_6 <;> intros
    case h2 => exact hQ G (fr_refl _ _) hC
    all_goals first | omega | (unfold rg; omega)
  · rw [bP_t hg] at hQ
    have hl := vw_len (dr := -1) wf p day
    have hQ1 := hQ G1 f1 hC1
    apply zs_112_6 <;> intros
    case h3 => exact c82 wf ⟨by omega, by omega⟩ hV hl (zs_112_16 hQ1)
    all_goals first | omega | (unfold rg; omega)
set_option maxHeartbeats 4000000 in
theorem k_culprit (wf : WF w) (hC : CI G a w) {p day : Int} (hp : rg p) (hdd : rg day) (hQ : ∀ G1, fr G G1 SC → CI G1 a w → Q (some (zi (q_culprit w p day))) G1) : zW (d + 11) 113 [zr 8 0 0, zi p, zi day] G Q := by
  unfold q_culprit at hQ
  refine zm_113 (zs_113_0 (c154 wf hC hp hdd (fun hg => ?_) (fun hg G1 f1 hC1 hI1 hV h0 => ?_)))
  · rw [bP_f hg] at hQ
    apply zs_113_6 <;> intros
    case h2 => exact hQ G (fr_refl _ _) hC
    all_goals first | omega | (unfold rg; omega)
  · rw [bP_t hg] at hQ
    have hl := vw_len (dr := -1) wf p day
    apply zs_113_6 <;> intros
    case h3 =>
      refine c83 wf ⟨by omega, by omega⟩ hV hl (fun G2 f2 => zs_113_16 ?_)
      refine hQ G2 (fr_trans f1 f2 (by intro k j t; unfold SC; omega)) ?_
      obtain ⟨h03, ha, hA, ⟨h0, h1, h2⟩, hs, hx⟩ := hC1
      have ee : ∀ k j, k ≠ 94 + 95 → G2 k j = G1 k j := fun k j h => f2 k j (fun z => h z.1)
      refine ⟨(ee _ _ (by omega)).trans h03, ha, ARC_fr hA (fun k j k0 k1 => ee k j (by omega)), ⟨(ee _ _ (by omega)).trans h0, (ee _ _ (by omega)).trans h1, (ee _ _ (by omega)).trans h2⟩, ?_, fun z => ?_⟩
      · rw [ee _ _ (by omega)]; exact hs
      · rw [ee _ _ (by omega)] at z; exact IX_fr (hx z) (fun k j k0 k1 => ee k j (by omega))
    all_goals first | omega | (unfold rg; omega)
end KV
