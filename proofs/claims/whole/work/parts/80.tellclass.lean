/-! TELLING by the class -/
section CL
variable {d : Nat} {G : zG} {Q : zQ} {w : Int → Int} {a v : Int}
theorem sp_u {G1 : zG} (f : fr G G1 SP2) (x y : Int) (i : Int) : fr G (zu (zu G1 295 i x) 294 1 y) SP2 := fr_u (fr_u f (Or.inl rfl)) (Or.inr ⟨rfl, rfl⟩)
theorem sp_k {G1 : zG} (f : fr G G1 SP2) {k j : Int} (hk : k ≤ 293) : G1 k j = G k j := f _ _ (fun e => by unfold SP2 at e; omega)
set_option maxHeartbeats 8000000 in
theorem c69 (wf : WF w) {dr i : Int} {y : EL} (hv : v = 94) (ha : 5 ≤ a ∧ a ≤ 54) (i0 : 0 ≤ i) (i1 : i < 85) (hy : EOK w dr y) (h0 : G v 0 = 66) (h66 : G 66 0 = a) (hA : ∀ s, 0 ≤ s → s < w 4 → G (a + 8) s = (w ((116 + (4 * s)) + 1))) (h3 : G (v + 3) i = y.1) (h4 : G (v + 4) i = y.2.2.1) (h5 : G (v + 5) i = y.2.2.2.1) {l : List Int} (hO : OUT G 294 1 295 l) (hl : (l ++ elt w y).length ≤ 840) (hQ : ∀ G1, fr G G1 SP2 → OUT G1 294 1 295 (l ++ elt w y) → Q none G1) : zW (d + 3) 69 [zr 5 0 294, zr 6 0 v, zi i] G Q := by
  obtain ⟨n0, n1, n2, n3, n4, n5⟩ := WF_n wf; have hrg := WF_rg wf
  have hE := EOK_e wf hy
  have hpp := hy.1
  have h1 := hO.1
  rw [List.length_append] at hl
  refine zm_69 ?_
  apply zs_69_0 <;> intros
  case h6 =>
    have hO1 := OUT_push (x := zch 112) (kb := 295) (by omega) hO
    have f1 := sp_u (fr_refl G SP2) (zch 112) (G 294 1 + 1) (G 294 1)
    rw [zu_kj (by omega), zu_kj (by omega), h3]
    refine c70 (by omega) (by omega) (by rw [List.length_append]; simp only [List.length_cons, List.length_nil]; omega) hO1 (fun G2 f2 hO2 => ?_)
    have f2 : fr G G2 SP2 := fr_trans f1 f2 (fun _ _ t => t)
    have g5 : G2 (v + 5) i = y.2.2.2.1 := (sp_k f2 (by omega)).trans h5
    have g4 : G2 (v + 4) i = y.2.2.1 := (sp_k f2 (by omega)).trans h4
    have dl := (dg_len y.1).1
    have h12 := hO2.1
    have hl2 : ((l ++ [zch 112]) ++ dg y.1).length ≤ 845 := by
      rw [List.length_append, List.length_append]; simp only [List.length_cons, List.length_nil]; omega
    generalize hL2 : (l ++ [zch 112]) ++ dg y.1 = l2 at *
    have ee : ∀ r, elt w y = zch 112 :: (dg y.1 ++ r) → l ++ elt w y = l2 ++ r := fun r hr => by
      rw [hr, ← hL2]; simp only [List.append_assoc, List.cons_append, List.nil_append]
    have fin : ∀ c, elt w y = zch 112 :: (dg y.1 ++ [zch c]) → Q none (zu (zu G2 295 (G2 294 1) (zch c)) 294 1 (G2 294 1 + 1)) := by
      intro c hc
      exact hQ _ (sp_u f2 _ _ _) (by rw [ee _ hc]; exact OUT_push (by omega) hO2)
    have hO3 := OUT_push (x := zch 64) (kb := 295) (by omega) hO2
    have f3 := sp_u f2 (zch 64) (G2 294 1 + 1) (G2 294 1)
    have hday : y.2.2.2.1 ≤ 1 → (y.2.2.1 ≠ -1 ∧ 0 ≤ y.2.2.1 ∧ y.2.2.1 < w 4 ∧ y.2.2.1 < 60 ∧ (0 ≤ (w ((116 + (4 * (y.2.2.1))) + 1)) ∧ (w ((116 + (4 * (y.2.2.1))) + 1)) ≤ 365) ∧ elt w y = zch 112 :: (dg y.1 ++ (zch 64 :: (dg (w ((116 + (4 * (y.2.2.1))) + 1)) ++ (if y.2.2.2.1 = 1 then [zch 33] else []))))) := by
      intro hst
      have hen := hE.2.2.2 hst
      have hs := (hE.2.1.resolve_left hen.1)
      have ws := WF_s wf hs.1 hs.2.1
      exact ⟨hen.1, hs.1, hs.2.1, by omega, ws.2.1, by unfold elt; rw [if_neg (by omega), if_neg (by omega), if_neg (by omega), if_neg (by omega)]⟩
    have hel2 : ∀ r, elt w y = zch 112 :: (dg y.1 ++ r) → l.length + (1 + ((dg y.1).length + r.length)) ≤ 840 := fun r hr => by
      rw [hr, List.length_cons, List.length_append] at hl; omega
    have hLl : l2.length = l.length + 1 + (dg y.1).length := by rw [← hL2, List.length_append, List.length_append]; rfl
    generalize hG3 : zu (zu G2 295 (G2 294 1) (zch 64)) 294 1 (G2 294 1 + 1) = G3 at hO3 f3
    have q0 : G3 v 0 = 66 := (sp_k f3 (by omega)).trans h0
    have q66 : G3 66 0 = a := (sp_k f3 (by omega)).trans h66
    have q4 : G3 (v + 4) i = y.2.2.1 := (sp_k f3 (by omega)).trans h4
    have q8 : ∀ s, 0 ≤ s → s < w 4 → G3 (a + 8) s = (w ((116 + (4 * s)) + 1)) := fun s s0 s1 => (sp_k f3 (by omega)).trans (hA s s0 s1)
    have hz : ∀ x, zch x = zb (zb x) := fun _ => rfl
    rw [hz] at hG3
    apply zs_69_16 <;> intros
    case h10 =>
      obtain ⟨t1, t2, t3, t4, t5, t6⟩ := hday (by omega)
      have := hel2 _ t6
      rw [List.length_cons, List.length_append] at this
      rw [if_neg (by omega)] at t6
      rw [hG3, q0, q66, q4, q8 _ t2 t3]
      refine c70 (by omega) (by omega) (by rw [List.length_append]; simp only [List.length_cons, List.length_nil]; omega) hO3 (fun G4 f4 hO4 => zs_69_71 (hQ _ (fr_trans f3 f4 (fun _ _ t => t)) ?_))
      rw [ee _ t6]
      simp only [List.append_assoc, List.cons_append, List.nil_append, List.append_nil] at hO4 ⊢
      exact hO4
    case h20 =>
      obtain ⟨t1, t2, t3, t4, t5, t6⟩ := hday (by omega)
      have hl4 := hel2 _ t6
      rw [if_pos (by omega)] at t6
      rw [if_pos (by omega)] at hl4
      simp only [List.length_append, List.length_cons, List.length_nil] at hl4
      rw [hG3, q0, q66, q4, q8 _ t2 t3]
      refine c70 (by omega) (by omega) (by rw [List.length_append]; simp only [List.length_cons, List.length_nil]; omega) hO3 (fun G4 f4 hO4 => ?_)
      have h14 := hO4.1
      simp only [List.length_append, List.length_cons, List.length_nil] at h14
      have f4 : fr G G4 SP2 := fr_trans f3 f4 (fun _ _ t => t)
      apply zs_69_89 <;> intros
      case h4 =>
        refine hQ _ (sp_u f4 _ _ _) ?_
        have := OUT_push (x := zch 33) (kb := 295) (by omega) hO4
        rw [ee _ t6]
        simp only [List.append_assoc, List.cons_append, List.nil_append] at this ⊢
        exact this
      all_goals first | omega | (repeat' first | exact hrg _ | assumption | (unfold rg; omega) | omega | refine And.intro ?_ ?_)
    case h25 => exact fin 63 (by unfold elt; rw [if_pos (by omega)])
    case h29 => exact fin 45 (by unfold elt; rw [if_neg (by omega), if_pos (by omega)])
    case h33 => exact fin 126 (by unfold elt; rw [if_neg (by omega), if_neg (by omega), if_pos (by omega)])
    case h37 => exact fin 94 (by unfold elt; rw [if_neg (by omega), if_neg (by omega), if_neg (by omega), if_pos (by omega)])
    case h8 => rw [hG3, q4]; have := hday (by omega); exact ⟨by omega, by omega⟩
    case h18 => rw [hG3, q4]; have := hday (by omega); exact ⟨by omega, by omega⟩
    case h9 => rw [hG3, q0, q66, q4]; have := hday (by omega); exact ⟨by omega, by omega, by omega, by omega⟩
    case h19 => rw [hG3, q0, q66, q4]; have := hday (by omega); exact ⟨by omega, by omega, by omega, by omega⟩
    case h11 =>
      have := hday (by omega)
      rename_i hne
      rw [hG3, q4] at hne; omega
    case h21 =>
      have := hday (by omega)
      rename_i hne
      rw [hG3, q4] at hne; omega
    all_goals first | omega | (rw [g5] at *; first | omega | (repeat' first | exact hrg _ | assumption | (unfold rg; omega) | omega | refine And.intro ?_ ?_))
  all_goals first | omega | (repeat' first | exact hrg _ | assumption | (unfold rg; omega) | omega | refine And.intro ?_ ?_)
theorem VC_6 {dr : Int} {L pre rem : List EL} {y : EL} (hV : VC G v w dr L) (hL : L = pre ++ y :: rem) : G (v + 6) pre.length = dep y := by
  have hl : L.length = pre.length + (rem.length + 1) := by rw [hL, List.length_append, List.length_cons]
  have := hV.2.2 pre.length (by omega) (by omega)
  rw [Int.toNat_natCast, hL, getE_at] at this
  exact this.2.2.2.1
set_option maxHeartbeats 8000000 in
theorem c67 (wf : WF w) {dr par : Int} {L : List EL} (hv : v = 94) (ha : 5 ≤ a ∧ a ≤ 54) (hV : VC G v w dr L) (hl : L.length ≤ 85) (hok : ∀ y ∈ L, EOK w dr y) (hS : SUB 0 par L) (h0 : G v 0 = 66) (h66 : G 66 0 = a) (hA : ∀ s, 0 ≤ s → s < w 4 → G (a + 8) s = (w ((116 + (4 * s)) + 1))) (hQ : ∀ G1, fr G G1 SP2 → OUT G1 294 1 295 (sbt w L) → Q none G1) : zW (d + 4) 67 [zr 5 0 294, zr 6 0 v] G Q := by
  have hsl := sbt_len wf hS hok
  have key : ∀ (rem pre : List EL) (G5 : zG) (l5 : List Int) (c : Int), L = pre ++ rem → 0 < pre.length → fr G G5 SP2 → OUT G5 294 1 295 l5 → (l5 ++ txE w c rem 0).length ≤ 840 → 0 ≤ c → c ≤ pre.length → DL c rem → (∀ x ∈ rem, 0 ≤ dep x) → (∀ G1, fr G G1 SP2 → OUT G1 294 1 295 (l5 ++ txE w c rem 0) → Q none G1) → zAt xT_67 (zW (d + 3)) Q 9 [zr 5 0 294, zr 6 0 v, zi c, zi pre.length] [] G5 := by
    intro rem
    induction rem with
    | nil =>
      intro pre G5 l5 c hL hp f5 hO5 hl5 c0 c1 _ _ hQ5
      have hlp := VC_len hl hL
      have e2 : G5 v 2 = pre.length := (sp_k f5 (by omega)).trans (VC_nil hV hL)
      have ht : txE w c [] 0 = List.replicate c.toNat (zch 93) := by show List.replicate (c - 0).toNat _ = _; rw [Int.sub_zero]
      rw [ht] at hl5 hQ5
      rw [List.length_append, List.length_replicate] at hl5
      have : ([] : List EL).length = 0 := rfl
      apply zs_67_9 <;> intros
      case h2 => exact c68 ⟨by omega, by omega⟩ (by omega) (by omega) hO5 (fun G6 f6 hO6 => zs_67_82 (hQ5 G6 (fr_trans f5 f6 (fun _ _ t => t)) hO6))
      all_goals first | omega | (repeat' first | exact hrg _ | assumption | (unfold rg; omega) | omega | refine And.intro ?_ ?_)
    | cons y rem ih =>
      intro pre G5 l5 c hL hp f5 hO5 hl5 c0 c1 hD hx hQ5
      have hlp := VC_len hl hL
      rw [List.length_cons] at hlp
      obtain ⟨t1, t2, t3, t4⟩ := VC_at hV hL
      have e2 : G5 v 2 = pre.length + (rem.length + 1) := (sp_k f5 (by omega)).trans t1
      have t6 := VC_6 hV hL
      have e6 : G5 (v + 6) pre.length = dep y := (sp_k f5 (by omega)).trans t6
      have hD1 := hD.1
      have hx1 := hx y List.mem_cons_self
      have hyo := hok y (by rw [hL]; exact List.mem_append_right _ List.mem_cons_self)
      have h15 := hO5.1
      have ht : txE w c (y :: rem) 0 = (if c < dep y then [zch 91] else List.replicate (c - dep y).toNat (zch 93) ++ [zch 32]) ++ (elt w y ++ txE w (dep y) rem 0) := rfl
      rw [ht] at hl5 hQ5
      have call : ∀ (G6 : zG) (l6 : List Int) (e : Int), e = dep y → fr G G6 SP2 → OUT G6 294 1 295 l6 → l6 ++ (elt w y ++ txE w (dep y) rem 0) = l5 ++ ((if c < dep y then [zch 91] else List.replicate (c - dep y).toNat (zch 93) ++ [zch 32]) ++ (elt w y ++ txE w (dep y) rem 0)) → zW (d + 3) 69 [zr 5 0 294, zr 6 0 v, zi pre.length] G6 (fun r G1 => zq0 r (zAt xT_67 (zW (d + 3)) Q 71 [zr 5 0 294, zr 6 0 v, zi e, zi pre.length] [] G1)) := by
        intro G6 l6 e he f6 hO6 hle
        rw [← hle] at hl5 hQ5
        refine c69 wf hv ha (by omega) (by omega) hyo ((sp_k f6 (by omega)).trans h0) ((sp_k f6 (by omega)).trans h66) (fun s s0 s1 => (sp_k f6 (by omega)).trans (hA s s0 s1)) ((sp_k f6 (by omega)).trans t2) ((sp_k f6 (by omega)).trans t3) ((sp_k f6 (by omega)).trans t4) hO6 (by rw [List.length_append] at hl5 ⊢; rw [List.length_append] at hl5; omega) (fun G7 f7 hO7 => zs_67_71 ?_)
        rw [he, ← hplus (pre := pre) y]
        refine ih (pre ++ [y]) G7 _ (dep y) (by rw [hL, List.append_assoc]; rfl) (by rw [List.length_append]; omega) (fr_trans f6 f7 (fun _ _ t => t)) hO7 (by rw [List.append_assoc]; exact hl5) hx1 (by rw [hplus]; omega) hD.2 (fun x h => hx x (List.mem_cons_of_mem _ h)) (fun G1 g1 hO8 => hQ5 G1 g1 (by rw [← List.append_assoc]; exact hO8))
      apply zs_67_9 <;> intros
      case h5 =>
        rw [if_neg (by omega)] at hl5 hQ5 call
        have hl6 := hl5
        simp only [List.length_append, List.length_cons, List.length_nil, List.length_replicate] at hl6
        rw [e6]
        refine c68 ⟨by omega, by omega⟩ (by omega) (by omega) hO5 (fun G6 f6 hO6 => ?_)
        have h16 := hO6.1
        simp only [List.length_append, List.length_replicate] at h16
        have f6 : fr G G6 SP2 := fr_trans f5 f6 (fun _ _ t => t)
        have e66 : G6 (v + 6) pre.length = dep y := (sp_k f6 (by omega)).trans t6
        apply zs_67_52 <;> intros
        case h6 =>
          refine call _ _ _ ?_ (sp_u f6 _ _ _) (OUT_push (x := zch 32) (by omega) hO6) ?_
          · rw [zu_kj (by omega), zu_kj (by omega)]; exact e66
          · simp only [List.append_assoc]
        all_goals first | omega | (repeat' first | exact hrg _ | assumption | (unfold rg; omega) | omega | refine And.intro ?_ ?_)
      case h9 =>
        rw [if_pos (by omega)] at hl5 hQ5 call
        refine call _ _ _ ?_ (sp_u f5 _ _ _) (OUT_push (x := zch 91) (by omega) hO5) ?_
        · rw [zu_kj (by omega), zu_kj (by omega)]; exact e6
        · simp only [List.append_assoc]
      case h7 =>
        rw [List.length_append] at hl5; omega
      case h4 => omega
      case h6 => rw [List.length_append] at hl5; exact ⟨by omega, by omega⟩
      all_goals first | omega | (repeat' first | exact hrg _ | assumption | (unfold rg; omega) | omega | refine And.intro ?_ ?_)
  obtain ⟨y, ys, e1, e2, _, e3, e4⟩ := hS
  have hlp : ys.length + 1 ≤ 85 := by rw [e1, List.length_cons] at hl; exact hl
  have hL : L = [] ++ y :: ys := e1
  obtain ⟨t1, t2, t3, t4⟩ := VC_at hV hL
  have t6 := VC_6 hV hL
  have hn : (([] : List EL).length : Int) = 0 := rfl
  rw [hn] at t1 t2 t3 t4 t6
  have hyo := hok y (by rw [e1]; exact List.mem_cons_self)
  have hsb : sbt w L = elt w y ++ txE w 0 ys 0 := by rw [e1]; show elt w y ++ txE w (dep y) ys (dep y) = _; rw [e2]
  rw [hsb] at hsl hQ
  have hsl2 : (elt w y ++ txE w 0 ys 0).length ≤ 840 := by omega
  have f1 : fr G (zu G 294 1 0) SP2 := fr_u (fr_refl _ _) (Or.inr ⟨rfl, rfl⟩)
  refine zm_67 (zs_67_0 ?_)
  generalize hG1 : zu G 294 1 0 = G1 at f1
  have hO1 : OUT G1 294 1 295 [] := ⟨by rw [← hG1]; exact zu_s, fun i hi => absurd hi (Nat.not_lt_zero i)⟩
  have s2 : G1 v 2 = ys.length + 1 := by rw [sp_k f1 (by omega), t1]; omega
  have s6 : G1 (v + 6) 0 = 0 := by rw [sp_k f1 (by omega), t6, e2]
  apply zs_67_9 <;> intros
  case h4 =>
    rw [s6]
    refine c69 wf hv ha (by omega) (by omega) hyo ((sp_k f1 (by omega)).trans h0) ((sp_k f1 (by omega)).trans h66) (fun s s0 s1 => (sp_k f1 (by omega)).trans (hA s s0 s1)) ((sp_k f1 (by omega)).trans t2) ((sp_k f1 (by omega)).trans t3) ((sp_k f1 (by omega)).trans t4) hO1 (by rw [List.nil_append]; rw [List.length_append] at hsl2; omega) (fun G7 f7 hO7 => zs_67_71 ?_)
    exact key ys [y] G7 _ 0 e1 (Nat.zero_lt_one) (fr_trans f1 f7 (fun _ _ t => t)) hO7 (by rw [List.nil_append]; exact hsl2) (by omega) (by omega) e4 (fun x h => by have := e3 x h; omega) (fun G8 g8 hO8 => hQ G8 g8 (by rw [List.nil_append] at hO8; exact hO8))
  all_goals first | omega | (repeat' first | exact hrg _ | assumption | (unfold rg; omega) | omega | refine And.intro ?_ ?_)
def SCT (k j : Int) : Prop := SC k j ∨ SP2 k j
theorem CI_sp {G1 : zG} (hC : CI G a w) (h : fr G G1 SP2) : CI G1 a w := by
  obtain ⟨h03, ha, hA, ⟨h0, h1, h2⟩, hs, hx⟩ := hC
  refine ⟨(sp_k h (by omega)).trans h03, ha, ARC_fr hA (fun k j k0 k1 => sp_k h (by omega)), ⟨(sp_k h (by omega)).trans h0, (sp_k h (by omega)).trans h1, (sp_k h (by omega)).trans h2⟩, by rw [sp_k h (by omega)]; exact hs, fun e => IX_fr (hx (by rw [← sp_k h (by omega)]; exact e)) (fun k j k0 k1 => sp_k h (by omega))⟩
set_option maxHeartbeats 4000000 in
theorem k_tell (wf : WF w) (hC : CI G a w) {p day : Int} (hp : rg p) (hdd : rg day) (hN : ¬ okPD w p day → Q (some (zi (-2))) G) (hY : okPD w p day → ∀ G1, fr G G1 SCT → CI G1 a w → OUT G1 294 1 295 (tel w p day) → Q (some (zi (tel w p day).length)) G1) : zW (d + 11) 120 [zr 8 0 0, zi p, zi day] G Q := by
  refine zm_120 (zs_120_0 (c154 wf hC hp hdd (fun hg => ?_) (fun hg G1 f1 hC1 hI1 hV h0 => ?_)))
  · apply zs_120_6 <;> intros
    case h3 => exact hN hg
    all_goals first | omega | (repeat' first | exact hrg _ | assumption | (unfold rg; omega) | omega | refine And.intro ?_ ?_)
  · apply zs_120_6 <;> intros
    case h2 =>
      refine c67 (par := -1) wf rfl hC.2.1 hV (vw_len wf p day) (vw_ok wf hg) (vwE_SUB 3 [] p day 0 (-1) 0) h0 hI1.1 (fun s s0 s1 => (hC1.2.2.1.2.2.2.2 s s0 s1).2.1) (fun G2 f2 hO2 => zs_120_23 ?_)
      rw [hO2.1]
      exact hY hg G2 (fr_trans (fr_wide f1 (fun k j t => Or.inl t)) f2 (fun k j t => Or.inr t)) (CI_sp hC1 f2) hO2
    all_goals first | omega | (repeat' first | exact hrg _ | assumption | (unfold rg; omega) | omega | refine And.intro ?_ ?_)
end CL
