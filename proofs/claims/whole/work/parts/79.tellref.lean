/-! TELLING by the reference -/
section RE
variable {d : Nat} {G : zG} {Q : zQ} {w : Int → Int}
theorem VM_9 {L pre rem : List EL} {y : EL} (hV : VM G L) (hL : L = pre ++ y :: rem) : G 309 pre.length = y.2.2.2.2.2 := by
  have hl : L.length = pre.length + (rem.length + 1) := by rw [hL, List.length_append, List.length_cons]
  have := hV.2 pre.length (by omega) (by omega)
  rw [Int.toNat_natCast, hL, getE_at] at this
  exact this.2.2.2.2.2
theorem VM_so {G1 : zG} {L : List EL} (hV : VM G L) (f : fr G G1 SO) : VM G1 L := by
  refine ⟨(f _ _ (fun e => by unfold SO at e; omega)).trans hV.1, fun i i0 i1 => ?_⟩
  rw [f 304 i (fun e => by unfold SO at e; omega), f 305 i (fun e => by unfold SO at e; omega), f 306 i (fun e => by unfold SO at e; omega), f 307 i (fun e => by unfold SO at e; omega), f 308 i (fun e => by unfold SO at e; omega), f 309 i (fun e => by unfold SO at e; omega)]
  exact hV.2 i i0 i1
theorem so_w {G1 : zG} (hw : G 298 = w) (f : fr G G1 SO) : G1 298 = w := (fr_k f (fun j e => by unfold SO at e; omega)).trans hw
theorem so_u {G1 : zG} (f : fr G G1 SO) (x y : Int) (i : Int) : fr G (zu (zu G1 319 i x) 297 49 y) SO := fr_u (fr_u f (Or.inl rfl)) (Or.inr ⟨rfl, rfl⟩)
set_option maxHeartbeats 4000000 in
theorem c268e (wf : WF w) {dr i : Int} {y : EL} (i0 : 0 ≤ i) (i1 : i < 90) (hy : EOK w dr y) (hw : G 298 = w) (h4 : G 304 i = y.1) (h6 : G 306 i = y.2.2.1) (h7 : G 307 i = y.2.2.2.1) {l : List Int} (hO : OUT G 297 49 319 l) (hl : (l ++ elt w y).length ≤ 1390) (hQ : ∀ G1, fr G G1 SO → OUT G1 297 49 319 (l ++ elt w y) → zAt xT_268 (zW (d + 5)) Q 124 [zr 9 0 297, zi i, z0, z0] [] G1) : zW (d + 6) 268 [zr 9 0 297, zi i] G Q := by
  obtain ⟨n0, n1, n2, n3, n4, n5⟩ := WF_n wf; have hrg := WF_rg wf
  have hE := EOK_e wf hy
  have hpp := hy.1
  have h49 := hO.1
  rw [List.length_append] at hl
  have k108 : ∀ G3 l3, fr G G3 SO → OUT G3 297 49 319 l3 → l3.length ≤ 1400 → l3 ++ (if y.2.2.2.1 = 1 then [zch 33] else []) = l ++ elt w y → zAt xT_268 (zW (d + 5)) Q 108 [zr 9 0 297, zi i, z0, z0] [] G3 := by
    intro G3 l3 f3 hO3 hl3 he
    have g7 : G3 307 i = y.2.2.2.1 := (f3 _ _ (fun e => by unfold SO at e; omega)).trans h7
    have h493 := hO3.1
    apply zs_268_108 <;> intros
    case h2 =>
      rw [if_neg (by omega), List.append_nil] at he
      exact hQ _ f3 (by rw [← he]; exact hO3)
    case h4 =>
      rw [if_pos (by omega)] at he
      exact hQ _ (so_u f3 _ _ _) (by rw [← he]; exact OUT_push (by omega) hO3)
    all_goals (rw [g7] at *; first | omega | (repeat' first | exact hrg _ | assumption | (unfold rg; omega) | omega | refine And.intro ?_ ?_))
  refine zm_268 ?_
  apply zs_268_0 <;> intros
  case h2 =>
    have hO1 := OUT_push (x := zch 112) (kb := 319) (by omega) hO
    have f1 := so_u (fr_refl G SO) (zch 112) (G 297 49 + 1) (G 297 49)
    rw [h4]
    refine c267 (by omega) (by omega) (by rw [List.length_append]; simp only [List.length_cons, List.length_nil]; omega) hO1 (fun G2 f2 hO2 => ?_)
    have f2 : fr G G2 SO := fr_trans f1 f2 (fun _ _ t => t)
    have g7 : G2 307 i = y.2.2.2.1 := (f2 _ _ (fun e => by unfold SO at e; omega)).trans h7
    have g6 : G2 306 i = y.2.2.1 := (f2 _ _ (fun e => by unfold SO at e; omega)).trans h6
    have gw := so_w hw f2
    have dl := (dg_len y.1).1
    have h492 := hO2.1
    have hl2 : ((l ++ [zch 112]) ++ dg y.1).length ≤ 1396 := by
      rw [List.length_append, List.length_append]; simp only [List.length_cons, List.length_nil]; omega
    have hlL := hl2
    generalize hL2 : (l ++ [zch 112]) ++ dg y.1 = l2 at *
    have ee : ∀ r, elt w y = zch 112 :: (dg y.1 ++ r) → l ++ elt w y = l2 ++ r := fun r hr => by
      rw [hr, ← hL2]; simp only [List.append_assoc, List.cons_append, List.nil_append]
    have fin : ∀ c st, y.2.2.2.1 = st → st ≠ 1 → elt w y = zch 112 :: (dg y.1 ++ [zch c]) → zAt xT_268 (zW (d + 5)) Q 108 [zr 9 0 297, zi i, z0, z0] [] (zu (zu G2 319 (G2 297 49) (zch c)) 297 49 (G2 297 49 + 1)) := by
      intro c st h1 h2 h3
      refine k108 _ (l2 ++ [zch c]) (so_u f2 _ _ _) (OUT_push (by omega) hO2) (by rw [List.length_append]; simp only [List.length_cons, List.length_nil]; omega) ?_
      rw [if_neg (by omega), List.append_nil, ee _ h3]
    apply zs_268_16 <;> intros
    case h3 => exact fin 63 2 (by omega) (by omega) (by unfold elt; rw [if_pos (by omega)])
    case h5 => exact fin 45 3 (by omega) (by omega) (by unfold elt; rw [if_neg (by omega), if_pos (by omega)])
    case h7 => exact fin 126 4 (by omega) (by omega) (by unfold elt; rw [if_neg (by omega), if_neg (by omega), if_pos (by omega)])
    case h9 => exact fin 94 5 (by omega) (by omega) (by unfold elt; rw [if_neg (by omega), if_neg (by omega), if_neg (by omega), if_pos (by omega)])
    case h11 =>
      have hen := hE.2.2.2 (by omega)
      have hs := (hE.2.1.resolve_left hen.1)
      have ws := WF_s wf hs.1 hs.2.1
      have hO3 := OUT_push (x := zch 64) (kb := 319) (by omega) hO2
      have hel : elt w y = zch 112 :: (dg y.1 ++ (zch 64 :: (dg (w ((116 + (4 * (y.2.2.1))) + 1)) ++ (if y.2.2.2.1 = 1 then [zch 33] else [])))) := by unfold elt; rw [if_neg (by omega), if_neg (by omega), if_neg (by omega), if_neg (by omega)]
      have dl2 := (dg_len (w ((116 + (4 * (y.2.2.1))) + 1))).1
      rw [gw, g6]
      refine c267 (by omega) (by omega) (by rw [List.length_append]; simp only [List.length_cons, List.length_nil]; omega) hO3 (fun G4 f4 hO4 => k108 G4 _ (fr_trans (so_u f2 _ _ _) f4 (fun _ _ t => t)) hO4 ?_ ?_)
      · rw [List.length_append, List.length_append]; simp only [List.length_cons, List.length_nil]; omega
      · rw [ee _ hel]; simp only [List.append_assoc, List.cons_append, List.nil_append]
    case h10 =>
      have hen := hE.2.2.2 (by omega)
      have hs := (hE.2.1.resolve_left hen.1)
      omega
    all_goals (rw [g7] at *; first | omega | (repeat' first | exact hrg _ | assumption | (unfold rg; omega) | omega | refine And.intro ?_ ?_))
  all_goals first | omega | (repeat' first | exact hrg _ | assumption | (unfold rg; omega) | omega | refine And.intro ?_ ?_)
theorem sbt_one (y : EL) : sbt w [y] = elt w y := by
  show elt w y ++ List.replicate (dep y - dep y).toNat (zch 93) = _
  rw [Int.sub_self]; exact List.append_nil _
set_option maxHeartbeats 4000000 in
theorem c268l (wf : WF w) {dr : Int} {y : EL} {L A B : List EL} {l : List Int} (hV : VM G L) (hw : G 298 = w) (hLl : L.length ≤ 90) (hL : L = A ++ ([y] ++ B)) (hB : ∀ b B', B = b :: B' → b.2.2.2.2.2 < A.length) (hBr : ∀ b B', B = b :: B' → rg b.2.2.2.2.2) (hy : EOK w dr y) (hO : OUT G 297 49 319 l) (hl : (l ++ sbt w [y]).length ≤ 1390) (hQ : ∀ G1, fr G G1 SO → OUT G1 297 49 319 (l ++ sbt w [y]) → Q (some (zi (A.length + 1))) G1) : zW (d + 6) 268 [zr 9 0 297, zi A.length] G Q := by
  rw [sbt_one] at hl hQ
  have hL : L = A ++ y :: B := hL
  obtain ⟨a1, a2, a3, a4, a5⟩ := VM_at hV hL
  refine c268e wf (by omega) (by omega) hy hw a3 a4 a5 hO hl (fun G1 f1 hO1 => ?_)
  have hV1 := VM_so hV f1
  have b1 := hV1.1
  have hQ1 := hQ G1 f1 hO1
  cases B with
  | nil =>
    have : ([] : List EL).length = 0 := rfl
    apply zs_268_124 <;> intros
    case h2 => exact hQ1
    all_goals first | omega | (repeat' first | exact hrg _ | assumption | (unfold rg; omega) | omega | refine And.intro ?_ ?_)
  | cons b B' =>
    have hb := hB b B' rfl
    have hbr := hBr b B' rfl
    have b9 := VM_9 hV1 (pre := A ++ [y]) (rem := B') (y := b) (by rw [hL, List.append_assoc]; rfl)
    rw [hplus] at b9
    apply zs_268_124 <;> intros
    case h2 => exact hQ1
    case h4 => exact hQ1
    all_goals (rw [b9] at *; first | omega | (repeat' first | exact hrg _ | assumption | (unfold rg; omega) | omega | refine And.intro ?_ ?_))
theorem kids_head {F : Int → Nat → List EL} {dp par : Int} {B : List EL} (hF : ∀ p e, SUB dp par (F p e)) {P : EL → Prop} (hp : ∀ y : EL, y.2.2.2.2.2 = par → P y) (hB : ∀ b B', B = b :: B' → P b) : ∀ (ps : List Int) (e : Nat) (b : EL) (B' : List EL), kidsF F ps e ++ B = b :: B' → P b := by
  intro ps e b B' h
  cases ps with
  | nil => exact hB b B' h
  | cons q ps =>
    obtain ⟨y, ys, e1, _, e3, _⟩ := hF q e
    have h : (F q e ++ kidsF F ps (e + (F q e).length)) ++ B = b :: B' := h
    rw [e1] at h
    have : y = b := (List.cons.inj h).1
    rw [← this]; exact hp y e3
set_option maxHeartbeats 8000000 in
theorem c268 (wf : WF w) {dr : Int} : ∀ (n d : Nat) (G : zG) (Q : zQ) (l : List Int) (L A B : List EL) (anc : List Int) (p f dp par : Int), VM G L → G 298 = w → L.length ≤ 90 → L = A ++ (vwE w dr n anc p f dp par A.length ++ B) → (∀ b B', B = b :: B' → rg b.2.2.2.2.2 ∧ b.2.2.2.2.2 < A.length) → (∀ y ∈ vwE w dr n anc p f dp par A.length, EOK w dr y) → OUT G 297 49 319 l → (l ++ sbt w (vwE w dr n anc p f dp par A.length)).length ≤ 1390 → (∀ G1, fr G G1 SO → OUT G1 297 49 319 (l ++ sbt w (vwE w dr n anc p f dp par A.length)) → Q (some (zi (A.length + (vwE w dr n anc p f dp par A.length).length))) G1) → zW (d + n + 6) 268 [zr 9 0 297, zi A.length] G Q := by
  intro n
  induction n with
  | zero =>
    intro d G Q l L A B anc p f dp par hV hw hLl hL hB hok hO hl hQ
    have hT : ∃ y, vwE w dr 0 anc p f dp par A.length = [y] := by unfold vwE; split <;> exact ⟨_, rfl⟩
    obtain ⟨y, hT⟩ := hT
    rw [hT] at hL hok hl hQ
    exact c268l wf hV hw hLl hL (fun b B' h => (hB b B' h).2) (fun b B' h => (hB b B' h).1) (hok y List.mem_cons_self) hO hl hQ
  | succ n ih =>
    intro d G Q l L A B anc p f dp par hV hw hLl hL hB hok hO hl hQ
    have hT : (∃ y, vwE w dr (n + 1) anc p f dp par A.length = [y]) ∨ ∃ y q ps f2, dep y = dp ∧ vwE w dr (n + 1) anc p f dp par A.length = y :: kidsF (fun q e' => vwE w dr n (p :: anc) q f2 (dp + 1) A.length e') (q :: ps) (A.length + 1) := by
      have hv : vwE w dr (n + 1) anc p f dp par A.length = if p ∈ anc then [(p, f, -1, 5, dp, par)] else (p, f, (wy w dr p f).2.1, (wy w dr p f).2.2, dp, par) :: (if (wy w dr p f).2.2 = 0 then kidsF (fun q e' => vwE w dr n (p :: anc) q (if w 1 = 1 then (w ((116 + (4 * ((wy w dr p f).2.1))) + 1)) else f) (dp + 1) A.length e') (prL w (bo w dr (wy w dr p f).2.1) 0 ((w ((6 + (11 * (bo w dr (wy w dr p f).2.1))) + 1))).toNat) (A.length + 1) else []) := rfl
      rw [hv]
      split
      · exact Or.inl ⟨_, rfl⟩
      · split
        · generalize prL w (bo w dr (wy w dr p f).2.1) 0 ((w ((6 + (11 * (bo w dr (wy w dr p f).2.1))) + 1))).toNat = ks
          cases ks with
          | nil => exact Or.inl ⟨_, rfl⟩
          | cons q ps => exact Or.inr ⟨_, q, ps, _, rfl, rfl⟩
        · exact Or.inl ⟨_, rfl⟩
    rcases hT with ⟨y, hT⟩ | ⟨y, q, ps, f2, hdy, hT⟩
    · rw [hT] at hL hok hl hQ
      exact c268l wf hV hw hLl hL (fun b B' h => (hB b B' h).2) (fun b B' h => (hB b B' h).1) (hok y List.mem_cons_self) hO hl hQ
    · rw [hT] at hL hok hl hQ
      have hS : ∀ q e, SUB (dp + 1) A.length (vwE w dr n (p :: anc) q f2 (dp + 1) A.length e) := fun q e => vwE_SUB n (p :: anc) q f2 (dp + 1) A.length e
      have ihF : ∀ (q : Int) (G : zG) (Q : zQ) (l : List Int) (A2 B : List EL), VM G L → G 298 = w → L = A2 ++ (vwE w dr n (p :: anc) q f2 (dp + 1) A.length A2.length ++ B) → (∀ b B', B = b :: B' → rg b.2.2.2.2.2 ∧ b.2.2.2.2.2 < A2.length) → (∀ y ∈ vwE w dr n (p :: anc) q f2 (dp + 1) A.length A2.length, EOK w dr y) → OUT G 297 49 319 l → (l ++ sbt w (vwE w dr n (p :: anc) q f2 (dp + 1) A.length A2.length)).length ≤ 1390 → (∀ G1, fr G G1 SO → OUT G1 297 49 319 (l ++ sbt w (vwE w dr n (p :: anc) q f2 (dp + 1) A.length A2.length)) → Q (some (zi (A2.length + (vwE w dr n (p :: anc) q f2 (dp + 1) A.length A2.length).length))) G1) → zW (d + n + 6) 268 [zr 9 0 297, zi A2.length] G Q := by
        intro q G Q l A2 B h1 h2 h3
        exact fun h4 h5 h6 h7 h8 => ih d G Q l L A2 B (p :: anc) q f2 (dp + 1) A.length h1 h2 hLl h3 h4 h5 h6 h7 h8
      generalize hF : (fun q e' => vwE w dr n (p :: anc) q f2 (dp + 1) A.length e') = F at *
      have hF1 : ∀ q e, vwE w dr n (p :: anc) q f2 (dp + 1) A.length e = F q e := fun q e => by rw [← hF]
      simp only [hF1] at hS ihF
      clear hF hF1 ih
      have hfst := txE_first (w := w) (t := dp) (F := F) (par := A.length) (q := q) (ps := ps) (e := A.length + 1) (fun p _ e => hS p e)
      have hsb : sbt w (y :: kidsF F (q :: ps) (A.length + 1)) = elt w y ++ (zch 91 :: (sbt w (F q (A.length + 1)) ++ (ktx w F ps (A.length + 1 + (F q (A.length + 1)).length) ++ [zch 93]))) := by
        show elt w y ++ txE w (dep y) _ (dep y) = _
        rw [hdy, hfst]
      have hL0 : L = A ++ y :: (kidsF F (q :: ps) (A.length + 1) ++ B) := hL
      obtain ⟨a1, a2, a3, a4, a5⟩ := VM_at hV hL0
      rw [hsb] at hl hQ
      have hlen : (y :: kidsF F (q :: ps) (A.length + 1)).length = 1 + (F q (A.length + 1)).length + (kidsF F ps (A.length + 1 + (F q (A.length + 1)).length)).length := by
        show (F q (A.length + 1) ++ kidsF F ps (A.length + 1 + (F q (A.length + 1)).length)).length + 1 = _
        rw [List.length_append]; omega
      rw [hlen] at hQ
      have hBk : ∀ ps e b B', kidsF F ps e ++ B = b :: B' → rg b.2.2.2.2.2 ∧ b.2.2.2.2.2 ≤ A.length := fun ps e b B' h => kids_head hS (P := fun b => rg b.2.2.2.2.2 ∧ b.2.2.2.2.2 ≤ A.length) (fun y hy => ⟨⟨by omega, by omega⟩, by omega⟩) (fun b B' h => ⟨(hB b B' h).1, by have := (hB b B' h).2; omega⟩) ps e b B' h
      have loop : ∀ (ps : List Int) (A2 : List EL) (G5 : zG) (l5 : List Int), L = A2 ++ (kidsF F ps A2.length ++ B) → A.length + 1 < A2.length → fr G G5 SO → OUT G5 297 49 319 l5 → (l5 ++ (ktx w F ps A2.length ++ [zch 93])).length ≤ 1390 → (∀ y ∈ kidsF F ps A2.length, EOK w dr y) → (∀ G1, fr G G1 SO → OUT G1 297 49 319 (l5 ++ (ktx w F ps A2.length ++ [zch 93])) → Q (some (zi (A2.length + (kidsF F ps A2.length).length))) G1) → ∀ l3, zAt xT_268 (zW (d + n + 6)) Q 164 [zr 9 0 297, zi A.length, zi A2.length, l3] [] G5 := by
        intro ps
        induction ps with
        | nil =>
          intro A2 G5 l5 hL5 hA2 f5 hO5 hl5 hok5 hQ5 l3
          have hV5 := VM_so hV f5
          have b1 := hV5.1
          have h49 := hO5.1
          rw [List.length_append] at hl5
          have hL5 : L = A2 ++ B := hL5
          have hfin : Q (some (zi A2.length)) (zu (zu G5 319 (G5 297 49) (zch 93)) 297 49 (G5 297 49 + 1)) := by
            have := hQ5 _ (so_u f5 _ _ _) (OUT_push (x := zch 93) (by omega) hO5)
            have e : (A2.length : Int) + ((kidsF F [] A2.length).length : Int) = A2.length := by show (A2.length : Int) + ((0 : Nat) : Int) = _; omega
            rw [e] at this
            exact this
          cases B with
          | nil =>
            have hl2 : L.length = A2.length := by rw [hL5, List.append_nil]
            apply zs_268_164 <;> intros
            case h3 => exact hfin
            all_goals first | omega | (repeat' first | exact hrg _ | assumption | (unfold rg; omega) | omega | refine And.intro ?_ ?_)
          | cons b B' =>
            have hb := hB b B' rfl
            have hb1 : -2147483648 ≤ b.2.2.2.2.2 ∧ b.2.2.2.2.2 < 2147483648 := hb.1
            have b9 := VM_9 hV5 hL5
            have hl2 : L.length = A2.length + (B'.length + 1) := by rw [hL5, List.length_append, List.length_cons]
            apply zs_268_164 <;> intros
            case h3 => exact hfin
            case h6 => exact hfin
            case h8 => rw [b9] at *; omega
            case h10 => rw [b9] at *; omega
            all_goals (rw [b9] at *; first | omega | exact hb.1 | (repeat' first | exact hrg _ | assumption | (unfold rg; omega) | omega | refine And.intro ?_ ?_))
        | cons q ps ihp =>
          intro A2 G5 l5 hL5 hA2 f5 hO5 hl5 hok5 hQ5 l3
          have hV5 := VM_so hV f5
          have b1 := hV5.1
          have h49 := hO5.1
          have hw5 := so_w hw f5
          have hL6 : L = A2 ++ (F q A2.length ++ (kidsF F ps (A2.length + (F q A2.length).length) ++ B)) := by
            rw [hL5, ← List.append_assoc (F q A2.length)]; rfl
          obtain ⟨y1, ys1, e1, e2, e3, _⟩ := hS q A2.length
          have b9 := VM_9 hV5 (pre := A2) (y := y1) (rem := ys1 ++ (kidsF F ps (A2.length + (F q A2.length).length) ++ B)) (by rw [hL6, e1]; rfl)
          have hl2 : L.length = A2.length + (F q A2.length).length + (kidsF F ps (A2.length + (F q A2.length).length) ++ B).length := by rw [hL6, List.length_append, List.length_append]; omega
          have hl3 : 1 ≤ (F q A2.length).length := by rw [e1, List.length_cons]; omega
          have hk : ktx w F (q :: ps) A2.length ++ [zch 93] = zch 32 :: (sbt w (F q A2.length) ++ (ktx w F ps (A2.length + (F q A2.length).length) ++ [zch 93])) := by
            show (zch 32 :: (sbt w (F q A2.length) ++ ktx w F ps (A2.length + (F q A2.length).length))) ++ [zch 93] = _
            simp only [List.append_assoc, List.cons_append]
          have hkl : (kidsF F (q :: ps) A2.length).length = (F q A2.length).length + (kidsF F ps (A2.length + (F q A2.length).length)).length := by
            show (F q A2.length ++ kidsF F ps (A2.length + (F q A2.length).length)).length = _
            rw [List.length_append]
          rw [hk] at hl5 hQ5
          rw [hkl] at hQ5
          have hA3 : (A2 ++ F q A2.length).length = A2.length + (F q A2.length).length := List.length_append
          have hokq : ∀ y ∈ F q A2.length, EOK w dr y := fun y h => hok5 y (List.mem_append_left _ h)
          have hokp : ∀ y ∈ kidsF F ps (A2.length + (F q A2.length).length), EOK w dr y := fun y h => hok5 y (List.mem_append_right _ h)
          have hlen5 := hl5
          simp only [List.length_append, List.length_cons, List.length_nil] at hlen5
          have hO6 := OUT_push (x := zch 32) (kb := 319) (by omega) hO5
          apply zs_268_164 <;> intros
          case h10 =>
            refine ihF q _ _ (l5 ++ [zch 32]) A2 _ (VM_so hV5 (so_u (fr_refl _ _) _ _ _)) (so_w hw5 (so_u (fr_refl _ _) _ _ _)) hL6 (fun b B' h => ?_) hokq hO6 ?_ (fun G6 f6 hO7 => zs_268_200 ?_)
            · have := hBk ps _ b B' h
              exact ⟨this.1, by omega⟩
            · simp only [List.length_append, List.length_cons, List.length_nil]; omega
            · have hih := ihp (A2 ++ F q A2.length) G6 ((l5 ++ [zch 32]) ++ sbt w (F q A2.length))
              rw [hA3] at hih
              rw [show (A2.length : Int) + ((F q A2.length).length : Int) = ((A2.length + (F q A2.length).length : Nat) : Int) by omega]
              refine hih (by rw [hL6, List.append_assoc]) (by omega) (fr_trans f5 (fr_trans (so_u (fr_refl _ _) _ _ _) f6 (fun _ _ t => t)) (fun _ _ t => t)) hO7 ?_ hokp (fun G1 g1 hO8 => ?_) _
              · simp only [List.length_append, List.length_cons, List.length_nil]; omega
              · have := hQ5 G1 g1 (by simp only [List.append_assoc, List.cons_append, List.nil_append] at hO8 ⊢; exact hO8)
                rw [show ((A2.length + (F q A2.length).length : Nat) : Int) + ((kidsF F ps (A2.length + (F q A2.length).length)).length : Int) = (A2.length : Int) + (((F q A2.length).length + (kidsF F ps (A2.length + (F q A2.length).length)).length : Nat) : Int) by omega]
                exact this
          case h8 => omega
          all_goals (rw [b9, e3] at *; first | omega | (repeat' first | exact hrg _ | assumption | (unfold rg; omega) | omega | refine And.intro ?_ ?_))
      have hlen := hl
      simp only [List.length_append, List.length_cons, List.length_nil] at hlen
      have hokk : ∀ z ∈ kidsF F (q :: ps) (A.length + 1), EOK w dr z := fun z h => hok z (List.mem_cons_of_mem _ h)
      have hA1 : (A ++ [y]).length = A.length + 1 := by rw [List.length_append]; rfl
      obtain ⟨y1, ys1, e1, e2, e3, _⟩ := hS q (A.length + 1)
      have hL6 : L = (A ++ [y]) ++ (F q (A.length + 1) ++ (kidsF F ps (A.length + 1 + (F q (A.length + 1)).length) ++ B)) := by
        rw [hL0, List.append_assoc, ← List.append_assoc (F q (A.length + 1))]; rfl
      have hl2 : L.length = A.length + 1 + (F q (A.length + 1)).length + (kidsF F ps (A.length + 1 + (F q (A.length + 1)).length) ++ B).length := by rw [hL6]; simp only [List.length_append, List.length_cons, List.length_nil]; omega
      have hl3 : 1 ≤ (F q (A.length + 1)).length := by rw [e1, List.length_cons]; omega
      have e6 : d + (n + 1) + 6 = (d + n + 1) + 6 := by omega
      rw [e6]
      refine c268e wf (by omega) (by omega) (hok y List.mem_cons_self) hw a3 a4 a5 hO (by simp only [List.length_append]; omega) (fun G1 f1 hO1 => ?_)
      have hV1 := VM_so hV f1
      have b1 := hV1.1
      have hw1 := so_w hw f1
      have h49 := hO1.1
      rw [List.length_append] at h49
      have b9 := VM_9 hV1 (pre := A ++ [y]) (y := y1) (rem := ys1 ++ (kidsF F ps (A.length + 1 + (F q (A.length + 1)).length) ++ B)) (by rw [hL6, e1]; rfl)
      rw [hplus, e3] at b9
      have hO2 := OUT_push (x := zch 91) (kb := 319) (by omega) hO1
      have f2 := so_u f1 (zch 91) (G1 297 49 + 1) (G1 297 49)
      have hV2 := VM_so hV f2
      have c1 := hV2.1
      have c9 := VM_9 hV2 (pre := A ++ [y]) (y := y1) (rem := ys1 ++ (kidsF F ps (A.length + 1 + (F q (A.length + 1)).length) ++ B)) (by rw [hL6, e1]; rfl)
      rw [hplus, e3] at c9
      apply zs_268_124 <;> intros
      case h6 =>
        generalize hG2 : zu (zu G1 319 (G1 297 49) (zb (zb 91))) 297 49 (G1 297 49 + 1) = G2
        have hO2 : OUT G2 297 49 319 ((l ++ elt w y) ++ [zch 91]) := by rw [← hG2]; exact hO2
        have f2 : fr G G2 SO := by rw [← hG2]; exact f2
        have hV2 : VM G2 L := by rw [← hG2]; exact hV2
        have c1 : G2 297 18 = L.length := hV2.1
        have c9 : G2 309 (A.length + 1) = A.length := by rw [← hG2]; exact c9
        have h492 := hO2.1
        apply zs_268_164 <;> intros
        case h8 =>
          have hcall := ihF q G2 (fun r G1 => zqI r fun x => zAt xT_268 (zW (d + n + 6)) Q 200 [zr 9 0 297, zi A.length, zi (A.length + 1), z0] [zi x] G1) ((l ++ elt w y) ++ [zch 91]) (A ++ [y]) (kidsF F ps (A.length + 1 + (F q (A.length + 1)).length) ++ B)
          rw [hA1] at hcall
          refine hcall hV2 (so_w hw f2) hL6 (fun b B' h => ?_) (fun z h => hokk z (List.mem_append_left _ h)) hO2 ?_ (fun G6 f6 hO7 => zs_268_200 ?_)
          · have := hBk ps _ b B' h
            exact ⟨this.1, by omega⟩
          · simp only [List.length_append, List.length_cons, List.length_nil]; omega
          · have hih := loop ps ((A ++ [y]) ++ F q (A.length + 1)) G6 (((l ++ elt w y) ++ [zch 91]) ++ sbt w (F q (A.length + 1)))
            have hA3 : ((A ++ [y]) ++ F q (A.length + 1)).length = A.length + 1 + (F q (A.length + 1)).length := by rw [List.length_append, hA1]
            rw [hA3] at hih
            rw [show ((A.length + 1 : Nat) : Int) + ((F q (A.length + 1)).length : Int) = ((A.length + 1 + (F q (A.length + 1)).length : Nat) : Int) by omega]
            refine hih (by rw [hL6]; simp only [List.append_assoc]) (by omega) (fr_trans f2 f6 (fun _ _ t => t)) hO7 ?_ (fun z h => hokk z (List.mem_append_right _ h)) (fun G1 g1 hO8 => ?_) _
            · simp only [List.length_append, List.length_cons, List.length_nil]; omega
            · have := hQ G1 g1 (by simp only [List.append_assoc, List.cons_append, List.nil_append] at hO8 ⊢; exact hO8)
              rw [show ((A.length + 1 + (F q (A.length + 1)).length : Nat) : Int) + ((kidsF F ps (A.length + 1 + (F q (A.length + 1)).length)).length : Int) = (A.length : Int) + ((1 + (F q (A.length + 1)).length + (kidsF F ps (A.length + 1 + (F q (A.length + 1)).length)).length : Nat) : Int) by omega]
              exact this
        all_goals first | omega | (repeat' first | exact hrg _ | assumption | (unfold rg; omega) | omega | refine And.intro ?_ ?_)
      all_goals (rw [b9] at *; first | omega | (repeat' first | exact hrg _ | assumption | (unfold rg; omega) | omega | refine And.intro ?_ ?_))
def ST (k j : Int) : Prop := SR k j ∨ SO k j
noncomputable def tel (w : Int → Int) (p day : Int) : List Int := sbt w (vw w (-1) p day)
theorem tel_len (wf : WF w) {p day : Int} (h : okPD w p day) : (tel w p day).length ≤ 765 := by
  have h1 := sbt_len wf (vwE_SUB (w := w) (dr := -1) 3 [] p day 0 (-1) 0) (vw_ok wf h)
  have h2 := vw_len (dr := -1) wf p day
  have h3 : (tel w p day).length ≤ 9 * (vw w (-1) p day).length := h1
  omega
set_option maxHeartbeats 4000000 in
theorem r_tell (wf : WF w) (hw : G 298 = w) (hd : G 297 7 = -1) {p day : Int} (hp : rg p) (hdd : rg day) (hN : ¬ okPD w p day → Q (some (zi (-2))) G) (hY : okPD w p day → ∀ G1, fr G G1 ST → OUT G1 297 49 319 (tel w p day) → Q (some (zi (tel w p day).length)) G1) : zW (d + 10) 269 [zr 9 0 297, zi p, zi day] G Q := by
  obtain ⟨n0, n1, n2, n3, n4, n5⟩ := WF_n wf; have hrg := WF_rg wf
  refine zm_269 ?_
  have hokd : okPD w p day ↔ ((0 ≤ p ∧ p < w 2) ∧ (0 ≤ day ∧ day ≤ 365)) := Iff.rfl
  have ew : G 298 2 = w 2 := by rw [hw]
  apply zs_269_0 <;> intros
  case h3 =>
    have hok : okPD w p day := ⟨⟨by omega, by omega⟩, by omega, by omega⟩
    have hl := vw_len (dr := -1) wf p day
    have htl := tel_len wf hok
    have hS := vwE_SUB (w := w) (dr := -1) 3 [] p day 0 (-1) 0
    refine c185 (dr := -1) wf ⟨by omega, by omega⟩ hw hd (by omega) (by omega) (by omega) (by omega) (fun G1 f1 hV => zs_269_18 ?_)
    have f2 : fr G (zu G1 297 49 0) ST := fr_u (fr_wide f1 (by intro k j t; unfold S184 at t; exact Or.inl (by unfold SR; omega))) (Or.inr (Or.inr ⟨rfl, rfl⟩))
    have hV2 : VM (zu G1 297 49 0) (vw w (-1) p day) := VM_so hV (fr_u (fr_refl _ _) (Or.inr ⟨rfl, rfl⟩))
    have hw2 : (zu G1 297 49 0) 298 = w := (fr_k f2 (fun j e => by unfold ST SR SO at e; omega)).trans hw
    refine c268 wf (dr := -1) 3 d _ _ [] (vw w (-1) p day) [] [] [] p day 0 (-1) hV2 hw2 (by omega) (by rw [List.append_nil]; rfl) (fun b B' h => by cases h) (vw_ok wf hok) ⟨zu_s, fun i hi => absurd hi (Nat.not_lt_zero i)⟩ (by rw [List.nil_append]; show (tel w p day).length ≤ 1390; omega) (fun G3 f3 hO3 => ?_)
    have hO3 : OUT G3 297 49 319 (tel w p day) := hO3
    have hQ3 := hY hok G3 (fr_trans f2 f3 (fun k j t => Or.inr t)) hO3
    obtain ⟨y, ys, e1, _⟩ := hS
    have hlp : (vwE w (-1) 3 [] p day 0 (-1) ([] : List EL).length).length = ys.length + 1 := by
      show (vwE w (-1) 3 [] p day 0 (-1) 0).length = _
      rw [e1, List.length_cons]
    rw [hlp]
    have h00 : (([] : List EL).length : Int) = 0 := rfl
    have hl2 : ys.length + 1 ≤ 85 := by rw [← hlp]; exact hl
    apply zs_269_28 <;> intros
    case h3 => rw [hO3.1]; exact hQ3
    all_goals first | omega | (repeat' first | exact hrg _ | assumption | (unfold rg; omega) | omega | refine And.intro ?_ ?_)
  all_goals first | (refine hN ?_; rw [hokd]; omega) | omega | (repeat' first | exact hrg _ | assumption | (unfold rg; omega) | omega | refine And.intro ?_ ?_)
end RE
