/-! THE READER by the reference: shots, lines, the whole text -/
section RE
variable {d : Nat} {G : zG} {Q : zQ} {B : Int → Int} {n : Int} {S : PS} {r : RE PS}
set_option maxHeartbeats 8000000 in
theorem c213f (hT : TP B n) {k : Int} (hk : 0 ≤ k ∧ k ≤ 3) {e : Int × Int} (hQ : ∀ G1, fr G G1 SRD → FT G1 e → Q none G1) : (∀ G1 p y o l5, fr G G1 SRD → FT G1 e → zAt xT_213 (zW (d + 6)) Q 136 [zr 9 0 297, zi k, zi p, zi y, zi o, l5] [] G1) ∧ (∀ G1 p y, fr G G1 SRD → FT G1 e → zAt xT_213 (zW (d + 6)) Q 95 [zr 9 0 297, zi k, zi p, z0, z0, z0] [zi y] G1) ∧ (∀ G1 p l3 l4 l5, fr G G1 SRD → FT G1 e → zAt xT_213 (zW (d + 6)) Q 87 [zr 9 0 297, zi k, zi p, l3, l4, l5] [] G1) ∧ (∀ G1 p, fr G G1 SRD → FT G1 e → zAt xT_213 (zW (d + 6)) Q 40 [zr 9 0 297, zi k, zi p, z0, z0, z0] [] G1) ∧ (∀ G1 p, fr G G1 SRD → FT G1 e → zAt xT_213 (zW (d + 6)) Q 32 [zr 9 0 297, zi k, z0, z0, z0, z0] [zi p] G1) := by
  have f136 : ∀ G1 p y o l5, fr G G1 SRD → FT G1 e → zAt xT_213 (zW (d + 6)) Q 136 [zr 9 0 297, zi k, zi p, zi y, zi o, l5] [] G1 := by
    intro G1 p y o l5 f1 hF
    have h37 := hF.2.1
    have he := hF.1
    apply zs_213_136 <;> intros
    case h2 => exact hQ G1 f1 hF
    all_goals first | omega | (repeat' first | exact hrg _ | assumption | (unfold rg; omega) | omega | refine And.intro ?_ ?_)
  have f95 : ∀ G1 p y, fr G G1 SRD → FT G1 e → zAt xT_213 (zW (d + 6)) Q 95 [zr 9 0 297, zi k, zi p, z0, z0, z0] [zi y] G1 := by
    intro G1 p y f1 hF
    apply zs_213_95 <;> intros
    case h2 => exact f136 _ _ _ _ _ f1 hF
    case h3 =>
      refine c199 (r := Except.error e) hT hF (by omega) (fun G2 f2 hF2 => zs_213_129 (c208 (r := Except.error e) hT hF2 (Or.inl ⟨rfl, rfl, rfl⟩) (fun G3 v f3 hF3 => zs_213_134 ?_)))
      exact f136 _ _ _ _ _ (fr_trans f1 (fr_trans f2 f3 (fun _ _ t => t)) (fun _ _ t => t)) hF3.2
    case h4 =>
      refine c199 (r := Except.error e) hT hF (by omega) (fun G2 f2 hF2 => zs_213_110 (c208 (r := Except.error e) hT hF2 (Or.inr ⟨rfl, rfl, rfl⟩) (fun G3 v f3 hF3 => ?_)))
      apply zs_213_115 <;> intros
      case h2 => exact f136 _ _ _ _ _ (fr_trans f1 (fr_trans f2 f3 (fun _ _ t => t)) (fun _ _ t => t)) hF3.2
      all_goals first | omega | (repeat' first | exact hrg _ | assumption | (unfold rg; omega) | omega | refine And.intro ?_ ?_)
    all_goals first | omega | (repeat' first | exact hrg _ | assumption | (unfold rg; omega) | omega | refine And.intro ?_ ?_)
  have f87 : ∀ G1 p l3 l4 l5, fr G G1 SRD → FT G1 e → zAt xT_213 (zW (d + 6)) Q 87 [zr 9 0 297, zi k, zi p, l3, l4, l5] [] G1 := by
    intro G1 p l3 l4 l5 f1 hF
    exact zs_213_87 (c200 (r := Except.error e) hT hF (by omega) (by omega) (fun G2 v f2 hF2 => f95 G2 p v (fr_trans f1 f2 (fun _ _ t => t)) hF2.2))
  have f40 : ∀ G1 p, fr G G1 SRD → FT G1 e → zAt xT_213 (zW (d + 6)) Q 40 [zr 9 0 297, zi k, zi p, z0, z0, z0] [] G1 := by
    intro G1 p f1 hF
    have h37 := hF.2.1
    have he := hF.1
    apply zs_213_40 <;> intros
    case h2 => exact f87 _ _ _ _ _ f1 hF
    all_goals first | omega | (repeat' first | exact hrg _ | assumption | (unfold rg; omega) | omega | refine And.intro ?_ ?_)
  refine ⟨f136, f95, f87, f40, ?_⟩
  intro G1 p f1 hF
  exact zs_213_32 (c199 (r := Except.error e) hT hF (by omega) (fun G2 f2 hF2 => f40 G2 p (fr_trans f1 f2 (fun _ _ t => t)) hF2))
set_option maxHeartbeats 8000000 in
theorem c213 (hT : TP B n) {k : Int} (hk : 0 ≤ k ∧ k ≤ 3) (hR : RS B n G (Except.ok S)) (hQ : ∀ G1, fr G G1 SRD → RS B n G1 (oShot B n k S) → Q none G1) : zW (d + 7) 213 [zr 9 0 297, zi k] G Q := by
  obtain ⟨e33, e34, e35, e37, e299, eB, a, a5⟩ := RS_n hR
  have nn := WF_n hR.1.2.1
  have e4 := e299 4
  have h40 := hR.1.2.2.1
  have flt := fun (e : Int × Int) (he : oShot B n k S = Except.error e) => c213f (d := d) (G := G) (Q := Q) hT hk (e := e) (fun G1 f1 hF => hQ G1 f1 (by rw [he]; exact hF))
  have rest : ∀ (G1 : zG) (r1 : RE PS), r1 = oFull B n 4 40 S → fr G G1 SRD → RS B n G1 r1 → ∀ l2 l3 l4 l5, zAt xT_213 (zW (d + 6)) Q 27 [zr 9 0 297, zi k, l2, l3, l4, l5] [] G1 := by
    intro G1 r1 hr f1 hR1 l2 l3 l4 l5
    refine zs_213_27 (c208 hT hR1 (Or.inl ⟨rfl, rfl, rfl⟩) (fun G2 p f2 hR2 => ?_))
    have f3 := fr_trans f1 f2 (fun _ _ t => t)
    have hs : oShot B n k S = Except.bind (Except.bind r1 (oTold B n 0 2)) (fun p => Except.bind (oWord B n 1012 2 p.2) (fun S => Except.bind (oDay B n p.1 S) (fun e => Except.bind (oOf B n k e.2) (fun o => Except.ok (oPut p.1 e.1 k o.1 o.2))))) := by
      rw [hr, ebind_assoc]; rfl
    have hw0 : ∀ q, Except.bind r1 (oTold B n 0 2) = Except.ok q → q.2.2 = S.2 ∧ 0 ≤ q.1 ∧ q.1 < S.2.1 2 := by
      intro q hq
      obtain ⟨S1, h1, h2⟩ := bind_ok hq
      obtain ⟨q1, q2⟩ := full_ok (hr.symm.trans h1)
      have w1 : S1.2 = S.2 := by rw [q1]; rfl
      have t := told_ok (by rw [w1]; omega) h2
      rw [w1] at t
      exact ⟨by rw [t.1]; exact w1, t.2.2⟩
    have hw41 : ∀ q, Except.bind r1 (oTold B n 0 2) = Except.ok q → S.2.1 4 ≠ 40 := by
      intro q hq
      obtain ⟨S1, h1, h2⟩ := bind_ok hq
      exact (full_ok (hr.symm.trans h1)).2
    generalize Except.bind r1 (oTold B n 0 2) = r2 at *
    cases r2 with
    | error e => exact (flt e hs).2.2.2.2 G2 p f3 hR2.2
    | ok q =>
      obtain ⟨hp, hok, hpr⟩ := hR2
      obtain ⟨hw1, q0, q1⟩ := hw0 q rfl
      have h41 := hw41 q rfl
      refine zs_213_32 (c199 (r := Except.ok q.2) hT ⟨hok, hpr⟩ (by omega) (fun G3 f4 hR3 => ?_))
      have f5 := fr_trans f3 f4 (fun _ _ t => t)
      have hR3 : RS B n G3 (oWord B n 1012 2 q.2) := hR3
      have hs : oShot B n k S = Except.bind (oWord B n 1012 2 q.2) (fun S => Except.bind (oDay B n q.1 S) (fun e => Except.bind (oOf B n k e.2) (fun o => Except.ok (oPut q.1 e.1 k o.1 o.2)))) := hs
      cases hq3 : oWord B n 1012 2 q.2 with
      | error e =>
        rw [hq3] at hR3 hs
        exact (flt e hs).2.2.2.1 G3 p f5 hR3
      | ok S3 =>
        rw [hq3] at hR3 hs
        have hs : oShot B n k S = Except.bind (oDay B n q.1 S3) (fun e => Except.bind (oOf B n k e.2) (fun o => Except.ok (oPut q.1 e.1 k o.1 o.2))) := hs
        have hw3 : S3.2 = S.2 := by rw [(word_ok hq3).1]; exact hw1
        obtain ⟨c33, c34, c35, c37, c299, cB, ca, ca5⟩ := RS_n hR3
        have hval := hR3.1.1.2.2.2.2.1
        rw [hp]
        have on : ∀ G6 y S4, fr G G6 SRD → RS B n G6 (Except.ok S4) → oDay B n q.1 S3 = Except.ok (y, S4) → zAt xT_213 (zW (d + 6)) Q 95 [zr 9 0 297, zi k, zi q.1, z0, z0, z0] [zi y] G6 := by
          intro G6 y S4 f6 hR6 hd
          rw [hd] at hs
          have hs : oShot B n k S = Except.bind (oOf B n k S4) (fun o => Except.ok (oPut q.1 y k o.1 o.2)) := hs
          have hw4 : S4.2 = S.2 := by
            have := (day_ok hd).1
            have this : S4 = oStep B n S3 := this
            rw [this]; exact hw3
          have fin : ∀ G7 o S5 l5, fr G G7 SRD → RS B n G7 (Except.ok S5) → oOf B n k S4 = Except.ok (o, S5) → zAt xT_213 (zW (d + 6)) Q 136 [zr 9 0 297, zi k, zi q.1, zi y, zi o, l5] [] G7 := by
            intro G7 o S5 l5 f7 hR7 ho
            rw [ho] at hs
            have hs : oShot B n k S = Except.ok (oPut q.1 y k o S5) := hs
            have hw5 : S5.2 = S.2 := by
              have := (of_ok hR6.1 ho).2.2.1
              have this : S5.2 = S4.2 := this
              rw [this]; exact hw4
            have h37 := (RS_n hR7).2.2.2.1
            have h4 : G7 299 4 = S5.2.1 4 := (RS_n hR7).2.2.2.2.1 4
            have h4S : S5.2.1 4 = S.2.1 4 := by rw [hw5]
            apply zs_213_136 <;> intros
            case h4 =>
              refine hQ _ (fr_u (fr_u (fr_u (fr_u (fr_u f7 (Or.inl ⟨rfl, by omega, by omega⟩)) (Or.inl ⟨rfl, by omega, by omega⟩)) (Or.inl ⟨rfl, by omega, by omega⟩)) (Or.inl ⟨rfl, by omega, by omega⟩)) (Or.inl ⟨rfl, by omega, by omega⟩)) ?_
              rw [zu_j (by omega), zu_j (by omega), zu_j (by omega), zu_j (by omega), h4, hs]
              exact ⟨(shot_ok hk hR.1 hs).1, PR_set (PR_set (PR_set (PR_set (PR_set hR7.2))))⟩
            all_goals first | omega | (repeat' first | exact hrg _ | assumption | (unfold rg; omega) | omega | refine And.intro ?_ ?_)
          apply zs_213_95 <;> intros
          case h2 => exact fin G6 (-1) S4 _ f6 hR6 (by unfold oOf; rw [if_neg (by omega), if_neg (by omega)])
          case h3 =>
            refine c199 (r := Except.ok S4) hT hR6 (by omega) (fun G7 f7 hR7 => zs_213_129 (c208 hT hR7 (Or.inl ⟨rfl, rfl, rfl⟩) (fun G8 o f8 hR8 => zs_213_134 ?_)))
            have f9 := fr_trans f6 (fr_trans f7 f8 (fun _ _ t => t)) (fun _ _ t => t)
            have ho : oOf B n k S4 = Except.bind (Except.bind (Except.ok S4) (oWord B n 1014 2)) (oTold B n 0 2) := by unfold oOf; rw [if_neg (by omega), if_pos (by omega)]; rfl
            rw [← ho] at hR8
            cases hq8 : oOf B n k S4 with
            | error e =>
              rw [hq8] at hR8 hs
              exact (flt e hs).1 _ _ _ _ _ f9 hR8.2
            | ok u =>
              rw [hq8] at hR8
              obtain ⟨hu, hok8, hpr8⟩ := hR8
              rw [hu]
              exact fin G8 u.1 u.2 _ f9 ⟨hok8, hpr8⟩ hq8
          case h4 =>
            refine c199 (r := Except.ok S4) hT hR6 (by omega) (fun G7 f7 hR7 => zs_213_110 (c208 hT hR7 (Or.inr ⟨rfl, rfl, rfl⟩) (fun G8 o f8 hR8 => ?_)))
            have f9 := fr_trans f6 (fr_trans f7 f8 (fun _ _ t => t)) (fun _ _ t => t)
            have ho : oOf B n k S4 = Except.bind (Except.bind (Except.ok S4) (oWord B n 1013 2)) (oTold B n 8 3) := by unfold oOf; rw [if_pos (by omega)]; rfl
            rw [← ho] at hR8
            apply zs_213_115 <;> intros
            case h2 =>
              cases hq8 : oOf B n k S4 with
              | error e =>
                rw [hq8] at hR8 hs
                exact (flt e hs).1 _ _ _ _ _ f9 hR8.2
              | ok u =>
                rw [hq8] at hR8
                obtain ⟨hu, hok8, hpr8⟩ := hR8
                rw [hu]
                exact fin G8 u.1 u.2 _ f9 ⟨hok8, hpr8⟩ hq8
            all_goals first | omega | (repeat' first | exact hrg _ | assumption | (unfold rg; omega) | omega | refine And.intro ?_ ?_)
          all_goals first | omega | (repeat' first | exact hrg _ | assumption | (unfold rg; omega) | omega | refine And.intro ?_ ?_)
        have g87 : ∀ l3 l4 l5, (∀ q', oNum B n 0 365 S3 = Except.ok q' → ¬ has S3.2.1 q.1 q'.1) → zAt xT_213 (zW (d + 6)) Q 87 [zr 9 0 297, zi k, zi q.1, l3, l4, l5] [] G3 := by
          intro l3 l4 l5 hnh
          refine zs_213_87 (c200 (r := Except.ok S3) hT hR3 (by omega) (by omega) (fun G6 y f6 hR6 => ?_))
          have f7 := fr_trans f5 f6 (fun _ _ t => t)
          have hR6 : RSV B n y G6 (oNum B n 0 365 S3) := hR6
          cases hq6 : oNum B n 0 365 S3 with
          | error e =>
            rw [hq6] at hR6
            have hd : oDay B n q.1 S3 = Except.error e := by unfold oDay; rw [hq6]; rfl
            rw [hd] at hs
            exact (flt e hs).2.1 _ _ _ f7 hR6.2
          | ok u =>
            rw [hq6] at hR6
            obtain ⟨hu, hok6, hpr6⟩ := hR6
            rw [hu]
            refine on G6 u.1 u.2 f7 ⟨hok6, hpr6⟩ ?_
            unfold oDay
            rw [hq6]
            show cif _ _ _ = _
            rw [cif_f (hnh u hq6)]
        have hwf3 : WF (G3 299) := by rw [hR3.2.2.2.2.1]; exact hR3.1.2.1
        apply zs_213_40 <;> intros
        case h4 => exact g87 _ _ _ (fun q' h => by have := (num_ok h).2.2.1; omega)
        case h6 =>
          refine g87 _ _ _ (fun q' h => ?_)
          have t := num_ok h
          have := hR3.2.2.1.2.2.2 t.2.2.1
          omega
        case h7 =>
          have k2 : S3.1.1 = 2 := by omega
          have e36 : G3 297 36 = min 99999 S3.1.2.2.2 := hR3.2.2.1.2.2.2 k2
          have ev : G3 297 36 = S3.1.2.2.2 := by omega
          have hx : ∀ t, 0 ≤ t → t < G3 299 4 → ((G3 299) (116 + (4 * t))) = q.1 → ((G3 299) ((116 + (4 * t)) + 1)) = G3 297 36 → has S3.2.1 q.1 S3.1.2.2.2 := fun t t0 t1 ha hb => ⟨t, t0, by rw [← c299]; exact t1, by rw [← c299]; exact ha, by rw [← c299, ← ev]; exact hb⟩
          refine c175 (by rfl) (WF_rg hwf3) (WF_n hwf3).2.2.2.2.1 ⟨by omega, by omega⟩ (by rw [ev]; exact ⟨by omega, by omega⟩) (fun hnone => ?_) (fun t t0 t1 ha hb => ?_)
          · apply zs_213_78 <;> intros
            case h2 =>
              refine g87 _ _ _ (fun q' h => ?_)
              have t := num_ok h
              rw [t.2.1]
              rintro ⟨s, s0, s1, sa, sb⟩
              exact hnone s s0 (by rw [c299]; exact s1) ⟨by rw [c299]; exact sa, by rw [c299, ev]; exact sb⟩
            all_goals first | omega | (repeat' first | exact hrg _ | assumption | (unfold rg; omega) | omega | refine And.intro ?_ ?_)
          · have hh := hx t t0 t1 ha hb
            have hd : oDay B n q.1 S3 = Except.error (2, S3.1.2.1) := by
              unfold oDay
              have : oNum B n 0 365 S3 = Except.ok (S3.1.2.2.2, oStep B n S3) := by unfold oNum; rw [if_pos k2, if_pos (by omega)]
              rw [this]
              show cif _ _ _ = _
              rw [cif_t hh]
            rw [hd] at hs
            have t60 := (WF_n hwf3).2.2.2.2.1
            apply zs_213_78 <;> intros
            case h5 => exact (flt _ hs).2.2.1 _ _ _ _ _ (srd_u f5 _ _) (RS_err hR3 (by omega))
            all_goals first | omega | (repeat' first | exact hrg _ | assumption | (unfold rg; omega) | omega | refine And.intro ?_ ?_)
        case h5 => have := hR3.2.2.1.2.2.2 (by omega); exact ⟨by omega, by omega⟩
        all_goals first | omega | (unfold rg; omega)
  refine zm_213 ?_
  apply zs_213_0 <;> intros
  case h4 => exact c195s hT hR (fun G1 f1 hR1 => rest G1 _ (by unfold oFull; rw [if_neg (by omega)]) f1 hR1 _ _ _ _)
  case h7 => exact rest _ (Except.error (3, S.1.2.1)) (by unfold oFull; rw [if_pos (by omega)]) (srd_u (fr_refl _ _) _ _) (RS_err hR (by omega)) _ _ _ _
  all_goals first | omega | (repeat' first | exact hrg _ | assumption | (unfold rg; omega) | omega | refine And.intro ?_ ?_)
set_option maxHeartbeats 4000000 in
theorem c214 (hT : TP B n) (hR : RS B n G (Except.ok S)) (hQ : ∀ G1, fr G G1 SRD → RS B n G1 (oLine B n S) → Q none G1) : zW (d + 9) 214 [zr 9 0 297] G Q := by
  have e37 := (RS_n hR).2.2.2.1
  unfold oLine at hQ
  refine zm_214 (zs_214_0 (c198k hT hR (by omega) (fun hw => ?_) (fun hn0 => ?_)))
  · rw [cif_t hw] at hQ
    apply zs_214_7 <;> intros
    case h3 => exact c210 hT hR (fun G1 f1 hR1 => zs_214_14 (hQ G1 f1 hR1))
    all_goals first | omega | (repeat' first | exact hrg _ | assumption | (unfold rg; omega) | omega | refine And.intro ?_ ?_)
  rw [cif_f hn0] at hQ
  apply zs_214_7 <;> intros
  case h1 => exact rg_0
  case h3 => omega
  case h2 =>
  refine c198k hT hR (by omega) (fun hw => ?_) (fun hn1 => ?_)
  · rw [cif_t hw] at hQ
    apply zs_214_24 <;> intros
    case h3 => exact c212 hT hR (fun G1 f1 hR1 => zs_214_31 (hQ G1 f1 hR1))
    all_goals first | omega | (repeat' first | exact hrg _ | assumption | (unfold rg; omega) | omega | refine And.intro ?_ ?_)
  rw [cif_f hn1] at hQ
  apply zs_214_24 <;> intros
  case h1 => exact rg_0
  case h3 => omega
  case h2 =>
  refine c198k hT hR (by omega) (fun hw => ?_) (fun hn2 => ?_)
  · rw [cif_t hw] at hQ
    apply zs_214_41 <;> intros
    case h3 => exact c213 hT (by omega) hR (fun G1 f1 hR1 => zs_214_49 (hQ G1 f1 hR1))
    all_goals first | omega | (repeat' first | exact hrg _ | assumption | (unfold rg; omega) | omega | refine And.intro ?_ ?_)
  rw [cif_f hn2] at hQ
  apply zs_214_41 <;> intros
  case h1 => exact rg_0
  case h3 => omega
  case h2 =>
  refine c198k hT hR (by omega) (fun hw => ?_) (fun hn3 => ?_)
  · rw [cif_t hw] at hQ
    apply zs_214_59 <;> intros
    case h3 => exact c213 hT (by omega) hR (fun G1 f1 hR1 => zs_214_67 (hQ G1 f1 hR1))
    all_goals first | omega | (repeat' first | exact hrg _ | assumption | (unfold rg; omega) | omega | refine And.intro ?_ ?_)
  rw [cif_f hn3] at hQ
  apply zs_214_59 <;> intros
  case h1 => exact rg_0
  case h3 => omega
  case h2 =>
  refine c198k hT hR (by omega) (fun hw => ?_) (fun hn4 => ?_)
  · rw [cif_t hw] at hQ
    apply zs_214_77 <;> intros
    case h3 => exact c213 hT (by omega) hR (fun G1 f1 hR1 => zs_214_85 (hQ G1 f1 hR1))
    all_goals first | omega | (repeat' first | exact hrg _ | assumption | (unfold rg; omega) | omega | refine And.intro ?_ ?_)
  rw [cif_f hn4] at hQ
  apply zs_214_77 <;> intros
  case h1 => exact rg_0
  case h3 => omega
  case h2 =>
  refine c198k hT hR (by omega) (fun hw => ?_) (fun hn5 => ?_)
  · rw [cif_t hw] at hQ
    apply zs_214_95 <;> intros
    case h5 => exact c213 hT (by omega) hR (fun G1 f1 hR1 => zs_214_103 (hQ G1 f1 hR1))
    all_goals first | omega | (repeat' first | exact hrg _ | assumption | (unfold rg; omega) | omega | refine And.intro ?_ ?_)
  rw [cif_f hn5] at hQ
  apply zs_214_95 <;> intros
  case h4 => exact hQ _ (srd_u (fr_refl _ _) _ _) (RS_err hR (by omega))
  all_goals first | omega | (repeat' first | exact hrg _ | assumption | (unfold rg; omega) | omega | refine And.intro ?_ ?_)
/-- behind a line: the fault alone, or all -/
def RT (B : Int → Int) (n : Int) (G : zG) : RE PS → Prop
  | Except.ok S => PSok B n S ∧ PR B n G S
  | Except.error e => (1 ≤ e.1 ∧ e.1 ≤ 3) ∧ G 297 37 = e.1 ∧ G 297 38 = e.2
set_option maxHeartbeats 4000000 in
theorem c215 (hT : TP B n) (hR : RS B n G (Except.ok S)) (hQ : ∀ G1, fr G G1 SRD → RT B n G1 (oText B n S) → Q none G1) : zW (d + 10) 215 [zr 9 0 297] G Q := by
  have rest : ∀ (G1 : zG) (r1 : RE PS), r1 = (if S.2.1 5 = 0 then oFirst B n S else oLine B n S) → fr G G1 SRD → RS B n G1 r1 → zAt xT_215 (zW (d + 9)) Q 20 [zr 9 0 297] [] G1 := by
    intro G1 r1 hr f1 hR1
    have hs : oText B n S = Except.bind r1 (fun S => Except.bind (oStop B n S) (fun S => Except.ok (oSet 5 (S.2.1 5 + 1) S))) := by rw [hr]; rfl
    have flt : ∀ G2 e, fr G G2 SRD → FT G2 e → oText B n S = Except.error e → zAt xT_215 (zW (d + 9)) Q 40 [zr 9 0 297] [] G2 := by
      intro G2 e f2 hF he
      have h37 := hF.2.1
      have hk := hF.1
      apply zs_215_40 <;> intros
      case h2 => exact zs_215_51 (hQ _ (fr_u f2 (Or.inl ⟨rfl, by omega, by omega⟩)) (by rw [he]; exact ⟨hF.1, by rw [zu_kj (by omega)]; exact hF.2.1, by rw [zu_kj (by omega)]; exact hF.2.2.1⟩))
      all_goals first | omega | (repeat' first | exact hrg _ | assumption | (unfold rg; omega) | omega | refine And.intro ?_ ?_)
    cases r1 with
    | error e =>
      have hF : FT G1 e := hR1
      have h37 := hF.2.1
      have hk := hF.1
      apply zs_215_20 <;> intros
      case h2 => exact flt G1 e f1 hF hs
      all_goals first | omega | (repeat' first | exact hrg _ | assumption | (unfold rg; omega) | omega | refine And.intro ?_ ?_)
    | ok S1 =>
      obtain ⟨e33, e34, e35, e37, e299, eB, a, a5⟩ := RS_n hR1
      have hs : oText B n S = Except.bind (oStop B n S1) (fun S => Except.ok (oSet 5 (S.2.1 5 + 1) S)) := hs
      apply zs_215_20 <;> intros
      case h4 =>
        have k3 : S1.1.1 = 3 := by omega
        have ht : oStop B n S1 = Except.ok (oStep B n S1) := by unfold oStop; rw [if_pos k3]
        rw [ht] at hs
        have hs : oText B n S = Except.ok (oSet 5 ((oStep B n S1).2.1 5 + 1) (oStep B n S1)) := hs
        apply zs_215_40 <;> intros
        case h3 =>
          refine c195s hT hR1 (fun G2 f2 hR2 => zs_215_51 (hQ _ (fr_u (fr_trans f1 f2 (fun _ _ t => t)) (Or.inl ⟨rfl, by omega, by omega⟩)) ?_))
          have h5 := (RS_n hR2).2.2.2.2.1 5
          rw [hs, h5]
          exact ⟨(text_ok hT.1.2 hR.1 hs).1, PR_set hR2.2⟩
        all_goals first | omega | (repeat' first | exact hrg _ | assumption | (unfold rg; omega) | omega | refine And.intro ?_ ?_)
      case h5 =>
        have k3 : ¬ S1.1.1 = 3 := by omega
        have ht : oStop B n S1 = Except.error (1, S1.1.2.1) := by unfold oStop; rw [if_neg k3]
        rw [ht] at hs
        exact flt _ _ (srd_u f1 _ _) (RS_err hR1 (by omega)) hs
      all_goals first | omega | (repeat' first | exact hrg _ | assumption | (unfold rg; omega) | omega | refine And.intro ?_ ?_)
  have e5 := (RS_n hR).2.2.2.2.1 5
  have nn := WF_n hR.1.2.1
  refine zm_215 ?_
  apply zs_215_0 <;> intros
  case h2 => exact c214 hT hR (fun G1 f1 hR1 => rest G1 _ (by rw [if_neg (by omega)]) f1 hR1)
  case h3 => exact c209 (r := Except.ok S) hT hR (fun G1 f1 hR1 => zs_215_13 (rest G1 _ (by rw [if_pos (by omega)]; rfl) f1 hR1))
  all_goals first | omega | (repeat' first | exact hrg _ | assumption | (unfold rg; omega) | omega | refine And.intro ?_ ?_)
end RE
