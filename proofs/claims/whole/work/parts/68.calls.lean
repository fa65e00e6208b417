/-! THE CALLS: reach, clicks by the class -/
def pG (G : zG) (n q dd c m b n1 : Int) : zG := zu (zu (zu (zu (zu (zu G 293 m 1) 290 n q) 291 n dd) 292 n c) 286 5 n1) 289 q b
theorem pG_eq (G : zG) (n q dd c m b n1 : Int) : pG G n q dd c m b n1 290 = zpd (G 290) n q ∧ pG G n q dd c m b n1 291 = zpd (G 291) n dd ∧ pG G n q dd c m b n1 292 = zpd (G 292) n c ∧ pG G n q dd c m b n1 286 5 = n1 ∧ pG G n q dd c m b n1 293 = zpd (G 293) m 1 ∧ pG G n q dd c m b n1 289 = zpd (G 289) q b ∧ (∀ k j, k < 286 ∨ k = 287 ∨ k = 288 → pG G n q dd c m b n1 k j = G k j) := by
  unfold pG
  refine ⟨?_, ?_, ?_, ?_, ?_, ?_, fun k j h => ?_⟩
  · rw [zu_k (by omega), zu_k (by omega), zu_k (by omega), zu_k (by omega), zu_f, zu_k (by omega)]
  · rw [zu_k (by omega), zu_k (by omega), zu_k (by omega), zu_f, zu_k (by omega), zu_k (by omega)]
  · rw [zu_k (by omega), zu_k (by omega), zu_f, zu_k (by omega), zu_k (by omega), zu_k (by omega)]
  · rw [zu_k (by omega), zu_s]
  · rw [zu_k (by omega), zu_k (by omega), zu_k (by omega), zu_k (by omega), zu_k (by omega), zu_f]
  · rw [zu_f, zu_k (by omega), zu_k (by omega), zu_k (by omega), zu_k (by omega), zu_k (by omega)]
  · rw [zu_k (by omega), zu_k (by omega), zu_k (by omega), zu_k (by omega), zu_k (by omega), zu_k (by omega)]
def SU (k _ : Int) : Prop := 286 ≤ k ∧ k ≤ 293
section KV
variable {d : Nat} {G : zG} {Q : zQ} {a : Int} {w : Int → Int}
set_option maxHeartbeats 8000000 in
theorem c65 (wf : WF w) (ha : 5 ≤ a ∧ a ≤ 54) (hI : IX G 66 a w (-1)) (hA : ARC G a w) {p0 d0 v : Int} (h : BQ w p0 d0 (G 290) (G 291) (G 292) (G 286 5) (G 293) (G 289)) (v0 : 0 ≤ v) (v1 : v < G 286 5) (h6 : G 292 v < 6) (hcc : ∀ e, 0 ≤ e → e < G 286 5 → G 292 e ≤ G 292 v + 1)
    (hQ : ∀ G1, fr G G1 SU → BQ w p0 d0 (G1 290) (G1 291) (G1 292) (G1 286 5) (G1 293) (G1 289) → (∀ e, 0 ≤ e → e < G 286 5 → G1 290 e = G 290 e ∧ G1 291 e = G 291 e ∧ G1 292 e = G 292 e) → G 286 5 ≤ G1 286 5 → (∀ e, 0 ≤ e → e < G1 286 5 → G1 292 e ≤ G 292 v + 1) → (hbd w (G 290 v) (G 291 v) ≠ -1 → ∀ i, 0 ≤ i → i < (w ((6 + (11 * (hbd w (G 290 v) (G 291 v)))) + 2)) → ∃ f, 0 ≤ f ∧ f < G1 286 5 ∧ G1 290 f = (w (((6 + (11 * (hbd w (G 290 v) (G 291 v)))) + 7) + i)) ∧ G1 291 f = ndy w (G 290 v) (G 291 v) ∧ G1 292 f ≤ G 292 v + 1) → Q none G1) : zW (d + 4) 65 [zr 4 0 286, zr 1 0 66, zi v] G Q := by
  obtain ⟨n0, n1, n2, n3, n4, n5⟩ := WF_n wf
  have hrg := WF_rg wf
  have h481 := h.1
  have hv := h.2.2.1 v v0 v1
  obtain ⟨hvS, hvc, hvok, hvd⟩ := hv
  have hvo := hvok
  unfold okPD at hvo
  generalize hp : G 290 v = p at *
  generalize hdd : G 291 v = dv at *
  generalize hcv : G 292 v = cv at *
  have hb := hbd_rg wf p dv
  refine zm_65 ?_
  apply zs_65_0 <;> intros
  case h2 =>
    rw [hp, hdd]
    refine c89 wf ha (by omega) hI hA (kw := 287) (by omega) hvok.1.1 hvok.1.2 hvok.2.1 hvok.2.2 (fun G1 f1 hW => ?_)
    have g : ∀ k j, k ≠ 287 → k ≠ 288 → G1 k j = G k j := fun k j h1 h2 => f1 k j (by omega)
    have gf : ∀ k, k ≠ 287 → k ≠ 288 → G1 k = G k := fun k h1 h2 => funext fun j => g k j h1 h2
    have hI1 : IX G1 66 a w (-1) := IX_fr hI (fun k j k0 k1 => g k j (by omega) (by omega))
    have hA1 : ARC G1 a w := ARC_fr hA (fun k j k0 k1 => g k j (by omega) (by omega))
    have f01 : fr G G1 SU := fr_wide f1 (by intro k j t; unfold SU; omega)
    obtain ⟨x0, x1, x2, x3, x4, x5, x6, x7, x8⟩ := WM_h wf hW hI1 hA1
    have none' : hbd w p dv = -1 → Q none G1 := fun c => by
      refine hQ G1 f01 ?_ (fun e e0 e1 => ⟨g _ _ (by omega) (by omega), g _ _ (by omega) (by omega), g _ _ (by omega) (by omega)⟩) (by rw [g _ _ (by omega) (by omega)]; omega) ?_ (fun z => absurd c z)
      · rw [gf 290 (by omega) (by omega), gf 291 (by omega) (by omega), gf 292 (by omega) (by omega), gf 293 (by omega) (by omega), gf 289 (by omega) (by omega), g 286 5 (by omega) (by omega)]; exact h
      · rw [gf 292 (by omega) (by omega), g 286 5 (by omega) (by omega)]; exact hcc
    by_cases c3 : G1 287 3 = -1
    · apply zs_65_20 <;> intros
      case h8 => exact none' (x2 c3)
      all_goals first | omega | (repeat' first | exact hrg _ | assumption | (unfold rg; omega) | omega | refine And.intro ?_ ?_)
    · obtain ⟨y1, y2⟩ := x3 c3
      have z1 := x1.resolve_left c3
      by_cases c : hbd w p dv = -1
      · apply zs_65_20 <;> intros
        case h7 => exact none' c
        all_goals (rw [x0] at *; first | omega | (unfold rg; omega) | (rw [y1] at *; omega) | (rw [y1]; (repeat' first | exact hrg _ | assumption | (unfold rg; omega) | omega | refine And.intro ?_ ?_); done) | (repeat' first | exact hrg _ | assumption | (unfold rg; omega) | omega | refine And.intro ?_ ?_))
      · have wb := WF_b wf (b := hbd w p dv) (by omega) (by omega)
        have nr' := ndy_rg wf hvok.2.1 hvok.2.2 c
        generalize hH : hbd w p dv = H at *
        have hH0 : 0 ≤ H ∧ H < 10 := ⟨by omega, by omega⟩
        obtain ⟨a1, a2, a3, a4, a5, a6⟩ := hA1.2.2.2.1 H (by omega) (by omega)
        clear x1 x2 x3 x6 x7 a1 a2 a4 a5
        have key : ∀ s, 0 ≤ s → s < 60 → ndy w p dv = kdy w d0 s → (w 1 = 1 → s = G1 287 3) → ∀ (r j : Nat) (G2 : zG), j + r = ((w ((6 + (11 * H)) + 2))).toNat → fr G1 G2 (fun k j => (k = 286 ∧ j = 5) ∨ (289 ≤ k ∧ k ≤ 293)) → BQ w p0 d0 (G2 290) (G2 291) (G2 292) (G2 286 5) (G2 293) (G2 289) → (∀ e, 0 ≤ e → e < G 286 5 → G2 290 e = G 290 e ∧ G2 291 e = G 291 e ∧ G2 292 e = G 292 e) → G 286 5 ≤ G2 286 5 → (∀ e, 0 ≤ e → e < G2 286 5 → G2 292 e ≤ cv + 1) → (∀ i, 0 ≤ i → i < (j : Int) → ∃ f, 0 ≤ f ∧ f < G2 286 5 ∧ G2 290 f = (w (((6 + (11 * H)) + 7) + i)) ∧ G2 291 f = ndy w p dv ∧ G2 292 f ≤ cv + 1) → ∀ l6 l7, zAt xT_65 (zW (d + 3)) Q 57 [zr 4 0 286, zr 1 0 66, zi v, zi H, zi s, zi j, l6, l7] [] G2 := by
          intro s s0 s1 hs hse r
          induction r with
          | zero =>
            intro j G2 hj f2 hB ho hn hc2 hl l6 l7
            have g66 : G2 66 0 = a := (f2 _ _ (by omega)).trans x4
            have ga3 : G2 (a + 3) H = (w ((6 + (11 * H)) + 2)) := (f2 _ _ (by omega)).trans a3
            apply zs_65_57 <;> intros
            case h2 => exact hQ G2 (fr_trans f01 f2 (by intro k j t; unfold SU; omega)) hB ho hn hc2 (fun _ i i0 i1 => hl i i0 (by omega))
            all_goals (rw [g66] at *; first | omega | (rw [ga3]; (repeat' first | exact hrg _ | assumption | (unfold rg; omega) | omega | refine And.intro ?_ ?_)))
          | succ r ih =>
            intro j G2 hj f2 hB ho hn hc2 hl l6 l7
            have g66 : G2 66 0 = a := (f2 _ _ (by omega)).trans x4
            have ga3 : G2 (a + 3) H = (w ((6 + (11 * H)) + 2)) := (f2 _ _ (by omega)).trans a3
            have ga5 : G2 (a + 5) ((H * 4) + j) = (w (((6 + (11 * H)) + 7) + j)) := (f2 _ _ (by omega)).trans (a6 j (by omega) (by omega))
            have g0 : G2 287 0 = 66 := (f2 _ _ (by omega)).trans x0
            have g3 : G2 287 3 = G1 287 3 := f2 _ _ (by omega)
            have gm : G2 66 1 = w 1 := (f2 _ _ (by omega)).trans x5
            have gy : G2 (a + 8) (G1 287 3) = (w ((116 + (4 * ((wy w (-1) p dv).2.1))) + 1)) := (f2 _ _ (by omega)).trans y2
            have hjl : (j : Int) < (w ((6 + (11 * H)) + 2)) := by omega
            have hHj : 0 ≤ (H * 4) + (j : Int) ∧ (H * 4) + (j : Int) < 40 := ⟨by omega, by omega⟩
            have hq := wb.2.2.2.2 j (by omega) hjl
            have hov := ho v v0 v1
            rw [hdd, hcv] at hov
            have hbr := BQ_b hB (q := (w (((6 + (11 * H)) + 7) + (j : Int)))) hq.1 (by omega)
            have h481' := hB.1
            generalize hqq : (w (((6 + (11 * H)) + 7) + (j : Int))) = q at *
            have mkc := hB.2.2.2.2.1 q s hq.1 (by omega) s0 s1
            have hS : STP w p0 d0 (cv + 1).toNat q (ndy w p dv) := by
              rw [show (cv + 1).toNat = cv.toNat + 1 by omega]
              exact ⟨p, dv, hvS, by rw [hH]; exact c, rfl, j, by omega, by rw [hH]; omega, by rw [hH]; exact hqq⟩
            have push : G2 293 ((q * 60) + s) = 0 → ∀ dd, dd = ndy w p dv → G2 286 5 < 481 ∧ ∀ l6 l7, zAt xT_65 (zW (d + 3)) Q 57 [zr 4 0 286, zr 1 0 66, zi v, zi H, zi s, zi ((j : Int) + 1), l6, l7] [] (pG G2 (G2 286 5) q dd (cv + 1) ((q * 60) + s) (min (G2 289 q) (cv + 1)) (G2 286 5 + 1)) := fun hm dd hd => by
              have P := BQ_push wf hB hq.1 hq.2 s0 s1 hm (dd := dd) (by rw [hd]; exact hs) (by rw [hd]; exact nr') (fun z => by rw [hd, hs]; unfold kdy; rw [if_neg z]) (c := cv + 1) ⟨by omega, by omega⟩ (by rw [hd]; exact hS) hc2
              refine ⟨P.1, fun l6 l7 => ?_⟩
              obtain ⟨e1, e2, e3, e4, e5, e6, e7⟩ := pG_eq G2 (G2 286 5) q dd (cv + 1) ((q * 60) + s) (min (G2 289 q) (cv + 1)) (G2 286 5 + 1)
              have old : ∀ e, 0 ≤ e → e < G2 286 5 → zpd (G2 290) (G2 286 5) q e = G2 290 e ∧ zpd (G2 291) (G2 286 5) dd e = G2 291 e ∧ zpd (G2 292) (G2 286 5) (cv + 1) e = G2 292 e := fun e e0 e1 => ⟨zpd_n (by omega), zpd_n (by omega), zpd_n (by omega)⟩
              refine ih (j + 1) _ (by omega) ?_ (by rw [e1, e2, e3, e4, e5, e6]; exact P.2) (fun e e0 e1' => ?_) (by rw [e4]; omega) (fun e e0 e1' => ?_) (fun i i0 i1 => ?_) _ _
              · intro k jj hk
                rw [show pG G2 (G2 286 5) q dd (cv + 1) ((q * 60) + s) (min (G2 289 q) (cv + 1)) (G2 286 5 + 1) k jj = G2 k jj from ?_, f2 k jj hk]
                unfold pG
                by_cases ck : k = 286
                · rw [zu_k (by omega), ck, zu_j (by omega), zu_k (by omega), zu_k (by omega), zu_k (by omega), zu_k (by omega)]
                · rw [zu_k (by omega), zu_k (by omega), zu_k (by omega), zu_k (by omega), zu_k (by omega), zu_k (by omega)]
              · rw [e1, e2, e3]
                have := old e e0 (by omega)
                rw [this.1, this.2.1, this.2.2]
                exact ho e e0 e1'
              · rw [e4] at e1'
                rw [e3]
                by_cases ce : e = G2 286 5
                · rw [ce, zpd_s]; omega
                · rw [zpd_n ce]; exact hc2 e e0 (by omega)
              · rw [e1, e2, e3, e4]
                by_cases ci : i = j
                · rw [ci, hqq]; exact ⟨G2 286 5, by omega, by omega, zpd_s, by rw [zpd_s, hd], by rw [zpd_s]; omega⟩
                · obtain ⟨f, f0, f1, f2, f3, f4⟩ := hl i i0 (by omega)
                  have := old f f0 f1
                  exact ⟨f, f0, by omega, by rw [this.1]; exact f2, by rw [this.2.1]; exact f3, by rw [this.2.2]; exact f4⟩
            have skip : G2 293 ((q * 60) + s) ≠ 0 → ∀ l6 l7, zAt xT_65 (zW (d + 3)) Q 57 [zr 4 0 286, zr 1 0 66, zi v, zi H, zi s, zi ((j : Int) + 1), l6, l7] [] G2 := fun hm l6 l7 => by
              obtain ⟨_, e, e0, e1, e2, e3⟩ := mkc.resolve_left hm
              refine ih (j + 1) G2 (by omega) f2 hB ho hn hc2 (fun i i0 i1 => ?_) l6 l7
              by_cases ci : i = j
              · rw [ci, hqq]; exact ⟨e, e0, e1, e2, by rw [e3, hs], hc2 e e0 e1⟩
              · exact hl i i0 (by omega)
            have nlt : G2 293 ((q * 60) + s) = 0 → G2 286 5 < 481 := fun hm => (push hm _ rfl).1
            have e1 : zu G2 293 ((q * 60) + s) 1 66 0 = a := by rw [zu_k (by omega)]; exact g66
            have e2 : zu G2 293 ((q * 60) + s) 1 (a + 8) (G2 287 3) = (w ((116 + (4 * ((wy w (-1) p dv).2.1))) + 1)) := by rw [zu_k (by omega), g3]; exact gy
            have rm : rg (G2 293 ((q * 60) + s)) := by
              rcases mkc with z | z
              · rw [z]; exact ⟨by omega, by omega⟩
              · rw [z.1]; exact ⟨by omega, by omega⟩
            have rn5 : rg (G2 286 5) := ⟨by omega, by omega⟩
            have r3 : rg (G2 287 3) := by rw [g3]; exact ⟨by omega, by omega⟩
            have hc60 : 0 ≤ (q * 60) + s ∧ (q * 60) + s < 480 := ⟨by omega, by omega⟩
            apply zs_65_57 <;> intros
            case h2 => rename_i hh; rw [g66, ga3] at hh; exact absurd hjl (Int.not_lt.mpr hh)
            case h4 => rename_i hm; rw [g66, ga5] at hm; exact skip hm _ _
            case h8 =>
              rename_i hm hmo hlt
              rw [g66, ga5] at hm
              rw [g0, zu_k (by omega), gm] at hmo
              rw [g66, ga5, hov.2.1, hov.2.2]
              exact (push hm dv (by unfold ndy; rw [if_neg (by omega)])).2 _ _
            case h14 =>
              rename_i hm hmo hne hlt
              rw [g66, ga5] at hm
              rw [g0, zu_k (by omega), gm] at hmo
              rw [g66, ga5, g0, e1, e2, hov.2.2]
              exact (push hm _ (by unfold ndy; rw [if_pos (by omega)])).2 _ _
            case h9 => rename_i hm _ _; rw [g66, ga5] at hm; have := nlt hm; omega
            case h15 => rename_i hm _ _ _; rw [g66, ga5] at hm; have := nlt hm; omega
            case h18 => omega
            case h19 => omega
            case h1 => rw [g66, ga3]; (repeat' first | exact hrg _ | assumption | (unfold rg; omega) | omega | refine And.intro ?_ ?_)
            case h3 => rw [g66, ga5]; (repeat' first | exact hrg _ | assumption | (unfold rg; omega) | omega | refine And.intro ?_ ?_)
            case h5 => rw [g66, ga5, g0, zu_k (by omega), gm]; (repeat' first | exact hrg _ | assumption | (unfold rg; omega) | omega | refine And.intro ?_ ?_)
            case h6 => exact rn5
            case h7 => rw [g66, ga5, hov.2.2]; (repeat' first | exact hrg _ | assumption | (unfold rg; omega) | omega | refine And.intro ?_ ?_)
            case h10 => exact r3
            case h11 => rw [g66, ga5, g0, e1, g3]; (repeat' first | exact hrg _ | assumption | (unfold rg; omega) | omega | refine And.intro ?_ ?_)
            case h12 => exact rn5
            case h13 => rw [g66, ga5, hov.2.2]; (repeat' first | exact hrg _ | assumption | (unfold rg; omega) | omega | refine And.intro ?_ ?_)
            case h16 => exact rn5
            case h17 => rw [g66, ga5, hov.2.2]; (repeat' first | exact hrg _ | assumption | (unfold rg; omega) | omega | refine And.intro ?_ ?_)
        have hB1 : BQ w p0 d0 (G1 290) (G1 291) (G1 292) (G1 286 5) (G1 293) (G1 289) := by
          rw [gf 290 (by omega) (by omega), gf 291 (by omega) (by omega), gf 292 (by omega) (by omega), gf 293 (by omega) (by omega), gf 289 (by omega) (by omega), g 286 5 (by omega) (by omega)]; exact h
        have st := fun s s0 s1 hs hse => key s s0 s1 hs hse ((w ((6 + (11 * H)) + 2))).toNat 0 G1 (by omega) (fr_refl _ _) hB1 (fun e e0 e1 => ⟨g _ _ (by omega) (by omega), g _ _ (by omega) (by omega), g _ _ (by omega) (by omega)⟩) (by rw [g _ _ (by omega) (by omega)]; omega) (by rw [gf 292 (by omega) (by omega), g 286 5 (by omega) (by omega)]; exact hcc) (fun i i0 i1 => by omega)
        apply zs_65_20 <;> intros
        case h5 =>
          rename_i hm
          rw [x5] at hm
          rw [x0, y1]
          refine st _ (by omega) (by omega) ?_ (fun _ => rfl) _ _
          unfold ndy kdy
          rw [if_pos (by omega), if_pos (by omega), x8]
        case h6 =>
          rename_i hm
          rw [x5] at hm
          rw [x0, y1]
          refine st 0 (by omega) (by omega) ?_ (fun z => by omega) _ _
          unfold ndy kdy
          rw [if_neg (by omega), if_neg (by omega)]
          exact hvd (by omega)
        all_goals (rw [x0] at *; first | omega | (unfold rg; omega) | (rw [y1] at *; omega) | (rw [x5]; (repeat' first | exact hrg _ | assumption | (unfold rg; omega) | omega | refine And.intro ?_ ?_); done) | (rw [y1]; (repeat' first | exact hrg _ | assumption | (unfold rg; omega) | omega | refine And.intro ?_ ?_); done) | (repeat' first | exact hrg _ | assumption | (unfold rg; omega) | omega | refine And.intro ?_ ?_))
  all_goals first | omega | (repeat' first | exact hrg _ | assumption | (unfold rg; omega) | omega | refine And.intro ?_ ?_)
end KV
