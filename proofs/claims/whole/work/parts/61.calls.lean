/-! THE CALLS: days, firstDay, changes, change, bestDay by the reference -/
def SK (L M : List EL) : Prop := L.length = M.length ∧ ∀ i : Nat, i < M.length → (L.getD i e0).1 = (M.getD i e0).1 ∧ (L.getD i e0).2.2.1 = (M.getD i e0).2.2.1 ∧ (L.getD i e0).2.2.2.1 = (M.getD i e0).2.2.2.1
section SPEC
variable (w : Int → Int) (p : Int)
noncomputable def q_days (k : Int) : Int := bP ((0 ≤ p ∧ p < w 2) ∧ 0 ≤ k ∧ k ≤ 2) (cn (fun t => jdg w (-1) p t = k) 366) (-2)
noncomputable def q_firstDay (k : Int) : Int := bP ((0 ≤ p ∧ p < w 2) ∧ 0 ≤ k ∧ k ≤ 2) (mn (fun t => t) (fun t => 0 ≤ t ∧ t ≤ 365 ∧ jdg w (-1) p t = k)) (-2)
def chg (t : Int) : Prop := 1 ≤ t ∧ ¬ SK (vw w (-1) p (t - 1)) (vw w (-1) p t)
noncomputable def chl : Nat → List Int
  | 0 => []
  | n + 1 => chl n ++ @ite (List Int) (chg w p n) (Classical.propDecidable _) [(n : Int)] []
noncomputable def q_changes : Int := bP (0 ≤ p ∧ p < w 2) (chl w p 366).length (-2)
noncomputable def q_change (i : Int) : Int := bP ((0 ≤ p ∧ p < w 2) ∧ 0 ≤ i) (if i < (chl w p 366).length then (chl w p 366).getD i.toNat 0 else -1) (-2)
noncomputable def bst : Nat → Int × Int × Int
  | 0 => (-1, -1, 0)
  | n + 1 => @ite (Int × Int × Int) (whl (vw w (-1) p n) ∧ ((bst n).2.1 < jdg w (-1) p n ∨ (jdg w (-1) p n = (bst n).2.1 ∧ drf w n (vw w (-1) p n) 0 < (bst n).2.2))) (Classical.propDecidable _) ((n : Int), jdg w (-1) p n, drf w n (vw w (-1) p n) 0) (bst n)
noncomputable def q_bestDay : Int := bP (0 ≤ p ∧ p < w 2) (bst w p 366).1 (-2)
end SPEC
section SL
variable {w : Int → Int} {p : Int}
theorem chl_y {n : Nat} (h : chg w p n) : chl w p (n + 1) = chl w p n ++ [(n : Int)] := by show chl w p n ++ _ = _; rw [if_pos h]
theorem chl_n {n : Nat} (h : ¬ chg w p n) : chl w p (n + 1) = chl w p n := by show chl w p n ++ _ = _; rw [if_neg h, List.append_nil]
theorem chl_len (n : Nat) : (chl w p n).length ≤ n := by
  induction n with
  | zero => exact Nat.le_refl 0
  | succ n ih =>
    by_cases c : chg w p n
    · rw [chl_y c, List.length_append]; have : [(n : Int)].length = 1 := rfl
      omega
    · rw [chl_n c]; omega
theorem chl_pre (n : Nat) : ∀ k : Nat, ∃ r, chl w p (n + k) = chl w p n ++ r := by
  intro k
  induction k with
  | zero => exact ⟨[], (List.append_nil _).symm⟩
  | succ k ih =>
    obtain ⟨r, hr⟩ := ih
    by_cases c : chg w p ((n + k : Nat) : Int)
    · exact ⟨r ++ [((n + k : Nat) : Int)], by rw [← Nat.add_assoc, chl_y c, hr, List.append_assoc]⟩
    · exact ⟨r, by rw [← Nat.add_assoc, chl_n c, hr]⟩
theorem jdg_rg (dr q t : Int) : 0 ≤ jdg w dr q t ∧ jdg w dr q t ≤ 2 := by unfold jdg vd; split; omega; split <;> omega
theorem drf_rg (wf : WF w) {dr day : Int} (hdd : 0 ≤ day ∧ day ≤ 365) : ∀ (L : List EL) (m : Int), (∀ y ∈ L, EOK w dr y) → 0 ≤ m → 0 ≤ drf w day L m ∧ drf w day L m ≤ m + 365 * L.length := by
  intro L
  induction L with
  | nil => intro m _ h; exact ⟨h, by show m ≤ m + 365 * ((0 : Nat) : Int); omega⟩
  | cons y L ih =>
    intro m hok h
    have e : drf w day (y :: L) m = drf w day L (if y.2.2.1 = -1 then m else m + zabs ((w ((116 + (4 * (y.2.2.1))) + 1)) - day)) := rfl
    rw [e, List.length_cons]
    have he := EOK_e wf (hok y List.mem_cons_self)
    by_cases c : y.2.2.1 = -1
    · rw [if_pos c]
      have := ih m (fun z hz => hok z (List.mem_cons_of_mem _ hz)) h
      omega
    · rw [if_neg c]
      have hs := he.2.1.resolve_left c
      have wd := (WF_s wf hs.1 hs.2.1).2.1
      have hz : 0 ≤ zabs ((w ((116 + (4 * (y.2.2.1))) + 1)) - day) ∧ zabs ((w ((116 + (4 * (y.2.2.1))) + 1)) - day) ≤ 365 := by unfold zabs; omega
      have := ih (m + zabs ((w ((116 + (4 * (y.2.2.1))) + 1)) - day)) (fun z hz => hok z (List.mem_cons_of_mem _ hz)) (by omega)
      omega
theorem bst_rg (wf : WF w) (hp : 0 ≤ p ∧ p < w 2) : ∀ n : Nat, n ≤ 366 → (-1 ≤ (bst w p n).2.1 ∧ (bst w p n).2.1 ≤ 2) ∧ (0 ≤ (bst w p n).2.2 ∧ (bst w p n).2.2 ≤ 40000) := by
  intro n
  induction n with
  | zero => intro _; exact ⟨⟨by show (-1 : Int) ≤ -1; omega, by show (-1 : Int) ≤ 2; omega⟩, by show (0 : Int) ≤ 0; omega, by show (0 : Int) ≤ 40000; omega⟩
  | succ n ih =>
    intro hn
    have ih := ih (by omega)
    unfold bst
    by_cases c : whl (vw w (-1) p n) ∧ ((bst w p n).2.1 < jdg w (-1) p n ∨ (jdg w (-1) p n = (bst w p n).2.1 ∧ drf w n (vw w (-1) p n) 0 < (bst w p n).2.2))
    · rw [if_pos c]
      have hj := jdg_rg (w := w) (-1) p n
      have hd := drf_rg (dr := -1) wf (day := n) ⟨by omega, by omega⟩ (vw w (-1) p n) 0 (vw_ok wf ⟨hp, by omega, by omega⟩) (by omega)
      have hl := vw_len (dr := -1) wf p n
      simp only
      omega
    · rw [if_neg c]; exact ih
end SL
section RE
variable {d : Nat} {G : zG} {Q : zQ} {w : Int → Int}
set_option maxHeartbeats 4000000 in
theorem r_days (wf : WF w) (hw : G 298 = w) (hd : G 297 7 = -1) {p k : Int} (hp : rg p) (hk : rg k) (hQ : ∀ G1, fr G G1 SR → Q (some (zi (q_days w p k))) G1) : zW (d + 12) 246 [zr 9 0 297, zi p, zi k] G Q := by
  subst hw
  obtain ⟨n0, n1, n2, n3, n4, n5⟩ := WF_n wf; have hrg := WF_rg wf
  unfold q_days at hQ
  refine zm_246 ?_
  by_cases hg : (0 ≤ p ∧ p < G 298 2) ∧ 0 ≤ k ∧ k ≤ 2
  · rw [bP_t hg] at hQ
    have key : ∀ (r t : Nat), t + r = 366 → ∀ G1, fr G G1 SR → zAt xT_246 (zW (d + 11)) Q 28 [zr 9 0 297, zi p, zi k, zi (cn (fun t => jdg (G 298) (-1) p t = k) t), zi t] [] G1 := by
      intro r
      induction r with
      | zero =>
        intro t t1 G1 f1
        have e : t = 366 := by omega
        apply zs_246_28 <;> intros
        case h2 => rw [e]; exact hQ G1 f1
        all_goals first | omega | (repeat' first | exact hrg _ | assumption | (unfold rg; omega) | omega | refine And.intro ?_ ?_)
      | succ r ih =>
        intro t t1 G1 f1
        have w1 : G1 298 = G 298 := fr_k f1 (fun j e => by unfold SR at e; omega)
        have d1 : G1 297 7 = -1 := (f1 _ _ (fun e => by unfold SR at e; omega)).trans hd
        have hj := jdg_rg (w := G 298) (-1) p t
        apply zs_246_28 <;> intros
        case h3 =>
          refine c191 (dr := -1) wf ⟨by omega, by omega⟩ w1 d1 ⟨hg.1, by omega, by omega⟩ (fun G2 f2 hV hS => ?_)
          have := ih (t + 1) (by omega) G2 (fr_trans f1 f2 (fun k j t => t))
          have e : cn (fun t => jdg (G 298) (-1) p t = k) (t + 1) = cn (fun t => jdg (G 298) (-1) p t = k) t + @ite Int (jdg (G 298) (-1) p t = k) (Classical.propDecidable _) 1 0 := rfl
          rw [e] at this
          apply zs_246_44 <;> intros
          case h2 => rename_i h; rw [if_neg h] at this; exact this
          case h3 => rename_i h; rw [if_pos h] at this; exact this
          all_goals first | omega | (repeat' first | exact hrg _ | assumption | (unfold rg; omega) | omega | refine And.intro ?_ ?_)
        all_goals first | omega | (repeat' first | exact hrg _ | assumption | (unfold rg; omega) | omega | refine And.intro ?_ ?_)
    apply zs_246_0 <;> intros
    case h3 => exact key 366 0 (by omega) G (fr_refl _ _)
    all_goals first | omega | (repeat' first | exact hrg _ | assumption | (unfold rg; omega) | omega | refine And.intro ?_ ?_)
  · rw [bP_f hg] at hQ
    apply zs_246_0 <;> intros
    all_goals first | omega | exact hQ G (fr_refl _ _) | (repeat' first | exact hrg _ | assumption | (unfold rg; omega) | omega | refine And.intro ?_ ?_)
set_option maxHeartbeats 4000000 in
theorem r_firstDay (wf : WF w) (hw : G 298 = w) (hd : G 297 7 = -1) {p k : Int} (hp : rg p) (hk : rg k) (hQ : ∀ G1, fr G G1 SR → Q (some (zi (q_firstDay w p k))) G1) : zW (d + 12) 247 [zr 9 0 297, zi p, zi k] G Q := by
  subst hw
  obtain ⟨n0, n1, n2, n3, n4, n5⟩ := WF_n wf; have hrg := WF_rg wf
  unfold q_firstDay at hQ
  refine zm_247 ?_
  by_cases hg : (0 ≤ p ∧ p < G 298 2) ∧ 0 ≤ k ∧ k ≤ 2
  · rw [bP_t hg] at hQ
    have key : ∀ (r : Nat) (t : Int), 0 ≤ t → t + r = 366 → ∀ G1, fr G G1 SR → (∀ s, 0 ≤ s → s < t → jdg (G 298) (-1) p s ≠ k) → zAt xT_247 (zW (d + 11)) Q 25 [zr 9 0 297, zi p, zi k, zi t] [] G1 := by
      intro r
      induction r with
      | zero =>
        intro t t0 t1 G1 f1 hn
        apply zs_247_25 <;> intros
        case h2 =>
          have hQ1 := hQ G1 f1
          rw [mn_eq (fun _ _ _ _ h => h) (Or.inl ⟨rfl, fun s hs => hn s hs.1 (by have := hs.2.1; omega) hs.2.2⟩)] at hQ1
          exact hQ1
        all_goals first | omega | (repeat' first | exact hrg _ | assumption | (unfold rg; omega) | omega | refine And.intro ?_ ?_)
      | succ r ih =>
        intro t t0 t1 G1 f1 hn
        have w1 : G1 298 = G 298 := fr_k f1 (fun j e => by unfold SR at e; omega)
        have d1 : G1 297 7 = -1 := (f1 _ _ (fun e => by unfold SR at e; omega)).trans hd
        have hj := jdg_rg (w := G 298) (-1) p t
        apply zs_247_25 <;> intros
        case h3 =>
          refine c191 (dr := -1) wf ⟨by omega, by omega⟩ w1 d1 ⟨hg.1, by omega, by omega⟩ (fun G2 f2 hV hS => ?_)
          have f12 := fr_trans f1 f2 (fun k j t => t)
          apply zs_247_38 <;> intros
          case h2 =>
            refine ih (t + 1) (by omega) (by omega) G2 f12 (fun s s0 s1 => ?_)
            by_cases c : s = t
            · rw [c]; assumption
            · exact hn s s0 (by omega)
          case h3 =>
            have hQ1 := hQ G2 f12
            rw [mn_eq (fun _ _ _ _ h => h) (Or.inr ⟨⟨t0, by omega, by assumption⟩, fun s hs => by
              show t ≤ s
              by_cases c : s < t
              · exact absurd hs.2.2 (hn s hs.1 c)
              · omega⟩)] at hQ1
            exact hQ1
          all_goals first | omega | (repeat' first | exact hrg _ | assumption | (unfold rg; omega) | omega | refine And.intro ?_ ?_)
        all_goals first | omega | (repeat' first | exact hrg _ | assumption | (unfold rg; omega) | omega | refine And.intro ?_ ?_)
    apply zs_247_0 <;> intros
    case h3 => exact key 366 0 (by omega) (by omega) G (fr_refl _ _) (fun s s0 s1 => by omega)
    all_goals first | omega | (repeat' first | exact hrg _ | assumption | (unfold rg; omega) | omega | refine And.intro ?_ ?_)
  · rw [bP_f hg] at hQ
    apply zs_247_0 <;> intros
    all_goals first | omega | exact hQ G (fr_refl _ _) | (repeat' first | exact hrg _ | assumption | (unfold rg; omega) | omega | refine And.intro ?_ ?_)
set_option maxHeartbeats 4000000 in
theorem r_bestDay (wf : WF w) (hw : G 298 = w) (hd : G 297 7 = -1) {p : Int} (hp : rg p) (hQ : ∀ G1, fr G G1 SR → Q (some (zi (q_bestDay w p))) G1) : zW (d + 12) 245 [zr 9 0 297, zi p] G Q := by
  subst hw
  obtain ⟨n0, n1, n2, n3, n4, n5⟩ := WF_n wf; have hrg := WF_rg wf
  unfold q_bestDay at hQ
  refine zm_245 ?_
  by_cases hg : 0 ≤ p ∧ p < G 298 2
  · rw [bP_t hg] at hQ
    have key : ∀ (r t : Nat), t + r = 366 → ∀ G1, fr G G1 SR → ∀ l6 l7, zAt xT_245 (zW (d + 11)) Q 21 [zr 9 0 297, zi p, zi (bst (G 298) p t).1, zi (bst (G 298) p t).2.1, zi (bst (G 298) p t).2.2, zi t, l6, l7] [] G1 := by
      intro r
      induction r with
      | zero =>
        intro t t1 G1 f1 l6 l7
        have e : t = 366 := by omega
        apply zs_245_21 <;> intros
        case h2 => rw [e]; exact hQ G1 f1
        all_goals first | omega | (repeat' first | exact hrg _ | assumption | (unfold rg; omega) | omega | refine And.intro ?_ ?_)
      | succ r ih =>
        intro t t1 G1 f1 l6 l7
        have w1 : G1 298 = G 298 := fr_k f1 (fun j e => by unfold SR at e; omega)
        have d1 : G1 297 7 = -1 := (f1 _ _ (fun e => by unfold SR at e; omega)).trans hd
        have hok : okPD (G 298) p t := ⟨hg, by omega, by omega⟩
        have hj := jdg_rg (w := G 298) (-1) p t
        have hb := bst_rg wf hg t (by omega)
        have hdr := drf_rg (dr := -1) wf (day := t) ⟨by omega, by omega⟩ (vw (G 298) (-1) p t) 0 (vw_ok wf hok) (by omega)
        have hl := vw_len (dr := -1) wf p t
        have nx := ih (t + 1) (by omega)
        have e : bst (G 298) p (t + 1) = @ite (Int × Int × Int) (whl (vw (G 298) (-1) p t) ∧ ((bst (G 298) p t).2.1 < jdg (G 298) (-1) p t ∨ (jdg (G 298) (-1) p t = (bst (G 298) p t).2.1 ∧ drf (G 298) t (vw (G 298) (-1) p t) 0 < (bst (G 298) p t).2.2))) (Classical.propDecidable _) ((t : Int), jdg (G 298) (-1) p t, drf (G 298) t (vw (G 298) (-1) p t) 0) (bst (G 298) p t) := rfl
        rw [e] at nx
        apply zs_245_21 <;> intros
        case h3 =>
          refine r_whole (d := d + 1) wf w1 d1 ⟨by omega, by omega⟩ ⟨by omega, by omega⟩ (fun G2 f2 => ?_)
          unfold q_whole
          rw [bP_t hok]
          have f12 := fr_trans f1 f2 (fun k j t => t)
          have w2 : G2 298 = G 298 := fr_k f12 (fun j e => by unfold SR at e; omega)
          have d2 : G2 297 7 = -1 := (f12 _ _ (fun e => by unfold SR at e; omega)).trans hd
          by_cases c : whl (vw (G 298) (-1) p t)
          · rw [bP_t c]
            apply zs_245_36 <;> intros
            case h2 =>
              refine c191 (dr := -1) wf ⟨by omega, by omega⟩ w2 d2 hok (fun G3 f3 hV hS => zs_245_50 ?_)
              have f13 := fr_trans f12 f3 (fun k j t => t)
              have w3 : G3 298 = G 298 := fr_k f13 (fun j e => by unfold SR at e; omega)
              have d3 : G3 297 7 = -1 := (f13 _ _ (fun e => by unfold SR at e; omega)).trans hd
              refine c243 (d := d + 1) wf w3 d3 hok (fun G4 f4 => ?_)
              have f14 := fr_trans f13 f4 (fun k j t => t)
              apply zs_245_59 <;> intros
              case h2 => rw [if_neg (fun z => by have := z.2; omega)] at nx; exact nx G4 f14 _ _
              case h3 => rw [if_pos ⟨c, by omega⟩] at nx; exact nx G4 f14 _ _
              case h5 => rw [if_pos ⟨c, by omega⟩] at nx; exact nx G4 f14 _ _
              case h6 => rw [if_neg (fun z => by have := z.2; omega)] at nx; exact nx G4 f14 _ _
              all_goals first | omega | (repeat' first | exact hrg _ | assumption | (unfold rg; omega) | omega | refine And.intro ?_ ?_)
            all_goals first | omega | (repeat' first | exact hrg _ | assumption | (unfold rg; omega) | omega | refine And.intro ?_ ?_)
          · rw [bP_f c]
            apply zs_245_36 <;> intros
            case h3 => rw [if_neg (fun z => c z.1)] at nx; exact nx G2 f12 _ _
            all_goals first | omega | (repeat' first | exact hrg _ | assumption | (unfold rg; omega) | omega | refine And.intro ?_ ?_)
        all_goals first | omega | (repeat' first | exact hrg _ | assumption | (unfold rg; omega) | omega | refine And.intro ?_ ?_)
    apply zs_245_0 <;> intros
    case h2 => exact key 366 0 (by omega) G (fr_refl _ _) _ _
    all_goals first | omega | (repeat' first | exact hrg _ | assumption | (unfold rg; omega) | omega | refine And.intro ?_ ?_)
  · rw [bP_f hg] at hQ
    apply zs_245_0 <;> intros
    all_goals first | omega | exact hQ G (fr_refl _ _) | (repeat' first | exact hrg _ | assumption | (unfold rg; omega) | omega | refine And.intro ?_ ?_)
def PV (G : zG) (L : List EL) : Prop := G 297 42 = L.length ∧ ∀ i : Nat, i < L.length → G 316 (3 * i) = (L.getD i e0).1 ∧ G 316 ((3 * i) + 1) = (L.getD i e0).2.2.1 ∧ G 316 ((3 * i) + 2) = (L.getD i e0).2.2.2.1
set_option maxHeartbeats 4000000 in
theorem c248 (wf : WF w) (hw : G 298 = w) (hd : G 297 7 = -1) {p day : Int} (hg : okPD w p day) {L : List EL} (hL : L.length ≤ 85) (hP : PV G L) (hok' : ∀ i : Nat, i < L.length → rg (L.getD i e0).1 ∧ rg (L.getD i e0).2.2.1 ∧ rg (L.getD i e0).2.2.2.1) (hQ : ∀ G1, fr G G1 SR → PV G1 (vw w (-1) p day) → Q (some (zi (bP (SK L (vw w (-1) p day)) 0 1))) G1) : zW (d + 10) 248 [zr 9 0 297, zi p, zi day] G Q := by
  subst hw
  obtain ⟨n0, n1, n2, n3, n4, n5⟩ := WF_n wf; have hrg := WF_rg wf
  refine zm_248 (zs_248_0 (c185 (dr := -1) wf ⟨by omega, by omega⟩ rfl hd hg.1.1 hg.1.2 hg.2.1 hg.2.2 (fun G1 f1 hV => ?_)))
  have hok := vw_ok (dr := -1) wf hg
  have hl := vw_len (dr := -1) wf p day
  generalize vw (G 298) (-1) p day = M at *
  have hP1 : PV G1 L := by
    refine ⟨(f1 _ _ (by unfold S184; omega)).trans hP.1, fun i hi => ?_⟩
    rw [f1 _ _ (by unfold S184; omega), f1 _ _ (by unfold S184; omega), f1 _ _ (by unfold S184; omega)]
    exact hP.2 i hi
  have h18 := hV.1
  have h42 := hP1.1
  have key : ∀ (r i : Nat) (c : Int) (G2 : zG), i + r = M.length → fr G1 G2 (fun k j => k = 316) → (∀ j, 3 * (i : Int) ≤ j → G2 316 j = G1 316 j) → (∀ k : Nat, k < i → G2 316 (3 * k) = (M.getD k e0).1 ∧ G2 316 ((3 * k) + 1) = (M.getD k e0).2.2.1 ∧ G2 316 ((3 * k) + 2) = (M.getD k e0).2.2.2.1) → ((c = 0 ∧ L.length = M.length ∧ ∀ k : Nat, k < i → (L.getD k e0).1 = (M.getD k e0).1 ∧ (L.getD k e0).2.2.1 = (M.getD k e0).2.2.1 ∧ (L.getD k e0).2.2.2.1 = (M.getD k e0).2.2.2.1) ∨ (c = 1 ∧ ¬ SK L M)) → ∀ l1 l2, zAt xT_248 (zW (d + 9)) Q 26 [zr 9 0 297, l1, l2, zi c, zi i] [] G2 := by
    intro r
    induction r with
    | zero =>
      intro i c G2 hi f2 hO hN hc l1 l2
      have g18 : G2 297 18 = M.length := (f2 _ _ (by omega)).trans h18
      apply zs_248_26 <;> intros
      case h3 =>
        have hQ1 := hQ (zu G2 297 42 (G2 297 18)) (fr_u (fr_trans (fr_wide f1 (by intro k j t; unfold S184 at t; unfold SR; omega)) f2 (by intro k j t; unfold SR; omega)) (by unfold SR; omega)) (by
          refine ⟨by rw [zu_s, g18], fun k hk => ?_⟩
          rw [zu_k (by omega)]
          exact hN k (by omega))
        rcases hc with hc | hc
        · rw [bP_t ⟨hc.2.1, fun k hk => hc.2.2 k (by omega)⟩] at hQ1; rw [hc.1]; exact hQ1
        · rw [bP_f hc.2] at hQ1; rw [hc.1]; exact hQ1
      all_goals first | omega | (repeat' first | exact hrg _ | assumption | (unfold rg; omega) | omega | refine And.intro ?_ ?_)
    | succ r ih =>
      intro i c G2 hi f2 hO hN hc l1 l2
      have g18 : G2 297 18 = M.length := (f2 _ _ (by omega)).trans h18
      obtain ⟨m1, m2, m3, m4, m5, m6⟩ := hV.2 i (by omega) (by omega)
      rw [Int.toNat_natCast] at m1 m3 m4
      have m1 : G2 304 i = _ := (f2 _ _ (by omega)).trans m1
      have m3 : G2 306 i = _ := (f2 _ _ (by omega)).trans m3
      have m4 : G2 307 i = _ := (f2 _ _ (by omega)).trans m4
      have hy : M.getD i e0 ∈ M := by
        have hl : i < M.length := by omega
        rw [List.getD_eq_getElem?_getD, List.getElem?_eq_getElem hl]
        exact List.getElem_mem hl
      have hoy := hok _ hy
      have he := EOK_e wf hoy
      have hpr := hoy.1
      have nx : ∀ c', ((c' = 0 ∧ L.length = M.length ∧ ∀ k : Nat, k < i + 1 → (L.getD k e0).1 = (M.getD k e0).1 ∧ (L.getD k e0).2.2.1 = (M.getD k e0).2.2.1 ∧ (L.getD k e0).2.2.2.1 = (M.getD k e0).2.2.2.1) ∨ (c' = 1 ∧ ¬ SK L M)) → zAt xT_248 (zW (d + 9)) Q 26 [zr 9 0 297, z0, z0, zi c', zi ((i : Int) + 1)] [] (zu (zu (zu G2 316 (3 * i) (G2 304 i)) 316 ((3 * i) + 1) (G2 306 i)) 316 ((3 * i) + 2) (G2 307 i)) := fun c' hc' => by
        have := ih (i + 1) c' (zu (zu (zu G2 316 (3 * i) (G2 304 i)) 316 ((3 * i) + 1) (G2 306 i)) 316 ((3 * i) + 2) (G2 307 i)) (by omega) (fr_u (fr_u (fr_u f2 rfl) rfl) rfl) (fun j hj => by
          rw [zu_j (by omega), zu_j (by omega), zu_j (by omega)]; exact hO j (by omega)) (fun k hk => by
          by_cases e : k = i
          · subst e
            refine ⟨?_, ?_, ?_⟩
            · rw [zu_j (by omega), zu_j (by omega), zu_s, m1]
            · rw [zu_j (by omega), zu_s, m3]
            · rw [zu_s, m4]
          · rw [zu_j (by omega), zu_j (by omega), zu_j (by omega), zu_j (by omega), zu_j (by omega), zu_j (by omega), zu_j (by omega), zu_j (by omega), zu_j (by omega)]
            exact hN k (by omega)) hc' z0 z0
        exact this
      have n1 : ¬ SK L M → ∀ l1 l2 l3, zAt xT_248 (zW (d + 9)) Q 100 [zr 9 0 297, l1, l2, l3, zi i] [] G2 := fun hn l1 l2 l3 => by
        apply zs_248_100 <;> intros
        case h2 => exact nx 1 (Or.inr ⟨rfl, hn⟩)
        all_goals first | omega | (repeat' first | exact hrg _ | assumption | (unfold rg; omega) | omega | refine And.intro ?_ ?_)
      rcases hc with hc | hc
      · obtain ⟨c0, cl, ce⟩ := hc
        obtain ⟨ol1, ol2, ol3⟩ := hok' i (by omega)
        have o := hP1.2 i (by omega)
        rw [← hO _ (by omega), ← hO _ (by omega), ← hO _ (by omega)] at o
        apply zs_248_26 <;> intros
        case h7 => exact n1 (fun z => by have := z.2 i (by omega); omega) _ _ _
        case h9 => exact n1 (fun z => by have := z.2 i (by omega); omega) _ _ _
        case h12 => exact n1 (fun z => by have := z.2 i (by omega); omega) _ _ _
        case h11 =>
          refine nx 0 (Or.inl ⟨rfl, cl, fun k hk => ?_⟩)
          by_cases e : k = i
          · subst e; exact ⟨by omega, by omega, by omega⟩
          · exact ce k (by omega)
        all_goals first | omega | (rw [o.1, m1]; (repeat' first | exact hrg _ | assumption | (unfold rg; omega) | omega | refine And.intro ?_ ?_)) | (rw [o.2.1, m3]; (repeat' first | exact hrg _ | assumption | (unfold rg; omega) | omega | refine And.intro ?_ ?_)) | (rw [o.2.2, m4]; (repeat' first | exact hrg _ | assumption | (unfold rg; omega) | omega | refine And.intro ?_ ?_)) | (repeat' first | exact hrg _ | assumption | (unfold rg; omega) | omega | refine And.intro ?_ ?_)
      · obtain ⟨c0, cn⟩ := hc
        apply zs_248_26 <;> intros
        case h5 => exact n1 cn _ _ _
        all_goals first | omega | (repeat' first | exact hrg _ | assumption | (unfold rg; omega) | omega | refine And.intro ?_ ?_)
  apply zs_248_6 <;> intros
  case h2 => exact key M.length 0 0 G1 (by omega) (fr_refl _ _) (fun j _ => rfl) (fun k hk => by omega) (Or.inl ⟨rfl, by omega, fun k hk => by omega⟩) _ _
  case h3 => exact key M.length 0 1 G1 (by omega) (fr_refl _ _) (fun j _ => rfl) (fun k hk => by omega) (Or.inr ⟨rfl, fun z => by have := z.1; omega⟩) _ _
  all_goals first | omega | (repeat' first | exact hrg _ | assumption | (unfold rg; omega) | omega | refine And.intro ?_ ?_)
theorem vw_gr (wf : WF w) {p day : Int} (hg : okPD w p day) : ∀ i : Nat, i < (vw w (-1) p day).length → rg ((vw w (-1) p day).getD i e0).1 ∧ rg ((vw w (-1) p day).getD i e0).2.2.1 ∧ rg ((vw w (-1) p day).getD i e0).2.2.2.1 := fun i hi => by
  have hy : (vw w (-1) p day).getD i e0 ∈ vw w (-1) p day := by
    rw [List.getD_eq_getElem?_getD, List.getElem?_eq_getElem hi]
    exact List.getElem_mem hi
  have ho := vw_ok (dr := -1) wf hg _ hy
  have he := EOK_e wf ho
  have hp := ho.1
  have n2 := (WF_n wf).2.2.1
  have n4 := (WF_n wf).2.2.2.2.1
  (repeat' first | exact hrg _ | assumption | (unfold rg; omega) | omega | refine And.intro ?_ ?_)
set_option maxHeartbeats 4000000 in
theorem c249 (wf : WF w) (hw : G 298 = w) (hd : G 297 7 = -1) {p v : Int} (hg : 0 ≤ p ∧ p < w 2) (hv : rg v) (hQ : ∀ G1, fr G G1 SR → Q (some (zi (if v < 0 then ((chl w p 366).length : Int) else if v < (chl w p 366).length then (chl w p 366).getD v.toNat 0 else -1))) G1) : zW (d + 11) 249 [zr 9 0 297, zi p, zi v] G Q := by
  subst hw
  obtain ⟨n0, n1, n2, n3, n4, n5⟩ := WF_n wf; have hrg := WF_rg wf
  refine zm_249 (zs_249_0 ?_)
  have key : ∀ (r t : Nat), t + r = 366 → ∀ G1, fr G G1 SR → (t = 0 → PV G1 []) → (1 ≤ t → PV G1 (vw (G 298) (-1) p (t - 1))) → (0 ≤ v → (chl (G 298) p t).length ≤ v) → zAt xT_249 (zW (d + 10)) Q 10 [zr 9 0 297, zi p, zi v, zi (chl (G 298) p t).length, zi t] [] G1 := by
    intro r
    induction r with
    | zero =>
      intro t t1 G1 f1 hP0 hP1 hv2
      have e : t = 366 := by omega
      subst e
      have hQ1 := hQ G1 f1
      apply zs_249_10 <;> intros
      case h3 => rw [if_neg (by omega), if_neg (by omega)] at hQ1; exact hQ1
      case h4 => rw [if_pos (by omega)] at hQ1; exact hQ1
      all_goals first | omega | (repeat' first | exact hrg _ | assumption | (unfold rg; omega) | omega | refine And.intro ?_ ?_)
    | succ r ih =>
      intro t t1 G1 f1 hP0 hP1 hv2
      have w1 : G1 298 = G 298 := fr_k f1 (fun j e => by unfold SR at e; omega)
      have d1 : G1 297 7 = -1 := (f1 _ _ (fun e => by unfold SR at e; omega)).trans hd
      have hok : okPD (G 298) p t := ⟨hg, by omega, by omega⟩
      have cl := chl_len (w := G 298) (p := p) t
      have next : ∀ G2, fr G G2 SR → PV G2 (vw (G 298) (-1) p t) → ∀ s : Int, s = bP (chg (G 298) p t) 1 0 ∨ t = 0 → rg s → zAt xT_249 (zW (d + 10)) Q 25 [zr 9 0 297, zi p, zi v, zi (chl (G 298) p t).length, zi t] [zi s] G2 := by
        intro G2 f2 hP2 s hs hsr
        have hP2' : 1 ≤ t + 1 → PV G2 (vw (G 298) (-1) p (((t + 1 : Nat) : Int) - 1)) := fun _ => by
          rw [show ((t + 1 : Nat) : Int) - 1 = t by omega]; exact hP2
        have ih := ih (t + 1) (by omega) G2 f2 (fun z => by omega) hP2'
        by_cases c : chg (G 298) p t
        · have ct := c.1
          have hs1 : s = 1 := by rw [bP_t c] at hs; omega
          rw [chl_y c, List.length_append] at ih
          have e1 : [(t : Int)].length = 1 := rfl
          rw [e1] at ih
          apply zs_249_25 <;> intros
          case h5 => exact ih (fun z => by have := hv2 z; omega)
          case h6 =>
            rename_i h
            have hQ1 := hQ G2 f2
            obtain ⟨r', hr'⟩ := chl_pre (w := G 298) (p := p) (t + 1) (366 - (t + 1))
            rw [show t + 1 + (366 - (t + 1)) = 366 by omega, chl_y c] at hr'
            have hlen : (chl (G 298) p 366).length = (chl (G 298) p t).length + 1 + r'.length := by rw [hr', List.length_append, List.length_append]; rfl
            rw [if_neg (by omega), if_pos (by omega)] at hQ1
            have e2 : (chl (G 298) p 366).getD v.toNat 0 = t := by
              rw [hr', ← h, Int.toNat_natCast, List.append_assoc, List.getD_eq_getElem?_getD, List.getElem?_append_right (Nat.le_refl _), Nat.sub_self]
              rfl
            rw [e2] at hQ1
            exact hQ1
          all_goals first | omega | (repeat' first | exact hrg _ | assumption | (unfold rg; omega) | omega | refine And.intro ?_ ?_)
        · rw [chl_n c] at ih
          by_cases c0 : t = 0
          · subst c0
            apply zs_249_25 <;> intros
            case h2 => exact ih hv2
            case h7 => exact ih hv2
            all_goals first | omega | (repeat' first | exact hrg _ | assumption | (unfold rg; omega) | omega | refine And.intro ?_ ?_)
          · have hs1 : s = 0 := by rw [bP_f c] at hs; omega
            apply zs_249_25 <;> intros
            case h2 => exact ih hv2
            all_goals first | omega | (repeat' first | exact hrg _ | assumption | (unfold rg; omega) | omega | refine And.intro ?_ ?_)
      apply zs_249_10 <;> intros
      case h5 =>
        by_cases c0 : t = 0
        · refine c248 (L := []) wf w1 d1 hok (Nat.zero_le _) (hP0 c0) (fun i hi => absurd hi (Nat.not_lt_zero _)) (fun G2 f2 hP2 => ?_)
          refine next G2 (fr_trans f1 f2 (fun k j t => t)) hP2 _ (Or.inr c0) ?_
          unfold bP
          split <;> exact ⟨by omega, by omega⟩
        · refine c248 (L := vw (G 298) (-1) p (t - 1)) wf w1 d1 hok (vw_len wf p _) (hP1 (by omega)) (vw_gr wf ⟨hg, by omega, by omega⟩) (fun G2 f2 hP2 => ?_)
          refine next G2 (fr_trans f1 f2 (fun k j t => t)) hP2 _ (Or.inl ?_) ?_
          · by_cases c : SK (vw (G 298) (-1) p (t - 1)) (vw (G 298) (-1) p t)
            · rw [bP_t c, bP_f (fun z => z.2 c)]
            · rw [bP_f c, bP_t ⟨by omega, c⟩]
          · unfold bP
            split <;> exact ⟨by omega, by omega⟩
      all_goals first | omega | (repeat' first | exact hrg _ | assumption | (unfold rg; omega) | omega | refine And.intro ?_ ?_)
  refine key 366 0 (by omega) _ (fr_u (fr_refl _ _) (by unfold SR; omega)) (fun _ => ⟨?_, fun i hi => absurd hi (Nat.not_lt_zero _)⟩) (fun z => by omega) (fun z => ?_)
  · rw [zu_s]; rfl
  · show (([] : List Int).length : Int) ≤ v
    exact z
set_option maxHeartbeats 4000000 in
theorem r_changes (wf : WF w) (hw : G 298 = w) (hd : G 297 7 = -1) {p : Int} (hp : rg p) (hQ : ∀ G1, fr G G1 SR → Q (some (zi (q_changes w p))) G1) : zW (d + 13) 250 [zr 9 0 297, zi p] G Q := by
  subst hw
  obtain ⟨n0, n1, n2, n3, n4, n5⟩ := WF_n wf; have hrg := WF_rg wf
  unfold q_changes at hQ
  refine zm_250 ?_
  by_cases hg : 0 ≤ p ∧ p < G 298 2
  · rw [bP_t hg] at hQ
    apply zs_250_0 <;> intros
    case h2 => exact c249 (d := d + 1) (v := -1) wf rfl hd hg ⟨by omega, by omega⟩ (fun G1 f1 => zs_250_14 (by rw [if_pos (by omega)]; exact hQ G1 f1))
    all_goals first | omega | (repeat' first | exact hrg _ | assumption | (unfold rg; omega) | omega | refine And.intro ?_ ?_)
  · rw [bP_f hg] at hQ
    apply zs_250_0 <;> intros
    all_goals first | omega | exact hQ G (fr_refl _ _) | (repeat' first | exact hrg _ | assumption | (unfold rg; omega) | omega | refine And.intro ?_ ?_)
set_option maxHeartbeats 4000000 in
theorem r_change (wf : WF w) (hw : G 298 = w) (hd : G 297 7 = -1) {p i : Int} (hp : rg p) (hi : rg i) (hQ : ∀ G1, fr G G1 SR → Q (some (zi (q_change w p i))) G1) : zW (d + 13) 251 [zr 9 0 297, zi p, zi i] G Q := by
  subst hw
  obtain ⟨n0, n1, n2, n3, n4, n5⟩ := WF_n wf; have hrg := WF_rg wf
  unfold q_change at hQ
  refine zm_251 ?_
  by_cases hg : (0 ≤ p ∧ p < G 298 2) ∧ 0 ≤ i
  · rw [bP_t hg] at hQ
    apply zs_251_0 <;> intros
    case h4 => exact c249 (d := d + 1) wf rfl hd hg.1 hi (fun G1 f1 => zs_251_18 (by rw [if_neg (by omega)]; exact hQ G1 f1))
    all_goals first | omega | (repeat' first | exact hrg _ | assumption | (unfold rg; omega) | omega | refine And.intro ?_ ?_)
  · rw [bP_f hg] at hQ
    apply zs_251_0 <;> intros
    all_goals first | omega | exact hQ G (fr_refl _ _) | (repeat' first | exact hrg _ | assumption | (unfold rg; omega) | omega | refine And.intro ?_ ?_)
end RE
