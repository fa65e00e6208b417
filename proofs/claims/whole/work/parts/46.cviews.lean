/-! THE CLASS: views -/
noncomputable def spv (w : Int → Int) (dr : Int) (y : EL) : Q4 := if y.2.2.2.1 ≤ 1 then foldS w dr (wy w dr y.1 y.2.1).1 o4 else o4
noncomputable def allS (w : Int → Int) (dr : Int) (L : List EL) : Q4 := L.foldl (fun q y => nar q (spv w dr y)) o4
theorem allS_app {w : Int → Int} {dr : Int} (L : List EL) (y : EL) : allS w dr (L ++ [y]) = nar (allS w dr L) (spv w dr y) := by
  unfold allS
  rw [List.foldl_append]
  rfl
def VC (G : zG) (v : Int) (w : Int → Int) (dr : Int) (L : List EL) : Prop := G v 2 = L.length ∧ Q4M G (v + 94) (allS w dr L) ∧ ∀ i : Int, 0 ≤ i → i < L.length → G (v + 3) i = (L.getD i.toNat e0).1 ∧ G (v + 4) i = (L.getD i.toNat e0).2.2.1 ∧ G (v + 5) i = (L.getD i.toNat e0).2.2.2.1 ∧ G (v + 6) i = (L.getD i.toNat e0).2.2.2.2.1 ∧ G (v + 7) i = (L.getD i.toNat e0).2.2.2.2.2 ∧ Q4M G (((v + 8) + 1) + i) (spv w dr (L.getD i.toNat e0))
def SV (v k j : Int) : Prop := (v + 1 ≤ k ∧ k ≤ v + 94) ∨ (k = v ∧ j = 2)
section CL
variable {d : Nat} {G : zG} {Q : zQ} {a x dr v : Int} {w : Int → Int}
theorem foldS_d (wf : WF w) (hI : IX G x a w dr) : ∀ (l : List Int), (∀ s ∈ l, sho w dr (w (116 + (4 * s))) s) → ∀ q, Q4d q → Q4d (foldS w dr l q) := by
  intro l
  induction l with
  | nil => intro _ q hq; exact hq
  | cons s l ih =>
    intro hl q hq
    exact ih (fun t ht => hl t (List.mem_cons_of_mem _ ht)) _ (nar_d hq (rq_d wf hI (hl s List.mem_cons_self)).2.2.2.2.2)
theorem spv_d (wf : WF w) (hI : IX G x a w dr) (y : EL) : Q4d (spv w dr y) := by
  unfold spv
  split
  · exact foldS_d wf hI _ (wyF_sho dr _ 9 _ _ _) _ o4_d
  · exact o4_d
theorem allS_d (wf : WF w) (hI : IX G x a w dr) (L : List EL) : Q4d (allS w dr L) := by
  have key : ∀ (L : List EL) (q : Q4), Q4d q → Q4d (L.foldl (fun q y => nar q (spv w dr y)) q) := by
    intro L
    induction L with
    | nil => intro q hq; exact hq
    | cons y L ih => intro q hq; exact ih _ (nar_d hq (spv_d wf hI y))
  exact key L o4 o4_d
set_option maxHeartbeats 8000000 in
theorem c93 (wf : WF w) (ha : 5 ≤ a ∧ a ≤ 54) (hx : 66 ≤ x ∧ x ≤ 79) (hI : IX G x a w dr) {kw sp : Int} (hk : 92 ≤ kw) (hsp : 92 ≤ sp) (h1 : sp ≠ kw) (h2 : sp ≠ kw + 1) {R : List Int × Int × Int} (hW : WM G kw x R) (hl : R.1.length ≤ 8) (hsh : ∀ s ∈ R.1, sho w dr (w (116 + (4 * s))) s) (hst : 0 ≤ R.2.2 ∧ R.2.2 ≤ 5) (hQ : ∀ G1, fr G G1 (fun k j => k = sp ∧ 0 ≤ j ∧ j ≤ 3) → Q4M G1 sp (if R.2.2 ≤ 1 then foldS w dr R.1 o4 else o4) → Q none G1) : zW (d + 2) 93 [zr 7 0 kw, zr 3 0 sp] G Q := by
  obtain ⟨n0, n1, n2, n3, n4, n5⟩ := WF_n wf
  have fo1 : fr G (zu (zu (zu (zu G sp 0 0) sp 1 365) sp 2 0) sp 3 365) (fun k j => k = sp ∧ 0 ≤ j ∧ j ≤ 3) := fr_u (fr_u (fr_u (fr_u (fr_refl _ _) ⟨rfl, by omega, by omega⟩) ⟨rfl, by omega, by omega⟩) ⟨rfl, by omega, by omega⟩) ⟨rfl, by omega, by omega⟩
  have qo : Q4M (zu (zu (zu (zu G sp 0 0) sp 1 365) sp 2 0) sp 3 365) sp o4 := by
    unfold o4
    refine ⟨?_, ?_, ?_, ?_⟩ <;> (simp (disch := omega) only [zu_kj, zu_s, zl10, zl20, zl21, zl30, zl31, zl32, zl40, zl41, zl42, zl43, zl02, zl03, zl04, zl23, zl24, zl34, zl12, zl13, zl14, zl01])
  have key : ∀ (rs ps : List Int) (q : Q4) (G1 : zG), R.1 = ps ++ rs → fr G G1 (fun k j => k = sp ∧ 0 ≤ j ∧ j ≤ 3) → Q4M G1 sp q → Q4d q → R.2.2 ≤ 1 → foldS w dr R.1 o4 = foldS w dr rs q → zAt xT_93 (zW (d + 1)) Q 22 [zr 7 0 kw, zr 3 0 sp, zi ps.length] [] G1 := by
    intro rs
    induction rs with
    | nil =>
      intro ps q G1 hps hf hq dq hs1 he
      rw [List.append_nil] at hps
      have g2 : G1 kw 2 = ps.length := by rw [hf kw 2 (by omega), hW.2.1, hps]
      rw [hps] at hl
      apply zs_93_22 <;> intros
      case h2 =>
        refine hQ G1 hf ?_
        rw [if_pos hs1, he]; exact hq
      all_goals first | omega | (refine ⟨?_, ?_⟩ <;> (unfold rg; omega))
    | cons s rs ih =>
      intro ps q G1 hps hf hq dq hs1 he
      have hl2 : R.1.length = ps.length + (rs.length + 1) := by rw [hps, List.length_append, List.length_cons]
      have hg : R.1.getD ps.length 0 = s := by
        rw [hps, List.getD_eq_getElem?_getD, List.getElem?_append_right (Nat.le_refl _)]
        simp
      have g2 : G1 kw 2 = R.1.length := by rw [hf kw 2 (by omega)]; exact hW.2.1
      have g0 : G1 kw 0 = x := by rw [hf kw 0 (by omega)]; exact hW.1
      have gp : G1 (kw + 1) ps.length = s := by
        rw [hf (kw + 1) _ (by omega), hW.2.2.2.2 ps.length (by omega) (by omega), Int.toNat_natCast, hg]
      have hss := hsh s (by rw [hps]; exact List.mem_append_right _ List.mem_cons_self)
      have s0 := hss.1
      have s1 := hss.2.1
      have hI1 : IX G1 x a w dr := IX_fr hI (fun k j k0 k1 => hf k j (by omega))
      obtain ⟨r1, r2, r3, r4, _, r6⟩ := rq_d wf hI1 hss
      obtain ⟨b1, b2, b3, b4⟩ := hq
      have dqq := dq
      have rqq := r6
      unfold Q4d at dqq rqq
      apply zs_93_22 <;> intros
      case h2 => omega
      case h4 =>
        rw [g0, gp]
        (simp (disch := omega) only [zu_kj, zu_s, zl10, zl20, zl21, zl30, zl31, zl32, zl40, zl41, zl42, zl43, zl02, zl03, zl04, zl23, zl24, zl34, zl12, zl13, zl14, zl01])
        rw [r1, r2, r3, r4, b1, b2, b3, b4]
        have hpl : ((ps ++ [s]).length : Int) = ps.length + 1 := by rw [List.length_append]; simp
        have := ih (ps ++ [s]) (nar q (rq w dr s)) (zu (zu (zu (zu G1 sp 0 (max q.1 (rq w dr s).1)) sp 1 (min q.2.1 (rq w dr s).2.1)) sp 2 (max q.2.2.1 (rq w dr s).2.2.1)) sp 3 (min q.2.2.2 (rq w dr s).2.2.2)) (by rw [hps, List.append_assoc]; rfl) (fr_u (fr_u (fr_u (fr_u hf ⟨rfl, by omega, by omega⟩) ⟨rfl, by omega, by omega⟩) ⟨rfl, by omega, by omega⟩) ⟨rfl, by omega, by omega⟩) (by
          unfold nar
          refine ⟨?_, ?_, ?_, ?_⟩ <;> (simp (disch := omega) only [zu_kj, zu_s, zl10, zl20, zl21, zl30, zl31, zl32, zl40, zl41, zl42, zl43, zl02, zl03, zl04, zl23, zl24, zl34, zl12, zl13, zl14, zl01])) (nar_d dq r6) hs1 he
        rw [hpl] at this
        exact this
      case h3 =>
        rw [g0, gp]
        (simp (disch := omega) only [zu_kj, zu_s, zl10, zl20, zl21, zl30, zl31, zl32, zl40, zl41, zl42, zl43, zl02, zl03, zl04, zl23, zl24, zl34, zl12, zl13, zl14, zl01])
        rw [r1, r2, r3, r4, b1, b2, b3, b4]
        refine ⟨by omega, by omega, by omega, ?_, ?_, ?_, ?_, ?_, ?_, ?_, ?_⟩ <;> (unfold rg; omega)
      all_goals first | omega | (refine ⟨?_, ?_⟩ <;> (unfold rg; omega))
  have e4 : (zu (zu (zu (zu G sp 0 0) sp 1 365) sp 2 0) sp 3 365) kw 4 = R.2.2 := by
    rw [fo1 kw 4 (by omega)]; exact hW.2.2.2.1
  refine zm_93 ?_
  apply zs_93_0 <;> intros
  case h1 => rw [e4]; unfold rg; omega
  case h2 => rename_i h; rw [e4] at h; exact key R.1 [] o4 _ rfl fo1 qo o4_d (by omega) rfl
  case h3 => rename_i h0 h; rw [e4] at h; exact key R.1 [] o4 _ rfl fo1 qo o4_d (by omega) rfl
  case h4 => rename_i h0 h; rw [e4] at h h0; refine hQ _ fo1 ?_; rw [if_neg (by omega)]; exact qo
set_option maxHeartbeats 4000000 in
theorem c76 {acc : List EL} (hm : ∀ i : Int, 0 ≤ i → i < acc.length → G (v + 3) i = (acc.getD i.toNat e0).1 ∧ G (v + 7) i = (acc.getD i.toNat e0).2.2.2.2.2) (hl : acc.length ≤ 85) (hr : ∀ i : Int, 0 ≤ i → i < acc.length → rg (G (v + 3) i)) {p : Int} (hp : rg p) {anc : List Int} {par : Int} (hc : CH acc anc par) (h3 : anc.length ≤ 3) (h1 : p ∈ anc → Q (some (zi 1)) G) (h0 : p ∉ anc → Q (some (zi 0)) G) : zW (d + 1) 76 [zr 6 0 v, zi p, zi par] G Q := by
  refine zm_76 (zs_76_0 ?_)
  have key : ∀ (l : List Int) (q c : Int), 0 ≤ c → c + l.length ≤ 3 → CH acc l q → (p ∈ l → Q (some (zi 1)) G) → (p ∉ l → Q (some (zi 0)) G) → ∀ l2, zAt xT_76 (zW d) Q 5 [zr 6 0 v, zi p, l2, zi q, zi c] [] G := by
    intro l
    induction l with
    | nil =>
      intro q c c0 c3 hq h1 h0 l2
      have hq : q = -1 := hq
      apply zs_76_5 <;> intros
      case h2 => exact h0 (by simp)
      case h4 => exact h0 (by simp)
      all_goals first | omega | (unfold rg; simp at c3; omega)
    | cons y l ih =>
      intro q c c0 c3 hq h1 h0 l2
      obtain ⟨q0, q1, q2, q3⟩ := hq
      have hg := hm q q0 q1
      have hr := hr q q0 q1
      rw [List.length_cons] at c3
      apply zs_76_5 <;> intros
      case h2 => omega
      case h4 => omega
      case h6 =>
        rename_i hne
        rw [hg.2]
        have hx : p ≠ y := fun e => hne (by rw [hg.1, q2, e])
        refine ih _ _ (by omega) (by omega) q3 (fun h => h1 (List.mem_cons_of_mem _ h)) (fun h => h0 (fun h2 => ?_)) _
        rcases List.mem_cons.mp h2 with e | e
        · exact hx e
        · exact h e
      case h7 =>
        rename_i he
        refine h1 ?_
        rw [hg.1, q2] at he
        rw [← he]; exact List.mem_cons_self
      case h5 => exact ⟨by omega, hr, hp⟩
      all_goals first | omega | (unfold rg; omega)
  exact key anc par 0 (by omega) (by omega) hc h1 h0 _
theorem VC_push {G4 : zG} {acc : List EL} {y : EL} (h : VC G v w dr acc) (h2 : G4 v 2 = acc.length + 1) (hall : Q4M G4 (v + 94) (nar (allS w dr acc) (spv w dr y))) (hold : ∀ k i : Int, v + 3 ≤ k → k ≤ v + 7 → 0 ≤ i → i < acc.length → G4 k i = G k i) (hsp : ∀ i j : Int, 0 ≤ i → i < acc.length → G4 (((v + 8) + 1) + i) j = G (((v + 8) + 1) + i) j) (g3 : G4 (v + 3) acc.length = y.1) (g4 : G4 (v + 4) acc.length = y.2.2.1) (g5 : G4 (v + 5) acc.length = y.2.2.2.1) (g6 : G4 (v + 6) acc.length = y.2.2.2.2.1) (g7 : G4 (v + 7) acc.length = y.2.2.2.2.2) (g8 : Q4M G4 (((v + 8) + 1) + acc.length) (spv w dr y)) : VC G4 v w dr (acc ++ [y]) := by
  refine ⟨by rw [h2, List.length_append]; simp, by rw [allS_app]; exact hall, fun i i0 i1 => ?_⟩
  rw [List.length_append] at i1
  by_cases c : i = acc.length
  · rw [c, Int.toNat_natCast, getE_e]
    exact ⟨g3, g4, g5, g6, g7, g8⟩
  · have i2 : i < acc.length := by simp at i1; omega
    rw [getE_l (by omega)]
    obtain ⟨b1, b2, b3, b4, b5, b6⟩ := h.2.2 i i0 i2
    unfold Q4M at *
    rw [hold _ i (by omega) (by omega) i0 i2, hold _ i (by omega) (by omega) i0 i2, hold _ i (by omega) (by omega) i0 i2, hold _ i (by omega) (by omega) i0 i2, hold _ i (by omega) (by omega) i0 i2, hsp i _ i0 i2, hsp i _ i0 i2, hsp i _ i0 i2, hsp i _ i0 i2]
    exact ⟨b1, b2, b3, b4, b5, b6⟩
theorem nar_o4 {q : Q4} (h : Q4d q) : nar q o4 = q := by
  unfold nar o4 Q4d at *
  obtain ⟨⟨h1, h2⟩, ⟨h3, h4⟩, ⟨h5, h6⟩, h7, h8⟩ := h
  refine Prod.ext ?_ (Prod.ext ?_ (Prod.ext ?_ ?_)) <;> simp only <;> omega
/-- the body of what a way ends at -/
noncomputable def held (w : Int → Int) (dr : Int) (R : List Int × Int × Int) : Int := if R.2.1 = -1 then -1 else bo w dr R.2.1
theorem held_eq (wf : WF w) (p day : Int) : (held w dr (wy w dr p day) = -1 ↔ (wy w dr p day).2.2 ≠ 0) ∧ ((wy w dr p day).2.2 = 0 → held w dr (wy w dr p day) = bo w dr (wy w dr p day).2.1) := by
  unfold held wy
  rcases wy_end wf dr day 9 [] p day with h | h
  · rw [if_pos h.1]
    exact ⟨⟨fun _ => by omega, fun _ => rfl⟩, fun e => by omega⟩
  · rw [if_neg (by omega), h.2.2.2.2]
    have brg := bo_rg wf (dr := dr) h.1 h.2.1
    generalize hb : bo w dr (wyF w dr day 9 [] p day).2.1 = b at *
    by_cases c3 : w ((116 + (4 * (wyF w dr day 9 [] p day).2.1)) + 2) = 3
    · have : b = -1 := by rw [← hb]; unfold bo; rw [if_neg (by omega), if_neg (by omega)]
      rw [if_pos c3]
      exact ⟨⟨fun _ => by omega, fun _ => this⟩, fun e => by omega⟩
    · rw [if_neg c3]
      by_cases c : b = -1
      · rw [if_pos c]; exact ⟨⟨fun _ => by omega, fun _ => c⟩, fun e => by omega⟩
      · rw [if_neg c]; exact ⟨⟨fun e => absurd e c, fun e => absurd rfl e⟩, fun _ => rfl⟩
theorem wy_len8 (wf : WF w) (p day : Int) (p0 : 0 ≤ p) (p1 : p < w 2) : (wy w dr p day).1.length ≤ 8 := by
  have n2 := (WF_n wf).2.2.1
  have key : ∀ (n : Nat) (ms : List Int) (c dd : Int), ms.length + n = 8 → ms.length = cn (fun q => q ∈ ms) 8 → 0 ≤ c → c < w 2 → (wyF w dr day (n + 1) ms c dd).1.length ≤ n := by
    intro n
    induction n with
    | zero =>
      intro ms c dd hm hc c0 c1
      have hin : c ∈ ms := by
        by_cases h : c ∈ ms
        · exact h
        · have := ms_add hc c0 (by omega) h
          have := (cn_rg (fun q => q ∈ c :: ms) 8).2
          rw [List.length_cons] at *
          omega
      unfold wyF
      rw [if_pos hin]
      exact Nat.le_refl _
    | succ n ih =>
      intro ms c dd hm hc c0 c1
      unfold wyF
      split
      · exact Nat.zero_le _
      · rename_i hin
        split
        · exact Nat.zero_le _
        · rename_i hn
          split
          · rename_i hk
            have hs := (nr_rg (w := w) dr c dd).resolve_left hn
            have wr := (WF_s wf hs.1 hs.2.1).2.2.2.2 hk
            have := ih (c :: ms) (w ((116 + (4 * (nr w dr c dd))) + 3)) (if w 1 = 1 then (w ((116 + (4 * (nr w dr c dd))) + 1)) else day) (by rw [List.length_cons]; omega) (ms_add hc c0 (by omega) hin) (by omega) (by omega)
            show _ + 1 ≤ n + 1
            omega
          · show 0 + 1 ≤ n + 1; omega
  exact key 8 [] p day rfl (cn_0 8 (fun t _ _ h => by cases h)).symm p0 p1
set_option maxHeartbeats 16000000 in
theorem c75 (wf : WF w) (ha : 5 ≤ a ∧ a ≤ 54) (hx : 66 ≤ x ∧ x ≤ 79) (hv : 94 ≤ v ∧ v ≤ 190) (hI : IX G x a w dr) (hA : ARC G a w) (hvx : G v 0 = x) {acc : List EL} {anc : List Int} {p f dp par : Int} (hV : VC G v w dr acc) (hP : PGok w acc) (hC : CH acc anc par) (ha3 : anc.length ≤ 3) (p0 : 0 ≤ p) (p1 : p < w 2) (q0 : 0 ≤ f) (q1 : f ≤ 365) (hL : acc.length + 1 ≤ 85)
    (hn : p ∈ anc → ∀ G1, fr G G1 (SV v) → VC G1 v w dr (acc ++ [(p, f, -1, 5, dp, par)]) → Q (some (zi (-1))) G1)
    (hr : p ∉ anc → ∀ G1, fr G G1 (SV v) → VC G1 v w dr (acc ++ [(p, f, (wy w dr p f).2.1, (wy w dr p f).2.2, dp, par)]) → G1 (v + 1) 0 = x → G1 (v + 1) 3 = (wy w dr p f).2.1 → Q (some (zi (held w dr (wy w dr p f)))) G1) : zW (d + 4) 75 [zr 6 0 v, zi p, zi f, zi dp, zi par] G Q := by
  obtain ⟨n0, n1, n2, n3, n4, n5⟩ := WF_n wf
  have hrg := WF_rg wf
  have h2 := hV.1
  have fx : ∀ G1, fr G G1 (SV v) → IX G1 x a w dr ∧ ARC G1 a w ∧ G1 v 0 = x := fun G1 h => ⟨IX_fr hI (fun k j k0 k1 => h k j (by unfold SV; omega)), ARC_fr hA (fun k j k0 k1 => h k j (by unfold SV; omega)), (h _ _ (by unfold SV; omega)).trans hvx⟩
  refine zm_75 ?_
  apply zs_75_0 <;> intros
  case h1 => omega
  case h2 =>
    rw [h2]
    have f1 : fr G (zu (zu (zu (zu G v 2 (acc.length + 1)) (v + 3) acc.length p) (v + 6) acc.length dp) (v + 7) acc.length par) (SV v) := by
      repeat' (first | exact fr_refl _ _ | refine fr_u ?_ (by unfold SV; omega))
    have g2 : (zu (zu (zu (zu G v 2 (acc.length + 1)) (v + 3) acc.length p) (v + 6) acc.length dp) (v + 7) acc.length par) v 2 = acc.length + 1 := by (simp (disch := omega) only [zu_kj, zu_s, zl10, zl20, zl21, zl30, zl31, zl32, zl40, zl41, zl42, zl43, zl02, zl03, zl04, zl23, zl24, zl34, zl12, zl13, zl14, zl01])
    have g3 : (zu (zu (zu (zu G v 2 (acc.length + 1)) (v + 3) acc.length p) (v + 6) acc.length dp) (v + 7) acc.length par) (v + 3) acc.length = p := by (simp (disch := omega) only [zu_kj, zu_s, zl10, zl20, zl21, zl30, zl31, zl32, zl40, zl41, zl42, zl43, zl02, zl03, zl04, zl23, zl24, zl34, zl12, zl13, zl14, zl01])
    have g6 : (zu (zu (zu (zu G v 2 (acc.length + 1)) (v + 3) acc.length p) (v + 6) acc.length dp) (v + 7) acc.length par) (v + 6) acc.length = dp := by (simp (disch := omega) only [zu_kj, zu_s, zl10, zl20, zl21, zl30, zl31, zl32, zl40, zl41, zl42, zl43, zl02, zl03, zl04, zl23, zl24, zl34, zl12, zl13, zl14, zl01])
    have g7 : (zu (zu (zu (zu G v 2 (acc.length + 1)) (v + 3) acc.length p) (v + 6) acc.length dp) (v + 7) acc.length par) (v + 7) acc.length = par := by (simp (disch := omega) only [zu_kj, zu_s, zl10, zl20, zl21, zl30, zl31, zl32, zl40, zl41, zl42, zl43, zl02, zl03, zl04, zl23, zl24, zl34, zl12, zl13, zl14, zl01])
    have go : ∀ k i : Int, i ≠ acc.length → ¬ (k = v ∧ i = 2) → (zu (zu (zu (zu G v 2 (acc.length + 1)) (v + 3) acc.length p) (v + 6) acc.length dp) (v + 7) acc.length par) k i = G k i := fun k i h1 h2 => by
      rw [zu_j h1, zu_j h1, zu_j h1]
      unfold zu
      rw [if_neg h2]
    have go2 : ∀ k i : Int, v + 8 ≤ k → (zu (zu (zu (zu G v 2 (acc.length + 1)) (v + 3) acc.length p) (v + 6) acc.length dp) (v + 7) acc.length par) k i = G k i := fun k i h => by
      rw [zu_kj (by omega), zu_kj (by omega), zu_kj (by omega), zu_kj (by omega)]
    generalize zu (zu (zu (zu G v 2 (acc.length + 1)) (v + 3) acc.length p) (v + 6) acc.length dp) (v + 7) acc.length par = G1 at *
    obtain ⟨hI1, hA1, hx1⟩ := fx G1 f1
    refine c76 (acc := acc) (fun i i0 i1 => ?_) (by omega) (fun i i0 i1 => ?_) ⟨by omega, by omega⟩ hC ha3 (fun hin => ?_) (fun hin => ?_)
    · have := hV.2.2 i i0 i1
      rw [go _ _ (by omega) (by omega), go _ _ (by omega) (by omega)]; exact ⟨this.1, this.2.2.2.2.1⟩
    · rw [go _ _ (by omega) (by omega), (hV.2.2 i i0 i1).1]; have := PGok_get hP i0 i1; exact ⟨by omega, by omega⟩
    · apply zs_75_48 <;> intros
      case h5 =>
        have sp5 : spv w dr (p, f, -1, 5, dp, par) = o4 := by unfold spv; rw [if_neg (by show ¬ ((5 : Int) ≤ 1); omega)]
        refine hn hin _ (by repeat' (first | exact f1 | refine fr_u ?_ (by unfold SV; omega))) (VC_push hV ?_ ?_ (fun k i k0 k1 i0 i1 => ?_) (fun i j i0 i1 => ?_) ?_ ?_ ?_ ?_ ?_ ?_)
        · rw [zu_kj (by omega), zu_kj (by omega), zu_kj (by omega), zu_kj (by omega), zu_kj (by omega), zu_kj (by omega)]; exact g2
        · rw [sp5, nar_o4 (allS_d wf hI acc)]
          have := hV.2.1
          unfold Q4M at *
          refine ⟨?_, ?_, ?_, ?_⟩ <;> rw [zu_kj (by omega), zu_kj (by omega), zu_kj (by omega), zu_kj (by omega), zu_kj (by omega), zu_kj (by omega), go2 _ _ (by omega)]
          · exact this.1
          · exact this.2.1
          · exact this.2.2.1
          · exact this.2.2.2
        · rw [zu_kj (by omega), zu_kj (by omega), zu_kj (by omega), zu_kj (by omega), zu_j (by omega), zu_j (by omega), go _ _ (by omega) (by omega)]
        · rw [zu_kj (by omega), zu_kj (by omega), zu_kj (by omega), zu_kj (by omega), zu_kj (by omega), zu_kj (by omega), go2 _ _ (by omega)]
        · rw [zu_kj (by omega), zu_kj (by omega), zu_kj (by omega), zu_kj (by omega), zu_kj (by omega), zu_kj (by omega)]; exact g3
        · rw [zu_kj (by omega), zu_kj (by omega), zu_kj (by omega), zu_kj (by omega), zu_kj (by omega), zu_s]
        · rw [zu_kj (by omega), zu_kj (by omega), zu_kj (by omega), zu_kj (by omega), zu_s]
        · rw [zu_kj (by omega), zu_kj (by omega), zu_kj (by omega), zu_kj (by omega), zu_kj (by omega), zu_kj (by omega)]; exact g6
        · rw [zu_kj (by omega), zu_kj (by omega), zu_kj (by omega), zu_kj (by omega), zu_kj (by omega), zu_kj (by omega)]; exact g7
        · rw [sp5]; unfold Q4M o4
          refine ⟨?_, ?_, ?_, ?_⟩ <;> (simp (disch := omega) only [zu_kj, zu_s, zl10, zl20, zl21, zl30, zl31, zl32, zl40, zl41, zl42, zl43, zl02, zl03, zl04, zl23, zl24, zl34, zl12, zl13, zl14, zl01])
      all_goals first | omega | (unfold rg; omega)
    · apply zs_75_48 <;> intros
      case h3 =>
        rw [hx1]
        refine c89 wf ha hx hI1 hA1 (by omega) p0 p1 q0 q1 (fun G2 f2 hW => ?_)
        have h8 := wy_len8 wf (dr := dr) p f p0 p1
        have hsh := wyF_sho (w := w) dr f 9 [] p f
        have hrr := wy_rg wf dr p f
        have hheld : held w dr (wy w dr p f) = if (wy w dr p f).2.1 = -1 then -1 else bo w dr (wy w dr p f).2.1 := rfl
        have hsg : (wy w dr p f).2.1 ≠ -1 → sho w dr (w (116 + (4 * ((wy w dr p f).2.1)))) (wy w dr p f).2.1 := fun h => by
          rcases wy_end wf dr f 9 [] p f with e | e
          · exact absurd e.1 h
          · exact ⟨e.1, e.2.1, e.2.2.1, rfl⟩
        have hsp : ∀ y : EL, y.1 = p → y.2.1 = f → y.2.2.2.1 = (wy w dr p f).2.2 → spv w dr y = if (wy w dr p f).2.2 ≤ 1 then foldS w dr (wy w dr p f).1 o4 else o4 := fun y e1 e2 e3 => by unfold spv; rw [e1, e2, e3]
        have hsh : ∀ s ∈ (wy w dr p f).1, sho w dr (w (116 + (4 * s))) s := hsh
        generalize wy w dr p f = R at *
        have e3 : G2 (v + 1) 3 = R.2.1 := hW.2.2.1
        have e4 : G2 (v + 1) 4 = R.2.2 := hW.2.2.2.1
        apply zs_75_92 <;> intros
        case h1 => omega
        case h2 =>
          rw [zu_kj (show v + 1 ≠ v + 4 by omega), e3, e4]
          have f3 : fr G2 (zu (zu G2 (v + 4) acc.length R.2.1) (v + 5) acc.length R.2.2) (fun k _ => k = v + 4 ∨ k = v + 5) := fr_u (fr_u (fr_refl _ _) (Or.inl rfl)) (Or.inr rfl)
          have fG : fr G (zu (zu G2 (v + 4) acc.length R.2.1) (v + 5) acc.length R.2.2) (SV v) := fr_trans (fr_trans f1 f2 (by intro k j t; unfold SV; omega)) f3 (by intro k j t; unfold SV; omega)
          obtain ⟨hI3, hA3, hx3⟩ := fx _ fG
          have hW3 : WM (zu (zu G2 (v + 4) acc.length R.2.1) (v + 5) acc.length R.2.2) (v + 1) x R := by
            unfold WM at *
            rw [f3 _ _ (by omega), f3 _ _ (by omega), f3 _ _ (by omega), f3 _ _ (by omega), fr_k f3 (k := v + 1 + 1) (by omega)]
            exact hW
          refine c93 wf ha hx hI3 (by omega) (by omega) (by omega) (by omega) hW3 h8 hsh ⟨by omega, by omega⟩ (fun G4 f4 hq => ?_)
          have fG4 : fr G G4 (SV v) := fr_trans fG f4 (by intro k j t; unfold SV; omega)
          have a4 : ∀ k i, k ≠ ((v + 8) + 1) + acc.length → k ≠ v + 1 → k ≠ v + 2 → k ≠ v + 4 → k ≠ v + 5 → G4 k i = G1 k i := fun k i z1 z2 z3 z4 z5 => by
            rw [f4 k i (by omega), f3 k i (by omega), f2 k i (by omega)]
          have hall4 : Q4M G4 (v + 94) (allS w dr acc) := by
            have := hV.2.1
            unfold Q4M at *
            rw [a4 _ _ (by omega) (by omega) (by omega) (by omega) (by omega), a4 _ _ (by omega) (by omega) (by omega) (by omega) (by omega), a4 _ _ (by omega) (by omega) (by omega) (by omega) (by omega), a4 _ _ (by omega) (by omega) (by omega) (by omega) (by omega), go2 _ _ (by omega), go2 _ _ (by omega), go2 _ _ (by omega), go2 _ _ (by omega)]
            exact this
          have dsp : Q4d (if R.2.2 ≤ 1 then foldS w dr R.1 o4 else o4) := by
            split
            · exact foldS_d wf hI _ hsh _ o4_d
            · exact o4_d
          have dal := allS_d wf hI acc
          have w3 : G4 (v + 1) 3 = R.2.1 := by rw [f4 _ _ (by omega), f3 _ _ (by omega)]; exact e3
          have w0 : G4 (v + 1) 0 = x := by rw [f4 _ _ (by omega), f3 _ _ (by omega)]; exact hW.1
          have fin : ∀ G5, fr G4 G5 (fun k j => k = v + 94 ∧ 0 ≤ j ∧ j ≤ 3) → Q4M G5 (v + 94) (nar (allS w dr acc) (if R.2.2 ≤ 1 then foldS w dr R.1 o4 else o4)) → Q (some (zi (held w dr R))) G5 := by
            intro G5 f5 hq5
            have b5 : ∀ k i, k ≠ v + 94 → G5 k i = G4 k i := fun k i z => f5 k i (by omega)
            refine hr hin G5 (fr_trans fG4 f5 (by intro k j t; unfold SV; omega)) (VC_push hV ?_ ?_ (fun k i k0 k1 i0 i1 => ?_) (fun i j i0 i1 => ?_) ?_ ?_ ?_ ?_ ?_ ?_) ?_ ?_
            · rw [b5 _ _ (by omega), a4 _ _ (by omega) (by omega) (by omega) (by omega) (by omega)]; exact g2
            · rw [hsp _ rfl rfl rfl]; exact hq5
            · rw [b5 _ _ (by omega)]
              by_cases c45 : k = v + 4 ∨ k = v + 5
              · rw [f4 _ _ (by omega)]
                rw [zu_j (by omega), zu_j (by omega), f2 _ _ (by omega), go _ _ (by omega) (by omega)]
              · rw [a4 _ _ (by omega) (by omega) (by omega) (by omega) (by omega), go _ _ (by omega) (by omega)]
            · rw [b5 _ _ (by omega), a4 _ _ (by omega) (by omega) (by omega) (by omega) (by omega), go2 _ _ (by omega)]
            · rw [b5 _ _ (by omega), a4 _ _ (by omega) (by omega) (by omega) (by omega) (by omega)]; exact g3
            · rw [b5 _ _ (by omega), f4 _ _ (by omega), zu_kj (by omega), zu_s]
            · rw [b5 _ _ (by omega), f4 _ _ (by omega), zu_s]
            · rw [b5 _ _ (by omega), a4 _ _ (by omega) (by omega) (by omega) (by omega) (by omega)]; exact g6
            · rw [b5 _ _ (by omega), a4 _ _ (by omega) (by omega) (by omega) (by omega) (by omega)]; exact g7
            · rw [hsp _ rfl rfl rfl]
              unfold Q4M at *
              rw [b5 _ _ (by omega), b5 _ _ (by omega), b5 _ _ (by omega), b5 _ _ (by omega)]
              exact hq
            · rw [b5 _ _ (by omega)]; exact w0
            · rw [b5 _ _ (by omega)]; exact w3
          have hI4 := (fx G4 fG4).1
          obtain ⟨c1, c2, c3, c4⟩ := hall4
          obtain ⟨u1, u2, u3, u4⟩ := hq
          have dal2 := dal
          have dsp2 := dsp
          unfold Q4d at dal2 dsp2
          have fz : fr G4 (zu (zu (zu (zu G4 (v + 94) 0 (max (allS w dr acc).1 (if R.2.2 ≤ 1 then foldS w dr R.1 o4 else o4).1)) (v + 94) 1 (min (allS w dr acc).2.1 (if R.2.2 ≤ 1 then foldS w dr R.1 o4 else o4).2.1)) (v + 94) 2 (max (allS w dr acc).2.2.1 (if R.2.2 ≤ 1 then foldS w dr R.1 o4 else o4).2.2.1)) (v + 94) 3 (min (allS w dr acc).2.2.2 (if R.2.2 ≤ 1 then foldS w dr R.1 o4 else o4).2.2.2)) (fun k j => k = v + 94 ∧ 0 ≤ j ∧ j ≤ 3) := fr_u (fr_u (fr_u (fr_u (fr_refl _ _) ⟨rfl, by omega, by omega⟩) ⟨rfl, by omega, by omega⟩) ⟨rfl, by omega, by omega⟩) ⟨rfl, by omega, by omega⟩
          have qz : Q4M (zu (zu (zu (zu G4 (v + 94) 0 (max (allS w dr acc).1 (if R.2.2 ≤ 1 then foldS w dr R.1 o4 else o4).1)) (v + 94) 1 (min (allS w dr acc).2.1 (if R.2.2 ≤ 1 then foldS w dr R.1 o4 else o4).2.1)) (v + 94) 2 (max (allS w dr acc).2.2.1 (if R.2.2 ≤ 1 then foldS w dr R.1 o4 else o4).2.2.1)) (v + 94) 3 (min (allS w dr acc).2.2.2 (if R.2.2 ≤ 1 then foldS w dr R.1 o4 else o4).2.2.2)) (v + 94) (nar (allS w dr acc) (if R.2.2 ≤ 1 then foldS w dr R.1 o4 else o4)) := by
            unfold nar
            refine ⟨?_, ?_, ?_, ?_⟩ <;> (simp (disch := omega) only [zu_kj, zu_s, zl10, zl20, zl21, zl30, zl31, zl32, zl40, zl41, zl42, zl43, zl02, zl03, zl04, zl23, zl24, zl34, zl12, zl13, zl14, zl01])
          apply zs_75_134 <;> intros
          case h1 =>
            (simp (disch := omega) only [zu_kj, zu_s, zl10, zl20, zl21, zl30, zl31, zl32, zl40, zl41, zl42, zl43, zl02, zl03, zl04, zl23, zl24, zl34, zl12, zl13, zl14, zl01])
            rw [c1, c2, c3, c4, u1, u2, u3, u4, w3]
            refine ⟨by omega, ?_, ?_, ?_, ?_, ?_, ?_, ?_, ?_, ?_⟩ <;> (unfold rg; omega)
          case h2 =>
            rename_i h
            simp (disch := omega) only [zu_kj, zu_s, zl10, zl20, zl21, zl30, zl31, zl32, w0, w3, c1, c2, c3, c4, u1, u2, u3, u4] at h ⊢
            have := (hsg h).1
            exact ⟨by omega, by omega, by omega⟩
          case h3 =>
            rename_i h
            simp (disch := omega) only [zu_kj, zu_s, zl10, zl20, zl21, zl30, zl31, zl32, w0, w3, c1, c2, c3, c4, u1, u2, u3, u4] at h ⊢
            have := fin _ fz qz
            rw [hheld, if_neg h] at this
            rw [(hI4.2.2.2.2.1 _ (hsg h)).1.1]
            exact this
          case h4 =>
            rename_i h
            simp (disch := omega) only [zu_kj, zu_s, zl10, zl20, zl21, zl30, zl31, zl32, w0, w3, c1, c2, c3, c4, u1, u2, u3, u4] at h ⊢
            have := fin _ fz qz
            rw [hheld, if_pos h] at this
            exact this
        all_goals first | omega | (unfold rg; omega)
      all_goals first | omega | (unfold rg; omega)
end CL
