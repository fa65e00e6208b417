/-! THE REFERENCE: spans, what is common, judged -/
theorem RUN_lo {w : Int → Int} {dr s lo hi n mf lo2 hi2 n2 : Int} (h : RUN0 w dr s lo hi n) (a : RUNa w dr s lo mf) (g : RUN0 w dr s lo2 hi2 n2) : lo ≤ lo2 := by
  rcases Int.lt_or_le lo2 lo with c | c
  · exfalso
    obtain ⟨t, t1, t2⟩ := g.2.2.2.1
    have hq : qah w dr (w (116 + (4 * s))) lo 0 t := ⟨t1, by omega, by omega⟩
    rcases ah_is (w := w) dr (w (116 + (4 * s))) lo 0 with e | ⟨e1, e2⟩
    · exact e.2 t hq
    · have e3 : -(w ((116 + (4 * (ah w dr (w (116 + (4 * s))) lo 0))) + 1)) ≤ -(w ((116 + (4 * t)) + 1)) := e2 t hq
      have e4 := e1.2.1
      rcases a with a | a
      · have := e1.1.1; omega
      · have := g.2.2.1 _ ⟨e1.1, by omega, by have := g.2.1; have := h.1; omega⟩
        rcases this with z | z
        · rw [z] at e4; have := h.1; omega
        · exact a.2.1 z
  · exact c
theorem RUN_hi {w : Int → Int} {dr s lo hi n mt lo2 hi2 n2 : Int} (h : RUN0 w dr s lo hi n) (a : RUNb w dr s hi mt) (g : RUN0 w dr s lo2 hi2 n2) : hi2 ≤ hi := by
  rcases Int.lt_or_le hi hi2 with c | c
  · exfalso
    obtain ⟨t, t1, t2⟩ := g.2.2.2.2.1
    have hq : qbe w dr (w (116 + (4 * s))) hi t := ⟨t1, by omega⟩
    rcases be_is (w := w) dr (w (116 + (4 * s))) hi with e | ⟨e1, e2⟩
    · exact e.2 t hq
    · have e3 : (w ((116 + (4 * (be w dr (w (116 + (4 * s))) hi))) + 1)) ≤ (w ((116 + (4 * t)) + 1)) := e2 t hq
      have e4 := e1.2
      rcases a with a | a
      · have := e1.1.1; omega
      · have := g.2.2.1 _ ⟨e1.1, by have := g.1; have := h.2.1; omega, by omega⟩
        rcases this with z | z
        · rw [z] at e4; have := h.2.1; omega
        · exact a.2.1 z
  · exact c
theorem RUN_uniq {w : Int → Int} {dr s a b c e n a2 b2 c2 e2 n2 : Int} (h : IsRun w dr s a b c e n) (g : IsRun w dr s a2 b2 c2 e2 n2) : a = a2 ∧ b = b2 ∧ c = c2 ∧ e = e2 ∧ n = n2 := by
  have x1 : a = a2 := Int.le_antisymm (RUN_lo h.1 h.2.1 g.1) (RUN_lo g.1 g.2.1 h.1)
  have x2 : b = b2 := Int.le_antisymm (RUN_hi g.1 g.2.2 h.1) (RUN_hi h.1 h.2.2 g.1)
  subst x1 x2
  refine ⟨rfl, rfl, ?_, ?_, ?_⟩
  · rcases h.2.1 with p | p <;> rcases g.2.1 with q | q <;> omega
  · rcases h.2.2 with p | p <;> rcases g.2.2 with q | q <;> omega
  · rw [h.1.2.2.2.2.2, g.1.2.2.2.2.2]
abbrev RV : Type := Int × Int × Int × Int × Int
noncomputable def rn (w : Int → Int) (dr s : Int) : RV := (Classical.propDecidable (∃ r : RV, IsRun w dr s r.1 r.2.1 r.2.2.1 r.2.2.2.1 r.2.2.2.2)).casesOn (fun _ => (0, 0, 0, 0, 0)) (fun h => h.choose)
theorem rn_eq {w : Int → Int} {dr s a b c e n : Int} (h : IsRun w dr s a b c e n) : rn w dr s = (a, b, c, e, n) := by
  unfold rn
  cases Classical.propDecidable (∃ r : RV, IsRun w dr s r.1 r.2.1 r.2.2.1 r.2.2.2.1 r.2.2.2.2) with
  | isFalse z => exact absurd ⟨(a, b, c, e, n), h⟩ z
  | isTrue y =>
    obtain ⟨h1, h2, h3, h4, h5⟩ := RUN_uniq y.choose_spec h
    exact Prod.ext h1 (Prod.ext h2 (Prod.ext h3 (Prod.ext h4 h5)))
/-- all are days -/
theorem RUN_days {w : Int → Int} (wf : WF w) {dr s a b c e n : Int} (h : IsRun w dr s a b c e n) : 0 ≤ a ∧ a ≤ b ∧ b ≤ 365 ∧ 0 ≤ c ∧ c ≤ a ∧ b ≤ e ∧ e ≤ 365 := by
  obtain ⟨t, t1, t2⟩ := h.1.2.2.2.1
  obtain ⟨u, u1, u2⟩ := h.1.2.2.2.2.1
  have wt := WF_s wf t1.1 t1.2.1
  have wu := WF_s wf u1.1 u1.2.1
  have h1 := h.1.1
  have h2 := h.1.2.1
  refine ⟨by omega, by omega, by omega, ?_, ?_, ?_, ?_⟩
  · rcases h.2.1 with p | p
    · omega
    · rcases ah_rg (w := w) dr (w (116 + (4 * s))) a 0 with q | q
      · exact absurd q p.1
      · have := (WF_s wf q.1.1 q.1.2.1).2.1; omega
  · rcases h.2.1 with p | p
    · omega
    · rcases ah_rg (w := w) dr (w (116 + (4 * s))) a 0 with q | q
      · exact absurd q p.1
      · have := q.2.1; omega
  · rcases h.2.2 with p | p
    · omega
    · rcases be_rg (w := w) dr (w (116 + (4 * s))) b with q | q
      · exact absurd q p.1
      · have := q.2; omega
  · rcases h.2.2 with p | p
    · omega
    · rcases be_rg (w := w) dr (w (116 + (4 * s))) b with q | q
      · exact absurd q p.1
      · have := (WF_s wf q.1.1 q.1.2.1).2.1; omega
/-- a span: sure from, to, may from, to; whose -/
abbrev SP : Type := Int × Int × Int × Int × Int
abbrev s0p : SP := (0, 0, 0, 0, 0)
noncomputable def spS (w : Int → Int) (dr : Int) (e : Int) (s : Int) : SP := ((rn w dr s).1, (rn w dr s).2.1, (rn w dr s).2.2.1, (rn w dr s).2.2.2.1, e)
noncomputable def spE (w : Int → Int) (dr : Int) (e : Int) (x : EL) : List SP := if x.2.2.2.1 ≤ 1 then (wy w dr x.1 x.2.1).1.map (spS w dr e) else []
noncomputable def spL (w : Int → Int) (dr : Int) : List EL → Int → List SP
  | [], _ => []
  | x :: xs, e => spE w dr e x ++ spL w dr xs (e + 1)
def SM (G : zG) (L : List SP) : Prop := G 297 26 = L.length ∧ ∀ i : Int, 0 ≤ i → i < L.length → G 310 (4 * i) = (L.getD i.toNat s0p).1 ∧ G 310 ((4 * i) + 1) = (L.getD i.toNat s0p).2.1 ∧ G 310 ((4 * i) + 2) = (L.getD i.toNat s0p).2.2.1 ∧ G 310 ((4 * i) + 3) = (L.getD i.toNat s0p).2.2.2.1 ∧ G 311 i = (L.getD i.toNat s0p).2.2.2.2
def S189 (k j : Int) : Prop := k = 303 ∨ k = 310 ∨ k = 311 ∨ (k = 297 ∧ ((9 ≤ j ∧ j ≤ 11) ∨ (19 ≤ j ∧ j ≤ 23) ∨ j = 26))
theorem wyF_len {w : Int → Int} (dr fm : Int) : ∀ (n : Nat) (ms : List Int) (p day : Int), (wyF w dr fm n ms p day).1.length ≤ n := by
  intro n
  induction n with
  | zero => intro ms p day; exact Nat.le_refl _
  | succ n ih =>
    intro ms p day
    unfold wyF
    split
    · exact Nat.zero_le _
    · split
      · exact Nat.zero_le _
      · split
        · show _ + 1 ≤ n + 1; have := ih (p :: ms) (w ((116 + (4 * (nr w dr p day))) + 3)) (if w 1 = 1 then (w ((116 + (4 * (nr w dr p day))) + 1)) else fm); omega
        · show 0 + 1 ≤ n + 1; omega
theorem wyF_sho {w : Int → Int} (dr fm : Int) : ∀ (n : Nat) (ms : List Int) (p day : Int), ∀ s ∈ (wyF w dr fm n ms p day).1, sho w dr (w (116 + (4 * s))) s := by
  intro n
  induction n with
  | zero => intro ms p day s hs; cases hs
  | succ n ih =>
    intro ms p day s hs
    unfold wyF at hs
    split at hs
    · cases hs
    · split at hs
      · cases hs
      · rename_i h1 h2
        have hn : sho w dr p (nr w dr p day) := (nr_rg (w := w) dr p day).resolve_left h2
        have hn2 : sho w dr (w (116 + (4 * (nr w dr p day)))) (nr w dr p day) := ⟨hn.1, hn.2.1, hn.2.2.1, rfl⟩
        split at hs
        · rcases List.mem_cons.mp hs with e | e
          · rw [e]; exact hn2
          · exact ih _ _ _ s e
        · rcases List.mem_singleton.mp hs with e
          rw [e]; exact hn2
theorem getS_l {l m : List SP} {i : Nat} (h : i < l.length) : (l ++ m).getD i s0p = l.getD i s0p := by
  rw [List.getD_eq_getElem?_getD, List.getD_eq_getElem?_getD, List.getElem?_append_left h]
theorem getS_e {l : List SP} {x : SP} : (l ++ [x]).getD l.length s0p = x := by
  rw [List.getD_eq_getElem?_getD, List.getElem?_append_right (Nat.le_refl _)]
  simp
theorem SM_push {G G4 : zG} {L : List SP} {x : SP} (h : SM G L) (h26 : G4 297 26 = L.length + 1) (hold : ∀ i : Int, 0 ≤ i → i < 4 * L.length → G4 310 i = G 310 i) (hold2 : ∀ i : Int, 0 ≤ i → i < L.length → G4 311 i = G 311 i) (a : G4 310 (4 * L.length) = x.1) (b : G4 310 ((4 * L.length) + 1) = x.2.1) (c : G4 310 ((4 * L.length) + 2) = x.2.2.1) (d : G4 310 ((4 * L.length) + 3) = x.2.2.2.1) (e : G4 311 L.length = x.2.2.2.2) : SM G4 (L ++ [x]) := by
  refine ⟨by rw [h26, List.length_append]; simp, fun i i0 i1 => ?_⟩
  rw [List.length_append] at i1
  by_cases q : i = L.length
  · rw [q, Int.toNat_natCast, getS_e]
    exact ⟨a, b, c, d, e⟩
  · have i2 : i < L.length := by simp at i1; omega
    rw [getS_l (by omega), hold _ (by omega) (by omega), hold _ (by omega) (by omega), hold _ (by omega) (by omega), hold _ (by omega) (by omega), hold2 _ i0 i2]
    exact h.2 i i0 i2
section RE
variable {d : Nat} {G : zG} {Q : zQ}
set_option maxHeartbeats 8000000 in
theorem c189 {w : Int → Int} {dr : Int} (wf : WF w) (hdr : rg dr) (hw : G 298 = w) (hd : G 297 7 = dr) {L : List EL} (hV : VM G L) (hL : L.length ≤ 90) (hok : ∀ x ∈ L, (0 ≤ x.1 ∧ x.1 < w 2) ∧ (0 ≤ x.2.1 ∧ x.2.1 ≤ 365) ∧ rg x.2.2.2.1) (hQ : ∀ G1, fr G G1 S189 → SM G1 (spL w dr L 0) → Q none G1) : zW (d + 6) 189 [zr 9 0 297] G Q := by
  have f0 : ∀ G1, fr G G1 S189 → G1 298 = w ∧ G1 297 7 = dr ∧ VM G1 L := fun G1 h => ⟨(fr_k h (fun j e => by unfold S189 at e; omega)).trans hw, (h _ _ (fun e => by unfold S189 at e; omega)).trans hd, by
    refine ⟨(h _ _ (fun e => by unfold S189 at e; omega)).trans hV.1, fun i i0 i1 => ?_⟩
    rw [h 304 i (fun e => by unfold S189 at e; omega), h 305 i (fun e => by unfold S189 at e; omega), h 306 i (fun e => by unfold S189 at e; omega), h 307 i (fun e => by unfold S189 at e; omega), h 308 i (fun e => by unfold S189 at e; omega), h 309 i (fun e => by unfold S189 at e; omega)]
    exact hV.2 i i0 i1⟩
  obtain ⟨n0, n1, n2, n3, n4, n5⟩ := WF_n wf
  have hrg := WF_rg wf
  refine zm_189 (zs_189_0 ?_)
  have key : ∀ (rem pre : List EL) (cur : List SP) (G1 : zG), L = pre ++ rem → fr G G1 S189 → SM G1 cur → cur.length ≤ pre.length * 9 → spL w dr L 0 = cur ++ spL w dr rem pre.length → ∀ l2, zAt xT_189 (zW (d + 5)) Q 7 [zr 9 0 297, zi pre.length, l2] [] G1 := by
    intro rem
    induction rem with
    | nil =>
      intro pre cur G1 hpre h1 hS hc heq l2
      obtain ⟨y1, y2, y3⟩ := f0 G1 h1
      rw [List.append_nil] at hpre
      have y18 := y3.1
      rw [hpre] at y18 hL
      apply zs_189_7 <;> intros
      case h2 =>
        refine hQ G1 h1 ?_
        rw [heq]
        show SM G1 (cur ++ [])
        rw [List.append_nil]; exact hS
      all_goals first | omega | (repeat' first | exact hrg _ | assumption | (unfold rg; omega) | omega | refine And.intro ?_ ?_)
    | cons x rem ih =>
      intro pre cur G1 hpre h1 hS hc heq l2
      obtain ⟨y1, y2, y3⟩ := f0 G1 h1
      have hlen : L.length = pre.length + (rem.length + 1) := by rw [hpre, List.length_append, List.length_cons]
      have y18 := y3.1
      have hx : L.getD pre.length e0 = x := by
        rw [hpre, List.getD_eq_getElem?_getD, List.getElem?_append_right (Nat.le_refl _)]
        simp
      have hxi := hok x (by rw [hpre]; exact List.mem_append_right _ List.mem_cons_self)
      have hx4 := hxi.2.2
      have yv := y3.2 pre.length (by omega) (by omega)
      rw [Int.toNat_natCast, hx] at yv
      have nxt : ∀ (cur2 : List SP) (G2 : zG), fr G G2 S189 → SM G2 cur2 → cur2 = cur ++ spE w dr pre.length x → ∀ l2, zAt xT_189 (zW (d + 5)) Q 7 [zr 9 0 297, zi (pre.length + 1), l2] [] G2 := by
        intro cur2 G2 h2 hS2 he l2
        have hpl : ((pre ++ [x]).length : Int) = pre.length + 1 := by rw [List.length_append]; simp
        have := ih (pre ++ [x]) cur2 G2 (by rw [hpre, List.append_assoc]; rfl) h2 hS2 ?_ ?_ l2
        · rw [hpl] at this; exact this
        · rw [he, List.length_append, List.length_append]
          have : (spE w dr pre.length x).length ≤ 9 := by
            unfold spE
            split
            · rw [List.length_map]; exact wyF_len dr _ 9 _ _ _
            · exact Nat.zero_le _
          show _ ≤ (pre.length + 1) * 9
          omega
        · rw [heq, he, List.append_assoc, hpl]; rfl
      apply zs_189_7 <;> intros
      case h2 => omega
      case h5 =>
        rename_i h
        refine nxt cur G1 h1 hS ?_ _
        unfold spE
        rw [if_neg (by omega), List.append_nil]
      case h4 =>
        rename_i hst
        have hsp : spE w dr pre.length x = (wy w dr x.1 x.2.1).1.map (spS w dr pre.length) := by unfold spE; rw [if_pos (by omega)]
        rw [yv.1, yv.2.1]
        refine c182 (by rw [y1]; exact wf) (by rw [y2]; exact hdr) hxi.1.1 (by rw [y1]; exact hxi.1.2) hxi.2.1.1 hxi.2.1.2 (fun G2 h2 hW => zs_189_44 ?_)
        rw [y1, y2] at hW
        have hsho : ∀ s ∈ (wy w dr x.1 x.2.1).1, sho w dr (w (116 + (4 * s))) s := wyF_sho dr _ 9 _ _ _
        have hlw : (wy w dr x.1 x.2.1).1.length ≤ 9 := wyF_len dr _ 9 _ _ _
        rw [hsp] at nxt
        generalize (wy w dr x.1 x.2.1) = R at *
        have inner : ∀ (rs ps : List Int) (cu : List SP) (G3 : zG), R.1 = ps ++ rs → fr G G3 S189 → SM G3 cu → cu = cur ++ ps.map (spS w dr pre.length) → G3 297 9 = R.1.length → (∀ i : Int, 0 ≤ i → i < R.1.length → G3 303 i = R.1.getD i.toNat 0) → zAt xT_189 (zW (d + 5)) Q 46 [zr 9 0 297, zi pre.length, zi ps.length] [] G3 := by
          intro rs
          induction rs with
          | nil =>
            intro ps cu G3 hps h3 hS3 hcu h9 h303
            rw [List.append_nil] at hps
            rw [hps] at h9 hlw
            apply zs_189_46 <;> intros
            case h2 => refine nxt cu G3 h3 hS3 ?_ _; rw [hcu, hps]
            all_goals first | omega | (repeat' first | exact hrg _ | assumption | (unfold rg; omega) | omega | refine And.intro ?_ ?_)
          | cons s rs ihr =>
            intro ps cu G3 hps h3 hS3 hcu h9 h303
            obtain ⟨u1, u2, u3⟩ := f0 G3 h3
            have hl2 : R.1.length = ps.length + (rs.length + 1) := by rw [hps, List.length_append, List.length_cons]
            have hg : R.1.getD ps.length 0 = s := by
              rw [hps, List.getD_eq_getElem?_getD, List.getElem?_append_right (Nat.le_refl _)]
              simp
            have h303s := h303 ps.length (by omega) (by omega)
            rw [Int.toNat_natCast, hg] at h303s
            have hss := hsho s (by rw [hps]; exact List.mem_append_right _ List.mem_cons_self)
            have hcl : cu.length ≤ 809 := by
              rw [hcu, List.length_append, List.length_map]
              omega
            have h26 := hS3.1
            apply zs_189_46 <;> intros
            case h2 => omega
            case h4 =>
              rw [h303s]
              refine c188 (by rw [u1]; exact wf) (by rw [u2]; exact hdr) (by rw [u1, u2]; exact hss) (fun G4 h4 hR => ?_)
              rw [u1, u2] at hR
              have hr := rn_eq hR
              have g4 : ∀ k j, ¬ (k = 297 ∧ 19 ≤ j ∧ j ≤ 23) → G4 k j = G3 k j := fun k j t => h4 k j t
              have e26 : G4 297 26 = cu.length := by rw [g4 297 26 (by omega)]; exact h26
              apply zs_189_64 <;> intros
              case h2 =>
                rw [e26]
                have hpl : ((ps ++ [s]).length : Int) = ps.length + 1 := by rw [List.length_append]; simp
                have f4 : fr G G4 S189 := fr_trans h3 h4 (fun k j t => by unfold S188 at t; unfold S189; omega)
                have := ihr (ps ++ [s]) (cu ++ [spS w dr pre.length s]) (zu (zu (zu (zu (zu (zu G4 310 (4 * cu.length) (G4 297 19)) 310 ((4 * cu.length) + 1) (G4 297 20)) 310 ((4 * cu.length) + 2) (G4 297 21)) 310 ((4 * cu.length) + 3) (G4 297 22)) 311 cu.length pre.length) 297 26 (cu.length + 1)) (by rw [hps, List.append_assoc]; rfl) (by repeat' (first | exact f4 | refine fr_u ?_ (by unfold S189; omega))) ?_ ?_ ?_ ?_
                · rw [hpl] at this; exact this
                · refine SM_push (G := G3) hS3 ?_ (fun i i0 i1 => ?_) (fun i i0 i1 => ?_) ?_ ?_ ?_ ?_ ?_
                  · rw [zu_s]
                  · have := g4 310 i (by omega)
                    have e1 : i ≠ 4 * (cu.length : Int) := by omega
                    have e2 : i ≠ 4 * (cu.length : Int) + 1 := by omega
                    have e3 : i ≠ 4 * (cu.length : Int) + 2 := by omega
                    have e4 : i ≠ 4 * (cu.length : Int) + 3 := by omega
                    simp [zu, e1, e2, e3, e4, this]
                  · have := g4 311 i (by omega)
                    have e1 : i ≠ (cu.length : Int) := by omega
                    simp [zu, e1, this]
                  · unfold spS; rw [hr]
                    rw [zu_kj (by omega), zu_kj (by omega), zu_j (by omega), zu_j (by omega), zu_j (by omega), zu_s]
                  · unfold spS; rw [hr]
                    rw [zu_kj (by omega), zu_kj (by omega), zu_j (by omega), zu_j (by omega), zu_s]
                  · unfold spS; rw [hr]
                    rw [zu_kj (by omega), zu_kj (by omega), zu_j (by omega), zu_s]
                  · unfold spS; rw [hr]
                    rw [zu_kj (by omega), zu_kj (by omega), zu_s]
                  · unfold spS
                    rw [zu_kj (by omega), zu_s]
                · rw [hcu, List.map_append, List.append_assoc]; rfl
                · rw [zu_j (by omega), zu_kj (by omega), zu_kj (by omega), zu_kj (by omega), zu_kj (by omega), zu_kj (by omega), g4 297 9 (by omega)]; exact h9
                · intro i i0 i1
                  rw [zu_kj (by omega), zu_kj (by omega), zu_kj (by omega), zu_kj (by omega), zu_kj (by omega), zu_kj (by omega), g4 303 i (by omega)]
                  exact h303 i i0 i1
              all_goals (rw [e26]; (repeat' first | exact hrg _ | assumption | (unfold rg; omega) | omega | refine And.intro ?_ ?_))
            all_goals first | omega | (repeat' first | exact hrg _ | assumption | (unfold rg; omega) | omega | refine And.intro ?_ ?_)
        have f2 : fr G G2 S189 := fr_trans h1 h2 (fun k j t => by unfold S182 at t; unfold S189; omega)
        have hS2 : SM G2 cur := by
          have g2 : ∀ k j, k ≠ 303 → ¬ (k = 297 ∧ 9 ≤ j ∧ j ≤ 11) → G2 k j = G1 k j := fun k j a b => h2 k j (fun t => by unfold S182 at t; omega)
          refine ⟨by rw [g2 297 26 (by omega) (by omega)]; exact hS.1, fun i i0 i1 => ?_⟩
          rw [g2 310 _ (by omega) (by omega), g2 310 _ (by omega) (by omega), g2 310 _ (by omega) (by omega), g2 310 _ (by omega) (by omega), g2 311 _ (by omega) (by omega)]
          exact hS.2 i i0 i1
        exact inner R.1 [] cur G2 rfl f2 hS2 (by simp) hW.1 hW.2.2.2
      all_goals first | omega | (rw [yv.2.2.2.1]; (repeat' first | exact hrg _ | assumption | (unfold rg; omega) | omega | refine And.intro ?_ ?_)) | (repeat' first | exact hrg _ | assumption | (unfold rg; omega) | omega | refine And.intro ?_ ?_) | (refine ⟨by omega, ?_⟩; rw [yv.2.2.2.1]; exact hxi.2.2)
  exact key L [] [] _ rfl (fr_u (fr_refl _ _) (by unfold S189; omega)) ⟨by rw [zu_s]; rfl, fun i i0 i1 => by simp at i1; omega⟩ (by simp) rfl _
end RE
/-- the first, the last day in all of them; wh: 0 sure, 2 may; one aside -/
def fldA (wh : Int) (x : SP) : Int := if wh = 0 then x.1 else x.2.2.1
def fldB (wh : Int) (x : SP) : Int := if wh = 0 then x.2.1 else x.2.2.2.1
def cmA (wh but : Int) : List SP → Int → Int
  | [], a => a
  | x :: xs, a => cmA wh but xs (if x.2.2.2.2 = but then a else max a (fldA wh x))
def cmB (wh but : Int) : List SP → Int → Int
  | [], a => a
  | x :: xs, a => cmB wh but xs (if x.2.2.2.2 = but then a else min a (fldB wh x))
def S190 (k j : Int) : Prop := k = 297 ∧ 27 ≤ j ∧ j ≤ 28
def dayS (x : SP) : Prop := (0 ≤ x.1 ∧ x.1 ≤ 365) ∧ (0 ≤ x.2.1 ∧ x.2.1 ≤ 365) ∧ (0 ≤ x.2.2.1 ∧ x.2.2.1 ≤ 365) ∧ (0 ≤ x.2.2.2.1 ∧ x.2.2.2.1 ≤ 365) ∧ (0 ≤ x.2.2.2.2 ∧ x.2.2.2.2 ≤ 100)
section RE
variable {d : Nat} {G : zG} {Q : zQ}
set_option maxHeartbeats 4000000 in
theorem c190 {L : List SP} (hS : SM G L) (hL : L.length ≤ 810) (hok : ∀ x ∈ L, dayS x) {wh but : Int} (hwh : wh = 0 ∨ wh = 2) (hb : rg but) (hQ : ∀ G1, fr G G1 S190 → G1 297 27 = cmA wh but L 0 → G1 297 28 = cmB wh but L 365 → 0 ≤ G1 297 27 → G1 297 27 ≤ 365 → 0 ≤ G1 297 28 → G1 297 28 ≤ 365 → (G1 297 27 ≤ G1 297 28 → Q (some (zi 1)) G1) ∧ (G1 297 28 < G1 297 27 → Q (some (zi 0)) G1)) : zW (d + 1) 190 [zr 9 0 297, zi wh, zi but] G Q := by
  refine zm_190 (zs_190_0 ?_)
  have key : ∀ (rem pre : List SP) (G1 : zG), L = pre ++ rem → fr G G1 S190 → 0 ≤ G1 297 27 → G1 297 27 ≤ 365 → 0 ≤ G1 297 28 → G1 297 28 ≤ 365 → cmA wh but L 0 = cmA wh but rem (G1 297 27) → cmB wh but L 365 = cmB wh but rem (G1 297 28) → zAt xT_190 (zW d) Q 14 [zr 9 0 297, zi wh, zi but, zi pre.length] [] G1 := by
    intro rem
    induction rem with
    | nil =>
      intro pre G1 hp h1 a0 a1 b0 b1 hA hB
      rw [List.append_nil] at hp
      have h26 : G1 297 26 = pre.length := by rw [h1 297 26 (fun e => by unfold S190 at e; omega), hS.1, hp]
      rw [hp] at hL
      apply zs_190_14 <;> intros
      case h3 => exact (hQ G1 h1 hA.symm hB.symm a0 a1 b0 b1).2 (by assumption)
      case h4 => exact (hQ G1 h1 hA.symm hB.symm a0 a1 b0 b1).1 (by assumption)
      all_goals first | omega | (unfold rg; omega)
    | cons x rem ih =>
      intro pre G1 hp h1 a0 a1 b0 b1 hA hB
      have hlen : L.length = pre.length + (rem.length + 1) := by rw [hp, List.length_append, List.length_cons]
      have h26 : G1 297 26 = L.length := by rw [h1 297 26 (fun e => by unfold S190 at e; omega), hS.1]
      have hx : L.getD pre.length s0p = x := by
        rw [hp, List.getD_eq_getElem?_getD, List.getElem?_append_right (Nat.le_refl _)]
        simp
      have hxi := hok x (by rw [hp]; exact List.mem_append_right _ List.mem_cons_self)
      have hs := hS.2 pre.length (by omega) (by omega)
      rw [Int.toNat_natCast, hx] at hs
      have g1 : ∀ k j, k ≠ 297 → G1 k j = G k j := fun k j hk => h1 k j (fun e => by unfold S190 at e; omega)
      have hpl : ((pre ++ [x]).length : Int) = pre.length + 1 := by rw [List.length_append]; simp
      have eA : G1 310 ((4 * pre.length) + wh) = fldA wh x := by
        unfold fldA
        rcases hwh with e | e
        · rw [e, if_pos rfl, g1 _ _ (by omega), Int.add_zero]; exact hs.1
        · rw [e, if_neg (by omega), g1 _ _ (by omega)]; exact hs.2.2.1
      have eB : G1 310 (((4 * pre.length) + wh) + 1) = fldB wh x := by
        unfold fldB
        rcases hwh with e | e
        · rw [e, if_pos rfl, g1 _ _ (by omega), Int.add_zero]; exact hs.2.1
        · rw [e, if_neg (by omega), g1 _ _ (by omega), show (4 * (pre.length : Int) + 2 + 1) = 4 * pre.length + 3 by omega]; exact hs.2.2.2.1
      have rA : 0 ≤ fldA wh x ∧ fldA wh x ≤ 365 := by unfold fldA; unfold dayS at hxi; split <;> omega
      have rB : 0 ≤ fldB wh x ∧ fldB wh x ≤ 365 := by unfold fldB; unfold dayS at hxi; split <;> omega
      have e311 : G1 311 pre.length = x.2.2.2.2 := by rw [g1 _ _ (by omega)]; exact hs.2.2.2.2
      have r311 := hxi.2.2.2.2
      have hA2 : cmA wh but L 0 = cmA wh but rem (if x.2.2.2.2 = but then G1 297 27 else max (G1 297 27) (fldA wh x)) := hA
      have hB2 : cmB wh but L 365 = cmB wh but rem (if x.2.2.2.2 = but then G1 297 28 else min (G1 297 28) (fldB wh x)) := hB
      apply zs_190_14 <;> intros
      case h7 =>
        rename_i hne
        rw [e311] at hne
        rw [if_neg hne] at hA2 hB2
        rw [eA, eB]
        have := ih (pre ++ [x]) (zu (zu G1 297 27 (max (G1 297 27) (fldA wh x))) 297 28 (min (G1 297 28) (fldB wh x))) (by rw [hp, List.append_assoc]; rfl) (fr_u (fr_u h1 ⟨rfl, by omega, by omega⟩) ⟨rfl, by omega, by omega⟩) (by rw [zu_j (by omega), zu_s]; omega) (by rw [zu_j (by omega), zu_s]; omega) (by rw [zu_s]; omega) (by rw [zu_s]; omega) (by rw [zu_j (by omega), zu_s]; exact hA2) (by rw [zu_s]; exact hB2)
        rw [hpl] at this
        exact this
      case h8 =>
        rename_i he
        rw [e311] at he
        rw [if_pos he] at hA2 hB2
        have := ih (pre ++ [x]) G1 (by rw [hp, List.append_assoc]; rfl) h1 a0 a1 b0 b1 hA2 hB2
        rw [hpl] at this
        exact this
      case h5 => rw [e311]; exact ⟨by omega, by unfold rg; omega, hb⟩
      case h6 => rw [eA, eB]; refine ⟨by omega, ?_, ?_, by omega, ?_, ?_⟩ <;> (unfold rg; omega)
      all_goals first | omega | (unfold rg; omega)
  exact key L [] _ rfl (fr_u (fr_u (fr_refl _ _) ⟨rfl, by omega, by omega⟩) ⟨rfl, by omega, by omega⟩) (by rw [zu_j (by omega), zu_s]; omega) (by rw [zu_j (by omega), zu_s]; omega) (by rw [zu_s]; omega) (by rw [zu_s]; omega) (by rw [zu_j (by omega), zu_s]) (by rw [zu_s])
end RE
