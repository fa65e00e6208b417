/-! THE CALLS: clash, culprit -/
def clsh (a b : Q4) : Prop := b.2.2.2 < a.2.2.1 ∨ a.2.2.2 < b.2.2.1
def CLP (w : Int → Int) (dr : Int) (L : List EL) (t : Int) : Prop := ∃ i j : Nat, i < j ∧ j < L.length ∧ clsh (spv w dr (L.getD i e0)) (spv w dr (L.getD j e0)) ∧ t = 100 * i + j
def CUP (w : Int → Int) (dr : Int) (L : List EL) (t : Int) : Prop := 0 ≤ t ∧ t < L.length ∧ (foldB w dr t L 0 o4).2.2.1 ≤ (foldB w dr t L 0 o4).2.2.2
noncomputable def q_clash (w : Int → Int) (p day : Int) : Int := bP (okPD w p day) (mn (fun t => t) (CLP w (-1) (vw w (-1) p day))) (-2)
noncomputable def q_culprit (w : Int → Int) (p day : Int) : Int := bP (okPD w p day) (if jdg w (-1) p day = 0 then mn (fun t => t) (CUP w (-1) (vw w (-1) p day)) else -1) (-2)
section SPEC
variable {w : Int → Int} {dr : Int}
theorem spL_mem : ∀ (L : List EL) (e : Int) (x : SP), x ∈ spL w dr L e ↔ ∃ k : Nat, k < L.length ∧ (L.getD k e0).2.2.2.1 ≤ 1 ∧ ∃ s ∈ (wy w dr (L.getD k e0).1 (L.getD k e0).2.1).1, x = spS w dr (e + k) s
  | [], e, x => ⟨fun h => (by cases h), fun ⟨k, h, _⟩ => absurd h (Nat.not_lt_zero _)⟩
  | y :: ys, e, x => by
    show x ∈ spE w dr e y ++ spL w dr ys (e + 1) ↔ _
    rw [List.mem_append, spL_mem ys (e + 1) x]
    constructor
    · rintro (h | ⟨k, hk, h1, s, hs, hx⟩)
      · unfold spE at h
        split at h
        · rename_i h1
          obtain ⟨s, hs, rfl⟩ := List.mem_map.mp h
          exact ⟨0, Nat.succ_pos _, h1, s, hs, by show _ = spS w dr (e + 0) s; rw [Int.add_zero]⟩
        · cases h
      · refine ⟨k + 1, Nat.succ_lt_succ hk, h1, s, hs, ?_⟩
        rw [hx, show ((k + 1 : Nat) : Int) = 1 + k by omega, Int.add_assoc]
    · rintro ⟨k, hk, h1, s, hs, hx⟩
      cases k with
      | zero =>
        refine Or.inl ?_
        have h1 : y.2.2.2.1 ≤ 1 := h1
        have hs : s ∈ (wy w dr y.1 y.2.1).1 := hs
        unfold spE
        rw [if_pos h1]
        refine List.mem_map.mpr ⟨s, hs, ?_⟩
        rw [hx]; show _ = spS w dr (e + 0) s; rw [Int.add_zero]
      | succ k =>
        refine Or.inr ⟨k, Nat.lt_of_succ_lt_succ hk, h1, s, hs, ?_⟩
        rw [hx, show ((k + 1 : Nat) : Int) = 1 + k by omega, Int.add_assoc]
theorem spL_sort : ∀ (L : List EL) (e : Int), List.Pairwise (fun a b : SP => a.2.2.2.2 ≤ b.2.2.2.2) (spL w dr L e)
  | [], _ => List.Pairwise.nil
  | y :: ys, e => by
    show List.Pairwise _ (spE w dr e y ++ spL w dr ys (e + 1))
    have h1 : ∀ x ∈ spE w dr e y, x.2.2.2.2 = e := fun x hx => by
      unfold spE at hx
      split at hx
      · obtain ⟨s, _, rfl⟩ := List.mem_map.mp hx; rfl
      · cases hx
    have h2 : ∀ x ∈ spL w dr ys (e + 1), e + 1 ≤ x.2.2.2.2 := fun x hx => by
      obtain ⟨k, _, _, s, _, rfl⟩ := (spL_mem ys (e + 1) x).mp hx
      show e + 1 ≤ e + 1 + k
      omega
    rw [List.pairwise_append]
    refine ⟨?_, spL_sort ys (e + 1), fun a ha b hb => ?_⟩
    · rw [List.pairwise_iff_getElem]
      intro i j hi hj _
      rw [h1 _ (List.getElem_mem hi), h1 _ (List.getElem_mem hj)]
      exact Int.le_refl _
    · have := h1 a ha
      have := h2 b hb
      omega
theorem getS_mem {S : List SP} {i : Nat} (h : i < S.length) : S.getD i s0p ∈ S := by
  rw [List.getD_eq_getElem?_getD, List.getElem?_eq_getElem h]; exact List.getElem_mem h
theorem getS_ex {S : List SP} {x : SP} (h : x ∈ S) : ∃ i, i < S.length ∧ S.getD i s0p = x := by
  obtain ⟨i, hi, rfl⟩ := List.getElem_of_mem h
  exact ⟨i, hi, by rw [List.getD_eq_getElem?_getD, List.getElem?_eq_getElem hi]; rfl⟩
theorem spL_le {L : List EL} {e : Int} {i j : Nat} (hij : i ≤ j) (hj : j < (spL w dr L e).length) : ((spL w dr L e).getD i s0p).2.2.2.2 ≤ ((spL w dr L e).getD j s0p).2.2.2.2 := by
  rcases Nat.lt_or_eq_of_le hij with h | h
  · have := List.pairwise_iff_getElem.mp (spL_sort (w := w) (dr := dr) L e) i j (by omega) hj h
    rw [List.getD_eq_getElem?_getD, List.getD_eq_getElem?_getD, List.getElem?_eq_getElem hj, List.getElem?_eq_getElem (by omega : i < _)]
    exact this
  · rw [h]; exact Int.le_refl _
theorem foldS_lo (X : Int) : ∀ (l : List Int) (q : Q4), X < (foldS w dr l q).2.2.1 ↔ X < q.2.2.1 ∨ ∃ s ∈ l, X < (rq w dr s).2.2.1
  | [], q => ⟨Or.inl, fun h => h.elim id (fun ⟨_, h, _⟩ => (by cases h))⟩
  | s :: l, q => by
    show X < (foldS w dr l (nar q (rq w dr s))).2.2.1 ↔ _
    rw [foldS_lo X l]
    have e : X < (nar q (rq w dr s)).2.2.1 ↔ X < q.2.2.1 ∨ X < (rq w dr s).2.2.1 := by unfold nar; simp only; omega
    rw [e]
    constructor
    · rintro ((h | h) | ⟨t, ht, h⟩)
      · exact Or.inl h
      · exact Or.inr ⟨s, List.mem_cons_self, h⟩
      · exact Or.inr ⟨t, List.mem_cons_of_mem _ ht, h⟩
    · rintro (h | ⟨t, ht, h⟩)
      · exact Or.inl (Or.inl h)
      · rcases List.mem_cons.mp ht with rfl | ht
        · exact Or.inl (Or.inr h)
        · exact Or.inr ⟨t, ht, h⟩
theorem foldS_hi (X : Int) : ∀ (l : List Int) (q : Q4), (foldS w dr l q).2.2.2 < X ↔ q.2.2.2 < X ∨ ∃ s ∈ l, (rq w dr s).2.2.2 < X
  | [], q => ⟨Or.inl, fun h => h.elim id (fun ⟨_, h, _⟩ => (by cases h))⟩
  | s :: l, q => by
    show (foldS w dr l (nar q (rq w dr s))).2.2.2 < X ↔ _
    rw [foldS_hi X l]
    have e : (nar q (rq w dr s)).2.2.2 < X ↔ q.2.2.2 < X ∨ (rq w dr s).2.2.2 < X := by unfold nar; simp only; omega
    rw [e]
    constructor
    · rintro ((h | h) | ⟨t, ht, h⟩)
      · exact Or.inl h
      · exact Or.inr ⟨s, List.mem_cons_self, h⟩
      · exact Or.inr ⟨t, List.mem_cons_of_mem _ ht, h⟩
    · rintro (h | ⟨t, ht, h⟩)
      · exact Or.inl (Or.inl h)
      · rcases List.mem_cons.mp ht with rfl | ht
        · exact Or.inl (Or.inr h)
        · exact Or.inr ⟨t, ht, h⟩
theorem spv_lo (wf : WF w) (y : EL) {X : Int} (h0 : 0 ≤ X) : X < (spv w dr y).2.2.1 ↔ y.2.2.2.1 ≤ 1 ∧ ∃ s ∈ (wy w dr y.1 y.2.1).1, X < (rq w dr s).2.2.1 := by
  unfold spv
  split
  · rename_i h
    rw [foldS_lo]
    exact ⟨fun z => ⟨h, z.resolve_left (by show ¬ X < 0; omega)⟩, fun z => Or.inr z.2⟩
  · rename_i h
    exact ⟨fun z => absurd z (by show ¬ X < 0; omega), fun z => absurd z.1 h⟩
theorem spv_hi (wf : WF w) (y : EL) {X : Int} (h0 : X ≤ 365) : (spv w dr y).2.2.2 < X ↔ y.2.2.2.1 ≤ 1 ∧ ∃ s ∈ (wy w dr y.1 y.2.1).1, (rq w dr s).2.2.2 < X := by
  unfold spv
  split
  · rename_i h
    rw [foldS_hi]
    exact ⟨fun z => ⟨h, z.resolve_left (by show ¬ 365 < X; omega)⟩, fun z => Or.inr z.2⟩
  · rename_i h
    exact ⟨fun z => absurd z (by show ¬ 365 < X; omega), fun z => absurd z.1 h⟩
def badS (x y : SP) : Prop := x.2.2.2.2 ≠ y.2.2.2.2 ∧ min x.2.2.2.1 y.2.2.2.1 < max x.2.2.1 y.2.2.1
def CSP (S : List SP) (t : Int) : Prop := ∃ i j : Nat, i < j ∧ j < S.length ∧ badS (S.getD i s0p) (S.getD j s0p) ∧ t = 100 * (S.getD i s0p).2.2.2.2 + (S.getD j s0p).2.2.2.2
theorem CSP_iff (wf : WF w) (L : List EL) (t : Int) : CSP (spL w dr L 0) t ↔ CLP w dr L t := by
  constructor
  · rintro ⟨i, j, hij, hj, ⟨hne, hb⟩, ht⟩
    have hle := spL_le (w := w) (dr := dr) (L := L) (e := 0) (Nat.le_of_lt hij) hj
    have mi := getS_mem (S := spL w dr L 0) (i := i) (by omega)
    have mj := getS_mem (S := spL w dr L 0) (i := j) hj
    generalize (spL w dr L 0).getD i s0p = x at *
    generalize (spL w dr L 0).getD j s0p = y at *
    obtain ⟨k, hk, k1, s, hs, rfl⟩ := (spL_mem L 0 x).mp mi
    obtain ⟨m, hm, m1, u, hu, rfl⟩ := (spL_mem L 0 y).mp mj
    have hs' := rq_day wf (wyF_sho dr _ 9 _ _ _ s hs)
    have hu' := rq_day wf (wyF_sho dr _ 9 _ _ _ u hu)
    have hne : (0 : Int) + k ≠ 0 + m := hne
    have hle : (0 : Int) + k ≤ 0 + m := hle
    have ht : t = 100 * (0 + (k : Int)) + (0 + (m : Int)) := ht
    have hb : min (rq w dr s).2.2.2 (rq w dr u).2.2.2 < max (rq w dr s).2.2.1 (rq w dr u).2.2.1 := hb
    have dk := spv_day (dr := dr) wf (L.getD k e0)
    have dm := spv_day (dr := dr) wf (L.getD m e0)
    unfold Q4d at *
    refine ⟨k, m, by omega, hm, ?_, by omega⟩
    by_cases c : (rq w dr u).2.2.2 < (rq w dr s).2.2.1
    · refine Or.inl ((spv_lo wf _ (by omega)).mpr ⟨k1, s, hs, ?_⟩)
      exact (spv_hi wf _ (by omega)).mpr ⟨m1, u, hu, c⟩
    · refine Or.inr ((spv_lo wf _ (by omega)).mpr ⟨m1, u, hu, ?_⟩)
      exact (spv_hi wf _ (by omega)).mpr ⟨k1, s, hs, by omega⟩
  · rintro ⟨i, j, hij, hj, hc, ht⟩
    have di := spv_day (dr := dr) wf (L.getD i e0)
    have dj := spv_day (dr := dr) wf (L.getD j e0)
    unfold Q4d at di dj
    have key : ∃ s ∈ (wy w dr (L.getD i e0).1 (L.getD i e0).2.1).1, ∃ u ∈ (wy w dr (L.getD j e0).1 (L.getD j e0).2.1).1, (L.getD i e0).2.2.2.1 ≤ 1 ∧ (L.getD j e0).2.2.2.1 ≤ 1 ∧ min (rq w dr s).2.2.2 (rq w dr u).2.2.2 < max (rq w dr s).2.2.1 (rq w dr u).2.2.1 := by
      rcases hc with hc | hc
      · obtain ⟨i1, s, hs, h⟩ := (spv_lo wf _ (by omega)).mp hc
        have hs' := rq_day wf (wyF_sho dr _ 9 _ _ _ s hs)
        unfold Q4d at hs'
        obtain ⟨j1, u, hu, h⟩ := (spv_hi wf _ (by omega)).mp h
        exact ⟨s, hs, u, hu, i1, j1, by omega⟩
      · obtain ⟨i1, s, hs, h⟩ := (spv_lo wf _ (by omega)).mp hc
        have hs' := rq_day wf (wyF_sho dr _ 9 _ _ _ s hs)
        unfold Q4d at hs'
        obtain ⟨j1, u, hu, h⟩ := (spv_hi wf _ (by omega)).mp h
        exact ⟨u, hu, s, hs, j1, i1, by omega⟩
    obtain ⟨s, hs, u, hu, i1, j1, h⟩ := key
    obtain ⟨a, ha, ea⟩ := getS_ex ((spL_mem L 0 (spS w dr (0 + i) s)).mpr ⟨i, by omega, i1, s, hs, rfl⟩)
    obtain ⟨b, hb, eb⟩ := getS_ex ((spL_mem L 0 (spS w dr (0 + j) u)).mpr ⟨j, by omega, j1, u, hu, rfl⟩)
    refine ⟨a, b, ?_, hb, ?_, ?_⟩
    · rcases Nat.lt_or_ge a b with c | c
      · exact c
      · have := spL_le (w := w) (dr := dr) (L := L) (e := 0) c ha
        rw [ea, eb] at this
        have this : (0 : Int) + j ≤ 0 + i := this
        omega
    · rw [ea, eb]
      refine ⟨?_, h⟩
      show (0 : Int) + i ≠ 0 + j
      omega
    · rw [ea, eb]
      show t = 100 * (0 + (i : Int)) + (0 + (j : Int))
      omega
theorem nar_in {a b : Q4} (h : a.2.2.1 ≤ a.1 ∧ a.2.1 ≤ a.2.2.2) (g : b.2.2.1 ≤ b.1 ∧ b.2.1 ≤ b.2.2.2) : (nar a b).2.2.1 ≤ (nar a b).1 ∧ (nar a b).2.1 ≤ (nar a b).2.2.2 := by
  unfold nar; simp only; omega
theorem o4_in : o4.2.2.1 ≤ o4.1 ∧ o4.2.1 ≤ o4.2.2.2 := by unfold o4; exact ⟨Int.le_refl _, Int.le_refl _⟩
theorem spv_in (wf : WF w) (y : EL) : (spv w dr y).2.2.1 ≤ (spv w dr y).1 ∧ (spv w dr y).2.1 ≤ (spv w dr y).2.2.2 := by
  unfold spv
  split
  · have key : ∀ (l : List Int), (∀ s ∈ l, sho w dr (w (116 + (4 * s))) s) → ∀ q : Q4, (q.2.2.1 ≤ q.1 ∧ q.2.1 ≤ q.2.2.2) → (foldS w dr l q).2.2.1 ≤ (foldS w dr l q).1 ∧ (foldS w dr l q).2.1 ≤ (foldS w dr l q).2.2.2 := by
      intro l
      induction l with
      | nil => intro _ q hq; exact hq
      | cons s l ih => intro hl q hq; exact ih (fun t ht => hl t (List.mem_cons_of_mem _ ht)) _ (nar_in hq (by have := rq_day wf (hl s List.mem_cons_self); exact ⟨this.2.1, this.2.2.1⟩))
    exact key _ (wyF_sho dr _ 9 _ _ _) _ o4_in
  · exact o4_in
theorem foldB_in (wf : WF w) {but : Int} : ∀ (L : List EL) (e : Int) (q : Q4), (q.2.2.1 ≤ q.1 ∧ q.2.1 ≤ q.2.2.2) → (foldB w dr but L e q).2.2.1 ≤ (foldB w dr but L e q).1 ∧ (foldB w dr but L e q).2.1 ≤ (foldB w dr but L e q).2.2.2 := by
  intro L
  induction L with
  | nil => intro e q hq; exact hq
  | cons y L ih => intro e q hq; refine ih _ _ ?_; split; exact hq; exact nar_in hq (spv_in wf y)
end SPEC
section RE
variable {d : Nat} {G : zG} {Q : zQ} {w : Int → Int}
set_option maxHeartbeats 4000000 in
theorem r_clash (wf : WF w) (hw : G 298 = w) (hd : G 297 7 = -1) {p day : Int} (hp : rg p) (hdd : rg day) (hQ : ∀ G1, fr G G1 SR → Q (some (zi (q_clash w p day))) G1) : zW (d + 10) 233 [zr 9 0 297, zi p, zi day] G Q := by
  subst hw
  obtain ⟨n0, n1, n2, n3, n4, n5⟩ := WF_n wf; have hrg := WF_rg wf
  unfold q_clash at hQ
  refine zm_233 ?_
  by_cases hg : okPD (G 298) p day
  · rw [bP_t hg] at hQ
    have hg' := hg
    unfold okPD at hg'
    apply zs_233_0 <;> intros
    case h3 =>
      refine zW_m _ _ _ _ _ _ (fun r G1 z => zq0_m (fun y => zs_233_18 y) z) (c_vs (dr := -1) (m := 3) wf ⟨by omega, by omega⟩ rfl hd hg (fun G1 f1 hV hS => zs_233_22 ?_))
      have hQ1 := hQ G1 f1
      have hl := vw_len (dr := -1) wf p day
      have hsl := spL_len (w := G 298) (dr := -1) (vw (G 298) (-1) p day) 0
      have hday := spL_day (dr := -1) wf (vw (G 298) (-1) p day) 0 (by omega) (by omega)
      have hiff := CSP_iff (dr := -1) wf (vw (G 298) (-1) p day)
      have hsort := fun i j => spL_le (w := G 298) (dr := -1) (L := vw (G 298) (-1) p day) (e := 0) (i := i) (j := j)
      generalize vw (G 298) (-1) p day = L at *
      generalize spL (G 298) (-1) L 0 = S at *
      have h26 := hS.1
      have at' : ∀ i : Nat, i < S.length → dayS (S.getD i s0p) ∧ G1 310 ((4 * (i : Int)) + 2) = (S.getD i s0p).2.2.1 ∧ G1 310 ((4 * (i : Int)) + 3) = (S.getD i s0p).2.2.2.1 ∧ G1 311 i = (S.getD i s0p).2.2.2.2 := fun i hi => by
        have := hS.2 i (by omega) (by omega)
        rw [Int.toNat_natCast] at this
        exact ⟨hday _ (getS_mem hi), this.2.2.1, this.2.2.2.1, this.2.2.2.2⟩
      have key : ∀ (r i : Nat), i + r = S.length → ∀ b, rg b → IsMn (fun t => t) (fun t => ∃ a c : Nat, a < c ∧ c < S.length ∧ badS (S.getD a s0p) (S.getD c s0p) ∧ t = 100 * (S.getD a s0p).2.2.2.2 + (S.getD c s0p).2.2.2.2 ∧ a < i) b → ∀ l1 l2 l5 l6, zAt xT_233 (zW (d + 9)) Q 27 [zr 9 0 297, l1, l2, zi b, zi i, l5, l6] [] G1 := by
        intro r
        induction r with
        | zero =>
          intro i hi b hb hm l1 l2 l5 l6
          apply zs_233_27 <;> intros
          case h2 =>
            have e : mn (fun t => t) (CLP (G 298) (-1) L) = b := mn_eq (fun _ _ _ _ h => h) (by
              refine hm.imp (fun h => ⟨h.1, fun t ht => ?_⟩) (fun h => ⟨?_, fun t ht => ?_⟩)
              · obtain ⟨x, y, h1, h2, h3, h4⟩ := (hiff t).mpr ht
                exact h.2 t ⟨x, y, h1, h2, h3, h4, by omega⟩
              · obtain ⟨x, y, h1, h2, h3, h4, _⟩ := h.1
                exact (hiff b).mp ⟨x, y, h1, h2, h3, h4⟩
              · obtain ⟨x, y, h1, h2, h3, h4⟩ := (hiff t).mpr ht
                exact h.2 t ⟨x, y, h1, h2, h3, h4, by omega⟩)
            rw [e] at hQ1; exact hQ1
          all_goals first | omega | (repeat' first | exact hrg _ | assumption | (unfold rg; omega) | omega | refine And.intro ?_ ?_)
        | succ r ih =>
          intro i hi b hb hm l1 l2 l5 l6
          obtain ⟨d1, e2, e3, e4⟩ := at' i (by omega)
          have inn : ∀ (q j : Nat), j + q = S.length → i < j → ∀ b, rg b → IsMn (fun t => t) (fun t => ∃ a c : Nat, a < c ∧ c < S.length ∧ badS (S.getD a s0p) (S.getD c s0p) ∧ t = 100 * (S.getD a s0p).2.2.2.2 + (S.getD c s0p).2.2.2.2 ∧ (a < i ∨ (a = i ∧ c < j))) b → ∀ l1 l2 l6, zAt xT_233 (zW (d + 9)) Q 42 [zr 9 0 297, l1, l2, zi b, zi i, zi j, l6] [] G1 := by
            intro q
            induction q with
            | zero =>
              intro j hj hij b hb hm l1 l2 l6
              apply zs_233_42 <;> intros
              case h2 =>
                refine ih (i + 1) (by omega) b hb ?_ _ _ _ _
                refine hm.imp (fun h => ⟨h.1, fun t ht => ?_⟩) (fun h => ⟨?_, fun t ht => ?_⟩)
                · obtain ⟨x, y, h1, h2, h3, h4, h5⟩ := ht
                  exact h.2 t ⟨x, y, h1, h2, h3, h4, by omega⟩
                · obtain ⟨x, y, h1, h2, h3, h4, h5⟩ := h.1
                  exact ⟨x, y, h1, h2, h3, h4, by omega⟩
                · obtain ⟨x, y, h1, h2, h3, h4, h5⟩ := ht
                  exact h.2 t ⟨x, y, h1, h2, h3, h4, by omega⟩
              all_goals first | omega | (repeat' first | exact hrg _ | assumption | (unfold rg; omega) | omega | refine And.intro ?_ ?_)
            | succ q ih2 =>
              intro j hj hij b hb hm l1 l2 l6
              obtain ⟨d2, j2, j3, j4⟩ := at' j (by omega)
              have ih2 := ih2 (j + 1) (by omega) (by omega)
              rw [show ((j + 1 : Nat) : Int) = (j : Int) + 1 by omega] at ih2
              have skip : ¬ badS (S.getD i s0p) (S.getD j s0p) → ∀ l6, zAt xT_233 (zW (d + 9)) Q 42 [zr 9 0 297, z0, z0, zi b, zi i, zi ((j : Int) + 1), l6] [] G1 := fun hnb l6 => by
                refine ih2 b hb ?_ _ _ _
                refine hm.imp (fun h => ⟨h.1, fun t ht => ?_⟩) (fun h => ⟨?_, fun t ht => ?_⟩)
                · obtain ⟨x, y, h1, h2, h3, h4, h5⟩ := ht
                  refine h.2 t ⟨x, y, h1, h2, h3, h4, ?_⟩
                  by_cases c : x = i ∧ y = j
                  · rw [c.1, c.2] at h3; exact absurd h3 hnb
                  · omega
                · obtain ⟨x, y, h1, h2, h3, h4, h5⟩ := h.1
                  exact ⟨x, y, h1, h2, h3, h4, by omega⟩
                · obtain ⟨x, y, h1, h2, h3, h4, h5⟩ := ht
                  refine h.2 t ⟨x, y, h1, h2, h3, h4, ?_⟩
                  by_cases c : x = i ∧ y = j
                  · rw [c.1, c.2] at h3; exact absurd h3 hnb
                  · omega
              have take : badS (S.getD i s0p) (S.getD j s0p) → (b = -1 ∨ 100 * (S.getD i s0p).2.2.2.2 + (S.getD j s0p).2.2.2.2 < b) → ∀ l6, zAt xT_233 (zW (d + 9)) Q 42 [zr 9 0 297, z0, z0, zi (100 * (S.getD i s0p).2.2.2.2 + (S.getD j s0p).2.2.2.2), zi i, zi ((j : Int) + 1), l6] [] G1 := fun hb1 hb2 l6 => by
                refine ih2 _ (by unfold dayS at *; unfold rg; omega) ?_ _ _ _
                refine Or.inr ⟨⟨i, j, hij, by omega, hb1, rfl, by omega⟩, fun t ht => ?_⟩
                show 100 * (S.getD i s0p).2.2.2.2 + (S.getD j s0p).2.2.2.2 ≤ t
                obtain ⟨x, y, h1, h2, h3, h4, h5⟩ := ht
                by_cases c : x = i ∧ y = j
                · rw [c.1, c.2] at h4; omega
                · have hin : ∃ a c : Nat, a < c ∧ c < S.length ∧ badS (S.getD a s0p) (S.getD c s0p) ∧ t = 100 * (S.getD a s0p).2.2.2.2 + (S.getD c s0p).2.2.2.2 ∧ (a < i ∨ (a = i ∧ c < j)) := ⟨x, y, h1, h2, h3, h4, by omega⟩
                  rcases hm with hm | hm
                  · exact absurd hin (hm.2 t)
                  · have := hm.2 t hin
                    have this : b ≤ t := this
                    have hb0 : 0 ≤ b := by
                      obtain ⟨x, y, h1, h2, _, h4, _⟩ := hm.1
                      have := (at' x (by omega)).1
                      have := (at' y (by omega)).1
                      unfold dayS at *
                      omega
                    omega
              have keep : badS (S.getD i s0p) (S.getD j s0p) → b ≠ -1 → b ≤ 100 * (S.getD i s0p).2.2.2.2 + (S.getD j s0p).2.2.2.2 → ∀ l6, zAt xT_233 (zW (d + 9)) Q 42 [zr 9 0 297, z0, z0, zi b, zi i, zi ((j : Int) + 1), l6] [] G1 := fun hb1 hb2 hb3 l6 => by
                refine ih2 b hb ?_ _ _ _
                rcases hm with hm | hm
                · exact absurd hm.1 hb2
                · obtain ⟨x, y, h1, h2, h3, h4, h5⟩ := hm.1
                  refine Or.inr ⟨⟨x, y, h1, h2, h3, h4, by omega⟩, fun t ht => ?_⟩
                  obtain ⟨x, y, h1, h2, h3, h4, h5⟩ := ht
                  by_cases c : x = i ∧ y = j
                  · rw [c.1, c.2] at h4; show b ≤ t; omega
                  · exact hm.2 t ⟨x, y, h1, h2, h3, h4, by omega⟩
              have d1' := d1
              have d2' := d2
              unfold dayS at d1' d2'
              apply zs_233_42 <;> intros
              case h4 => exact skip (fun z => z.1 (by omega)) _
              case h6 => exact skip (fun z => by have := z.2; omega) _
              case h8 => rw [e4, j4]; exact take ⟨by omega, by omega⟩ (by omega) _
              case h10 => exact keep ⟨by omega, by omega⟩ (by omega) (by omega) _
              case h11 => rw [e4, j4]; exact take ⟨by omega, by omega⟩ (by omega) _
              all_goals first | omega | (repeat' first | exact hrg _ | assumption | (unfold rg; omega) | omega | refine And.intro ?_ ?_)
          apply zs_233_27 <;> intros
          case h3 =>
            have := inn r (i + 1) (by omega) (by omega) b hb (by
              refine hm.imp (fun h => ⟨h.1, fun t ht => ?_⟩) (fun h => ⟨?_, fun t ht => ?_⟩)
              · obtain ⟨x, y, h1, h2, h3, h4, h5⟩ := ht
                exact h.2 t ⟨x, y, h1, h2, h3, h4, by omega⟩
              · obtain ⟨x, y, h1, h2, h3, h4, h5⟩ := h.1
                exact ⟨x, y, h1, h2, h3, h4, by omega⟩
              · obtain ⟨x, y, h1, h2, h3, h4, h5⟩ := ht
                exact h.2 t ⟨x, y, h1, h2, h3, h4, by omega⟩)
            exact this _ _ _
          all_goals first | omega | (repeat' first | exact hrg _ | assumption | (unfold rg; omega) | omega | refine And.intro ?_ ?_)
      refine key S.length 0 (by omega) (-1) ⟨by omega, by omega⟩ (Or.inl ⟨rfl, fun t ht => ?_⟩) _ _ _ _
      obtain ⟨x, y, h1, h2, h3, h4, h5⟩ := ht
      omega
    all_goals first | omega | (repeat' first | exact hrg _ | assumption | (unfold rg; omega) | omega | refine And.intro ?_ ?_)
  · rw [bP_f hg] at hQ
    unfold okPD at hg
    apply zs_233_0 <;> intros
    all_goals first | omega | exact hQ G (fr_refl _ _) | (repeat' first | exact hrg _ | assumption | (unfold rg; omega) | omega | refine And.intro ?_ ?_)
set_option maxHeartbeats 4000000 in
theorem r_culprit (wf : WF w) (hw : G 298 = w) (hd : G 297 7 = -1) {p day : Int} (hp : rg p) (hdd : rg day) (hQ : ∀ G1, fr G G1 SR → Q (some (zi (q_culprit w p day))) G1) : zW (d + 11) 234 [zr 9 0 297, zi p, zi day] G Q := by
  subst hw
  obtain ⟨n0, n1, n2, n3, n4, n5⟩ := WF_n wf; have hrg := WF_rg wf
  unfold q_culprit at hQ
  refine zm_234 ?_
  by_cases hg : okPD (G 298) p day
  · rw [bP_t hg] at hQ
    have hg' := hg
    unfold okPD at hg'
    apply zs_234_0 <;> intros
    case h3 =>
      refine c191 (dr := -1) wf ⟨by omega, by omega⟩ rfl hd hg (fun G1 f1 hV hS => ?_)
      have hj : 0 ≤ jdg (G 298) (-1) p day ∧ jdg (G 298) (-1) p day ≤ 2 := by unfold jdg vd; split; omega; split <;> omega
      by_cases c : jdg (G 298) (-1) p day = 0
      · rw [if_pos c] at hQ
        have hl := vw_len (dr := -1) wf p day
        apply zs_234_18 <;> intros
        case h2 =>
          generalize vw (G 298) (-1) p day = L at *
          have key : ∀ (r i : Nat), i + r = L.length → ∀ G2, fr G G2 SR → VM G2 L → SM G2 (spL (G 298) (-1) L 0) → (∀ t, CUP (G 298) (-1) L t → (i : Int) ≤ t) → ∀ l1 l2, zAt xT_234 (zW (d + 10)) Q 25 [zr 9 0 297, l1, l2, zi i] [] G2 := by
            intro r
            induction r with
            | zero =>
              intro i hi G2 f2 hV2 hS2 hn l1 l2
              have h18 := hV2.1
              apply zs_234_25 <;> intros
              case h2 =>
                have hQ2 := hQ G2 f2
                rw [show mn (fun t => t) (CUP (G 298) (-1) L) = -1 from mn_eq (fun _ _ _ _ h => h) (Or.inl ⟨rfl, fun t ht => by have := hn t ht; have := ht.2.1; omega⟩)] at hQ2
                exact hQ2
              all_goals first | omega | (repeat' first | exact hrg _ | assumption | (unfold rg; omega) | omega | refine And.intro ?_ ?_)
            | succ r ih =>
              intro i hi G2 f2 hV2 hS2 hn l1 l2
              have h18 := hV2.1
              apply zs_234_25 <;> intros
              case h3 =>
                refine c190v (d := d + 9) wf hl hS2 (wh := 2) (by omega) ⟨by omega, by omega⟩ (fun G3 f3 h1 h2 => ?_)
                have f4 : fr G G3 SR := fr_trans f2 f3 (by intro k j t; unfold S190 at t; unfold SR; omega)
                have qa : qA 2 (foldB (G 298) (-1) i L 0 o4) = (foldB (G 298) (-1) i L 0 o4).2.2.1 := rfl
                have qb : qB 2 (foldB (G 298) (-1) i L 0 o4) = (foldB (G 298) (-1) i L 0 o4).2.2.2 := rfl
                rw [qa, qb]
                refine ⟨fun hle => ?_, fun hlt => ?_⟩
                · apply zs_234_39 <;> intros
                  case h3 =>
                    have hQ2 := hQ G3 f4
                    rw [show mn (fun t => t) (CUP (G 298) (-1) L) = i from mn_eq (fun _ _ _ _ h => h) (Or.inr ⟨⟨by omega, by omega, hle⟩, fun t ht => hn t ht⟩)] at hQ2
                    exact hQ2
                  all_goals first | omega | (repeat' first | exact hrg _ | assumption | (unfold rg; omega) | omega | refine And.intro ?_ ?_)
                · apply zs_234_39 <;> intros
                  case h2 =>
                    have := ih (i + 1) (by omega) G3 f4 (VM_190 hV2 f3) (SM_190 hS2 f3) (fun t ht => by
                      have h := hn t ht
                      by_cases c : t = i
                      · rw [c] at ht; have := ht.2.2; omega
                      · omega) z0 z0
                    exact this
                  all_goals first | omega | (repeat' first | exact hrg _ | assumption | (unfold rg; omega) | omega | refine And.intro ?_ ?_)
              all_goals first | omega | (repeat' first | exact hrg _ | assumption | (unfold rg; omega) | omega | refine And.intro ?_ ?_)
          exact key L.length 0 (by omega) G1 f1 hV hS (fun t ht => ht.1) _ _
        all_goals first | omega | (repeat' first | exact hrg _ | assumption | (unfold rg; omega) | omega | refine And.intro ?_ ?_)
      · rw [if_neg c] at hQ
        apply zs_234_18 <;> intros
        case h3 => exact hQ G1 f1
        all_goals first | omega | (repeat' first | exact hrg _ | assumption | (unfold rg; omega) | omega | refine And.intro ?_ ?_)
    all_goals first | omega | (repeat' first | exact hrg _ | assumption | (unfold rg; omega) | omega | refine And.intro ?_ ?_)
  · rw [bP_f hg] at hQ
    unfold okPD at hg
    apply zs_234_0 <;> intros
    all_goals first | omega | exact hQ G (fr_refl _ _) | (repeat' first | exact hrg _ | assumption | (unfold rg; omega) | omega | refine And.intro ?_ ?_)
end RE
