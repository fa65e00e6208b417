/-! THE REFERENCE READS: bodies, equal ones, the nearest. -/
noncomputable def mn (f : Int → Int) (q : Int → Prop) : Int := (Classical.propDecidable (∃ r, IsMn f q r)).casesOn (fun _ => -1) (fun h => h.choose)
theorem mn_is {f : Int → Int} {q : Int → Prop} {r : Int} (h : IsMn f q r) : IsMn f q (mn f q) := by
  unfold mn
  cases Classical.propDecidable (∃ r, IsMn f q r) with
  | isFalse n => exact absurd ⟨r, h⟩ n
  | isTrue y => exact y.choose_spec
theorem mn_eq {f : Int → Int} {q : Int → Prop} {r : Int} (inj : ∀ a b, q a → q b → f a = f b → a = b) (h : IsMn f q r) : mn f q = r := mn_uniq inj (mn_is h) h
/-- within bounds there is one -/
theorem mn_ex (f : Int → Int) (q : Int → Prop) (n : Int) (h0 : ∀ t, q t → 0 ≤ t) (h1 : ∀ t, q t → t < n) : ∃ r, IsMn f q r := by
  have key : ∀ m : Nat, ∃ b, IsMn f (fun t => q t ∧ t < (m : Int)) b := by
    intro m
    induction m with
    | zero => exact ⟨-1, Or.inl ⟨rfl, fun t ht => by have := h0 t ht.1; have := ht.2; omega⟩⟩
    | succ m ih =>
      obtain ⟨b, hb⟩ := ih
      have e : ((m + 1 : Nat) : Int) = (m : Int) + 1 := by omega
      rw [e]
      by_cases c : q (m : Int)
      · by_cases c2 : b = -1 ∨ f m ≤ f b
        · exact ⟨_, mn_new c c2 h0 hb⟩
        · exact ⟨b, mn_keep (fun e => c2 (Or.inl e)) (by omega) hb⟩
      · exact ⟨b, mn_skip c hb⟩
  obtain ⟨b, hb⟩ := key n.toNat
  exact ⟨b, hb.imp (fun h => ⟨h.1, fun t ht => h.2 t ⟨ht, by have := h1 t ht; omega⟩⟩) (fun h => ⟨h.1.1, fun t ht => h.2 t ⟨ht, by have := h1 t ht; omega⟩⟩)⟩
noncomputable def ah (w : Int → Int) (dr p day o : Int) : Int := mn (fun t => -(w ((116 + (4 * t)) + 1))) (qah w dr p day o)
noncomputable def be (w : Int → Int) (dr p day : Int) : Int := mn (fun t => (w ((116 + (4 * t)) + 1))) (qbe w dr p day)
noncomputable def nr (w : Int → Int) (dr p day : Int) : Int := mn (fun t => rk (w 0) day (w ((116 + (4 * t)) + 1))) (sho w dr p)
noncomputable def bo (w : Int → Int) (dr s : Int) : Int := if (w ((116 + (4 * s)) + 2)) = 0 then (w ((116 + (4 * s)) + 3)) else if (w ((116 + (4 * s)) + 2)) = 1 then (if ah w dr (w (116 + (4 * s))) (w ((116 + (4 * s)) + 1)) 1 ≠ -1 ∧ (w ((116 + (4 * (ah w dr (w (116 + (4 * s))) (w ((116 + (4 * s)) + 1)) 1))) + 2)) = 0 then (w ((116 + (4 * (ah w dr (w (116 + (4 * s))) (w ((116 + (4 * s)) + 1)) 1))) + 3)) else -1) else -1
theorem ah_eq {w : Int → Int} (wf : WF w) {dr p day o r : Int} (h : IsMn (fun t => -(w ((116 + (4 * t)) + 1))) (qah w dr p day o) r) : ah w dr p day o = r := mn_eq (fun a b ha hb e => sho_inj wf ha.1 hb.1 (by have : -(w ((116 + (4 * a)) + 1)) = -(w ((116 + (4 * b)) + 1)) := e; omega)) h
theorem be_eq {w : Int → Int} (wf : WF w) {dr p day r : Int} (h : IsMn (fun t => (w ((116 + (4 * t)) + 1))) (qbe w dr p day) r) : be w dr p day = r := mn_eq (fun a b ha hb e => sho_inj wf ha.1 hb.1 e) h
theorem nr_eq {w : Int → Int} (wf : WF w) {dr p day r : Int} (h0 : 0 ≤ day) (h1 : day ≤ 365) (h : IsMn (fun t => rk (w 0) day (w ((116 + (4 * t)) + 1))) (sho w dr p) r) : nr w dr p day = r := mn_eq (fun a b ha hb e => sho_inj wf ha hb (rk_inj (WF_n wf).1 h0 h1 (WF_s wf ha.1 ha.2.1).2.1.1 (WF_s wf hb.1 hb.2.1).2.1.1 e)) h
theorem ah_is {w : Int → Int} (dr p day o : Int) : IsMn (fun t => -(w ((116 + (4 * t)) + 1))) (qah w dr p day o) (ah w dr p day o) := (mn_ex _ _ (w 4) (fun _ h => h.1.1) (fun _ h => h.1.2.1)).elim fun _ h => mn_is h
theorem be_is {w : Int → Int} (dr p day : Int) : IsMn (fun t => (w ((116 + (4 * t)) + 1))) (qbe w dr p day) (be w dr p day) := (mn_ex _ _ (w 4) (fun _ h => h.1.1) (fun _ h => h.1.2.1)).elim fun _ h => mn_is h
theorem nr_is {w : Int → Int} (dr p day : Int) : IsMn (fun t => rk (w 0) day (w ((116 + (4 * t)) + 1))) (sho w dr p) (nr w dr p day) := (mn_ex _ _ (w 4) (fun _ h => h.1) (fun _ h => h.2.1)).elim fun _ h => mn_is h
theorem ah_rg {w : Int → Int} (dr p day o : Int) : ah w dr p day o = -1 ∨ qah w dr p day o (ah w dr p day o) := (ah_is dr p day o).imp (fun h => h.1) (fun h => h.1)
theorem be_rg {w : Int → Int} (dr p day : Int) : be w dr p day = -1 ∨ qbe w dr p day (be w dr p day) := (be_is dr p day).imp (fun h => h.1) (fun h => h.1)
theorem nr_rg {w : Int → Int} (dr p day : Int) : nr w dr p day = -1 ∨ sho w dr p (nr w dr p day) := (nr_is dr p day).imp (fun h => h.1) (fun h => h.1)
theorem bo_rg {w : Int → Int} (wf : WF w) {dr s : Int} (h1 : 0 ≤ s) (h2 : s < w 4) : -1 ≤ bo w dr s ∧ bo w dr s < w 3 := by
  obtain ⟨n0, n1, n2, n3, n4, n5⟩ := WF_n wf
  have ws := WF_s wf h1 h2
  unfold bo
  by_cases c1 : (w ((116 + (4 * s)) + 2)) = 0
  · rw [if_pos c1]; have := ws.2.2.2.1 c1; omega
  · rw [if_neg c1]
    by_cases c2 : (w ((116 + (4 * s)) + 2)) = 1
    · rw [if_pos c2]
      by_cases c3 : ah w dr (w (116 + (4 * s))) (w ((116 + (4 * s)) + 1)) 1 ≠ -1 ∧ (w ((116 + (4 * (ah w dr (w (116 + (4 * s))) (w ((116 + (4 * s)) + 1)) 1))) + 2)) = 0
      · rw [if_pos c3]
        rcases ah_rg (w := w) dr (w (116 + (4 * s))) (w ((116 + (4 * s)) + 1)) 1 with e | e
        · exact absurd e c3.1
        · have := (WF_s wf e.1.1 e.1.2.1).2.2.2.1 c3.2
          omega
      · rw [if_neg c3]; omega
    · rw [if_neg c2]; omega
/-- equal bodies (none is like none) -/
def EQB (w : Int → Int) (a b : Int) : Prop := ((a = -1 ∨ b = -1) ∧ a = b) ∨ (a ≠ -1 ∧ b ≠ -1 ∧ (w (6 + (11 * a))) = (w (6 + (11 * b))) ∧ (w ((6 + (11 * a)) + 1)) = (w ((6 + (11 * b)) + 1)) ∧ (w ((6 + (11 * a)) + 2)) = (w ((6 + (11 * b)) + 2)) ∧ (∀ i, 0 ≤ i → i < (w ((6 + (11 * a)) + 1)) → (w (((6 + (11 * a)) + 3) + i)) = (w (((6 + (11 * b)) + 3) + i))) ∧ (∀ i, 0 ≤ i → i < (w ((6 + (11 * a)) + 2)) → (w (((6 + (11 * a)) + 7) + i)) = (w (((6 + (11 * b)) + 7) + i))))
theorem EQB_refl (w : Int → Int) (a : Int) : EQB w a a := by
  by_cases c : a = -1
  · exact Or.inl ⟨Or.inl c, rfl⟩
  · exact Or.inr ⟨c, c, rfl, rfl, rfl, fun _ _ _ => rfl, fun _ _ _ => rfl⟩
theorem EQB_symm {w : Int → Int} {a b : Int} (h : EQB w a b) : EQB w b a := by
  rcases h with h | ⟨h1, h2, h3, h4, h5, h6, h7⟩
  · exact Or.inl ⟨h.1.symm, h.2.symm⟩
  · exact Or.inr ⟨h2, h1, h3.symm, h4.symm, h5.symm, fun i i0 i1 => (h6 i i0 (by omega)).symm, fun i i0 i1 => (h7 i i0 (by omega)).symm⟩
theorem EQB_trans {w : Int → Int} {a b c : Int} (h : EQB w a b) (g : EQB w b c) : EQB w a c := by
  rcases h with h | ⟨h1, h2, h3, h4, h5, h6, h7⟩
  · rw [h.2]; exact g
  · rcases g with g | ⟨g1, g2, g3, g4, g5, g6, g7⟩
    · rw [← g.2]; exact Or.inr ⟨h1, h2, h3, h4, h5, h6, h7⟩
    · exact Or.inr ⟨h1, g2, h3.trans g3, h4.trans g4, h5.trans g5, fun i i0 i1 => (h6 i i0 i1).trans (g6 i i0 (by omega)), fun i i0 i1 => (h7 i i0 i1).trans (g7 i i0 (by omega))⟩
/-- the least equal one -/
def IsLq (w : Int → Int) (b a : Int) : Prop := 0 ≤ a ∧ a ≤ b ∧ EQB w a b ∧ ∀ c, 0 ≤ c → c < a → ¬ EQB w c b
noncomputable def lq (w : Int → Int) (b : Int) : Int := (Classical.propDecidable (∃ r, IsLq w b r)).casesOn (fun _ => -1) (fun h => h.choose)
theorem lq_uniq {w : Int → Int} {b a c : Int} (h : IsLq w b a) (g : IsLq w b c) : a = c := by
  rcases Int.lt_trichotomy a c with e | e | e
  · exact absurd h.2.2.1 (g.2.2.2 a h.1 e)
  · exact e
  · exact absurd g.2.2.1 (h.2.2.2 c g.1 e)
theorem lq_eq {w : Int → Int} {b a : Int} (h : IsLq w b a) : lq w b = a := by
  unfold lq
  cases Classical.propDecidable (∃ r, IsLq w b r) with
  | isFalse n => exact absurd ⟨a, h⟩ n
  | isTrue y => exact lq_uniq y.choose_spec h
theorem lq_is {w : Int → Int} {b : Int} (hb : 0 ≤ b) : IsLq w b (lq w b) := by
  have key : ∀ n : Nat, (∃ a, IsLq w b a) ∨ ∀ c, 0 ≤ c → c < (n : Int) → ¬ EQB w c b := by
    intro n
    induction n with
    | zero => exact Or.inr (fun c h1 h2 => by omega)
    | succ n ih =>
      rcases ih with h | h
      · exact Or.inl h
      · by_cases c : (n : Int) ≤ b ∧ EQB w n b
        · exact Or.inl ⟨n, by omega, c.1, c.2, h⟩
        · by_cases c2 : (n : Int) ≤ b
          · refine Or.inr (fun a a1 a2 e => ?_)
            by_cases c3 : a = n
            · rw [c3] at e; exact c ⟨c2, e⟩
            · exact h a a1 (by omega) e
          · exact absurd (EQB_refl w b) (h b hb (by omega))
  rcases key (b.toNat + 1) with ⟨a, h⟩ | h
  · rw [lq_eq h]; exact h
  · exact absurd (EQB_refl w b) (h b hb (by omega))
/-- shots that are like one another -/
def LIKE (w : Int → Int) (dr s t : Int) : Prop := (bo w dr s ≠ -1 ∧ bo w dr t ≠ -1 ∧ EQB w (bo w dr s) (bo w dr t)) ∨ (bo w dr s = -1 ∧ (w ((116 + (4 * s)) + 2)) = 2 ∧ (w ((116 + (4 * t)) + 2)) = 2 ∧ (w ((116 + (4 * s)) + 3)) = (w ((116 + (4 * t)) + 3))) ∨ (bo w dr s = -1 ∧ (w ((116 + (4 * s)) + 2)) = 3 ∧ (w ((116 + (4 * t)) + 2)) = 3)
section RE
variable {d : Nat} {G : zG} {Q : zQ}
set_option maxHeartbeats 4000000 in
theorem c175 {K : Int} {n : Nat} (hn : (n : Int) = 356) (hrg : ∀ j, rg (G K j)) (h4 : 0 ≤ G K 4 ∧ G K 4 ≤ 60) {p day : Int} (hp : rg p) (hday : rg day) (hN : (∀ t, 0 ≤ t → t < G K 4 → ¬ (((G K) (116 + (4 * t))) = p ∧ ((G K) ((116 + (4 * t)) + 1)) = day)) → Q (some (zi (-1))) G) (hY : ∀ t, 0 ≤ t → t < G K 4 → ((G K) (116 + (4 * t))) = p → ((G K) ((116 + (4 * t)) + 1)) = day → Q (some (zi t)) G) : zW (d + 1) 175 [zr 9 0 297, zr 10 n K, zi p, zi day] G Q := by
  refine zm_175 (zs_175_0 ?_)
  have key : ∀ s, 0 ≤ s → s ≤ G K 4 → (∀ t, 0 ≤ t → t < s → ¬ (((G K) (116 + (4 * t))) = p ∧ ((G K) ((116 + (4 * t)) + 1)) = day)) → ∀ l0, zAt xT_175 (zW d) Q 3 [l0, zr 10 n K, zi p, zi day, zi s] [] G := by
    refine up_ind 0 (G K 4) ?_ ?_
    · intro hs l0
      apply zs_175_3 <;> intros
      case h2 => exact hN hs
      all_goals first | omega | (repeat' first | exact hrg _ | assumption | (unfold rg; omega) | omega | refine And.intro ?_ ?_)
    · intro s s1 s2 ihs hs l0
      have nx : ¬ (((G K) (116 + (4 * s))) = p ∧ ((G K) ((116 + (4 * s)) + 1)) = day) → zAt xT_175 (zW d) Q 3 [z0, zr 10 n K, zi p, zi day, zi (s + 1)] [] G := fun hne => ihs (fun t t1 t2 => by
        by_cases e : t = s
        · rw [e]; exact hne
        · exact hs t t1 (by omega)) _
      apply zs_175_3 <;> intros
      case h2 => omega
      case h4 => exact nx (fun e => by have := e.1; contradiction)
      case h6 => exact nx (fun e => by have := e.2; contradiction)
      case h7 => apply hY <;> assumption
      all_goals (repeat' first | exact hrg _ | assumption | (unfold rg; omega) | omega | refine And.intro ?_ ?_)
  exact key 0 (by omega) (by omega) (fun t t1 t2 => by omega) _
set_option maxHeartbeats 4000000 in
theorem c178 (wf : WF (G 298)) (hdr : rg (G 297 7)) {s : Int} (h1 : 0 ≤ s) (h2 : s < G 298 4) (hQ : Q (some (zi (bo (G 298) (G 297 7) s))) G) : zW (d + 3) 178 [zr 9 0 297, zi s] G Q := by
  refine zm_178 ?_
  obtain ⟨n0, n1, n2, n3, n4, n5⟩ := WF_n wf
  have hrg := WF_rg wf
  apply zs_178_0 <;> intros
  case h3 =>
    refine c176 wf hdr (hrg _) (hrg _) (Or.inr rfl) (fun r hr r1 r2 => ?_)
    have hr := ah_eq wf hr
    apply zs_178_40 <;> intros
    case h2 => unfold bo at hQ; simp_all
    case h4 => unfold bo at hQ; simp_all
    case h6 => unfold bo at hQ; simp_all
    all_goals (repeat' first | exact hrg _ | assumption | (unfold rg; omega) | omega | refine And.intro ?_ ?_)
  case h4 => unfold bo at hQ; simp_all
  case h6 => unfold bo at hQ; simp_all
  all_goals (repeat' first | exact hrg _ | assumption | (unfold rg; omega) | omega | refine And.intro ?_ ?_)
set_option maxHeartbeats 4000000 in
theorem c179 (wf : WF (G 298)) {a b : Int} (ha : -1 ≤ a) (ha2 : a < 10) (hb : -1 ≤ b) (hb2 : b < 10) (hna : 0 ≤ a → ((G 298) ((6 + (11 * a)) + 1)) ≤ 4 ∧ ((G 298) ((6 + (11 * a)) + 2)) ≤ 4) (h1 : EQB (G 298) a b → Q (some (zi 1)) G) (h0 : ¬ EQB (G 298) a b → Q (some (zi 0)) G) : zW (d + 2) 179 [zr 9 0 297, zi a, zi b] G Q := by
  refine zm_179 ?_
  have hrg := WF_rg wf
  have k98 : a ≠ -1 → b ≠ -1 → ((G 298) (6 + (11 * a))) = ((G 298) (6 + (11 * b))) → ((G 298) ((6 + (11 * a)) + 1)) = ((G 298) ((6 + (11 * b)) + 1)) → ((G 298) ((6 + (11 * a)) + 2)) = ((G 298) ((6 + (11 * b)) + 2)) → (∀ i, 0 ≤ i → i < ((G 298) ((6 + (11 * a)) + 1)) → ((G 298) (((6 + (11 * a)) + 3) + i)) = ((G 298) (((6 + (11 * b)) + 3) + i))) → ∀ (m : Nat) (i : Int), 0 ≤ i → i ≤ 4 → ((G 298) ((6 + (11 * a)) + 2)) - i ≤ m → (∀ j, 0 ≤ j → j < i → ((G 298) (((6 + (11 * a)) + 7) + j)) = ((G 298) (((6 + (11 * b)) + 7) + j))) → zAt xT_179 (zW (d + 1)) Q 98 [zr 9 0 297, zi a, zi b, zi i] [] G := by
    intro e1 e2 e3 e4 e5 e6 m
    have hn4 := hna (by omega)
    induction m with
    | zero =>
      intro i i0 i4 im hi
      apply zs_179_98 <;> intros
      case h2 => exact h1 (Or.inr ⟨e1, e2, e3, e4, e5, e6, fun j j0 j1 => hi j j0 (by omega)⟩)
      all_goals first | omega | (repeat' first | exact hrg _ | assumption | (unfold rg; omega) | omega | refine And.intro ?_ ?_)
    | succ m ih =>
      intro i i0 i4 im hi
      apply zs_179_98 <;> intros
      case h2 => exact h1 (Or.inr ⟨e1, e2, e3, e4, e5, e6, fun j j0 j1 => hi j j0 (by omega)⟩)
      case h4 => exact ih (i + 1) (by omega) (by omega) (by omega) (fun j j0 j1 => by
        by_cases e : j = i
        · rw [e]; assumption
        · exact hi j j0 (by omega))
      case h5 =>
        refine h0 (fun e => ?_)
        rcases e with e | e
        · omega
        · have := e.2.2.2.2.2.2 i i0 (by omega); omega
      all_goals first | omega | (repeat' first | exact hrg _ | assumption | (unfold rg; omega) | omega | refine And.intro ?_ ?_)
  have k64 : a ≠ -1 → b ≠ -1 → ((G 298) (6 + (11 * a))) = ((G 298) (6 + (11 * b))) → ((G 298) ((6 + (11 * a)) + 1)) = ((G 298) ((6 + (11 * b)) + 1)) → ((G 298) ((6 + (11 * a)) + 2)) = ((G 298) ((6 + (11 * b)) + 2)) → ∀ (m : Nat) (i : Int), 0 ≤ i → i ≤ 4 → ((G 298) ((6 + (11 * a)) + 1)) - i ≤ m → (∀ j, 0 ≤ j → j < i → ((G 298) (((6 + (11 * a)) + 3) + j)) = ((G 298) (((6 + (11 * b)) + 3) + j))) → zAt xT_179 (zW (d + 1)) Q 64 [zr 9 0 297, zi a, zi b, zi i] [] G := by
    intro e1 e2 e3 e4 e5 m
    have hn4 := hna (by omega)
    induction m with
    | zero =>
      intro i i0 i4 im hi
      apply zs_179_64 <;> intros
      case h2 => exact k98 e1 e2 e3 e4 e5 (fun j j0 j1 => hi j j0 (by omega)) ((G 298) ((6 + (11 * a)) + 2)).toNat 0 (by omega) (by omega) (by omega) (fun j j0 j1 => by omega)
      all_goals first | omega | (repeat' first | exact hrg _ | assumption | (unfold rg; omega) | omega | refine And.intro ?_ ?_)
    | succ m ih =>
      intro i i0 i4 im hi
      apply zs_179_64 <;> intros
      case h2 => exact k98 e1 e2 e3 e4 e5 (fun j j0 j1 => hi j j0 (by omega)) ((G 298) ((6 + (11 * a)) + 2)).toNat 0 (by omega) (by omega) (by omega) (fun j j0 j1 => by omega)
      case h4 => exact ih (i + 1) (by omega) (by omega) (by omega) (fun j j0 j1 => by
        by_cases e : j = i
        · rw [e]; assumption
        · exact hi j j0 (by omega))
      case h5 =>
        refine h0 (fun e => ?_)
        rcases e with e | e
        · omega
        · have := e.2.2.2.2.2.1 i i0 (by omega); omega
      all_goals first | omega | (repeat' first | exact hrg _ | assumption | (unfold rg; omega) | omega | refine And.intro ?_ ?_)
  apply zs_179_0 <;> intros
  case h11 => refine k64 ?_ ?_ ?_ ?_ ?_ ((G 298) ((6 + (11 * a)) + 1)).toNat 0 (by omega) (by omega) (by omega) (fun j j0 j1 => by omega) <;> assumption
  all_goals first
    | (refine h1 (Or.inl ?_); omega)
    | (refine h0 (fun e => ?_); rcases e with e | e <;> omega)
    | (repeat' first | exact hrg _ | assumption | (unfold rg; omega) | omega | refine And.intro ?_ ?_)
set_option maxHeartbeats 4000000 in
theorem c180 (wf : WF (G 298)) {b : Int} (h1 : 0 ≤ b) (h2 : b < G 298 3) (hQ : ∀ r, r = lq (G 298) b → 0 ≤ r → r ≤ b → Q (some (zi r)) G) : zW (d + 3) 180 [zr 9 0 297, zi b] G Q := by
  refine zm_180 (zs_180_0 ?_)
  obtain ⟨n0, n1, n2, n3, n4, n5⟩ := WF_n wf
  have hrg := WF_rg wf
  have key : ∀ (m : Nat) (a : Int), 0 ≤ a → a ≤ b → b - a ≤ m → (∀ c, 0 ≤ c → c < a → ¬ EQB (G 298) c b) → zAt xT_180 (zW (d + 2)) Q 2 [zr 9 0 297, zi b, zi a] [] G := by
    intro m
    induction m with
    | zero =>
      intro a a0 ab am ha
      have e : a = b := by omega
      subst e
      have wb := WF_b wf h1 h2
      refine zs_180_2 (c179 wf (by omega) (by omega) (by omega) (by omega) (fun _ => ⟨by omega, by omega⟩) (fun _ => ?_) (fun n => absurd (EQB_refl _ _) n))
      apply zs_180_8 <;> intros
      case h2 => exact hQ _ (lq_eq ⟨a0, by omega, EQB_refl _ _, ha⟩).symm a0 (by omega)
      all_goals first | omega | (repeat' first | exact hrg _ | assumption | (unfold rg; omega) | omega | refine And.intro ?_ ?_)
    | succ m ih =>
      intro a a0 ab am ha
      have wa := WF_b wf a0 (by omega)
      refine zs_180_2 (c179 wf (by omega) (by omega) (by omega) (by omega) (fun _ => ⟨by omega, by omega⟩) (fun y => ?_) (fun n => ?_))
      · apply zs_180_8 <;> intros
        case h2 => exact hQ _ (lq_eq ⟨a0, by omega, y, ha⟩).symm a0 (by omega)
        all_goals first | omega | (repeat' first | exact hrg _ | assumption | (unfold rg; omega) | omega | refine And.intro ?_ ?_)
      · have hne : a ≠ b := fun e => n (by rw [e]; exact EQB_refl _ _)
        apply zs_180_8 <;> intros
        case h3 => exact ih (a + 1) (by omega) (by omega) (by omega) (fun c c0 c1 => by
          by_cases e : c = a
          · rw [e]; exact n
          · exact ha c c0 (by omega))
        all_goals first | omega | (repeat' first | exact hrg _ | assumption | (unfold rg; omega) | omega | refine And.intro ?_ ?_)
  exact key b.toNat 0 (by omega) (by omega) (by omega) (fun c c0 c1 => by omega)
set_option maxHeartbeats 4000000 in
theorem c181 (wf : WF (G 298)) (hdr : rg (G 297 7)) {p day : Int} (hp : rg p) (hd1 : 0 ≤ day) (hd2 : day ≤ 365) (hQ : ∀ r, r = nr (G 298) (G 297 7) p day → -1 ≤ r → r < G 298 4 → Q (some (zi r)) G) : zW (d + 3) 181 [zr 9 0 297, zi p, zi day] G Q := by
  refine zm_181 (zs_181_0 ?_)
  obtain ⟨n0, n1, n2, n3, n4, n5⟩ := WF_n wf
  have hrg := WF_rg wf
  have key : ∀ s, 0 ≤ s → s ≤ G 298 4 → ∀ b, -1 ≤ b → b < s → ((b = -1 ∧ ∀ t, sho (G 298) (G 297 7) p t → t < s → ((G 298) ((116 + (4 * t)) + 1)) ≠ day) ∨ (sho (G 298) (G 297 7) p b ∧ ((G 298) ((116 + (4 * b)) + 1)) = day)) → ∀ l5 l6 l7, zAt xT_181 (zW (d + 2)) Q 5 [zr 9 0 297, zi p, zi day, zi b, zi s, l5, l6, l7] [] G := by
    refine up_ind 0 (G 298 4) ?_ ?_
    · intro b b1 b2 hb l5 l6 l7
      apply zs_181_5 <;> intros
      case h2 =>
        refine c176 wf hdr hp ⟨by omega, by omega⟩ (Or.inl rfl) (fun a ha a1 a2 => ?_)
        refine zs_181_61 (c177 wf hdr hp ⟨by omega, by omega⟩ (fun c hc c1 c2 => ?_))
        have fin : ∀ r, IsMn (fun t => rk (G 298 0) day ((G 298) ((116 + (4 * t)) + 1))) (sho (G 298) (G 297 7) p) r → -1 ≤ r → r < G 298 4 → Q (some (zi r)) G := fun r hr r1 r2 => hQ r (nr_eq wf hd1 hd2 hr).symm r1 r2
        have A : ∀ t, sho (G 298) (G 297 7) p t → ((G 298) ((116 + (4 * t)) + 1)) < day → a ≠ -1 ∧ ((G 298) ((116 + (4 * t)) + 1)) ≤ ((G 298) ((116 + (4 * a)) + 1)) := by
          intro t ht hl
          have hq : qah (G 298) (G 297 7) p day 0 t := ⟨ht, hl, by omega⟩
          rcases ha with ha | ha
          · exact absurd hq (ha.2 t)
          · have : -((G 298) ((116 + (4 * a)) + 1)) ≤ -((G 298) ((116 + (4 * t)) + 1)) := ha.2 t hq; have := ha.1.1.1; exact ⟨by omega, by omega⟩
        have A2 : a ≠ -1 → sho (G 298) (G 297 7) p a ∧ ((G 298) ((116 + (4 * a)) + 1)) < day := fun h => by
          rcases ha with ha | ha
          · exact absurd ha.1 h
          · exact ⟨ha.1.1, ha.1.2.1⟩
        have C : ∀ t, sho (G 298) (G 297 7) p t → day < ((G 298) ((116 + (4 * t)) + 1)) → c ≠ -1 ∧ ((G 298) ((116 + (4 * c)) + 1)) ≤ ((G 298) ((116 + (4 * t)) + 1)) := by
          intro t ht hl
          have hq : qbe (G 298) (G 297 7) p day t := ⟨ht, hl⟩
          rcases hc with hc | hc
          · exact absurd hq (hc.2 t)
          · have : ((G 298) ((116 + (4 * c)) + 1)) ≤ ((G 298) ((116 + (4 * t)) + 1)) := hc.2 t hq; have := hc.1.1.1; exact ⟨by omega, by omega⟩
        have C2 : c ≠ -1 → sho (G 298) (G 297 7) p c ∧ day < ((G 298) ((116 + (4 * c)) + 1)) := fun h => by
          rcases hc with hc | hc
          · exact absurd hc.1 h
          · exact ⟨hc.1.1, hc.1.2⟩
        have B : ∀ t, sho (G 298) (G 297 7) p t → ((G 298) ((116 + (4 * t)) + 1)) = day → b ≠ -1 := by
          intro t ht hl
          rcases hb with hb | hb
          · exact absurd hl (hb.2 t ht ht.2.1)
          · have := hb.1.1; omega
        have go : ∀ r, (r = -1 ∨ sho (G 298) (G 297 7) p r) → -1 ≤ r → r < G 298 4 → (∀ t, sho (G 298) (G 297 7) p t → r ≠ -1 ∧ rk (G 298 0) day ((G 298) ((116 + (4 * r)) + 1)) ≤ rk (G 298 0) day ((G 298) ((116 + (4 * t)) + 1))) → Q (some (zi r)) G := fun r hr r1 r2 h => by
          refine fin r ?_ r1 r2
          rcases hr with hr | hr
          · exact Or.inl ⟨hr, fun t ht => (h t ht).1 hr⟩
          · exact Or.inr ⟨hr, fun t ht => (h t ht).2⟩
        have hT : ∀ t, sho (G 298) (G 297 7) p t → 0 ≤ ((G 298) ((116 + (4 * t)) + 1)) ∧ ((G 298) ((116 + (4 * t)) + 1)) ≤ 365 := fun t ht => (WF_s wf ht.1 ht.2.1).2.1
        apply zs_181_69 <;> intros
        case h13 =>
          rcases hb with hb | hb
          · omega
          · refine go b (Or.inr hb.1) b1 b2 (fun t ht => ⟨by have := hb.1.1; omega, ?_⟩)
            have := hT t ht
            unfold rk; repeat' split
            all_goals omega
        case h12 =>
          refine go c (by by_cases e : c = -1; exact Or.inl e; exact Or.inr (C2 e).1) c1 c2 (fun t ht => ?_)
          have h1 := A t ht
          have h2 := B t ht
          have h3 := C t ht (by omega)
          have h4 := (C2 h3.1).2
          have := hT t ht
          refine ⟨h3.1, ?_⟩
          unfold rk; repeat' split
          all_goals omega
        case h4 =>
          refine go a (Or.inr (A2 (by assumption)).1) a1 a2 (fun t ht => ?_)
          have h1 := A t ht
          have h2 := B t ht
          have h3 := C t ht
          have h4 := (A2 (by assumption)).2
          have := hT t ht
          have := hT a (A2 (by assumption)).1
          refine ⟨by assumption, ?_⟩
          unfold rk; repeat' split
          all_goals omega
        case h7 =>
          refine go a (Or.inr (A2 (by assumption)).1) a1 a2 (fun t ht => ?_)
          have h1 := A t ht
          have h2 := B t ht
          have h3 := C t ht
          have h4 := (A2 (by assumption)).2
          have h5 := (C2 (by assumption)).2
          have := hT t ht
          have := hT a (A2 (by assumption)).1
          have := hT c (C2 (by assumption)).1
          refine ⟨by assumption, ?_⟩
          unfold rk; repeat' split
          all_goals omega
        case h10 =>
          refine go a (Or.inr (A2 (by assumption)).1) a1 a2 (fun t ht => ?_)
          have h1 := A t ht
          have h2 := B t ht
          have h3 := C t ht
          have h4 := (A2 (by assumption)).2
          have h5 := (C2 (by assumption)).2
          have := hT t ht
          have := hT a (A2 (by assumption)).1
          have := hT c (C2 (by assumption)).1
          refine ⟨by assumption, ?_⟩
          unfold rk; repeat' split
          all_goals omega
        case h11 =>
          refine go a (Or.inr (A2 (by assumption)).1) a1 a2 (fun t ht => ?_)
          have h1 := A t ht
          have h2 := B t ht
          have h3 := C t ht
          have h4 := (A2 (by assumption)).2
          have h5 := (C2 (by assumption)).2
          have := hT t ht
          have := hT a (A2 (by assumption)).1
          have := hT c (C2 (by assumption)).1
          refine ⟨by assumption, ?_⟩
          unfold rk; repeat' split
          all_goals omega
        case h8 =>
          refine go c (Or.inr (C2 (by assumption)).1) c1 c2 (fun t ht => ?_)
          have h1 := A t ht
          have h2 := B t ht
          have h3 := C t ht
          have h4 := (A2 (by assumption)).2
          have h5 := (C2 (by assumption)).2
          have := hT t ht
          have := hT a (A2 (by assumption)).1
          have := hT c (C2 (by assumption)).1
          refine ⟨by assumption, ?_⟩
          unfold rk; repeat' split
          all_goals omega
        case h9 =>
          refine go c (Or.inr (C2 (by assumption)).1) c1 c2 (fun t ht => ?_)
          have h1 := A t ht
          have h2 := B t ht
          have h3 := C t ht
          have h4 := (A2 (by assumption)).2
          have h5 := (C2 (by assumption)).2
          have := hT t ht
          have := hT a (A2 (by assumption)).1
          have := hT c (C2 (by assumption)).1
          refine ⟨by assumption, ?_⟩
          unfold rk; repeat' split
          all_goals omega
        all_goals (have h1 := fun h => hT a (A2 h).1; have h2 := fun h => hT c (C2 h).1; (repeat' first | exact hrg _ | assumption | (unfold rg; omega) | omega | refine And.intro ?_ ?_))
      all_goals first | omega | (repeat' first | exact hrg _ | assumption | (unfold rg; omega) | omega | refine And.intro ?_ ?_)
    · intro s s1 s2 ihs b b1 b2 hb l5 l6 l7
      have ws := WF_s wf s1 s2
      have nx : (¬ sho (G 298) (G 297 7) p s ∨ ((G 298) ((116 + (4 * s)) + 1)) ≠ day) → zAt xT_181 (zW (d + 2)) Q 5 [zr 9 0 297, zi p, zi day, zi b, zi (s + 1), z0, z0, z0] [] G := fun hn => ihs b b1 (by omega) (hb.imp (fun h => ⟨h.1, fun t t1 t2 => by
        by_cases e : t = s
        · rw [e] at t1 ⊢
          rcases hn with hn | hn
          · exact absurd t1 hn
          · exact hn
        · exact h.2 t t1 (by omega)⟩) id) _ _ _
      apply zs_181_5 <;> intros
      case h2 => omega
      case h4 => exact nx (Or.inl (fun e => by have := e.2.2.1; contradiction))
      case h6 => exact nx (Or.inl (fun e => by have := e.2.2.2; contradiction))
      case h8 => exact nx (Or.inr (by assumption))
      case h9 => exact ihs s (by omega) (by omega) (Or.inr ⟨⟨by omega, by omega, by assumption, by assumption⟩, by assumption⟩) _ _ _
      all_goals (repeat' first | exact hrg _ | assumption | (unfold rg; omega) | omega | refine And.intro ?_ ?_)
  exact key 0 (by omega) (by omega) (-1) (by omega) (by omega) (Or.inl ⟨rfl, fun t t1 t2 => by have := t1.1; omega⟩) _ _ _
set_option maxHeartbeats 4000000 in
theorem c186 (wf : WF (G 298)) (hdr : rg (G 297 7)) {s t : Int} (s1 : 0 ≤ s) (s2 : s < G 298 4) (t1 : 0 ≤ t) (t2 : t < G 298 4) (h1 : LIKE (G 298) (G 297 7) s t → Q (some (zi 1)) G) (h0 : ¬ LIKE (G 298) (G 297 7) s t → Q (some (zi 0)) G) : zW (d + 4) 186 [zr 9 0 297, zi s, zi t] G Q := by
  refine zm_186 (zs_186_0 (c178 wf hdr s1 s2 ?_))
  obtain ⟨n0, n1, n2, n3, n4, n5⟩ := WF_n wf
  have hrg := WF_rg wf
  have bs := bo_rg wf (dr := G 297 7) s1 s2
  have bt := bo_rg wf (dr := G 297 7) t1 t2
  apply zs_186_5 <;> intros
  case h12 =>
    refine c178 wf hdr t1 t2 ?_
    apply zs_186_14 <;> intros
    case h3 =>
      refine c178 wf hdr s1 s2 (zs_186_24 (c178 wf hdr t1 t2 (zs_186_29 ?_)))
      have wb := WF_b wf (b := bo (G 298) (G 297 7) s) (by omega) (by omega)
      refine c179 wf (by omega) (by omega) (by omega) (by omega) (fun _ => ⟨by omega, by omega⟩) (fun y => ?_) (fun n => ?_)
      · apply zs_186_32 <;> intros
        case h3 => exact h1 (Or.inl ⟨by assumption, by assumption, y⟩)
        all_goals (repeat' first | exact hrg _ | assumption | (unfold rg; omega) | omega | refine And.intro ?_ ?_)
      · apply zs_186_32 <;> intros
        case h2 => refine h0 (fun e => ?_); rcases e with e | e | e; exact n e.2.2; omega; omega
        all_goals (repeat' first | exact hrg _ | assumption | (unfold rg; omega) | omega | refine And.intro ?_ ?_)
    case h2 => refine h0 (fun e => ?_); rcases e with e | e | e <;> omega
    all_goals (repeat' first | exact hrg _ | assumption | (unfold rg; omega) | omega | refine And.intro ?_ ?_)
  case h6 => exact h1 (Or.inr (Or.inr ⟨by assumption, by assumption, by assumption⟩))
  case h11 => exact h1 (Or.inr (Or.inl ⟨by assumption, by assumption, by assumption, by assumption⟩))
  all_goals first | (refine h0 (fun e => ?_); rcases e with e | e | e <;> omega) | (repeat' first | exact hrg _ | assumption | (unfold rg; omega) | omega | refine And.intro ?_ ?_)
set_option maxHeartbeats 4000000 in
theorem c187 (wf : WF (G 298)) (hdr : rg (G 297 7)) {s : Int} (s1 : 0 ≤ s) (s2 : s < G 298 4) (h1 : ((G 298) ((116 + (4 * s)) + 2)) = 1 → bo (G 298) (G 297 7) s = -1 → Q (some (zi 1)) G) (h0 : ¬ (((G 298) ((116 + (4 * s)) + 2)) = 1 ∧ bo (G 298) (G 297 7) s = -1) → Q (some (zi 0)) G) : zW (d + 4) 187 [zr 9 0 297, zi s] G Q := by
  refine zm_187 ?_
  obtain ⟨n0, n1, n2, n3, n4, n5⟩ := WF_n wf
  have hrg := WF_rg wf
  have bs := bo_rg wf (dr := G 297 7) s1 s2
  apply zs_187_0 <;> intros
  case h3 =>
    refine c178 wf hdr s1 s2 ?_
    apply zs_187_14 <;> intros
    case h3 => apply h1 <;> assumption
    case h2 => exact h0 (by omega)
    all_goals (repeat' first | exact hrg _ | assumption | (unfold rg; omega) | omega | refine And.intro ?_ ?_)
  case h2 => exact h0 (by omega)
  all_goals (repeat' first | exact hrg _ | assumption | (unfold rg; omega) | omega | refine And.intro ?_ ?_)
end RE
