/-! THE CLASS: spans, walks -/
section ZL
variable {G : zG} {q v k : Int}
theorem zl10 : zu G q 0 v k 1 = G k 1 := zu_j (by decide)
theorem zl20 : zu G q 0 v k 2 = G k 2 := zu_j (by decide)
theorem zl21 : zu G q 1 v k 2 = G k 2 := zu_j (by decide)
theorem zl30 : zu G q 0 v k 3 = G k 3 := zu_j (by decide)
theorem zl31 : zu G q 1 v k 3 = G k 3 := zu_j (by decide)
theorem zl32 : zu G q 2 v k 3 = G k 3 := zu_j (by decide)
theorem zl40 : zu G q 0 v k 4 = G k 4 := zu_j (by decide)
theorem zl41 : zu G q 1 v k 4 = G k 4 := zu_j (by decide)
theorem zl42 : zu G q 2 v k 4 = G k 4 := zu_j (by decide)
theorem zl43 : zu G q 3 v k 4 = G k 4 := zu_j (by decide)
theorem zl02 : zu G q 2 v k 0 = G k 0 := zu_j (by decide)
theorem zl03 : zu G q 3 v k 0 = G k 0 := zu_j (by decide)
theorem zl04 : zu G q 4 v k 0 = G k 0 := zu_j (by decide)
theorem zl01 : zu G q 1 v k 0 = G k 0 := zu_j (by decide)
theorem zl23 : zu G q 3 v k 2 = G k 2 := zu_j (by decide)
theorem zl24 : zu G q 4 v k 2 = G k 2 := zu_j (by decide)
theorem zl34 : zu G q 4 v k 3 = G k 3 := zu_j (by decide)
theorem zl12 : zu G q 2 v k 1 = G k 1 := zu_j (by decide)
theorem zl13 : zu G q 3 v k 1 = G k 1 := zu_j (by decide)
theorem zl14 : zu G q 4 v k 1 = G k 1 := zu_j (by decide)
end ZL
abbrev Q4 : Type := Int × Int × Int × Int
def o4 : Q4 := (0, 365, 0, 365)
def nar (a b : Q4) : Q4 := (max a.1 b.1, min a.2.1 b.2.1, max a.2.2.1 b.2.2.1, min a.2.2.2 b.2.2.2)
def Q4M (G : zG) (k : Int) (q : Q4) : Prop := G k 0 = q.1 ∧ G k 1 = q.2.1 ∧ G k 2 = q.2.2.1 ∧ G k 3 = q.2.2.2
def Q4d (q : Q4) : Prop := (0 ≤ q.1 ∧ q.1 ≤ 365) ∧ (0 ≤ q.2.1 ∧ q.2.1 ≤ 365) ∧ (0 ≤ q.2.2.1 ∧ q.2.2.1 ≤ 365) ∧ (0 ≤ q.2.2.2 ∧ q.2.2.2 ≤ 365)
theorem o4_d : Q4d o4 := by unfold Q4d o4; refine ⟨⟨?_, ?_⟩, ⟨?_, ?_⟩, ⟨?_, ?_⟩, ?_, ?_⟩ <;> decide
theorem nar_d {a b : Q4} (h : Q4d a) (g : Q4d b) : Q4d (nar a b) := by
  unfold Q4d nar at *
  obtain ⟨⟨h1, h2⟩, ⟨h3, h4⟩, ⟨h5, h6⟩, h7, h8⟩ := h
  obtain ⟨⟨g1, g2⟩, ⟨g3, g4⟩, ⟨g5, g6⟩, g7, g8⟩ := g
  refine ⟨⟨?_, ?_⟩, ⟨?_, ?_⟩, ⟨?_, ?_⟩, ?_, ?_⟩ <;> simp only <;> omega
noncomputable def rq (w : Int → Int) (dr s : Int) : Q4 := ((rn w dr s).1, (rn w dr s).2.1, (rn w dr s).2.2.1, (rn w dr s).2.2.2.1)
noncomputable def foldS (w : Int → Int) (dr : Int) (l : List Int) (q : Q4) : Q4 := l.foldl (fun q s => nar q (rq w dr s)) q
section CL
variable {d : Nat} {G : zG} {Q : zQ} {a x dr : Int} {w : Int → Int}
theorem rq_d (wf : WF w) {s : Int} (hI : IX G x a w dr) (hs : sho w dr (w (116 + (4 * s))) s) : G (x + 8) s = (rq w dr s).1 ∧ G (x + 9) s = (rq w dr s).2.1 ∧ G (x + 10) s = (rq w dr s).2.2.1 ∧ G (x + 11) s = (rq w dr s).2.2.2 ∧ G (x + 12) s = (rn w dr s).2.2.2.2 ∧ Q4d (rq w dr s) := by
  have h := (hI.2.2.2.2.1 s hs).2.2
  have e := rn_eq h
  have d := RUN_days wf h
  unfold rq
  rw [e]
  refine ⟨rfl, rfl, rfl, rfl, rfl, ?_⟩
  unfold Q4d
  simp only
  omega
set_option maxHeartbeats 4000000 in
theorem c59 {u v : Int} {q r : Q4} (hu : Q4M G u q) (hv : Q4M G v r) (dq : Q4d q) (dr' : Q4d r) (hQ : ∀ G1, fr G G1 (fun k j => k = u ∧ 0 ≤ j ∧ j ≤ 3) → Q4M G1 u (nar q r) → Q none G1) : zW (d + 1) 59 [zr 3 0 u, zr 3 0 v] G Q := by
  obtain ⟨a1, a2, a3, a4⟩ := hu
  obtain ⟨b1, b2, b3, b4⟩ := hv
  unfold Q4d at dq dr'
  apply zf_59
  · (simp (disch := omega) only [zu_kj, zu_s, zl10, zl20, zl21, zl30, zl31, zl32, zl40, zl41, zl42, zl43, zl02, zl03, zl04, zl23, zl24, zl34, zl12, zl13, zl14, zl01])
    rw [a1, a2, a3, a4, b1, b2, b3, b4]
    refine ⟨?_, ?_, ?_, ?_, ?_, ?_, ?_, ?_⟩ <;> (unfold rg; omega)
  · (simp (disch := omega) only [zu_kj, zu_s, zl10, zl20, zl21, zl30, zl31, zl32, zl40, zl41, zl42, zl43, zl02, zl03, zl04, zl23, zl24, zl34, zl12, zl13, zl14, zl01])
    refine hQ _ (fr_u (fr_u (fr_u (fr_u (fr_refl _ _) ⟨rfl, by omega, by omega⟩) ⟨rfl, by omega, by omega⟩) ⟨rfl, by omega, by omega⟩) ⟨rfl, by omega, by omega⟩) ⟨?_, ?_, ?_, ?_⟩
    · (simp (disch := omega) only [zu_kj, zu_s, zl10, zl20, zl21, zl30, zl31, zl32, zl40, zl41, zl42, zl43, zl02, zl03, zl04, zl23, zl24, zl34, zl12, zl13, zl14, zl01]); unfold nar; rw [a1, b1]
    · (simp (disch := omega) only [zu_kj, zu_s, zl10, zl20, zl21, zl30, zl31, zl32, zl40, zl41, zl42, zl43, zl02, zl03, zl04, zl23, zl24, zl34, zl12, zl13, zl14, zl01]); unfold nar; rw [a2, b2]
    · (simp (disch := omega) only [zu_kj, zu_s, zl10, zl20, zl21, zl30, zl31, zl32, zl40, zl41, zl42, zl43, zl02, zl03, zl04, zl23, zl24, zl34, zl12, zl13, zl14, zl01]); unfold nar; rw [a3, b3]
    · (simp (disch := omega) only [zu_kj, zu_s, zl10, zl20, zl21, zl30, zl31, zl32, zl40, zl41, zl42, zl43, zl02, zl03, zl04, zl23, zl24, zl34, zl12, zl13, zl14, zl01]); unfold nar; rw [a4, b4]
/-- a walk's memory -/
def WM (G : zG) (k x : Int) (r : List Int × Int × Int) : Prop := G k 0 = x ∧ G k 2 = r.1.length ∧ G k 3 = r.2.1 ∧ G k 4 = r.2.2 ∧ ∀ i : Int, 0 ≤ i → i < r.1.length → G (k + 1) i = r.1.getD i.toNat 0
theorem sta_eq {s : Int} (wf : WF w) (s0 : 0 ≤ s) (s1 : s < w 4) (h2 : (w ((116 + (4 * s)) + 2)) ≠ 2) : sta w dr s = if (w ((116 + (4 * s)) + 2)) = 3 then 1 else if bo w dr s = -1 then 2 else 0 := by
  have ws := WF_s wf s0 s1
  unfold sta
  by_cases c3 : (w ((116 + (4 * s)) + 2)) = 3
  · have : bo w dr s = -1 := by unfold bo; rw [if_neg (by omega), if_neg (by omega)]
    rw [if_pos c3, if_neg (fun h => h this), if_neg (by omega)]
  · rw [if_neg c3]
    by_cases c : bo w dr s = -1
    · have h1 : (w ((116 + (4 * s)) + 2)) = 1 := by
        rcases Int.lt_or_le 0 (w ((116 + (4 * s)) + 2)) with h | h
        · omega
        · have h0 : (w ((116 + (4 * s)) + 2)) = 0 := by omega
          have : bo w dr s = (w ((116 + (4 * s)) + 3)) := by unfold bo; rw [if_pos h0]
          have := ws.2.2.2.1 h0
          omega
      rw [if_pos c, if_neg (fun h => h c), if_pos h1]
    · rw [if_neg c, if_pos c]
set_option maxHeartbeats 8000000 in
theorem c89 (wf : WF w) (ha : 5 ≤ a ∧ a ≤ 54) (hx : 66 ≤ x ∧ x ≤ 79) (hI : IX G x a w dr) (hA : ARC G a w) {kw : Int} (hk : 92 ≤ kw) {p day : Int} (p0 : 0 ≤ p) (p1 : p < w 2) (d0 : 0 ≤ day) (d1 : day ≤ 365) (hQ : ∀ G1, fr G G1 (fun k _ => k = kw ∨ k = kw + 1) → WM G1 kw x (wy w dr p day) → Q none G1) : zW (d + 2) 89 [zr 7 0 kw, zr 1 0 x, zi p, zi day] G Q := by
  obtain ⟨n0, n1, n2, n3, n4, n5⟩ := WF_n wf
  have hrg := WF_rg wf
  have f0 : ∀ G1, fr G G1 (fun k _ => k = kw ∨ k = kw + 1) → IX G1 x a w dr ∧ ARC G1 a w := fun G1 h => ⟨IX_fr hI (fun k j k0 k1 => h k j (by omega)), ARC_fr hA (fun k j k0 k1 => h k j (by omega))⟩
  have k24 : ∀ (m : Nat) (ms pre : List Int) (v4 c dd : Int) (G1 : zG), pre.length + m = 8 → pre.length = ms.length → ms.length = cn (fun q => q ∈ ms) 8 → MSK v4 ms → 0 ≤ c → c < w 2 → 0 ≤ dd → dd ≤ 365 → fr G G1 (fun k _ => k = kw ∨ k = kw + 1) → G1 kw 0 = x → G1 kw 2 = pre.length → G1 kw 3 = -1 → (∀ i : Int, 0 ≤ i → i < pre.length → G1 (kw + 1) i = pre.getD i.toNat 0) → wy w dr p day = (pre ++ (wyF w dr day (m + 1) ms c dd).1, (wyF w dr day (m + 1) ms c dd).2) → ∀ l1 l2 l7, zAt xT_89 (zW (d + 1)) Q 24 [zr 7 0 kw, l1, l2, zi day, zi v4, zi c, zi dd, l7] [] G1 := by
    intro m
    induction m with
    | zero =>
      intro ms pre v4 c dd G1 hm hl hc hmk c0 c1 dd0 dd1 hf g0 g2 g3 gp hwy l1 l2 l7
      have hin : c ∈ ms := by
        by_cases h : c ∈ ms
        · exact h
        · have := ms_add hc c0 (by omega) h
          have := (cn_rg (fun q => q ∈ c :: ms) 8).2
          rw [List.length_cons] at *
          omega
      apply zs_89_24 <;> intros
      case h2 =>
        refine hQ _ (fr_u hf (Or.inl rfl)) ?_
        rw [hwy]
        have e : wyF w dr day (0 + 1) ms c dd = ([], -1, 4) := by unfold wyF; rw [if_pos hin]
        rw [e, List.append_nil]
        refine ⟨?_, ?_, ?_, ?_, fun i i0 i1 => ?_⟩
        · (simp (disch := omega) only [zu_kj, zu_s, zl10, zl20, zl21, zl30, zl31, zl32, zl40, zl41, zl42, zl43, zl02, zl03, zl04, zl23, zl24, zl34, zl12, zl13, zl14, zl01]); exact g0
        · (simp (disch := omega) only [zu_kj, zu_s, zl10, zl20, zl21, zl30, zl31, zl32, zl40, zl41, zl42, zl43, zl02, zl03, zl04, zl23, zl24, zl34, zl12, zl13, zl14, zl01]); exact g2
        · (simp (disch := omega) only [zu_kj, zu_s, zl10, zl20, zl21, zl30, zl31, zl32, zl40, zl41, zl42, zl43, zl02, zl03, zl04, zl23, zl24, zl34, zl12, zl13, zl14, zl01]); exact g3
        · rw [zu_s]
        · rw [zu_kj (by omega)]; exact gp i i0 i1
      all_goals first | omega | (unfold rg; omega)
    | succ m ih =>
      intro ms pre v4 c dd G1 hm hl hc hmk c0 c1 dd0 dd1 hf g0 g2 g3 gp hwy l1 l2 l7
      obtain ⟨hI1, hA1⟩ := f0 G1 hf
      by_cases hin : c ∈ ms
      · apply zs_89_24 <;> intros
        case h4 =>
          refine hQ _ (fr_u hf (Or.inl rfl)) ?_
          rw [hwy]
          have e : wyF w dr day (m + 1 + 1) ms c dd = ([], -1, 4) := by unfold wyF; rw [if_pos hin]
          rw [e, List.append_nil]
          refine ⟨?_, ?_, ?_, ?_, fun i i0 i1 => ?_⟩
          · (simp (disch := omega) only [zu_kj, zu_s, zl10, zl20, zl21, zl30, zl31, zl32, zl40, zl41, zl42, zl43, zl02, zl03, zl04, zl23, zl24, zl34, zl12, zl13, zl14, zl01]); exact g0
          · (simp (disch := omega) only [zu_kj, zu_s, zl10, zl20, zl21, zl30, zl31, zl32, zl40, zl41, zl42, zl43, zl02, zl03, zl04, zl23, zl24, zl34, zl12, zl13, zl14, zl01]); exact g2
          · (simp (disch := omega) only [zu_kj, zu_s, zl10, zl20, zl21, zl30, zl31, zl32, zl40, zl41, zl42, zl43, zl02, zl03, zl04, zl23, zl24, zl34, zl12, zl13, zl14, zl01]); exact g3
          · rw [zu_s]
          · rw [zu_kj (by omega)]; exact gp i i0 i1
        case h6 => rename_i h; exact absurd ((hmk c c0 (by omega)).mpr hin) ((zt_and0 c0 (by omega)).mp h)
        case h3 => exact rg_zand _ _
        case h5 => omega
        all_goals first | omega | (unfold rg; omega)
      · apply zs_89_24 <;> intros
        case h4 => rename_i h; exact absurd ((zt_and0 c0 (by omega)).mpr (fun z => hin ((hmk c c0 (by omega)).mp z))) h
        case h3 => exact rg_zand _ _
        case h6 =>
          rw [g0]
          refine c29 wf hI1 c0 (by omega) dd0 dd1 ?_
          have hn := nr_rg (w := w) dr c dd
          have hu : wyF w dr day (m + 1 + 1) ms c dd = if nr w dr c dd = -1 then ([], -1, 3) else if (w ((116 + (4 * (nr w dr c dd))) + 2)) = 2 then (nr w dr c dd :: (wyF w dr day (m + 1) (c :: ms) (w ((116 + (4 * (nr w dr c dd))) + 3)) (if w 1 = 1 then (w ((116 + (4 * (nr w dr c dd))) + 1)) else day)).1, (wyF w dr day (m + 1) (c :: ms) (w ((116 + (4 * (nr w dr c dd))) + 3)) (if w 1 = 1 then (w ((116 + (4 * (nr w dr c dd))) + 1)) else day)).2) else ([nr w dr c dd], nr w dr c dd, if (w ((116 + (4 * (nr w dr c dd))) + 2)) = 3 then 1 else if bo w dr (nr w dr c dd) = -1 then 2 else 0) := by
            show (if c ∈ ms then _ else _) = _
            rw [if_neg hin]
          rw [hu] at hwy
          clear hu
          generalize nr w dr c dd = r at *
          have hs : r ≠ -1 → 0 ≤ r ∧ r < w 4 := fun h => by
            rcases hn with e | e
            · exact absurd e h
            · exact ⟨e.1, e.2.1⟩
          have hsh : r ≠ -1 → sho w dr (w (116 + (4 * r))) r := fun h => by
            rcases hn with e | e
            · exact absurd e h
            · exact ⟨e.1, e.2.1, e.2.2.1, rfl⟩
          have hlen : ∀ z : Int, (pre.length : Int) + 1 = (pre ++ [z]).length := fun z => by rw [List.length_append]; simp
          have hrr : rg r := by
            by_cases h : r = -1
            · unfold rg; omega
            · have := hs h; unfold rg; omega
          have ev : ∀ z, zu (zu G1 (kw + 1) (G1 kw 2) r) kw 2 (zu G1 (kw + 1) (G1 kw 2) r kw 2 + 1) kw z = if z = 2 then G1 kw 2 + 1 else G1 kw z := fun z => by
            by_cases h : z = 2
            · rw [h, zu_s, zu_kj (by omega), if_pos rfl]
            · rw [zu_j h, zu_kj (by omega), if_neg h]
          have eo : ∀ y z, y < 92 → zu (zu G1 (kw + 1) (G1 kw 2) r) kw 2 (zu G1 (kw + 1) (G1 kw 2) r kw 2 + 1) y z = G1 y z := fun y z h => by rw [zu_kj (by omega), zu_kj (by omega)]
          have e2 : zu (zu G1 (kw + 1) (G1 kw 2) r) kw 2 (zu G1 (kw + 1) (G1 kw 2) r kw 2 + 1) = zu (zu G1 (kw + 1) pre.length r) kw 2 (pre.length + 1) := by rw [zu_kj (by omega), g2]
          have ax := hI1.1
          have cx := hI1.2.1
          have hsa := fun h => hA1.2.2.2.2 r (hs h).1 (hs h).2
          have nx : ∀ d2, r ≠ -1 → (w ((116 + (4 * r)) + 2)) = 2 → d2 = (if w 1 = 1 then (w ((116 + (4 * r)) + 1)) else day) → ∀ l7, zAt xT_89 (zW (d + 1)) Q 24 [zr 7 0 kw, z0, z0, zi day, zi (zor v4 (zshl 1 c)), zi (w ((116 + (4 * r)) + 3)), zi d2, l7] [] (zu (zu G1 (kw + 1) pre.length r) kw 2 (pre.length + 1)) := by
            intro d2 hr1 hk2 hd2 l7
            have wr := WF_s wf (hs hr1).1 (hs hr1).2
            rw [if_neg hr1, if_pos hk2] at hwy
            refine ih (c :: ms) (pre ++ [r]) _ _ _ _ ?_ ?_ (ms_add hc c0 (by omega) hin) (MSK_c hmk c0 (by omega)) ?_ ?_ ?_ ?_ (fr_u (fr_u hf (Or.inr rfl)) (Or.inl rfl)) ?_ ?_ ?_ ?_ ?_ _ _ _
            · rw [List.length_append]; simp; omega
            · rw [List.length_append, List.length_cons]; simp; omega
            · have := wr.2.2.2.2 hk2; omega
            · have := wr.2.2.2.2 hk2; omega
            · rw [hd2]; split <;> omega
            · rw [hd2]; split <;> omega
            · (simp (disch := omega) only [zu_kj, zu_s, zl10, zl20, zl21, zl30, zl31, zl32, zl40, zl41, zl42, zl43, zl02, zl03, zl04, zl23, zl24, zl34, zl12, zl13, zl14, zl01]); exact g0
            · rw [zu_s]; exact hlen r
            · (simp (disch := omega) only [zu_kj, zu_s, zl10, zl20, zl21, zl30, zl31, zl32, zl40, zl41, zl42, zl43, zl02, zl03, zl04, zl23, zl24, zl34, zl12, zl13, zl14, zl01]); exact g3
            · intro i i0 i1
              rw [zu_kj (by omega)]
              rw [← hlen r] at i1
              by_cases h : i = pre.length
              · rw [h, zu_s, Int.toNat_natCast, getD_end]
              · rw [zu_j (by omega), gp i i0 (by omega), getD_pre (by omega)]
            · rw [hwy, hd2, List.append_assoc]; rfl
          have ew : ∀ z, z ≠ 2 → zu (zu G1 (kw + 1) (G1 kw 2) r) kw 2 (zu G1 (kw + 1) (G1 kw 2) r kw 2 + 1) kw z = G1 kw z := fun z h => by rw [ev, if_neg h]
          apply zs_89_63 <;> intros
          case h1 => exact hrr
          case h2 =>
            rename_i h
            rw [ew 0 (by omega), g0, eo x 0 (by omega), ax, eo (a + 9) r (by omega), (hsa h).2.2.1]
            have := hs h
            exact ⟨by omega, by omega, by omega, by omega, hrg _⟩
          case h3 => rw [ew 0 (by omega), g0, eo x 1 (by omega), cx]; exact hrg _
          case h4 =>
            rename_i h h2 h3
            rw [ew 0 (by omega), g0, eo x 0 (by omega), ax, eo (a + 9) r (by omega), (hsa h).2.2.1] at h2
            rw [ew 0 (by omega), g0, eo x 1 (by omega), cx] at h3
            rw [ew 0 (by omega), g0, eo x 0 (by omega), ax, eo (a + 10) r (by omega), (hsa h).2.2.2 (Or.inr h2), eo (a + 8) r (by omega), (hsa h).2.1, e2]
            exact nx _ h h2 (by rw [if_pos (by omega)]) _
          case h5 =>
            rename_i h h2 h3
            rw [ew 0 (by omega), g0, eo x 0 (by omega), ax, eo (a + 9) r (by omega), (hsa h).2.2.1] at h2
            rw [ew 0 (by omega), g0, eo x 1 (by omega), cx] at h3
            rw [ew 0 (by omega), g0, eo x 0 (by omega), ax, eo (a + 10) r (by omega), (hsa h).2.2.2 (Or.inr h2), e2]
            exact nx _ h h2 (by rw [if_neg (by omega)]) _
          case h6 => rw [zu_j (by omega), ew 0 (by omega), g0]; omega
          case h7 =>
            rename_i h h2
            rw [ew 0 (by omega), g0, eo x 0 (by omega), ax, eo (a + 9) r (by omega), (hsa h).2.2.1] at h2
            rw [if_neg h, if_neg h2] at hwy
            rw [zu_j (show (0 : Int) ≠ 3 by omega), ew 0 (by omega), g0, zu_kj (show x + 4 ≠ kw by omega), eo (x + 4) r (by omega), (hI1.2.2.2.2.1 r (hsh h)).1.2.1, sta_eq wf (hs h).1 (hs h).2 h2, e2]
            refine hQ _ (fr_u (fr_u (fr_u (fr_u hf (Or.inr rfl)) (Or.inl rfl)) (Or.inl rfl)) (Or.inl rfl)) ?_
            rw [hwy]
            refine ⟨?_, ?_, ?_, ?_, fun i i0 i1 => ?_⟩
            · (simp (disch := omega) only [zu_kj, zu_s, zl10, zl20, zl21, zl30, zl31, zl32, zl40, zl41, zl42, zl43, zl02, zl03, zl04, zl23, zl24, zl34, zl12, zl13, zl14, zl01]); exact g0
            · (simp (disch := omega) only [zu_kj, zu_s, zl10, zl20, zl21, zl30, zl31, zl32, zl40, zl41, zl42, zl43, zl02, zl03, zl04, zl23, zl24, zl34, zl12, zl13, zl14, zl01]); exact hlen r
            · (simp (disch := omega) only [zu_kj, zu_s, zl10, zl20, zl21, zl30, zl31, zl32, zl40, zl41, zl42, zl43, zl02, zl03, zl04, zl23, zl24, zl34, zl12, zl13, zl14, zl01])
            · rw [zu_s]
            · have i1 : i < (pre ++ [r]).length := i1
              rw [← hlen r] at i1
              rw [zu_kj (by omega), zu_kj (by omega), zu_kj (by omega)]
              by_cases h : i = pre.length
              · rw [h, zu_s, Int.toNat_natCast, getD_end]
              · rw [zu_j (by omega), gp i i0 (by omega), getD_pre (by omega)]
          case h8 =>
            rename_i h
            rw [if_pos h, List.append_nil] at hwy
            refine hQ _ (fr_u hf (Or.inl rfl)) ?_
            rw [hwy]
            refine ⟨?_, ?_, ?_, ?_, fun i i0 i1 => ?_⟩
            · (simp (disch := omega) only [zu_kj, zu_s, zl10, zl20, zl21, zl30, zl31, zl32, zl40, zl41, zl42, zl43, zl02, zl03, zl04, zl23, zl24, zl34, zl12, zl13, zl14, zl01]); exact g0
            · (simp (disch := omega) only [zu_kj, zu_s, zl10, zl20, zl21, zl30, zl31, zl32, zl40, zl41, zl42, zl43, zl02, zl03, zl04, zl23, zl24, zl34, zl12, zl13, zl14, zl01]); exact g2
            · (simp (disch := omega) only [zu_kj, zu_s, zl10, zl20, zl21, zl30, zl31, zl32, zl40, zl41, zl42, zl43, zl02, zl03, zl04, zl23, zl24, zl34, zl12, zl13, zl14, zl01]); exact g3
            · rw [zu_s]
            · rw [zu_kj (by omega)]; exact gp i i0 i1
        all_goals first | omega | (unfold rg; omega)
  refine zm_89 (zs_89_0 ?_)
  refine k24 8 [] [] 0 p day _ rfl rfl (cn_0 8 (fun t _ _ h => by cases h)).symm MSK_0 p0 p1 d0 d1 (fr_u (fr_u (fr_u (fr_refl _ _) (Or.inl rfl)) (Or.inl rfl)) (Or.inl rfl)) ?_ ?_ ?_ (fun i i0 i1 => by simp at i1; omega) rfl _ _ _
  · (simp (disch := omega) only [zu_kj, zu_s, zl10, zl20, zl21, zl30, zl31, zl32, zl40, zl41, zl42, zl43, zl02, zl03, zl04, zl23, zl24, zl34, zl12, zl13, zl14, zl01])
  · (simp (disch := omega) only [zu_kj, zu_s, zl10, zl20, zl21, zl30, zl31, zl32, zl40, zl41, zl42, zl43, zl02, zl03, zl04, zl23, zl24, zl34, zl12, zl13, zl14, zl01]); rfl
  · rw [zu_s]
end CL
