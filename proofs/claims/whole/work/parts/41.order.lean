/-! THE CLASS: archive, order of the shots -/
def ARC (G : zG) (a : Int) (w : Int → Int) : Prop := G a 3 = w 2 ∧ G a 4 = w 3 ∧ G a 5 = w 4 ∧
  (∀ b, 0 ≤ b → b < w 3 → G (a + 1) b = (w (6 + (11 * b))) ∧ G (a + 2) b = (w ((6 + (11 * b)) + 1)) ∧ G (a + 3) b = (w ((6 + (11 * b)) + 2)) ∧ G (a + 6) b = lq w b ∧ (∀ i, 0 ≤ i → i < (w ((6 + (11 * b)) + 1)) → G (a + 4) ((b * 4) + i) = (w (((6 + (11 * b)) + 3) + i))) ∧ (∀ i, 0 ≤ i → i < (w ((6 + (11 * b)) + 2)) → G (a + 5) ((b * 4) + i) = (w (((6 + (11 * b)) + 7) + i)))) ∧
  (∀ s, 0 ≤ s → s < w 4 → G (a + 7) s = (w (116 + (4 * s))) ∧ G (a + 8) s = (w ((116 + (4 * s)) + 1)) ∧ G (a + 9) s = (w ((116 + (4 * s)) + 2)) ∧ ((w ((116 + (4 * s)) + 2)) = 0 ∨ (w ((116 + (4 * s)) + 2)) = 2 → G (a + 10) s = (w ((116 + (4 * s)) + 3))))
theorem ARC_fr {G G1 : zG} {a : Int} {w : Int → Int} (h : ARC G a w) (e : ∀ k j, a ≤ k → k ≤ a + 10 → G1 k j = G k j) : ARC G1 a w := by
  obtain ⟨h1, h2, h3, h4, h5⟩ := h
  refine ⟨by rw [e _ _ (by omega) (by omega)]; exact h1, by rw [e _ _ (by omega) (by omega)]; exact h2, by rw [e _ _ (by omega) (by omega)]; exact h3, fun b b0 b1 => ?_, fun s s0 s1 => ?_⟩
  · obtain ⟨g1, g2, g3, g4, g5, g6⟩ := h4 b b0 b1
    refine ⟨by rw [e _ _ (by omega) (by omega)]; exact g1, by rw [e _ _ (by omega) (by omega)]; exact g2, by rw [e _ _ (by omega) (by omega)]; exact g3, by rw [e _ _ (by omega) (by omega)]; exact g4, fun i i0 i1 => by rw [e _ _ (by omega) (by omega)]; exact g5 i i0 i1, fun i i0 i1 => by rw [e _ _ (by omega) (by omega)]; exact g6 i i0 i1⟩
  · obtain ⟨g1, g2, g3, g4⟩ := h5 s s0 s1
    exact ⟨by rw [e _ _ (by omega) (by omega)]; exact g1, by rw [e _ _ (by omega) (by omega)]; exact g2, by rw [e _ _ (by omega) (by omega)]; exact g3, fun i => by rw [e _ _ (by omega) (by omega)]; exact g4 i⟩
def OD (w : Int → Int) (dr : Int) (o st : Int → Int) : Prop :=
  (∀ p, 0 ≤ p → p < 8 → 0 ≤ st p ∧ st p ≤ st (p + 1) ∧ st (p + 1) ≤ 60) ∧
  (∀ p, 0 ≤ p → p < 8 → ∀ k, st p ≤ k → k < st (p + 1) → sho w dr p (o k)) ∧
  (∀ p, 0 ≤ p → p < 8 → ∀ k k', st p ≤ k → k < k' → k' < st (p + 1) → (w ((116 + (4 * (o k))) + 1)) < (w ((116 + (4 * (o k'))) + 1))) ∧
  (∀ p, 0 ≤ p → p < 8 → ∀ t, sho w dr p t → ∃ k, st p ≤ k ∧ k < st (p + 1) ∧ o k = t)
theorem OD_of {G : zG} {a dr m : Int} {w o st : Int → Int} (wf : WF w) (hA : ARC G a w) (hm : m ≤ 60) (hS : SRT (G (a + 7)) (G (a + 8)) (w 4) dr o m) (hT : STS (G (a + 7)) o st m 9) : OD w dr o st := by
  have n2 := (WF_n wf).2.2.1
  have cv : ∀ k, 0 ≤ k → k < m → G (a + 7) (o k) = (w (116 + (4 * (o k)))) ∧ G (a + 8) (o k) = (w ((116 + (4 * (o k))) + 1)) := fun k k0 k1 => by
    have := hS.1 k k0 k1
    have := hA.2.2.2.2 (o k) this.1 this.2.1
    exact ⟨this.1, this.2.1⟩
  have blk : ∀ p, 0 ≤ p → p < 8 → ∀ k, st p ≤ k → k < st (p + 1) → 0 ≤ k ∧ k < m ∧ (w (116 + (4 * (o k)))) = p := by
    intro p p0 p1 k k0 k1
    have t1 := hT p p0 (by omega)
    have t2 := hT (p + 1) (by omega) (by omega)
    have h1 := t1.2 k (by omega) (by omega)
    have h2 := t2.2 k (by omega) (by omega)
    have := cv k (by omega) (by omega)
    rw [this.1] at h1 h2
    exact ⟨by omega, by omega, by omega⟩
  refine ⟨fun p p0 p1 => ?_, fun p p0 p1 k k0 k1 => ?_, fun p p0 p1 k k' k0 k1 k2 => ?_, fun p p0 p1 t ht => ?_⟩
  · have t1 := hT p p0 (by omega)
    have t2 := hT (p + 1) (by omega) (by omega)
    refine ⟨t1.1.1, ?_, by omega⟩
    rcases Int.lt_or_le (st (p + 1)) (st p) with c | c
    · have h1 := t1.2 (st (p + 1)) (by omega) (by omega)
      have h2 := t2.2 (st (p + 1)) (by omega) (by omega)
      omega
    · exact c
  · obtain ⟨b0, b1, b2⟩ := blk p p0 p1 k k0 k1
    have := hS.1 k b0 b1
    exact ⟨this.1, this.2.1, this.2.2, b2⟩
  · obtain ⟨b0, b1, b2⟩ := blk p p0 p1 k k0 (by omega)
    obtain ⟨c0, c1, c2⟩ := blk p p0 p1 k' (by omega) k2
    have := hS.2.2 k k' b0 k1 c1
    rw [(cv k b0 b1).1, (cv k b0 b1).2, (cv k' c0 c1).1, (cv k' c0 c1).2] at this
    omega
  · obtain ⟨k, k0, k1, e⟩ := hS.2.1 t ht.1 ht.2.1 ht.2.2.1
    have t1 := (hT p p0 (by omega)).2 k k0 k1
    have t2 := (hT (p + 1) (by omega) (by omega)).2 k k0 k1
    rw [(cv k k0 k1).1, e, ht.2.2.2] at t1 t2
    exact ⟨k, by omega, by omega, e⟩
section OO
variable {w o st : Int → Int} {dr p k : Int}
theorem OD_lt (h : OD w dr o st) (p0 : 0 ≤ p) (p1 : p < 8) {j k : Int} (j0 : st p ≤ j) (j1 : j < st (p + 1)) (k0 : st p ≤ k) (k1 : k < st (p + 1)) : (w ((116 + (4 * (o j))) + 1)) < (w ((116 + (4 * (o k))) + 1)) ↔ j < k := by
  rcases Int.lt_trichotomy j k with c | c | c
  · exact ⟨fun _ => c, fun _ => h.2.2.1 p p0 p1 j k j0 c k1⟩
  · rw [c]; omega
  · have := h.2.2.1 p p0 p1 k j k0 c j1; omega
theorem OD_ah0 (wf : WF w) (h : OD w dr o st) (p0 : 0 ≤ p) (p1 : p < 8) (k0 : st p ≤ k) (k1 : k < st (p + 1)) : ah w dr p (w ((116 + (4 * (o k))) + 1)) 0 = if k = st p then -1 else o (k - 1) := by
  by_cases c : k = st p
  · rw [if_pos c]
    refine ah_eq wf (Or.inl ⟨rfl, fun t ht => ?_⟩)
    obtain ⟨j, j0, j1, e⟩ := h.2.2.2 p p0 p1 t ht.1
    have := ht.2.1
    rw [← e, OD_lt h p0 p1 j0 j1 k0 k1] at this
    omega
  · rw [if_neg c]
    refine ah_eq wf (Or.inr ⟨⟨h.2.1 p p0 p1 (k - 1) (by omega) (by omega), h.2.2.1 p p0 p1 (k - 1) k (by omega) (by omega) k1, by omega⟩, fun t ht => ?_⟩)
    obtain ⟨j, j0, j1, e⟩ := h.2.2.2 p p0 p1 t ht.1
    have hlt := ht.2.1
    rw [← e, OD_lt h p0 p1 j0 j1 k0 k1] at hlt
    show -(w ((116 + (4 * (o (k - 1)))) + 1)) ≤ -(w ((116 + (4 * t)) + 1))
    rw [← e]
    by_cases c2 : j = k - 1
    · rw [c2]; omega
    · have := h.2.2.1 p p0 p1 j (k - 1) j0 (by omega) (by omega); omega
theorem OD_be (wf : WF w) (h : OD w dr o st) (p0 : 0 ≤ p) (p1 : p < 8) (k0 : st p ≤ k) (k1 : k < st (p + 1)) : be w dr p (w ((116 + (4 * (o k))) + 1)) = if k + 1 = st (p + 1) then -1 else o (k + 1) := by
  by_cases c : k + 1 = st (p + 1)
  · rw [if_pos c]
    refine be_eq wf (Or.inl ⟨rfl, fun t ht => ?_⟩)
    obtain ⟨j, j0, j1, e⟩ := h.2.2.2 p p0 p1 t ht.1
    have := ht.2
    rw [← e, OD_lt h p0 p1 k0 k1 j0 j1] at this
    omega
  · rw [if_neg c]
    refine be_eq wf (Or.inr ⟨⟨h.2.1 p p0 p1 (k + 1) (by omega) (by omega), h.2.2.1 p p0 p1 k (k + 1) (by omega) (by omega) (by omega)⟩, fun t ht => ?_⟩)
    obtain ⟨j, j0, j1, e⟩ := h.2.2.2 p p0 p1 t ht.1
    have hlt := ht.2
    rw [← e, OD_lt h p0 p1 k0 k1 j0 j1] at hlt
    show (w ((116 + (4 * (o (k + 1)))) + 1)) ≤ (w ((116 + (4 * t)) + 1))
    rw [← e]
    by_cases c2 : j = k + 1
    · rw [c2]; omega
    · have := h.2.2.1 p p0 p1 (k + 1) j (by omega) (by omega) j1; omega
theorem OD_ah1_first (wf : WF w) (h : OD w dr o st) (p0 : 0 ≤ p) (p1 : p < 8) (k1 : st p < st (p + 1)) : ah w dr p (w ((116 + (4 * (o (st p)))) + 1)) 1 = -1 := by
  refine ah_eq wf (Or.inl ⟨rfl, fun t ht => ?_⟩)
  obtain ⟨j, j0, j1, e⟩ := h.2.2.2 p p0 p1 t ht.1
  have := ht.2.1
  rw [← e, OD_lt h p0 p1 j0 j1 (by omega) k1] at this
  omega
theorem OD_ah1_step (wf : WF w) (h : OD w dr o st) (p0 : 0 ≤ p) (p1 : p < 8) (k0 : st p ≤ k) (k1 : k + 1 < st (p + 1)) : ah w dr p (w ((116 + (4 * (o (k + 1)))) + 1)) 1 = if (w ((116 + (4 * (o k))) + 2)) = 1 then ah w dr p (w ((116 + (4 * (o k))) + 1)) 1 else o k := by
  have hk := h.2.2.1 p p0 p1 k (k + 1) k0 (by omega) k1
  by_cases c : (w ((116 + (4 * (o k))) + 2)) = 1
  · rw [if_pos c]
    refine ah_eq wf ?_
    have hx : ∀ t, qah w dr p (w ((116 + (4 * (o (k + 1)))) + 1)) 1 t → qah w dr p (w ((116 + (4 * (o k))) + 1)) 1 t := fun t ht => by
      obtain ⟨j, j0, j1, e⟩ := h.2.2.2 p p0 p1 t ht.1
      have hlt := ht.2.1
      rw [← e, OD_lt h p0 p1 j0 j1 (by omega) k1] at hlt
      have hjk : j ≠ k := fun e2 => by rw [← e, e2] at ht; exact ht.2.2 ⟨rfl, c⟩
      refine ⟨ht.1, ?_, ht.2.2⟩
      rw [← e, OD_lt h p0 p1 j0 j1 k0 (by omega)]
      omega
    rcases ah_is (w := w) dr p (w ((116 + (4 * (o k))) + 1)) 1 with e | ⟨e1, e2⟩
    · exact Or.inl ⟨e.1, fun t ht => e.2 t (hx t ht)⟩
    · exact Or.inr ⟨⟨e1.1, by have := e1.2.1; omega, e1.2.2⟩, fun t ht => e2 t (hx t ht)⟩
  · rw [if_neg c]
    refine ah_eq wf (Or.inr ⟨⟨h.2.1 p p0 p1 k k0 (by omega), hk, fun e => c e.2⟩, fun t ht => ?_⟩)
    obtain ⟨j, j0, j1, e⟩ := h.2.2.2 p p0 p1 t ht.1
    have hlt := ht.2.1
    rw [← e, OD_lt h p0 p1 j0 j1 (by omega) k1] at hlt
    show -(w ((116 + (4 * (o k))) + 1)) ≤ -(w ((116 + (4 * t)) + 1))
    rw [← e]
    by_cases c2 : j = k
    · rw [c2]; omega
    · have := h.2.2.1 p p0 p1 j k j0 (by omega) (by omega); omega
end OO
/-- the state at which a shot ends a way; what it is like -/
noncomputable def sta (w : Int → Int) (dr s : Int) : Int := if bo w dr s ≠ -1 then 0 else if (w ((116 + (4 * s)) + 2)) = 1 then 2 else 1
noncomputable def mkv (w : Int → Int) (dr s : Int) : Int := if bo w dr s ≠ -1 then lq w (bo w dr s) else if (w ((116 + (4 * s)) + 2)) = 1 then -1 else if (w ((116 + (4 * s)) + 2)) = 2 then 16 + (w ((116 + (4 * s)) + 3)) else 32
theorem lq_same {w : Int → Int} {a b : Int} (a0 : 0 ≤ a) (b0 : 0 ≤ b) : EQB w a b ↔ lq w a = lq w b := by
  have ha := lq_is (w := w) a0
  have hb := lq_is (w := w) b0
  constructor
  · intro h
    refine lq_eq ⟨hb.1, ?_, EQB_trans hb.2.2.1 (EQB_symm h), fun c c0 c1 e => hb.2.2.2 c c0 c1 (EQB_trans e h)⟩
    rcases Int.lt_or_le a (lq w b) with c | c
    · exact absurd h (hb.2.2.2 a a0 c)
    · exact c
  · intro h
    rw [h] at ha
    exact EQB_trans (EQB_symm ha.2.2.1) hb.2.2.1
theorem mkv_like {w : Int → Int} (wf : WF w) {dr s t : Int} (s0 : 0 ≤ s) (s1 : s < w 4) (t0 : 0 ≤ t) (t1 : t < w 4) : LIKE w dr s t ↔ (mkv w dr s ≠ -1 ∧ mkv w dr s = mkv w dr t) := by
  have bs := bo_rg wf (dr := dr) s0 s1
  have bt := bo_rg wf (dr := dr) t0 t1
  have n3 := (WF_n wf).2.2.2.1
  have n2 := (WF_n wf).2.2.1
  have ws := WF_s wf s0 s1
  have wt := WF_s wf t0 t1
  have b0 : ∀ u, (w ((116 + (4 * u)) + 2)) = 0 → bo w dr u = (w ((116 + (4 * u)) + 3)) := fun u h => by unfold bo; rw [if_pos h]
  have bn : ∀ u, (w ((116 + (4 * u)) + 2)) = 2 ∨ (w ((116 + (4 * u)) + 2)) = 3 → bo w dr u = -1 := fun u h => by unfold bo; rw [if_neg (by omega), if_neg (by omega)]
  have b0s := b0 s
  have b0t := b0 t
  have bnt := bn t
  unfold LIKE mkv
  by_cases cs : bo w dr s = -1
  · rw [if_neg (show ¬ (bo w dr s ≠ -1) from fun h => h cs)]
    by_cases ct : bo w dr t = -1
    · rw [if_neg (show ¬ (bo w dr t ≠ -1) from fun h => h ct)]
      repeat' split
      all_goals (constructor <;> intro h <;> omega)
    · rw [if_pos (show bo w dr t ≠ -1 from ct)]
      have lt := lq_is (w := w) (b := bo w dr t) (by omega)
      have l1 := lt.1
      have l2 := lt.2.1
      repeat' split
      all_goals (constructor <;> intro h <;> omega)
  · rw [if_pos (show bo w dr s ≠ -1 from cs)]
    have ls := lq_is (w := w) (b := bo w dr s) (by omega)
    have l1 := ls.1
    have l2 := ls.2.1
    by_cases ct : bo w dr t = -1
    · rw [if_neg (show ¬ (bo w dr t ≠ -1) from fun h => h ct)]
      repeat' split
      all_goals (constructor <;> intro h <;> omega)
    · rw [if_pos (show bo w dr t ≠ -1 from ct)]
      have e := lq_same (w := w) (a := bo w dr s) (b := bo w dr t) (by omega) (by omega)
      constructor
      · intro h
        rcases h with h | h | h
        · exact ⟨by omega, e.mp h.2.2⟩
        · exact absurd h.1 cs
        · exact absurd h.1 cs
      · intro h; exact Or.inl ⟨cs, ct, e.mpr h.2⟩
def turn (l e x : Int) : Int := if l = 0 then ((e + x) / 2) + 1 else if l = 1 then ((e + x) + 1) / 2 else x
/-- the first day to which a shot is the nearest -/
noncomputable def snv (w : Int → Int) (dr s : Int) : Int := if ah w dr (w (116 + (4 * s))) (w ((116 + (4 * s)) + 1)) 0 = -1 then 0 else turn (w 0) (w ((116 + (4 * (ah w dr (w (116 + (4 * s))) (w ((116 + (4 * s)) + 1)) 0))) + 1)) (w ((116 + (4 * s)) + 1))
