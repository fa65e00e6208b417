/-! THE CALLS: whole, judged, element, common, spread, farthest, drift, heavy by the class -/
section CV
variable {d : Nat} {G : zG} {Q : zQ} {w : Int → Int} {v x a dr : Int}
/-- an element as the class has it -/
theorem VC_at {L pre rem : List EL} {y : EL} (hV : VC G v w dr L) (hL : L = pre ++ y :: rem) : G v 2 = pre.length + (rem.length + 1) ∧ G (v + 3) pre.length = y.1 ∧ G (v + 4) pre.length = y.2.2.1 ∧ G (v + 5) pre.length = y.2.2.2.1 := by
  have hl : L.length = pre.length + (rem.length + 1) := by rw [hL, List.length_append, List.length_cons]
  have := hV.2.2 pre.length (by omega) (by omega)
  rw [Int.toNat_natCast, hL, getE_at] at this
  exact ⟨by rw [hV.1]; omega, this.1, this.2.1, this.2.2.1⟩
theorem VC_nil {L pre : List EL} (hV : VC G v w dr L) (hL : L = pre ++ []) : G v 2 = pre.length := by
  rw [List.append_nil] at hL; rw [hV.1, hL]
theorem VC_len {L pre rem : List EL} (hl : L.length ≤ 85) (hL : L = pre ++ rem) : pre.length + rem.length ≤ 85 := by rw [hL, List.length_append] at hl; exact hl
/-- a shot through a view's index -/
theorem VX_s (hvx : G v 0 = x) (hI : IX G x a w dr) (hA : ARC G a w) {s : Int} (hs : sho w dr (w (116 + (4 * s))) s) : G ((G (G v 0) 0) + 8) s = (w ((116 + (4 * s)) + 1)) ∧ G ((G v 0) + 3) s = bo w dr s ∧ G ((G v 0) + 4) s = sta w dr s := by
  rw [hvx, hI.1]
  exact ⟨(hA.2.2.2.2 s hs.1 hs.2.1).2.1, (hI.2.2.2.2.1 s hs).1.1, (hI.2.2.2.2.1 s hs).1.2.1⟩
theorem whl_iff : ∀ L : List EL, whl L ↔ ∀ y ∈ L, (y.2.2.2.1 = 0 ∨ y.2.2.2.1 = 5)
  | [] => ⟨fun _ y hy => (by cases hy), fun _ => trivial⟩
  | y :: ys => ⟨fun h z hz => by rcases List.mem_cons.mp hz with rfl | hz; exact h.1; exact (whl_iff ys).mp h.2 z hz, fun h => ⟨h y List.mem_cons_self, (whl_iff ys).mpr fun z hz => h z (List.mem_cons_of_mem _ hz)⟩⟩
set_option maxHeartbeats 4000000 in
theorem c80 (wf : WF w) {L : List EL} (hv : 94 ≤ v ∧ v ≤ 300) (hV : VC G v w dr L) (hl : L.length ≤ 85) (hok : ∀ y ∈ L, EOK w dr y) (hQ : Q (some (zi (bP (whl L) 1 0))) G) : zW (d + 1) 80 [zr 6 0 v] G Q := by
  refine zm_80 (zs_80_0 ?_)
  have key : ∀ (rem pre : List EL), L = pre ++ rem → (∀ y ∈ pre, (y.2.2.2.1 = 0 ∨ y.2.2.2.1 = 5)) → zAt xT_80 (zW d) Q 2 [zr 6 0 v, zi pre.length] [] G := by
    intro rem
    induction rem with
    | nil =>
      intro pre hL hp
      have h2 := VC_nil hV hL
      have hll := VC_len hl hL
      rw [List.append_nil] at hL
      apply zs_80_2 <;> intros
      case h2 => rw [bP_t ((whl_iff L).mpr (by rw [hL]; exact hp))] at hQ; exact hQ
      all_goals first | omega | (repeat' first | exact hrg _ | assumption | (unfold rg; omega) | omega | refine And.intro ?_ ?_)
    | cons y rem ih =>
      intro pre hL hp
      obtain ⟨v1, v2, v3, v4⟩ := VC_at hV hL
      have hll := VC_len hl hL
      rw [List.length_cons] at hll
      have hyL : y ∈ L := by rw [hL]; exact List.mem_append_right _ List.mem_cons_self
      have he := EOK_e wf (hok y hyL)
      have nx := fun hp => ih (pre ++ [y]) (by rw [hL, List.append_assoc]; rfl) hp
      rw [hplus] at nx
      have nx := fun (h : y.2.2.2.1 = 0 ∨ y.2.2.2.1 = 5) => nx (fun z hz => by rcases List.mem_append.mp hz with hz | hz; exact hp z hz; rcases List.mem_singleton.mp hz with rfl; exact h)
      apply zs_80_2 <;> intros
      case h4 => exact nx (by omega)
      case h5 => exact nx (by omega)
      case h6 => rw [bP_f (fun z => by have := (whl_iff L).mp z y hyL; omega)] at hQ; exact hQ
      all_goals first | omega | (repeat' first | exact hrg _ | assumption | (unfold rg; omega) | omega | refine And.intro ?_ ?_)
  exact key L [] rfl (fun y hy => by cases hy)
set_option maxHeartbeats 4000000 in
theorem c84 (wf : WF w) {L : List EL} (hv : 94 ≤ v ∧ v ≤ 300) (hx : 66 ≤ x) (ha : 5 ≤ a) (hvx : G v 0 = x) (hI : IX G x a w dr) (hA : ARC G a w) (hV : VC G v w dr L) (hl : L.length ≤ 85) (hok : ∀ y ∈ L, EOK w dr y) (hQ : Q (some (zi (if spX w L (-1) = -1 then -1 else spX w L (-1) - spM w L 365))) G) : zW (d + 2) 84 [zr 6 0 v] G Q := by
  refine zm_84 (zs_84_0 ?_)
  have hxa := hI.1
  have hga : 0 ≤ G (G v 0) 0 := by rw [hvx, hxa]; omega
  have key : ∀ (rem pre : List EL) (m la : Int), L = pre ++ rem → spX w L (-1) = spX w rem la → spM w L 365 = spM w rem m → -1 ≤ la → la ≤ 365 → 0 ≤ m → m ≤ 365 → zAt xT_84 (zW (d + 1)) Q 8 [zr 6 0 v, zi m, zi la, zi pre.length] [] G := by
    intro rem
    induction rem with
    | nil =>
      intro pre m la hL hX hM l0 l1 m0 m1
      have h2 := VC_nil hV hL
      have hll := VC_len hl hL
      have hX : spX w L (-1) = la := hX
      have hM : spM w L 365 = m := hM
      rw [hX, hM] at hQ
      apply zs_84_8 <;> intros
      case h3 => rw [if_neg (by omega)] at hQ; exact hQ
      case h4 => rw [if_pos (by omega)] at hQ; exact hQ
      all_goals first | omega | (repeat' first | exact hrg _ | assumption | (unfold rg; omega) | omega | refine And.intro ?_ ?_)
    | cons y rem ih =>
      intro pre m la hL hX hM l0 l1 m0 m1
      obtain ⟨v1, v2, v3, v4⟩ := VC_at hV hL
      have hll := VC_len hl hL
      rw [List.length_cons] at hll
      have he := EOK_e wf (hok y (by rw [hL]; exact List.mem_append_right _ List.mem_cons_self))
      have hX : spX w L (-1) = spX w rem (if y.2.2.1 = -1 then la else max la (w ((116 + (4 * (y.2.2.1))) + 1))) := hX
      have hM : spM w L 365 = spM w rem (if y.2.2.1 = -1 then m else min m (w ((116 + (4 * (y.2.2.1))) + 1))) := hM
      have nx := fun m la hX hM l0 l1 m0 m1 => ih (pre ++ [y]) m la (by rw [hL, List.append_assoc]; rfl) hX hM l0 l1 m0 m1
      rw [hplus] at nx
      by_cases c : y.2.2.1 = -1
      · rw [if_pos c] at hX hM
        apply zs_84_8 <;> intros
        case h6 => exact nx _ _ hX hM l0 l1 m0 m1
        all_goals first | omega | (rw [v3]; (repeat' first | exact hrg _ | assumption | (unfold rg; omega) | omega | refine And.intro ?_ ?_)) | (repeat' first | exact hrg _ | assumption | (unfold rg; omega) | omega | refine And.intro ?_ ?_)
      · rw [if_neg c] at hX hM
        have hs := he.2.1.resolve_left c
        have n4 := (WF_n wf).2.2.2.2.1
        have wd := (WF_s wf hs.1 hs.2.1).2.1
        have hdy := (VX_s hvx hI hA hs.2.2).1
        rw [← v3] at hdy
        apply zs_84_8 <;> intros
        case h11 => rw [hdy, v3]; exact nx _ _ hX hM (by omega) (by omega) (by omega) (by omega)
        all_goals (try rw [hdy]); first | omega | (rw [v3]; (repeat' first | exact hrg _ | assumption | (unfold rg; omega) | omega | refine And.intro ?_ ?_)) | (repeat' first | exact hrg _ | assumption | (unfold rg; omega) | omega | refine And.intro ?_ ?_)
  exact key L [] 365 (-1) rfl rfl rfl (by omega) (by omega) (by omega) (by omega)
set_option maxHeartbeats 4000000 in
theorem c85 (wf : WF w) {L : List EL} {day : Int} (hdd : 0 ≤ day ∧ day ≤ 365) (hv : 94 ≤ v ∧ v ≤ 300) (hx : 66 ≤ x) (ha : 5 ≤ a) (hvx : G v 0 = x) (hI : IX G x a w dr) (hA : ARC G a w) (hV : VC G v w dr L) (hl : L.length ≤ 85) (hok : ∀ y ∈ L, EOK w dr y) (hQ : Q (some (zi (farF w day L 0 (-1) (-1)))) G) : zW (d + 2) 85 [zr 6 0 v, zi day] G Q := by
  refine zm_85 (zs_85_0 ?_)
  have hxa := hI.1
  have hga : 0 ≤ G (G v 0) 0 := by rw [hvx, hxa]; omega
  have key : ∀ (rem pre : List EL) (b m : Int), L = pre ++ rem → farF w day L 0 (-1) (-1) = farF w day rem pre.length b m → rg b → -1 ≤ m → m ≤ 400 → zAt xT_85 (zW (d + 1)) Q 7 [zr 6 0 v, zi day, zi b, zi m, zi pre.length] [] G := by
    intro rem
    induction rem with
    | nil =>
      intro pre b m hL hX hb m0 m1
      have h2 := VC_nil hV hL
      have hll := VC_len hl hL
      have hX : farF w day L 0 (-1) (-1) = b := hX
      rw [hX] at hQ
      apply zs_85_7 <;> intros
      case h2 => exact hQ
      all_goals first | omega | (repeat' first | exact hrg _ | assumption | (unfold rg; omega) | omega | refine And.intro ?_ ?_)
    | cons y rem ih =>
      intro pre b m hL hX hb m0 m1
      obtain ⟨v1, v2, v3, v4⟩ := VC_at hV hL
      have hll := VC_len hl hL
      rw [List.length_cons] at hll
      have he := EOK_e wf (hok y (by rw [hL]; exact List.mem_append_right _ List.mem_cons_self))
      have hX : farF w day L 0 (-1) (-1) = if y.2.2.1 ≠ -1 ∧ m < zabs ((w ((116 + (4 * (y.2.2.1))) + 1)) - day) then farF w day rem (pre.length + 1) pre.length (zabs ((w ((116 + (4 * (y.2.2.1))) + 1)) - day)) else farF w day rem (pre.length + 1) b m := hX
      have nx := fun b m hX hb m0 m1 => ih (pre ++ [y]) b m (by rw [hL, List.append_assoc]; rfl) hX hb m0 m1
      rw [hplus] at nx
      by_cases c : y.2.2.1 = -1
      · rw [if_neg (fun z => z.1 c)] at hX
        apply zs_85_7 <;> intros
        case h4 => exact nx _ _ hX hb m0 m1
        all_goals first | omega | (rw [v3]; (repeat' first | exact hrg _ | assumption | (unfold rg; omega) | omega | refine And.intro ?_ ?_)) | (repeat' first | exact hrg _ | assumption | (unfold rg; omega) | omega | refine And.intro ?_ ?_)
      · have hs := he.2.1.resolve_left c
        have n4 := (WF_n wf).2.2.2.2.1
        have wd := (WF_s wf hs.1 hs.2.1).2.1
        have hz : 0 ≤ zabs ((w ((116 + (4 * (y.2.2.1))) + 1)) - day) ∧ zabs ((w ((116 + (4 * (y.2.2.1))) + 1)) - day) ≤ 365 := by unfold zabs; omega
        have hdy := (VX_s hvx hI hA hs.2.2).1
        rw [← v3] at hdy
        apply zs_85_7 <;> intros
        case h7 => rename_i h; rw [hdy, v3] at h; rw [if_neg (fun z => by have := z.2; omega)] at hX; exact nx _ _ hX hb m0 m1
        case h9 => rename_i h; rw [hdy, v3] at h ⊢; rw [if_pos ⟨c, h⟩] at hX; exact nx _ _ hX ⟨by omega, by omega⟩ (by omega) (by omega)
        all_goals (try rw [hdy]); first | omega | (rw [v3]; (repeat' first | exact hrg _ | assumption | (unfold rg; omega) | omega | refine And.intro ?_ ?_)) | (repeat' first | exact hrg _ | assumption | (unfold rg; omega) | omega | refine And.intro ?_ ?_)
  exact key L [] (-1) (-1) rfl rfl ⟨by omega, by omega⟩ (by omega) (by omega)
set_option maxHeartbeats 4000000 in
theorem c86 (wf : WF w) {L : List EL} {day : Int} (hdd : 0 ≤ day ∧ day ≤ 365) (hv : 94 ≤ v ∧ v ≤ 300) (hx : 66 ≤ x) (ha : 5 ≤ a) (hvx : G v 0 = x) (hI : IX G x a w dr) (hA : ARC G a w) (hV : VC G v w dr L) (hl : L.length ≤ 85) (hok : ∀ y ∈ L, EOK w dr y) (hQ : Q (some (zi (drf w day L 0))) G) : zW (d + 2) 86 [zr 6 0 v, zi day] G Q := by
  refine zm_86 (zs_86_0 ?_)
  have hxa := hI.1
  have hga : 0 ≤ G (G v 0) 0 := by rw [hvx, hxa]; omega
  have key : ∀ (rem pre : List EL) (m : Int), L = pre ++ rem → drf w day L 0 = drf w day rem m → 0 ≤ m → m ≤ 365 * pre.length → zAt xT_86 (zW (d + 1)) Q 4 [zr 6 0 v, zi day, zi m, zi pre.length] [] G := by
    intro rem
    induction rem with
    | nil =>
      intro pre m hL hX m0 m1
      have h2 := VC_nil hV hL
      have hll := VC_len hl hL
      have hX : drf w day L 0 = m := hX
      rw [hX] at hQ
      apply zs_86_4 <;> intros
      case h2 => exact hQ
      all_goals first | omega | (repeat' first | exact hrg _ | assumption | (unfold rg; omega) | omega | refine And.intro ?_ ?_)
    | cons y rem ih =>
      intro pre m hL hX m0 m1
      obtain ⟨v1, v2, v3, v4⟩ := VC_at hV hL
      have hll := VC_len hl hL
      rw [List.length_cons] at hll
      have he := EOK_e wf (hok y (by rw [hL]; exact List.mem_append_right _ List.mem_cons_self))
      have hX : drf w day L 0 = drf w day rem (if y.2.2.1 = -1 then m else m + zabs ((w ((116 + (4 * (y.2.2.1))) + 1)) - day)) := hX
      have nx := fun m hX m0 m1 => ih (pre ++ [y]) m (by rw [hL, List.append_assoc]; rfl) hX m0 m1
      rw [hplus] at nx
      by_cases c : y.2.2.1 = -1
      · rw [if_pos c] at hX
        apply zs_86_4 <;> intros
        case h4 => exact nx _ hX (by omega) (by omega)
        all_goals first | omega | (rw [v3]; (repeat' first | exact hrg _ | assumption | (unfold rg; omega) | omega | refine And.intro ?_ ?_)) | (repeat' first | exact hrg _ | assumption | (unfold rg; omega) | omega | refine And.intro ?_ ?_)
      · have hs := he.2.1.resolve_left c
        have n4 := (WF_n wf).2.2.2.2.1
        have wd := (WF_s wf hs.1 hs.2.1).2.1
        have hz : 0 ≤ zabs ((w ((116 + (4 * (y.2.2.1))) + 1)) - day) ∧ zabs ((w ((116 + (4 * (y.2.2.1))) + 1)) - day) ≤ 365 := by unfold zabs; omega
        have hdy := (VX_s hvx hI hA hs.2.2).1
        rw [← v3] at hdy
        rw [if_neg c] at hX
        apply zs_86_4 <;> intros
        case h7 => rw [hdy, v3]; exact nx _ hX (by omega) (by omega)
        all_goals (try rw [hdy]); first | omega | (rw [v3]; (repeat' first | exact hrg _ | assumption | (unfold rg; omega) | omega | refine And.intro ?_ ?_)) | (repeat' first | exact hrg _ | assumption | (unfold rg; omega) | omega | refine And.intro ?_ ?_)
  exact key L [] 0 rfl rfl (by omega) (by omega)
theorem sumB_add {P : Int → Prop} {b : Int} (hb : ¬ P b) : ∀ n : Nat, (0 ≤ b → b < (n : Int) → sumB w (fun t => P t ∨ t = b) n = sumB w P n + (w (6 + (11 * b)))) ∧ ((n : Int) ≤ b → sumB w (fun t => P t ∨ t = b) n = sumB w P n) := by
  intro n
  induction n with
  | zero => exact ⟨fun h0 h1 => by omega, fun _ => rfl⟩
  | succ n ih =>
    have e1 : sumB w (fun t => P t ∨ t = b) (n + 1) = sumB w (fun t => P t ∨ t = b) n + @ite Int (P n ∨ (n : Int) = b) (Classical.propDecidable _) (w (6 + (11 * (n : Int)))) 0 := rfl
    have e2 : sumB w P (n + 1) = sumB w P n + @ite Int (P n) (Classical.propDecidable _) (w (6 + (11 * (n : Int)))) 0 := rfl
    refine ⟨fun h0 h1 => ?_, fun h => ?_⟩
    · by_cases c : (n : Int) = b
      · have i := ih.2 (by omega)
        rw [e1, e2, if_pos (Or.inr c), if_neg (by rw [c]; exact hb), i, c]; omega
      · have i := ih.1 h0 (by omega)
        rw [e1, e2, i]
        by_cases q : P n
        · rw [if_pos (Or.inl q), if_pos q]; omega
        · rw [if_neg (fun z => z.elim q c), if_neg q]; omega
    · have i := ih.2 (by omega)
      rw [e1, e2, i]
      by_cases q : P n
      · rw [if_pos (Or.inl q), if_pos q]
      · rw [if_neg (fun z => z.elim q (by omega)), if_neg q]
theorem sumB_none : ∀ n : Nat, sumB w (fun _ => False) n = 0 := by
  intro n
  induction n with
  | zero => rfl
  | succ n ih => unfold sumB; rw [ih, if_neg (fun z => z)]; rfl
set_option maxHeartbeats 4000000 in
theorem c87 (wf : WF w) {L : List EL} (hv : 94 ≤ v ∧ v ≤ 300) (hx : 66 ≤ x) (ha : 5 ≤ a) (hvx : G v 0 = x) (hI : IX G x a w dr) (hA : ARC G a w) (hV : VC G v w dr L) (hl : L.length ≤ 85) (hok : ∀ y ∈ L, EOK w dr y) (hQ : Q (some (zi (sumB w (inL w dr L) (w 3).toNat))) G) : zW (d + 2) 87 [zr 6 0 v] G Q := by
  refine zm_87 (zs_87_0 ?_)
  have hxa := hI.1
  have hga : 0 ≤ G (G v 0) 0 := by rw [hvx, hxa]; omega
  have n3 := (WF_n wf).2.2.2.1
  have key : ∀ (rem pre : List EL) (met : Int), L = pre ++ rem → rg met → (∀ b, 0 ≤ b → b < 32 → (zt met b ↔ inL w dr pre b)) → ∀ l4, zAt xT_87 (zW (d + 1)) Q 6 [zr 6 0 v, zi met, zi (sumB w (inL w dr pre) (w 3).toNat), zi pre.length, l4] [] G := by
    intro rem
    induction rem with
    | nil =>
      intro pre met hL hrm hmet l4
      have h2 := VC_nil hV hL
      have hll := VC_len hl hL
      rw [List.append_nil] at hL
      apply zs_87_6 <;> intros
      case h2 => rw [← hL]; exact hQ
      all_goals first | omega | (repeat' first | exact hrg _ | assumption | (unfold rg; omega) | omega | refine And.intro ?_ ?_)
    | cons y rem ih =>
      intro pre met hL hrm hmet l4
      obtain ⟨v1, v2, v3, v4⟩ := VC_at hV hL
      have hll := VC_len hl hL
      rw [List.length_cons] at hll
      have he := EOK_e wf (hok y (by rw [hL]; exact List.mem_append_right _ List.mem_cons_self))
      have nx := fun met hrm hmet => ih (pre ++ [y]) met (by rw [hL, List.append_assoc]; rfl) hrm hmet
      rw [hplus] at nx
      have hin : ∀ b, inL w dr (pre ++ [y]) b ↔ (inL w dr pre b ∨ (y.2.2.2.1 = 0 ∧ lq w (bo w dr y.2.2.1) = b)) := fun b => by
        unfold inL
        constructor
        · rintro ⟨z, hz, h⟩
          rcases List.mem_append.mp hz with hz | hz
          · exact Or.inl ⟨z, hz, h⟩
          · rcases List.mem_singleton.mp hz with rfl; exact Or.inr h
        · rintro (⟨z, hz, h⟩ | h)
          · exact ⟨z, List.mem_append_left _ hz, h⟩
          · exact ⟨y, List.mem_append_right _ (List.mem_singleton.mpr rfl), h⟩
      have same : (∀ b, 0 ≤ b → b < 32 → (inL w dr (pre ++ [y]) b ↔ inL w dr pre b)) → ∀ l4, zAt xT_87 (zW (d + 1)) Q 6 [zr 6 0 v, zi met, zi (sumB w (inL w dr pre) (w 3).toNat), zi (pre.length + 1), l4] [] G := fun hs l4 => by
        have := nx met hrm (fun b b0 b1 => (hmet b b0 b1).trans (hs b b0 b1).symm) l4
        rw [sumB_congr (w := w) (w 3).toNat (fun t t0 t1 => hs t t0 (by omega))] at this
        exact this
      by_cases c : y.2.2.1 = -1
      · have hno : y.2.2.2.1 ≠ 0 := fun z => (he.2.2.1.mp z).1 c
        apply zs_87_6 <;> intros
        case h10 => exact same (fun b _ _ => by rw [hin b]; exact ⟨fun z => z.resolve_right (fun e => hno e.1), Or.inl⟩) _
        all_goals first | omega | (rw [v3]; (repeat' first | exact hrg _ | assumption | (unfold rg; omega) | omega | refine And.intro ?_ ?_)) | (repeat' first | exact hrg _ | assumption | (unfold rg; omega) | omega | refine And.intro ?_ ?_)
      · have hs := he.2.1.resolve_left c
        have n4 := (WF_n wf).2.2.2.2.1
        have hb := bo_rg wf (dr := dr) hs.1 hs.2.1
        have hbo := (VX_s hvx hI hA hs.2.2).2.1
        rw [← v3] at hbo
        by_cases c1 : bo w dr y.2.2.1 = -1
        · have hno : y.2.2.2.1 ≠ 0 := fun z => (he.2.2.1.mp z).2 c1
          rw [v3] at hbo
          apply zs_87_6 <;> intros
          case h6 => exact same (fun b _ _ => by rw [hin b]; exact ⟨fun z => z.resolve_right (fun e => hno e.1), Or.inl⟩) _
          all_goals (rw [v3] at *; first | omega | (rw [hbo] at *; omega) | (rw [hbo]; (repeat' first | exact hrg _ | assumption | (unfold rg; omega) | omega | refine And.intro ?_ ?_)) | (repeat' first | exact hrg _ | assumption | (unfold rg; omega) | omega | refine And.intro ?_ ?_))
        · have hy0 := he.2.2.1.mpr ⟨c, c1⟩
          have hlq := lq_is (w := w) (b := bo w dr y.2.2.1) (by omega)
          have hab := hA.2.2.2.1 (bo w dr y.2.2.1) (by omega) (by omega)
          have hwt : (w (6 + (11 * (bo w dr y.2.2.1)))) = (w (6 + (11 * (lq w (bo w dr y.2.2.1))))) := by
            rcases hlq.2.2.1 with h | h
            · rw [h.2]
            · exact h.2.2.1.symm
          rw [v3] at hbo
          have hq0 := hlq.1
          have hq1 := hlq.2.1
          rw [hvx] at hbo
          rw [← hxa] at hab
          apply zs_87_6 <;> intros
          case h8 =>
            rename_i h
            rw [v3, hvx, hbo, hab.2.2.2.1] at h
            have hz : zt met (lq w (bo w dr y.2.2.1)) := Classical.byContradiction fun z => h ((zt_and0 (by omega) (by omega)).mpr z)
            have hz := (hmet _ (by omega) (by omega)).mp hz
            exact same (fun b _ _ => by rw [hin b]; exact ⟨fun z => z.elim id (fun e => e.2 ▸ hz), Or.inl⟩) _
          case h9 =>
            rename_i h
            rw [v3, hvx, hbo, hab.2.2.2.1] at h ⊢
            rw [hab.1]
            have hz := (zt_and0 (by omega) (by omega)).mp h
            have hz : ¬ inL w dr pre (lq w (bo w dr y.2.2.1)) := fun q => hz ((hmet _ (by omega) (by omega)).mpr q)
            have e := (sumB_add (w := w) hz (w 3).toNat).1 (by omega) (by omega)
            have := nx (zor met (zshl 1 (lq w (bo w dr y.2.2.1)))) (rg_zor _ _) (fun b b0 b1 => by
              rw [zt_or1 hq0 (by omega) b0 b1, hmet b b0 b1, hin b]
              exact ⟨fun z => z.imp id (fun e => ⟨hy0, e⟩), fun z => z.imp id (fun e => e.2)⟩) (zi (bo w dr y.2.2.1))
            rw [hwt, ← e]
            rw [sumB_congr (w := w) (R := fun t => inL w dr pre t ∨ t = lq w (bo w dr y.2.2.1)) (w 3).toNat (fun t t0 t1 => (hin t).trans ⟨fun z => z.imp id (fun e => e.2.symm), fun z => z.imp id (fun e => ⟨hy0, e.symm⟩)⟩)] at this
            exact this
          case h7 => rw [v3, hvx, hbo]; exact ⟨by omega, by omega, ⟨by omega, by omega⟩, rg_zand _ _⟩
          all_goals (rw [v3] at *; rw [hvx] at *; first | omega | (rw [hbo] at *; omega) | (rw [hbo]; (repeat' first | exact hrg _ | assumption | (unfold rg; omega) | omega | refine And.intro ?_ ?_)) | (repeat' first | exact hrg _ | assumption | (unfold rg; omega) | omega | refine And.intro ?_ ?_))
  refine (fun z => ?_) (key L [] 0 rfl ⟨by omega, by omega⟩ (fun b b0 b1 => ⟨fun z => absurd z (zt_0 b), fun z => by obtain ⟨y, hy, _⟩ := z; cases hy⟩) z0)
  have e : sumB w (inL w dr []) (w 3).toNat = 0 := by
    rw [sumB_congr (w := w) (P := inL w dr []) (R := fun _ => False) (w 3).toNat (fun t t0 t1 => ⟨fun z => (by obtain ⟨y, hy, _⟩ := z; cases hy), fun z => z.elim⟩)]
    exact sumB_none _
  rw [e] at z
  exact z
end CV
section KV
variable {d : Nat} {G : zG} {Q : zQ} {a : Int} {w : Int → Int}
set_option maxHeartbeats 4000000 in
theorem k_whole (wf : WF w) (hC : CI G a w) {p day : Int} (hp : rg p) (hdd : rg day) (hQ : ∀ G1, fr G G1 SC → CI G1 a w → Q (some (zi (q_whole w p day))) G1) : zW (d + 11) 109 [zr 8 0 0, zi p, zi day] G Q := by
  unfold q_whole at hQ
  refine zm_109 (zs_109_0 (c154 wf hC hp hdd (fun hg => ?_) (fun hg G1 f1 hC1 hI1 hV h0 => ?_)))
  · rw [bP_f hg] at hQ
    apply zs_109_6 <;> intros
    case h3 => exact hQ G (fr_refl _ _) hC
    all_goals first | omega | (unfold rg; omega)
  · rw [bP_t hg] at hQ
    have hok := vw_ok (dr := -1) wf hg
    have hl := vw_len (dr := -1) wf p day
    have ha := hC.2.1
    have hQ1 := hQ G1 f1 hC1
    apply zs_109_6 <;> intros
    case h2 =>
      refine c80 wf ⟨by omega, by omega⟩ hV hl hok ?_
      by_cases c : whl (vw w (-1) p day)
      · rw [bP_t c] at hQ1 ⊢
        apply zs_109_19 <;> intros
        case h3 => exact hQ1
        all_goals first | omega | (unfold rg; omega)
      · rw [bP_f c] at hQ1 ⊢
        apply zs_109_19 <;> intros
        case h2 => exact hQ1
        all_goals first | omega | (unfold rg; omega)
    all_goals first | omega | (unfold rg; omega)
set_option maxHeartbeats 4000000 in
theorem k_spread (wf : WF w) (hC : CI G a w) {p day : Int} (hp : rg p) (hdd : rg day) (hQ : ∀ G1, fr G G1 SC → CI G1 a w → Q (some (zi (q_spread w p day))) G1) : zW (d + 11) 114 [zr 8 0 0, zi p, zi day] G Q := by
  unfold q_spread at hQ
  refine zm_114 (zs_114_0 (c154 wf hC hp hdd (fun hg => ?_) (fun hg G1 f1 hC1 hI1 hV h0 => ?_)))
  · rw [bP_f hg] at hQ
    apply zs_114_6 <;> intros
    case h2 => exact hQ G (fr_refl _ _) hC
    all_goals first | omega | (unfold rg; omega)
  · rw [bP_t hg] at hQ
    have hok := vw_ok (dr := -1) wf hg
    have hl := vw_len (dr := -1) wf p day
    have ha := hC.2.1
    have hQ1 := hQ G1 f1 hC1
    apply zs_114_6 <;> intros
    case h3 => exact c84 wf ⟨by omega, by omega⟩ (by omega) ha.1 h0 hI1 hC1.2.2.1 hV hl hok (zs_114_16 hQ1)
    all_goals first | omega | (unfold rg; omega)
set_option maxHeartbeats 4000000 in
theorem k_farthest (wf : WF w) (hC : CI G a w) {p day : Int} (hp : rg p) (hdd : rg day) (hQ : ∀ G1, fr G G1 SC → CI G1 a w → Q (some (zi (q_farthest w p day))) G1) : zW (d + 11) 115 [zr 8 0 0, zi p, zi day] G Q := by
  unfold q_farthest at hQ
  refine zm_115 (zs_115_0 (c154 wf hC hp hdd (fun hg => ?_) (fun hg G1 f1 hC1 hI1 hV h0 => ?_)))
  · rw [bP_f hg] at hQ
    apply zs_115_6 <;> intros
    case h2 => exact hQ G (fr_refl _ _) hC
    all_goals first | omega | (unfold rg; omega)
  · rw [bP_t hg] at hQ
    have hok := vw_ok (dr := -1) wf hg
    have hl := vw_len (dr := -1) wf p day
    have ha := hC.2.1
    have hQ1 := hQ G1 f1 hC1
    apply zs_115_6 <;> intros
    case h3 => exact c85 wf hg.2 ⟨by omega, by omega⟩ (by omega) ha.1 h0 hI1 hC1.2.2.1 hV hl hok (zs_115_17 hQ1)
    all_goals first | omega | (unfold rg; omega)
set_option maxHeartbeats 4000000 in
theorem k_drift (wf : WF w) (hC : CI G a w) {p day : Int} (hp : rg p) (hdd : rg day) (hQ : ∀ G1, fr G G1 SC → CI G1 a w → Q (some (zi (q_drift w p day))) G1) : zW (d + 11) 117 [zr 8 0 0, zi p, zi day] G Q := by
  unfold q_drift at hQ
  refine zm_117 (zs_117_0 (c154 wf hC hp hdd (fun hg => ?_) (fun hg G1 f1 hC1 hI1 hV h0 => ?_)))
  · rw [bP_f hg] at hQ
    apply zs_117_6 <;> intros
    case h2 => exact hQ G (fr_refl _ _) hC
    all_goals first | omega | (unfold rg; omega)
  · rw [bP_t hg] at hQ
    have hok := vw_ok (dr := -1) wf hg
    have hl := vw_len (dr := -1) wf p day
    have ha := hC.2.1
    have hQ1 := hQ G1 f1 hC1
    apply zs_117_6 <;> intros
    case h3 => exact c86 wf hg.2 ⟨by omega, by omega⟩ (by omega) ha.1 h0 hI1 hC1.2.2.1 hV hl hok (zs_117_17 hQ1)
    all_goals first | omega | (unfold rg; omega)
set_option maxHeartbeats 4000000 in
theorem k_heavy (wf : WF w) (hC : CI G a w) {p day : Int} (hp : rg p) (hdd : rg day) (hQ : ∀ G1, fr G G1 SC → CI G1 a w → Q (some (zi (q_heavy w p day))) G1) : zW (d + 11) 116 [zr 8 0 0, zi p, zi day] G Q := by
  unfold q_heavy at hQ
  refine zm_116 (zs_116_0 (c154 wf hC hp hdd (fun hg => ?_) (fun hg G1 f1 hC1 hI1 hV h0 => ?_)))
  · rw [bP_f hg] at hQ
    apply zs_116_6 <;> intros
    case h2 => exact hQ G (fr_refl _ _) hC
    all_goals first | omega | (unfold rg; omega)
  · rw [bP_t hg] at hQ
    have hok := vw_ok (dr := -1) wf hg
    have hl := vw_len (dr := -1) wf p day
    have ha := hC.2.1
    have hQ1 := hQ G1 f1 hC1
    apply zs_116_6 <;> intros
    case h3 => exact c87 wf ⟨by omega, by omega⟩ (by omega) ha.1 h0 hI1 hC1.2.2.1 hV hl hok (zs_116_16 hQ1)
    all_goals first | omega | (unfold rg; omega)
set_option maxHeartbeats 4000000 in
theorem k_judged (wf : WF w) (hC : CI G a w) {p day : Int} (hp : rg p) (hdd : rg day) (hQ : ∀ G1, fr G G1 SC → CI G1 a w → Q (some (zi (q_judged w p day))) G1) : zW (d + 11) 110 [zr 8 0 0, zi p, zi day] G Q := by
  unfold q_judged at hQ
  refine zm_110 (zs_110_0 (c154 wf hC hp hdd (fun hg => ?_) (fun hg G1 f1 hC1 hI1 hV h0 => ?_)))
  · rw [bP_f hg] at hQ
    apply zs_110_6 <;> intros
    case h2 => exact hQ G (fr_refl _ _) hC
    all_goals first | omega | (unfold rg; omega)
  · rw [bP_t hg] at hQ
    have hQ1 := hQ G1 f1 hC1
    have hd := foldB_d (dr := -1) (but := -1) wf (vw w (-1) p day) 0 o4 o4_d
    rw [foldB_all _ 0 o4 (by omega)] at hd
    have hd : Q4d (allS w (-1) (vw w (-1) p day)) := hd
    unfold jdg at hQ1
    obtain ⟨q1, q2, q3, q4⟩ := hV.2.1
    have q1 : G1 188 0 = _ := q1
    have q2 : G1 188 1 = _ := q2
    have q3 : G1 188 2 = _ := q3
    have q4 : G1 188 3 = _ := q4
    generalize allS w (-1) (vw w (-1) p day) = q at *
    unfold Q4d at hd
    unfold vd at hQ1
    apply zs_110_6 <;> intros
    case h5 => rw [if_neg (by omega), if_neg (by omega)] at hQ1; exact hQ1
    case h6 => rw [if_neg (by omega), if_pos (by omega)] at hQ1; exact hQ1
    case h7 => rw [if_pos (by omega)] at hQ1; exact hQ1
    all_goals first | omega | (unfold rg; omega)
set_option maxHeartbeats 4000000 in
theorem k_common (wf : WF w) (hC : CI G a w) {p day k : Int} (hp : rg p) (hdd : rg day) (hk : rg k) (hQ : ∀ G1, fr G G1 SC → CI G1 a w → Q (some (zi (q_common w p day k))) G1) : zW (d + 11) 111 [zr 8 0 0, zi p, zi day, zi k] G Q := by
  unfold q_common at hQ
  refine zm_111 ?_
  by_cases hk3 : 0 ≤ k ∧ k ≤ 3
  · apply zs_111_0 <;> intros
    case h4 =>
      refine c154 wf hC hp hdd (fun hg => ?_) (fun hg G1 f1 hC1 hI1 hV h0 => ?_)
      · rw [bP_f (fun z => hg z.1)] at hQ
        apply zs_111_15 <;> intros
        case h15 => exact hQ G (fr_refl _ _) hC
        all_goals first | omega | (unfold rg; omega)
      · rw [bP_t ⟨hg, hk3⟩] at hQ
        have hQ1 := hQ G1 f1 hC1
        have hd := foldB_d (dr := -1) (but := -1) wf (vw w (-1) p day) 0 o4 o4_d
        rw [foldB_all _ 0 o4 (by omega)] at hd
        have hd : Q4d (allS w (-1) (vw w (-1) p day)) := hd
        obtain ⟨q1, q2, q3, q4⟩ := hV.2.1
        have q1 : G1 188 0 = _ := q1
        have q2 : G1 188 1 = _ := q2
        have q3 : G1 188 2 = _ := q3
        have q4 : G1 188 3 = _ := q4
        generalize allS w (-1) (vw w (-1) p day) = q at *
        unfold Q4d at hd
        have e4 : k = 0 ∨ k = 1 ∨ k = 2 ∨ k = 3 := by omega
        have eA : k < 2 → qA (k / 2 * 2) q = q.1 ∧ qB (k / 2 * 2) q = q.2.1 := fun h => by unfold qA qB; rw [if_pos (by omega), if_pos (by omega)]; exact ⟨rfl, rfl⟩
        have eB : 2 ≤ k → qA (k / 2 * 2) q = q.2.2.1 ∧ qB (k / 2 * 2) q = q.2.2.2 := fun h => by unfold qA qB; rw [if_neg (by omega), if_neg (by omega)]; exact ⟨rfl, rfl⟩
        apply zs_111_15 <;> intros
        case h4 => omega
        case h5 => omega
        case h6 => rw [(eB (by omega)).1, (eB (by omega)).2, if_pos (by omega), if_pos (by omega)] at hQ1; rw [q3]; exact hQ1
        case h7 => rw [(eB (by omega)).1, (eB (by omega)).2, if_pos (by omega), if_neg (by omega)] at hQ1; rw [q4]; exact hQ1
        case h8 => rw [(eB (by omega)).1, (eB (by omega)).2, if_neg (by omega)] at hQ1; exact hQ1
        case h10 => rw [(eA (by omega)).1, (eA (by omega)).2, if_pos (by omega), if_pos (by omega)] at hQ1; rw [q1]; exact hQ1
        case h11 => rw [(eA (by omega)).1, (eA (by omega)).2, if_pos (by omega), if_neg (by omega)] at hQ1; rw [q2]; exact hQ1
        case h12 => omega
        case h13 => omega
        case h14 => rw [(eA (by omega)).1, (eA (by omega)).2, if_neg (by omega)] at hQ1; exact hQ1
        all_goals first | omega | (repeat' first | exact hrg _ | assumption | (unfold rg; omega) | omega | refine And.intro ?_ ?_)
    all_goals first | omega | (unfold rg; omega)
  · rw [bP_f (fun z => hk3 z.2)] at hQ
    apply zs_111_0 <;> intros
    all_goals first | omega | exact hQ G (fr_refl _ _) hC | (repeat' first | exact hrg _ | assumption | (unfold rg; omega) | omega | refine And.intro ?_ ?_)
set_option maxHeartbeats 4000000 in
theorem k_element (wf : WF w) (hC : CI G a w) {p day i k : Int} (hp : rg p) (hdd : rg day) (hi : rg i) (hk : rg k) (hQ : ∀ G1, fr G G1 SC → CI G1 a w → Q (some (zi (q_element w p day i k))) G1) : zW (d + 11) 108 [zr 8 0 0, zi p, zi day, zi i, zi k] G Q := by
  unfold q_element at hQ
  refine zm_108 ?_
  by_cases hk3 : 0 ≤ i ∧ 0 ≤ k ∧ k ≤ 5
  · apply zs_108_0 <;> intros
    case h6 =>
      refine c154 wf hC hp hdd (fun hg => ?_) (fun hg G1 f1 hC1 hI1 hV h0 => ?_)
      · rw [bP_f (fun z => hg z.1)] at hQ
        apply zs_108_21 <;> intros
        case h22 => exact hQ G (fr_refl _ _) hC
        all_goals first | omega | (unfold rg; omega)
      · rw [bP_t ⟨hg, hk3⟩] at hQ
        have hQ1 := hQ G1 f1 hC1
        have hok := vw_ok (dr := -1) wf hg
        have hl := vw_len (dr := -1) wf p day
        have ha := hC.2.1
        have n4 := (WF_n wf).2.2.2.2.1
        have n3 := (WF_n wf).2.2.2.1
        generalize vw w (-1) p day = L at *
        have h2 := hV.1
        by_cases c : (L.length : Int) ≤ i
        · rw [if_pos c] at hQ1
          apply zs_108_21 <;> intros
          case h21 => exact hQ1
          all_goals first | omega | (repeat' first | exact hrg _ | assumption | (unfold rg; omega) | omega | refine And.intro ?_ ?_)
        · rw [if_neg c] at hQ1
          obtain ⟨v1, v3, v4, v5, v6, _⟩ := hV.2.2 i (by omega) (by omega)
          have v1 : G1 97 i = _ := v1
          have v3 : G1 98 i = _ := v3
          have v4 : G1 99 i = _ := v4
          have v5 : G1 100 i = _ := v5
          have v6 : G1 101 i = _ := v6
          have hy : L.getD i.toNat e0 ∈ L := by
            have hl : i.toNat < L.length := by omega
            rw [List.getD_eq_getElem?_getD, List.getElem?_eq_getElem hl]
            exact List.getElem_mem hl
          have he := EOK_e wf (hok _ hy)
          generalize L.getD i.toNat e0 = y at *
          by_cases k5 : k = 5
          · rw [if_neg (by omega), if_neg (by omega), if_neg (by omega), if_neg (by omega), if_neg (by omega)] at hQ1
            by_cases c1 : y.2.2.1 = -1
            · rw [if_neg (fun z => (he.2.2.1.mp z).1 c1)] at hQ1
              apply zs_108_21 <;> intros
              case h20 => exact hQ1
              all_goals first | omega | (rw [v3]; (repeat' first | exact hrg _ | assumption | (unfold rg; omega) | omega | refine And.intro ?_ ?_)) | (repeat' first | exact hrg _ | assumption | (unfold rg; omega) | omega | refine And.intro ?_ ?_)
            · have hs := he.2.1.resolve_left c1
              have hb := bo_rg wf (dr := -1) hs.1 hs.2.1
              have hbo := (VX_s h0 hI1 hC1.2.2.1 hs.2.2).2.1
              rw [h0, ← v3] at hbo
              have hxa : G1 66 0 = a := hI1.1
              by_cases c2 : bo w (-1) y.2.2.1 = -1
              · rw [if_neg (fun z => (he.2.2.1.mp z).2 c2)] at hQ1
                apply zs_108_21 <;> intros
                case h19 => exact hQ1
                all_goals (rw [h0] at *; first | omega | (rw [hbo, v3] at *; omega) | (rw [hbo, v3]; (repeat' first | exact hrg _ | assumption | (unfold rg; omega) | omega | refine And.intro ?_ ?_)) | (rw [v3]; (repeat' first | exact hrg _ | assumption | (unfold rg; omega) | omega | refine And.intro ?_ ?_)) | (repeat' first | exact hrg _ | assumption | (unfold rg; omega) | omega | refine And.intro ?_ ?_))
              · rw [if_pos (he.2.2.1.mpr ⟨c1, c2⟩)] at hQ1
                have hab := hC1.2.2.1.2.2.2.1 (bo w (-1) y.2.2.1) (by omega) (by omega)
                have hrw := (WF_b wf (b := bo w (-1) y.2.2.1) (by omega) (by omega))
                apply zs_108_21 <;> intros
                case h18 => rw [h0, hxa, hbo, v3, hab.1]; exact hQ1
                all_goals (rw [h0] at *; first | omega | (rw [hbo, v3] at *; omega) | (rw [hbo, v3]; (repeat' first | exact hrg _ | assumption | (unfold rg; omega) | omega | refine And.intro ?_ ?_)) | (rw [v3]; (repeat' first | exact hrg _ | assumption | (unfold rg; omega) | omega | refine And.intro ?_ ?_)) | (repeat' first | exact hrg _ | assumption | (unfold rg; omega) | omega | refine And.intro ?_ ?_))
          · have e4 : k = 0 ∨ k = 1 ∨ k = 2 ∨ k = 3 ∨ k = 4 := by omega
            apply zs_108_21 <;> intros
            case h5 => rw [if_pos (by omega)] at hQ1; rw [v1]; exact hQ1
            case h7 => rw [if_neg (by omega), if_pos (by omega)] at hQ1; rw [v3]; exact hQ1
            case h9 => rw [if_neg (by omega), if_neg (by omega), if_pos (by omega)] at hQ1; rw [v4]; exact hQ1
            case h11 => rw [if_neg (by omega), if_neg (by omega), if_neg (by omega), if_pos (by omega)] at hQ1; rw [v5]; exact hQ1
            case h13 => rw [if_neg (by omega), if_neg (by omega), if_neg (by omega), if_neg (by omega), if_pos (by omega)] at hQ1; rw [v6]; exact hQ1
            all_goals first | omega | (rw [v1]; (repeat' first | exact hrg _ | assumption | (unfold rg; omega) | omega | refine And.intro ?_ ?_)) | (repeat' first | exact hrg _ | assumption | (unfold rg; omega) | omega | refine And.intro ?_ ?_)
    all_goals first | omega | (unfold rg; omega)
  · rw [bP_f (fun z => hk3 z.2)] at hQ
    apply zs_108_0 <;> intros
    all_goals first | omega | exact hQ G (fr_refl _ _) hC | (repeat' first | exact hrg _ | assumption | (unfold rg; omega) | omega | refine And.intro ?_ ?_)
end KV
