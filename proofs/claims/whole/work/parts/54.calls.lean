/-! THE CALLS: common, spread, farthest, drift, heavy by the reference -/
section RE
variable {d : Nat} {G : zG} {Q : zQ} {w : Int → Int}
set_option maxHeartbeats 4000000 in
theorem r_common (wf : WF w) (hw : G 298 = w) (hd : G 297 7 = -1) {p day k : Int} (hp : rg p) (hdd : rg day) (hk : rg k) (hQ : ∀ G1, fr G G1 SR → Q (some (zi (q_common w p day k))) G1) : zW (d + 10) 231 [zr 9 0 297, zi p, zi day, zi k] G Q := by
  subst hw
  obtain ⟨n0, n1, n2, n3, n4, n5⟩ := WF_n wf; have hrg := WF_rg wf
  unfold q_common at hQ
  refine zm_231 ?_
  by_cases hg : okPD (G 298) p day ∧ 0 ≤ k ∧ k ≤ 3
  · rw [bP_t hg] at hQ
    have hg' := hg
    unfold okPD at hg'
    have hl := vw_len (dr := -1) wf p day
    have hall : allS (G 298) (-1) (vw (G 298) (-1) p day) = foldB (G 298) (-1) (-1) (vw (G 298) (-1) p day) 0 o4 := (foldB_all _ 0 o4 (by omega)).symm
    rw [hall] at hQ
    have hdq := foldB_d (dr := -1) (but := -1) wf (vw (G 298) (-1) p day) 0 o4 o4_d
    apply zs_231_0 <;> intros
    case h4 =>
      refine zW_m _ _ _ _ _ _ (fun r G1 z => zq0_m (fun y => zs_231_30 y) z) (c_vs (dr := -1) (m := 3) wf ⟨by omega, by omega⟩ rfl hd hg.1 (fun G1 f1 hV hS => ?_))
      apply zs_231_34 <;> intros
      case h2 =>
        refine c190v wf hl hS (wh := k / 2 * 2) (by omega) ⟨by omega, by omega⟩ (fun G2 f2 h1 h2 => ?_)
        have hQ1 := hQ G2 (fr_trans f1 f2 (by intro k j t; unfold S190 at t; unfold SR; omega))
        have rr : ∀ q : Q4, Q4d q → (0 ≤ qA (k / 2 * 2) q ∧ qA (k / 2 * 2) q ≤ 365) ∧ (0 ≤ qB (k / 2 * 2) q ∧ qB (k / 2 * 2) q ≤ 365) := fun q hq => by unfold qA qB Q4d at *; split <;> omega
        have rr := rr _ hdq
        generalize foldB (G 298) (-1) (-1) (vw (G 298) (-1) p day) 0 o4 = q at *
        refine ⟨fun hle => ?_, fun hlt => ?_⟩
        · rw [if_pos hle] at hQ1
          apply zs_231_44 <;> intros
          case h3 => rw [if_neg (by assumption)] at hQ1; rw [h2]; exact hQ1
          case h4 => rw [if_pos (by assumption)] at hQ1; rw [h1]; exact hQ1
          all_goals first | omega | (repeat' first | exact hrg _ | assumption | (unfold rg; omega) | omega | refine And.intro ?_ ?_)
        · rw [if_neg (by omega)] at hQ1
          apply zs_231_44 <;> intros
          case h5 => exact hQ1
          all_goals first | omega | (repeat' first | exact hrg _ | assumption | (unfold rg; omega) | omega | refine And.intro ?_ ?_)
      all_goals first | omega | (repeat' first | exact hrg _ | assumption | (unfold rg; omega) | omega | refine And.intro ?_ ?_)
    all_goals first | omega | (repeat' first | exact hrg _ | assumption | (unfold rg; omega) | omega | refine And.intro ?_ ?_)
  · rw [bP_f hg] at hQ
    unfold okPD at hg
    apply zs_231_0 <;> intros
    all_goals first | omega | exact hQ G (fr_refl _ _) | (repeat' first | exact hrg _ | assumption | (unfold rg; omega) | omega | refine And.intro ?_ ?_)
set_option maxHeartbeats 4000000 in
theorem r_spread (wf : WF w) (hw : G 298 = w) (hd : G 297 7 = -1) {p day : Int} (hp : rg p) (hdd : rg day) (hQ : ∀ G1, fr G G1 SR → Q (some (zi (q_spread w p day))) G1) : zW (d + 10) 235 [zr 9 0 297, zi p, zi day] G Q := by
  subst hw
  obtain ⟨n0, n1, n2, n3, n4, n5⟩ := WF_n wf; have hrg := WF_rg wf
  unfold q_spread at hQ
  refine zm_235 ?_
  by_cases hg : okPD (G 298) p day
  · rw [bP_t hg] at hQ
    have hg' := hg
    unfold okPD at hg'
    apply zs_235_0 <;> intros
    case h3 =>
      refine c185 (dr := -1) wf ⟨by omega, by omega⟩ rfl hd (by omega) (by omega) (by omega) (by omega) (fun G1 f1 hV => zs_235_18 ?_)
      have f2 : fr G G1 SR := fr_wide f1 (by intro k j t; unfold S184 at t; unfold SR; omega)
      have w1 : G1 298 = G 298 := fr_k f1 (fun j e => by unfold S184 at e; omega)
      have hQ1 := hQ G1 f2
      have hok := vw_ok (dr := -1) wf hg
      have hl := vw_len (dr := -1) wf p day
      generalize vw (G 298) (-1) p day = L at *
      have key : ∀ (rem pre : List EL) (fi la m : Int), L = pre ++ rem → spX (G 298) L (-1) = spX (G 298) rem la → spM (G 298) L 365 = spM (G 298) rem m → ((fi = -1 ∧ la = -1 ∧ m = 365) ∨ (0 ≤ fi ∧ fi = m ∧ 0 ≤ la)) → fi ≤ 365 → la ≤ 365 → ∀ l1 l2 l6, zAt xT_235 (zW (d + 9)) Q 26 [zr 9 0 297, l1, l2, zi fi, zi la, zi pre.length, l6] [] G1 := by
        intro rem
        induction rem with
        | nil =>
          intro pre fi la m hL hX hM hc r1 r2 l1 l2 l6
          rw [List.append_nil] at hL
          have h18 := hV.1
          rw [hL] at h18 hl
          have hX : spX (G 298) L (-1) = la := hX
          have hM : spM (G 298) L 365 = m := hM
          rw [hX, hM] at hQ1
          apply zs_235_26 <;> intros
          case h3 => rw [if_neg (by omega)] at hQ1; have e : fi = m := by omega
                     rw [e]; exact hQ1
          case h4 => rw [if_pos (by omega)] at hQ1; exact hQ1
          all_goals first | omega | (repeat' first | exact hrg _ | assumption | (unfold rg; omega) | omega | refine And.intro ?_ ?_)
        | cons y rem ih =>
          intro pre fi la m hL hX hM hc r1 r2 l1 l2 l6
          obtain ⟨v1, v2, v3, v4, v5⟩ := VM_at hV hL
          have he := EOK_e wf (hok y (by rw [hL]; exact List.mem_append_right _ List.mem_cons_self))
          have hX : spX (G 298) L (-1) = spX (G 298) rem (if y.2.2.1 = -1 then la else max la ((G 298) ((116 + (4 * (y.2.2.1))) + 1))) := hX
          have hM : spM (G 298) L 365 = spM (G 298) rem (if y.2.2.1 = -1 then m else min m ((G 298) ((116 + (4 * (y.2.2.1))) + 1))) := hM
          have nx := fun fi la m hX hM hc r1 r2 => ih (pre ++ [y]) fi la m (by rw [hL, List.append_assoc]; rfl) hX hM hc r1 r2
          rw [hplus] at nx
          by_cases c : y.2.2.1 = -1
          · rw [if_pos c] at hX hM
            apply zs_235_26 <;> intros
            case h11 => exact nx fi la m hX hM hc r1 r2 _ _ _
            all_goals first | omega | (rw [v4]; (repeat' first | exact hrg _ | assumption | (unfold rg; omega) | omega | refine And.intro ?_ ?_)) | (repeat' first | exact hrg _ | assumption | (unfold rg; omega) | omega | refine And.intro ?_ ?_)
          · rw [if_neg c] at hX hM
            have hs := he.2.1.resolve_left c
            have wd := (WF_s wf hs.1 hs.2.1).2.1
            apply zs_235_26 <;> intros
            case h8 => rw [v4, w1]; exact nx _ _ _ hX hM (by omega) (by omega) (by omega) _ _ _
            case h10 => rw [v4, w1]; exact nx _ _ _ hX hM (by omega) (by omega) (by omega) _ _ _
            case h11 => omega
            all_goals first | omega | (rw [v4, w1]; (repeat' first | exact hrg _ | assumption | (unfold rg; omega) | omega | refine And.intro ?_ ?_)) | (rw [v4]; (repeat' first | exact hrg _ | assumption | (unfold rg; omega) | omega | refine And.intro ?_ ?_)) | (repeat' first | exact hrg _ | assumption | (unfold rg; omega) | omega | refine And.intro ?_ ?_)
      exact key L [] (-1) (-1) 365 rfl rfl rfl (by omega) (by omega) (by omega) _ _ _
    all_goals first | omega | (repeat' first | exact hrg _ | assumption | (unfold rg; omega) | omega | refine And.intro ?_ ?_)
  · rw [bP_f hg] at hQ
    unfold okPD at hg
    apply zs_235_0 <;> intros
    all_goals first | omega | exact hQ G (fr_refl _ _) | (repeat' first | exact hrg _ | assumption | (unfold rg; omega) | omega | refine And.intro ?_ ?_)
set_option maxHeartbeats 4000000 in
theorem r_farthest (wf : WF w) (hw : G 298 = w) (hd : G 297 7 = -1) {p day : Int} (hp : rg p) (hdd : rg day) (hQ : ∀ G1, fr G G1 SR → Q (some (zi (q_farthest w p day))) G1) : zW (d + 10) 236 [zr 9 0 297, zi p, zi day] G Q := by
  subst hw
  obtain ⟨n0, n1, n2, n3, n4, n5⟩ := WF_n wf; have hrg := WF_rg wf
  unfold q_farthest at hQ
  refine zm_236 ?_
  by_cases hg : okPD (G 298) p day
  · rw [bP_t hg] at hQ
    have hg' := hg
    unfold okPD at hg'
    apply zs_236_0 <;> intros
    case h3 =>
      refine c185 (dr := -1) wf ⟨by omega, by omega⟩ rfl hd (by omega) (by omega) (by omega) (by omega) (fun G1 f1 hV => zs_236_18 ?_)
      have f2 : fr G G1 SR := fr_wide f1 (by intro k j t; unfold S184 at t; unfold SR; omega)
      have w1 : G1 298 = G 298 := fr_k f1 (fun j e => by unfold S184 at e; omega)
      have hQ1 := hQ G1 f2
      have hok := vw_ok (dr := -1) wf hg
      have hl := vw_len (dr := -1) wf p day
      generalize vw (G 298) (-1) p day = L at *
      have key : ∀ (rem pre : List EL) (b m : Int), L = pre ++ rem → farF (G 298) day L 0 (-1) (-1) = farF (G 298) day rem pre.length b m → rg b → -1 ≤ m → m ≤ 400 → ∀ l1, zAt xT_236 (zW (d + 9)) Q 26 [zr 9 0 297, l1, zi day, zi b, zi m, zi pre.length] [] G1 := by
        intro rem
        induction rem with
        | nil =>
          intro pre b m hL hX hb m0 m1 l1
          rw [List.append_nil] at hL
          have h18 := hV.1
          rw [hL] at h18 hl
          have hX : farF (G 298) day L 0 (-1) (-1) = b := hX
          rw [hX] at hQ1
          apply zs_236_26 <;> intros
          case h2 => exact hQ1
          all_goals first | omega | (repeat' first | exact hrg _ | assumption | (unfold rg; omega) | omega | refine And.intro ?_ ?_)
        | cons y rem ih =>
          intro pre b m hL hX hb m0 m1 l1
          obtain ⟨v1, v2, v3, v4, v5⟩ := VM_at hV hL
          have he := EOK_e wf (hok y (by rw [hL]; exact List.mem_append_right _ List.mem_cons_self))
          have hX : farF (G 298) day L 0 (-1) (-1) = if y.2.2.1 ≠ -1 ∧ m < zabs (((G 298) ((116 + (4 * (y.2.2.1))) + 1)) - day) then farF (G 298) day rem (pre.length + 1) pre.length (zabs (((G 298) ((116 + (4 * (y.2.2.1))) + 1)) - day)) else farF (G 298) day rem (pre.length + 1) b m := hX
          have nx := fun b m hX hb m0 m1 => ih (pre ++ [y]) b m (by rw [hL, List.append_assoc]; rfl) hX hb m0 m1
          rw [hplus] at nx
          by_cases c : y.2.2.1 = -1
          · rw [if_neg (fun z => z.1 c)] at hX
            apply zs_236_26 <;> intros
            case h4 => exact nx b m hX hb m0 m1 _
            all_goals first | omega | (rw [v4]; (repeat' first | exact hrg _ | assumption | (unfold rg; omega) | omega | refine And.intro ?_ ?_)) | (repeat' first | exact hrg _ | assumption | (unfold rg; omega) | omega | refine And.intro ?_ ?_)
          · have hs := he.2.1.resolve_left c
            have wd := (WF_s wf hs.1 hs.2.1).2.1
            have hz : 0 ≤ zabs (((G 298) ((116 + (4 * (y.2.2.1))) + 1)) - day) ∧ zabs (((G 298) ((116 + (4 * (y.2.2.1))) + 1)) - day) ≤ 365 := by unfold zabs; omega
            apply zs_236_26 <;> intros
            case h6 => rename_i h; rw [v4, w1] at h ⊢; rw [if_pos ⟨c, h⟩] at hX; exact nx _ _ hX ⟨by omega, by omega⟩ (by omega) (by omega) _
            case h7 => rename_i h; rw [v4, w1] at h; rw [if_neg (fun z => by have := z.2; omega)] at hX; exact nx _ _ hX hb m0 m1 _
            case h4 => omega
            all_goals first | omega | (rw [v4, w1]; (repeat' first | exact hrg _ | assumption | (unfold rg; omega) | omega | refine And.intro ?_ ?_)) | (rw [v4]; (repeat' first | exact hrg _ | assumption | (unfold rg; omega) | omega | refine And.intro ?_ ?_)) | (repeat' first | exact hrg _ | assumption | (unfold rg; omega) | omega | refine And.intro ?_ ?_)
      exact key L [] (-1) (-1) rfl rfl ⟨by omega, by omega⟩ (by omega) (by omega) _
    all_goals first | omega | (repeat' first | exact hrg _ | assumption | (unfold rg; omega) | omega | refine And.intro ?_ ?_)
  · rw [bP_f hg] at hQ
    unfold okPD at hg
    apply zs_236_0 <;> intros
    all_goals first | omega | exact hQ G (fr_refl _ _) | (repeat' first | exact hrg _ | assumption | (unfold rg; omega) | omega | refine And.intro ?_ ?_)
set_option maxHeartbeats 4000000 in
theorem c243 (wf : WF w) (hw : G 298 = w) (hd : G 297 7 = -1) {p day : Int} (hg : okPD w p day) (hQ : ∀ G1, fr G G1 SR → Q (some (zi (drf w day (vw w (-1) p day) 0))) G1) : zW (d + 10) 243 [zr 9 0 297, zi p, zi day] G Q := by
  subst hw
  obtain ⟨n0, n1, n2, n3, n4, n5⟩ := WF_n wf; have hrg := WF_rg wf
  have hg' := hg
  unfold okPD at hg'
  refine zm_243 (zs_243_0 (c185 (dr := -1) wf ⟨by omega, by omega⟩ rfl hd (by omega) (by omega) (by omega) (by omega) (fun G1 f1 hV => zs_243_6 ?_)))
  have f2 : fr G G1 SR := fr_wide f1 (by intro k j t; unfold S184 at t; unfold SR; omega)
  have w1 : G1 298 = G 298 := fr_k f1 (fun j e => by unfold S184 at e; omega)
  have hQ1 := hQ G1 f2
  have hok := vw_ok (dr := -1) wf hg
  have hl := vw_len (dr := -1) wf p day
  generalize vw (G 298) (-1) p day = L at *
  have key : ∀ (rem pre : List EL) (m : Int), L = pre ++ rem → drf (G 298) day L 0 = drf (G 298) day rem m → ∀ l1, zAt xT_243 (zW (d + 9)) Q 11 [zr 9 0 297, l1, zi day, zi m, zi pre.length] [] G1 := by
    intro rem
    induction rem with
    | nil =>
      intro pre m hL hX l1
      rw [List.append_nil] at hL
      have h18 := hV.1
      rw [hL] at h18 hl
      have hX : drf (G 298) day L 0 = m := hX
      rw [hX] at hQ1
      apply zs_243_11 <;> intros
      case h2 => exact hQ1
      all_goals first | omega | (repeat' first | exact hrg _ | assumption | (unfold rg; omega) | omega | refine And.intro ?_ ?_)
    | cons y rem ih =>
      intro pre m hL hX l1
      obtain ⟨v1, v2, v3, v4, v5⟩ := VM_at hV hL
      have he := EOK_e wf (hok y (by rw [hL]; exact List.mem_append_right _ List.mem_cons_self))
      have hX : drf (G 298) day L 0 = drf (G 298) day rem (if y.2.2.1 = -1 then m else m + zabs (((G 298) ((116 + (4 * (y.2.2.1))) + 1)) - day)) := hX
      have nx := fun m hX => ih (pre ++ [y]) m (by rw [hL, List.append_assoc]; rfl) hX
      rw [hplus] at nx
      by_cases c : y.2.2.1 = -1
      · rw [if_pos c] at hX
        apply zs_243_11 <;> intros
        case h6 => rw [Int.add_zero]; exact nx m hX _
        all_goals first | omega | (rw [v4]; (repeat' first | exact hrg _ | assumption | (unfold rg; omega) | omega | refine And.intro ?_ ?_)) | (repeat' first | exact hrg _ | assumption | (unfold rg; omega) | omega | refine And.intro ?_ ?_)
      · have hs := he.2.1.resolve_left c
        have wd := (WF_s wf hs.1 hs.2.1).2.1
        rw [if_neg c] at hX
        apply zs_243_11 <;> intros
        case h5 => rw [v4, w1]; exact nx _ hX _
        case h6 => omega
        all_goals first | omega | (rw [v4, w1]; (repeat' first | exact hrg _ | assumption | (unfold rg; omega) | omega | refine And.intro ?_ ?_)) | (rw [v4]; (repeat' first | exact hrg _ | assumption | (unfold rg; omega) | omega | refine And.intro ?_ ?_)) | (repeat' first | exact hrg _ | assumption | (unfold rg; omega) | omega | refine And.intro ?_ ?_)
  exact key L [] 0 rfl rfl _
set_option maxHeartbeats 4000000 in
theorem r_drift (wf : WF w) (hw : G 298 = w) (hd : G 297 7 = -1) {p day : Int} (hp : rg p) (hdd : rg day) (hQ : ∀ G1, fr G G1 SR → Q (some (zi (q_drift w p day))) G1) : zW (d + 11) 244 [zr 9 0 297, zi p, zi day] G Q := by
  subst hw
  obtain ⟨n0, n1, n2, n3, n4, n5⟩ := WF_n wf; have hrg := WF_rg wf
  unfold q_drift at hQ
  refine zm_244 ?_
  by_cases hg : okPD (G 298) p day
  · rw [bP_t hg] at hQ
    have hg' := hg
    unfold okPD at hg'
    apply zs_244_0 <;> intros
    case h3 => exact c243 wf rfl hd hg (fun G1 f1 => zs_244_15 (hQ G1 f1))
    all_goals first | omega | (repeat' first | exact hrg _ | assumption | (unfold rg; omega) | omega | refine And.intro ?_ ?_)
  · rw [bP_f hg] at hQ
    unfold okPD at hg
    apply zs_244_0 <;> intros
    all_goals first | omega | exact hQ G (fr_refl _ _) | (repeat' first | exact hrg _ | assumption | (unfold rg; omega) | omega | refine And.intro ?_ ?_)
theorem sumB_rg (wf : WF w) (P : Int → Prop) : ∀ n : Nat, n ≤ (w 3).toNat → 0 ≤ sumB w P n ∧ sumB w P n ≤ 999 * n := by
  have n3 := (WF_n wf).2.2.2.1
  intro n
  induction n with
  | zero => intro _; exact ⟨Int.le_refl 0, Int.le_refl 0⟩
  | succ n ih =>
    intro hn
    have ih := ih (by omega)
    have wb := WF_b wf (b := n) (by omega) (by omega)
    unfold sumB
    by_cases c : P n
    · rw [if_pos c]; omega
    · rw [if_neg c]; omega
theorem sumB_congr {P R : Int → Prop} : ∀ n : Nat, (∀ t, 0 ≤ t → t < (n : Int) → (P t ↔ R t)) → sumB w P n = sumB w R n := by
  intro n
  induction n with
  | zero => intro _; rfl
  | succ n ih =>
    intro h
    unfold sumB
    rw [ih (fun t t0 t1 => h t t0 (by omega))]
    have e := h n (by omega) (by omega)
    by_cases c : P n
    · rw [if_pos c, if_pos (e.mp c)]
    · rw [if_neg c, if_neg (fun z => c (e.mpr z))]
set_option maxHeartbeats 4000000 in
theorem r_heavy (wf : WF w) (hw : G 298 = w) (hd : G 297 7 = -1) {p day : Int} (hp : rg p) (hdd : rg day) (hQ : ∀ G1, fr G G1 SR → Q (some (zi (q_heavy w p day))) G1) : zW (d + 10) 237 [zr 9 0 297, zi p, zi day] G Q := by
  subst hw
  obtain ⟨n0, n1, n2, n3, n4, n5⟩ := WF_n wf; have hrg := WF_rg wf
  unfold q_heavy at hQ
  refine zm_237 ?_
  by_cases hg : okPD (G 298) p day
  · rw [bP_t hg] at hQ
    have hg' := hg
    unfold okPD at hg'
    apply zs_237_0 <;> intros
    case h3 =>
      refine c185 (dr := -1) wf ⟨by omega, by omega⟩ rfl hd (by omega) (by omega) (by omega) (by omega) (fun G1 f1 hV => zs_237_18 ?_)
      have f2 : fr G G1 SR := fr_wide f1 (by intro k j t; unfold S184 at t; unfold SR; omega)
      have w1 : G1 298 = G 298 := fr_k f1 (fun j e => by unfold S184 at e; omega)
      have d1 : G1 297 7 = -1 := (f1 _ _ (fun e => by unfold S184 at e; omega)).trans hd
      have hQ1 := hQ G1 f2
      have hok := vw_ok (dr := -1) wf hg
      have hl := vw_len (dr := -1) wf p day
      generalize vw (G 298) (-1) p day = L at *
      have k69 : ∀ (met : Int), (∀ b, 0 ≤ b → b < 32 → (zt met b ↔ inL (G 298) (-1) L b)) → ∀ (r n : Nat), n + r = (G 298 3).toNat → ∀ l1 l2, zAt xT_237 (zW (d + 9)) Q 69 [zr 9 0 297, l1, l2, zi met, zi (sumB (G 298) (inL (G 298) (-1) L) n), zi n] [] G1 := by
        intro met hmet r
        induction r with
        | zero =>
          intro n hr l1 l2
          have e : n = (G 298 3).toNat := by omega
          apply zs_237_69 <;> intros
          case h2 => rw [e]; exact hQ1
          case h1 => rw [w1]; (repeat' first | exact hrg _ | assumption | (unfold rg; omega) | omega | refine And.intro ?_ ?_)
          all_goals (rw [w1] at *; omega)
        | succ r ih =>
          intro n hr l1 l2
          have ih := ih (n + 1) (by omega)
          rw [show ((n + 1 : Nat) : Int) = (n : Int) + 1 by omega] at ih
          have e : sumB (G 298) (inL (G 298) (-1) L) (n + 1) = sumB (G 298) (inL (G 298) (-1) L) n + @ite Int (inL (G 298) (-1) L n) (Classical.propDecidable _) ((G 298) (6 + (11 * (n : Int)))) 0 := rfl
          have hb := hmet n (by omega) (by omega)
          apply zs_237_69 <;> intros
          case h4 =>
            rename_i h
            have : ¬ inL (G 298) (-1) L n := fun z => h ((zt_bit1 (by omega) (by omega)).mpr (hb.mpr z))
            rw [e, if_neg this] at ih; exact ih _ _
          case h6 =>
            rename_i h
            have : inL (G 298) (-1) L n := hb.mp ((zt_bit1 (by omega) (by omega)).mp h)
            rw [e, if_pos this] at ih; rw [w1]; exact ih _ _
          case h3 => exact rg_zand _ _
          all_goals (rw [w1] at *; first | omega | (repeat' first | exact hrg _ | assumption | (unfold rg; omega) | omega | refine And.intro ?_ ?_))
      have key : ∀ (rem pre : List EL) (met : Int), L = pre ++ rem → rg met → (∀ b, 0 ≤ b → b < 32 → (zt met b ↔ inL (G 298) (-1) pre b)) → ∀ l1 l2 l5, zAt xT_237 (zW (d + 9)) Q 23 [zr 9 0 297, l1, l2, zi met, zi pre.length, l5] [] G1 := by
        intro rem
        induction rem with
        | nil =>
          intro pre met hL hrm hmet l1 l2 l5
          rw [List.append_nil] at hL
          have h18 := hV.1
          rw [hL] at h18 hl
          apply zs_237_23 <;> intros
          case h2 => exact k69 met (by rw [hL]; exact hmet) (G 298 3).toNat 0 (by omega) _ _
          all_goals first | omega | (repeat' first | exact hrg _ | assumption | (unfold rg; omega) | omega | refine And.intro ?_ ?_)
        | cons y rem ih =>
          intro pre met hL hrm hmet l1 l2 l5
          obtain ⟨v1, v2, v3, v4, v5⟩ := VM_at hV hL
          have hyL : y ∈ L := by rw [hL]; exact List.mem_append_right _ List.mem_cons_self
          have he := EOK_e wf (hok y hyL)
          have hgy : L.getD (pre.length : Int).toNat e0 = y := by rw [Int.toNat_natCast, hL, getE_at]
          have nx := fun met hrm hmet => ih (pre ++ [y]) met (by rw [hL, List.append_assoc]; rfl) hrm hmet
          rw [hplus] at nx
          have hin : ∀ b, inL (G 298) (-1) (pre ++ [y]) b ↔ (inL (G 298) (-1) pre b ∨ (y.2.2.2.1 = 0 ∧ lq (G 298) (bo (G 298) (-1) y.2.2.1) = b)) := fun b => by
            unfold inL
            constructor
            · rintro ⟨z, hz, h⟩
              rcases List.mem_append.mp hz with hz | hz
              · exact Or.inl ⟨z, hz, h⟩
              · rcases List.mem_singleton.mp hz with rfl; exact Or.inr h
            · rintro (⟨z, hz, h⟩ | h)
              · exact ⟨z, List.mem_append_left _ hz, h⟩
              · exact ⟨y, List.mem_append_right _ (List.mem_singleton.mpr rfl), h⟩
          apply zs_237_23 <;> intros
          case h3 =>
            refine c227 (dr := -1) wf ⟨by omega, by omega⟩ w1 d1 hV hl hok (by omega) (by omega) ?_
            rw [hgy]
            by_cases c0 : y.2.2.2.1 = 0
            · have h0 := he.2.2.1.mp c0
              have hr := he.2.1.resolve_left h0.1
              have hb := bo_rg wf (dr := -1) hr.1 hr.2.1
              rw [if_pos c0]
              apply zs_237_38 <;> intros
              case h3 =>
                refine c227 (dr := -1) wf ⟨by omega, by omega⟩ w1 d1 hV hl hok (by omega) (by omega) ?_
                rw [hgy, if_pos c0]
                refine zs_237_51 (c180 (by rw [w1]; exact wf) (by omega) (by rw [w1]; omega) (fun q hq q0 q1 => zs_237_54 ?_))
                rw [w1] at hq
                refine nx _ (rg_zor _ _) (fun b b0 b1 => ?_) _ _ _
                rw [zt_or1 q0 (by omega) b0 b1, hmet b b0 b1, hin b, ← hq]
                exact ⟨fun z => z.imp id (fun e => ⟨c0, e⟩), fun z => z.imp id (fun e => e.2)⟩
              all_goals first | omega | (unfold rg; omega)
            · rw [if_neg c0]
              apply zs_237_38 <;> intros
              case h2 =>
                refine nx met hrm (fun b b0 b1 => ?_) _ _ _
                rw [hmet b b0 b1, hin b]
                exact ⟨Or.inl, fun z => z.resolve_right (fun e => c0 e.1)⟩
              all_goals first | omega | (unfold rg; omega)
          all_goals first | omega | (repeat' first | exact hrg _ | assumption | (unfold rg; omega) | omega | refine And.intro ?_ ?_)
      exact key L [] 0 rfl ⟨by omega, by omega⟩ (fun b b0 b1 => ⟨fun z => absurd z (zt_0 b), fun z => by obtain ⟨y, hy, _⟩ := z; cases hy⟩) _ _ _
    all_goals first | omega | (repeat' first | exact hrg _ | assumption | (unfold rg; omega) | omega | refine And.intro ?_ ?_)
  · rw [bP_f hg] at hQ
    unfold okPD at hg
    apply zs_237_0 <;> intros
    all_goals first | omega | exact hQ G (fr_refl _ _) | (repeat' first | exact hrg _ | assumption | (unfold rg; omega) | omega | refine And.intro ?_ ?_)
end RE
