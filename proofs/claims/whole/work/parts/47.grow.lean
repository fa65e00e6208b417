/-! THE CLASS: views grow -/
section CL
variable {d : Nat} {G : zG} {Q : zQ} {a x dr v : Int} {w : Int → Int}
theorem c74_deep {p f dp par : Int} (hd : 3 < dp) (hd2 : dp ≤ 10) (hQ : Q none G) : zW (d + 1) 74 [zr 6 0 v, zi p, zi f, zi dp, zi par] G Q := by
  refine zm_74 ?_
  apply zs_74_0 <;> intros
  case h2 => exact hQ
  all_goals first | omega | (unfold rg; omega)
set_option maxHeartbeats 8000000 in
theorem c74_h (wf : WF w) (ha : 5 ≤ a ∧ a ≤ 54) (hx : 66 ≤ x ∧ x ≤ 79) (hv : 94 ≤ v ∧ v ≤ 190) (hI : IX G x a w dr) (hA : ARC G a w) (hvx : G v 0 = x) {acc : List EL} {anc : List Int} {p f dp par : Int} (hdp0 : 0 ≤ dp) (hdp : dp ≤ 3) (hV : VC G v w dr acc) (hP : PGok w acc) (hC : CH acc anc par) (ha3 : anc.length ≤ 3) (p0 : 0 ≤ p) (p1 : p < w 2) (q0 : 0 ≤ f) (q1 : f ≤ 365) (hL : acc.length + 1 ≤ 85)
    (hn : p ∈ anc → ∀ G1, fr G G1 (SV v) → VC G1 v w dr (acc ++ [(p, f, -1, 5, dp, par)]) → Q none G1)
    (hr : p ∉ anc → (wy w dr p f).2.2 ≠ 0 → ∀ G1, fr G G1 (SV v) → VC G1 v w dr (acc ++ [(p, f, (wy w dr p f).2.1, (wy w dr p f).2.2, dp, par)]) → Q none G1)
    (hk : p ∉ anc → (wy w dr p f).2.2 = 0 → ∀ G1, fr G G1 (SV v) → VC G1 v w dr (acc ++ [(p, f, (wy w dr p f).2.1, (wy w dr p f).2.2, dp, par)]) → zAt xT_74 (zW (d + 4)) Q 61 [zr 6 0 v, zi p, zi f, zi dp, zi par, zi acc.length, zi (bo w dr (wy w dr p f).2.1), zr 0 0 a, zi (if w 1 = 1 then (w ((116 + (4 * ((wy w dr p f).2.1))) + 1)) else f), zi 0] [] G1) : zW (d + 5) 74 [zr 6 0 v, zi p, zi f, zi dp, zi par] G Q := by
  obtain ⟨n0, n1, n2, n3, n4, n5⟩ := WF_n wf
  have hrg := WF_rg wf
  have h2 := hV.1
  have fx : ∀ G1, fr G G1 (SV v) → IX G1 x a w dr ∧ ARC G1 a w ∧ G1 v 0 = x := fun G1 h => ⟨IX_fr hI (fun k j k0 k1 => h k j (by unfold SV; omega)), ARC_fr hA (fun k j k0 k1 => h k j (by unfold SV; omega)), (h _ _ (by unfold SV; omega)).trans hvx⟩
  refine zm_74 ?_
  apply zs_74_0 <;> intros
  case h4 =>
    rw [h2]
    refine c75 wf ha hx hv hI hA hvx hV hP hC ha3 p0 p1 q0 q1 hL (fun hin G1 f1 hV1 => ?_) (fun hin G1 f1 hV1 w0 w3 => ?_)
    · apply zs_74_30 <;> intros
      case h8 => exact hn hin G1 f1 hV1
      all_goals first | omega | (unfold rg; omega)
    · obtain ⟨hI1, hA1, hx1⟩ := fx G1 f1
      have he := held_eq (dr := dr) wf p f
      have ax := hI1.1
      have cx := hI1.2.1
      by_cases c : (wy w dr p f).2.2 = 0
      · have hb := wy_body wf c
        have hh := he.2 c
        have ws := WF_s wf hb.1 hb.2.1
        have s8 := (hA1.2.2.2.2 _ hb.1 hb.2.1).2.1
        have hkk := hk hin c G1 f1 hV1
        rw [hh]
        apply zs_74_30 <;> intros
        case h3 => rename_i h1 h; rw [w0, cx] at h; rw [if_neg (by omega)] at hkk; rw [hx1, ax]; exact hkk
        case h6 => rename_i h1 h h3; rw [w0, cx] at h; rw [if_pos (by omega)] at hkk; rw [hx1, ax, w0, ax, w3, s8]; exact hkk
        case h7 => rename_i h1 h h3; rw [w3] at h3; omega
        case h2 => rw [hx1, ax, w0, cx]; exact ⟨by omega, by omega, by omega, hrg _⟩
        case h4 => rw [w3]; unfold rg; omega
        case h5 => rw [w0, ax, w3]; omega
        all_goals first | omega | (unfold rg; omega)
      · have := he.1.mpr c
        rw [this]
        apply zs_74_30 <;> intros
        case h8 => exact hr hin c G1 f1 hV1
        all_goals first | omega | (unfold rg; omega)
  case h3 => rw [h2]; unfold rg; omega
  case h5 => rw [h2] at *; omega
  all_goals first | omega | (unfold rg; omega)
set_option maxHeartbeats 8000000 in
theorem c74 (wf : WF w) (ha : 5 ≤ a ∧ a ≤ 54) (hx : 66 ≤ x ∧ x ≤ 79) (hv : 94 ≤ v ∧ v ≤ 190) : ∀ (n : Nat), n ≤ 3 → ∀ (d : Nat) (G : zG) (Q : zQ) (acc : List EL) (anc : List Int) (p f dp par : Int), dp = 3 - n → IX G x a w dr → ARC G a w → G v 0 = x → VC G v w dr acc → PGok w acc → CH acc anc par → anc.length = dp → 0 ≤ p → p < w 2 → 0 ≤ f → f ≤ 365 → acc.length + sz n ≤ 85 → (∀ G1, fr G G1 (SV v) → VC G1 v w dr (acc ++ vwE w dr n anc p f dp par acc.length) → Q none G1) → zW (d + (n + 5)) 74 [zr 6 0 v, zi p, zi f, zi dp, zi par] G Q := by
  obtain ⟨n0, n1, n2, n3, n4, n5⟩ := WF_n wf
  have hrg := WF_rg wf
  have hsz : ∀ n, 1 ≤ sz n := fun n => by cases n with
    | zero => exact Nat.le_refl _
    | succ n => show 1 ≤ 1 + 4 * sz n; omega
  intro n
  induction n with
  | zero =>
    intro hn3 d G Q acc anc p f dp par hdp hI hA hvx hV hP hC hal p0 p1 q0 q1 hL hQ
    have hL : acc.length + 1 ≤ 85 := hL
    have hdp : dp = 3 := by omega
    have fx : ∀ G1, fr G G1 (SV v) → IX G1 x a w dr ∧ ARC G1 a w ∧ G1 v 0 = x := fun G1 h => ⟨IX_fr hI (fun k j k0 k1 => h k j (by unfold SV; omega)), ARC_fr hA (fun k j k0 k1 => h k j (by unfold SV; omega)), (h _ _ (by unfold SV; omega)).trans hvx⟩
    refine c74_h wf ha hx hv hI hA hvx (by omega) (by omega) hV hP hC (by omega) p0 p1 q0 q1 hL (fun hin G1 h1 h2 => hQ G1 h1 ?_) (fun hin _ G1 h1 h2 => hQ G1 h1 ?_) (fun hin hs G1 h1 h2 => ?_)
    · unfold vwE; rw [if_pos hin]; exact h2
    · unfold vwE; rw [if_neg hin]; exact h2
    · have hfin : Q none G1 := hQ G1 h1 (by unfold vwE; rw [if_neg hin]; exact h2)
      have hb := wy_body wf hs
      have wb := WF_b wf hb.2.2.1 hb.2.2.2
      obtain ⟨hI1, hA1, hx1⟩ := fx G1 h1
      obtain ⟨b1, b2, b3, b4, b5, b6⟩ := hA1.2.2.2.1 _ hb.2.2.1 hb.2.2.2
      generalize bo w dr (wy w dr p f).2.1 = b at *
      generalize (if w 1 = 1 then (w ((116 + (4 * ((wy w dr p f).2.1))) + 1)) else f) = f2
      have key : ∀ (k : Nat) (i : Int), i + k = (w ((6 + (11 * b)) + 1)) → 0 ≤ i → ∀ l1 l2 l4, zAt xT_74 (zW (d + 4)) Q 61 [zr 6 0 v, l1, l2, zi dp, l4, zi acc.length, zi b, zr 0 0 a, zi f2, zi i] [] G1 := by
        intro k
        induction k with
        | zero =>
          intro i hi i0 l1 l2 l4
          apply zs_74_61 <;> intros
          case h2 => exact hfin
          case h1 => rw [b2]; refine ⟨by omega, ?_, ?_⟩ <;> (unfold rg; omega)
          all_goals (rw [b2] at *; omega)
        | succ k ihk =>
          intro i hi i0 l1 l2 l4
          apply zs_74_61 <;> intros
          case h4 => exact c74_deep (by omega) (by omega) (zs_74_94 (ihk (i + 1) (by omega) (by omega) _ _ _))
          case h1 => rw [b2]; refine ⟨by omega, ?_, ?_⟩ <;> (unfold rg; omega)
          all_goals (rw [b2] at *; omega)
      exact key ((w ((6 + (11 * b)) + 1))).toNat 0 (by have := wb.2.1; omega) (by omega) _ _ _
  | succ n ih =>
    intro hn3 d G Q acc anc p f dp par hdp hI hA hvx hV hP hC hal p0 p1 q0 q1 hL hQ
    have hL1 : acc.length + 1 ≤ 85 := by have := hsz (n + 1); omega
    have e5 : d + (n + 1 + 5) = (d + n + 1) + 5 := by omega
    rw [e5]
    have fx : ∀ G1, fr G G1 (SV v) → IX G1 x a w dr ∧ ARC G1 a w ∧ G1 v 0 = x := fun G1 h => ⟨IX_fr hI (fun k j k0 k1 => h k j (by unfold SV; omega)), ARC_fr hA (fun k j k0 k1 => h k j (by unfold SV; omega)), (h _ _ (by unfold SV; omega)).trans hvx⟩
    refine c74_h wf ha hx hv hI hA hvx (by omega) (by omega) hV hP hC (by omega) p0 p1 q0 q1 hL1 (fun hin G1 h1 h2 => hQ G1 h1 ?_) (fun hin hs G1 h1 h2 => hQ G1 h1 ?_) (fun hin hs G1 h1 h2 => ?_)
    · unfold vwE; rw [if_pos hin]; exact h2
    · unfold vwE; rw [if_neg hin, if_neg hs]; exact h2
    · have hb := wy_body wf hs
      have wb := WF_b wf hb.2.2.1 hb.2.2.2
      have ws := WF_s wf hb.1 hb.2.1
      have hvv : vwE w dr (n + 1) anc p f dp par acc.length = (p, f, (wy w dr p f).2.1, (wy w dr p f).2.2, dp, par) :: kidsF (fun q e' => vwE w dr n (p :: anc) q (if w 1 = 1 then (w ((116 + (4 * ((wy w dr p f).2.1))) + 1)) else f) (dp + 1) acc.length e') (prL w (bo w dr (wy w dr p f).2.1) 0 ((w ((6 + (11 * (bo w dr (wy w dr p f).2.1))) + 1))).toNat) (acc.length + 1) := by
        show (if p ∈ anc then _ else _) = _
        rw [if_neg hin, if_pos hs]
      rw [hvv] at hQ
      clear hvv
      generalize (wy w dr p f).2.2 = st at *
      generalize (wy w dr p f).2.1 = en at *
      generalize bo w dr en = b at *
      have hf2 : 0 ≤ (if w 1 = 1 then (w ((116 + (4 * en)) + 1)) else f) ∧ (if w 1 = 1 then (w ((116 + (4 * en)) + 1)) else f) ≤ 365 := by split <;> omega
      generalize (if w 1 = 1 then (w ((116 + (4 * en)) + 1)) else f) = f2 at *
      have hC2 : CH (acc ++ [(p, f, en, st, dp, par)]) (p :: anc) acc.length := by
        refine ⟨by omega, by rw [List.length_append]; simp; omega, ?_, ?_⟩
        · rw [Int.toNat_natCast, getE_e]
        · rw [Int.toNat_natCast, getE_e]; exact CH_more anc par hC
      have hP2 : PGok w (acc ++ [(p, f, en, st, dp, par)]) := PGok_app hP (fun y hy => by rcases List.mem_singleton.mp hy with rfl; exact ⟨p0, p1⟩)
      have key : ∀ (k : Nat) (i : Int) (cur : List EL) (G5 : zG), i + k = (w ((6 + (11 * b)) + 1)) → 0 ≤ i → fr G G5 (SV v) → VC G5 v w dr cur → PGok w cur → CH cur (p :: anc) acc.length → cur.length + k * sz n ≤ 85 → acc ++ (p, f, en, st, dp, par) :: kidsF (fun q e' => vwE w dr n (p :: anc) q f2 (dp + 1) acc.length e') (prL w b 0 ((w ((6 + (11 * b)) + 1))).toNat) (acc.length + 1) = cur ++ kidsF (fun q e' => vwE w dr n (p :: anc) q f2 (dp + 1) acc.length e') (prL w b i k) cur.length → ∀ l1 l2 l4, zAt xT_74 (zW (d + n + 1 + 4)) Q 61 [zr 6 0 v, l1, l2, zi dp, l4, zi acc.length, zi b, zr 0 0 a, zi f2, zi i] [] G5 := by
        intro k
        induction k with
        | zero =>
          intro i cur G5 hi i0 h5 hV5 hP5 hC5 hL5 heq l1 l2 l4
          obtain ⟨hI5, hA5, hx5⟩ := fx G5 h5
          obtain ⟨b1, b2, b3, b4, b5, b6⟩ := hA5.2.2.2.1 _ hb.2.2.1 hb.2.2.2
          apply zs_74_61 <;> intros
          case h2 =>
            refine hQ _ h5 ?_
            rw [heq]
            show VC G5 v w dr (cur ++ [])
            rw [List.append_nil]; exact hV5
          case h1 => rw [b2]; refine ⟨by omega, ?_, ?_⟩ <;> (unfold rg; omega)
          all_goals (rw [b2] at *; omega)
        | succ k ihk =>
          intro i cur G5 hi i0 h5 hV5 hP5 hC5 hL5 heq l1 l2 l4
          obtain ⟨hI5, hA5, hx5⟩ := fx G5 h5
          obtain ⟨b1, b2, b3, b4, b5, b6⟩ := hA5.2.2.2.1 _ hb.2.2.1 hb.2.2.2
          have hpi := wb.2.2.2.1 i i0 (by omega)
          have hk1 : (k + 1) * sz n = k * sz n + sz n := Nat.succ_mul k (sz n)
          have e6 : d + n + 1 + 4 = d + (n + 5) := by omega
          apply zs_74_61 <;> intros
          case h4 =>
            rw [b5 i i0 (by omega), e6]
            refine ih (by omega) d G5 _ cur (p :: anc) _ f2 (dp + 1) acc.length (by omega) hI5 hA5 hx5 hV5 hP5 hC5 (by rw [List.length_cons]; omega) hpi.1 hpi.2 hf2.1 hf2.2 (by omega) (fun G6 h6 hV6 => ?_)
            rw [← e6]
            refine zs_74_94 (ihk (i + 1) _ G6 (by omega) (by omega) (fr_trans h5 h6 (fun _ _ t => t)) hV6 (PGok_app hP5 (vwE_pg wf dr n _ _ _ _ _ _ hpi.1 hpi.2)) (CH_more _ _ hC5) ?_ ?_ _ _ _)
            · have := vwE_len wf dr n (p :: anc) (w (((6 + (11 * b)) + 3) + i)) f2 (dp + 1) acc.length cur.length
              rw [List.length_append]; omega
            · rw [heq, List.append_assoc, List.length_append]
              rfl
          case h1 => rw [b2]; refine ⟨by omega, ?_, ?_⟩ <;> (unfold rg; omega)
          all_goals (rw [b2] at *; omega)
      have hnp := wb.2.1
      refine key ((w ((6 + (11 * b)) + 1))).toNat 0 _ G1 (by omega) (by omega) h1 h2 hP2 hC2 ?_ ?_ _ _ _
      · have h4 : ((w ((6 + (11 * b)) + 1))).toNat ≤ 4 := by omega
        have := Nat.mul_le_mul_right (sz n) h4
        have hL : acc.length + (1 + 4 * sz n) ≤ 85 := hL
        rw [List.length_append]
        show acc.length + 1 + _ ≤ 85
        omega
      · rw [List.append_assoc, List.length_append]; rfl
def SB (v k j : Int) : Prop := (v + 1 ≤ k ∧ k ≤ v + 94) ∨ (k = v ∧ (j = 0 ∨ j = 2))
set_option maxHeartbeats 4000000 in
theorem c73 (wf : WF w) (ha : 5 ≤ a ∧ a ≤ 54) (hx : 66 ≤ x ∧ x ≤ 79) (hv : 94 ≤ v ∧ v ≤ 190) (hI : IX G x a w dr) (hA : ARC G a w) {p day : Int} (p0 : 0 ≤ p) (p1 : p < w 2) (q0 : 0 ≤ day) (q1 : day ≤ 365) (hQ : ∀ G1, fr G G1 (SB v) → VC G1 v w dr (vw w dr p day) → G1 v 0 = x → Q none G1) : zW (d + 9) 73 [zr 6 0 v, zr 1 0 x, zi p, zi day] G Q := by
  refine zm_73 (zs_73_0 ?_)
  have f1 : fr G (zu (zu (zu (zu (zu (zu G v 0 x) v 2 0) (v + 94) 0 0) (v + 94) 1 365) (v + 94) 2 0) (v + 94) 3 365) (SB v) := by
    repeat' (first | exact fr_refl _ _ | refine fr_u ?_ (by unfold SB; omega))
  have g0 : (zu (zu (zu (zu (zu (zu G v 0 x) v 2 0) (v + 94) 0 0) (v + 94) 1 365) (v + 94) 2 0) (v + 94) 3 365) v 0 = x := by (simp (disch := omega) only [zu_kj, zu_s, zl10, zl20, zl21, zl30, zl31, zl32, zl40, zl41, zl42, zl43, zl02, zl03, zl04, zl23, zl24, zl34, zl12, zl13, zl14, zl01])
  have g2 : (zu (zu (zu (zu (zu (zu G v 0 x) v 2 0) (v + 94) 0 0) (v + 94) 1 365) (v + 94) 2 0) (v + 94) 3 365) v 2 = 0 := by (simp (disch := omega) only [zu_kj, zu_s, zl10, zl20, zl21, zl30, zl31, zl32, zl40, zl41, zl42, zl43, zl02, zl03, zl04, zl23, zl24, zl34, zl12, zl13, zl14, zl01])
  have gq : Q4M (zu (zu (zu (zu (zu (zu G v 0 x) v 2 0) (v + 94) 0 0) (v + 94) 1 365) (v + 94) 2 0) (v + 94) 3 365) (v + 94) o4 := by
    unfold o4
    refine ⟨?_, ?_, ?_, ?_⟩ <;> (simp (disch := omega) only [zu_kj, zu_s, zl10, zl20, zl21, zl30, zl31, zl32, zl40, zl41, zl42, zl43, zl02, zl03, zl04, zl23, zl24, zl34, zl12, zl13, zl14, zl01])
  generalize zu (zu (zu (zu (zu (zu G v 0 x) v 2 0) (v + 94) 0 0) (v + 94) 1 365) (v + 94) 2 0) (v + 94) 3 365 = G1 at *
  refine c74 wf ha hx hv 3 (by omega) d G1 _ [] [] p day 0 (-1) (by omega) (IX_fr hI (fun k j k0 k1 => f1 k j (by unfold SB; omega))) (ARC_fr hA (fun k j k0 k1 => f1 k j (by unfold SB; omega))) g0 ⟨g2, gq, fun i i0 i1 => by simp at i1; omega⟩ (fun y hy => by cases hy) rfl rfl p0 p1 q0 q1 (by decide) (fun G2 f2 hV => zs_73_25 (hQ G2 (fr_trans f1 f2 (by intro k j t; unfold SV at t; unfold SB; omega)) hV ((f2 _ _ (by unfold SV; omega)).trans g0)))
end CL
