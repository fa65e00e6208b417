/-! ACTS by the reference: add -/
section RE
variable {d : Nat} {G : zG} {Q : zQ} {m : Int} {W : Int → Int}
set_option maxHeartbeats 1000000 in
theorem c273e {p y k o x : Int} (hx : G 298 4 = x) (x0 : 0 ≤ x ∧ x < 60) (hk : rg k) (hQ : Q (some (zi x)) (zu (zu (zu (zu (zu G 298 (116 + (4 * x)) p) 298 ((116 + (4 * x)) + 1) y) 298 ((116 + (4 * x)) + 2) k) 298 ((116 + (4 * x)) + 3) (ofA k o)) 298 4 (x + 1))) : zAt xT_273 (zW (d + 3)) Q 90 [zr 9 0 297, zi p, zi y, zi k, zi o, z0] [] G := by
  have e : ∀ v, zu (zu (zu (zu G 298 (116 + (4 * x)) p) 298 ((116 + (4 * x)) + 1) y) 298 ((116 + (4 * x)) + 2) k) 298 ((116 + (4 * x)) + 3) v 298 4 = x := fun v => by
    rw [zu_j (by omega), zu_j (by omega), zu_j (by omega), zu_j (by omega)]; exact hx
  have e2 : x + 1 - 1 = x := by omega
  have c0 : k = 0 → ofA k o = o := fun c => by unfold ofA; rw [if_pos (Or.inl c)]
  have c2 : k = 2 → ofA k o = o := fun c => by unfold ofA; rw [if_pos (Or.inr c)]
  have c1 : k ≠ 0 → k ≠ 2 → ofA k o = -1 := fun c1 c2 => by unfold ofA; rw [if_neg (by omega)]
  apply zs_273_90 <;> rw [hx]
  · exact ⟨⟨by omega, by omega⟩, ⟨by omega, by omega⟩, ⟨by omega, by omega⟩, hk⟩
  · intro c; omega
  · intro c; rw [e, e2]; rw [c0 c] at hQ; exact hQ
  · intro c1 c2; omega
  · intro d1 d2; rw [e, e2]; rw [c1 d1 d2] at hQ; exact hQ
  · intro c1 c2; omega
  · intro d1 d2; rw [e, e2]; rw [c2 d2] at hQ; exact hQ
set_option maxHeartbeats 1000000 in
theorem c273m (wf : WF W) (hw : G 298 = W) (h4 : G 297 4 = m) (hm : 0 ≤ m ∧ m ≤ 20) {p y k o : Int} (hp : rg p) (hy : rg y) (hk : rg k) (h5 : (W 4 = 60 ∨ m = 20 ∨ has W p y) → Q (some (zi (-5))) G) (hQ : ¬ (W 4 = 60 ∨ m = 20 ∨ has W p y) → ∀ G1, fr G G1 SRA → G1 298 = putS W p y k (ofA k o) → G1 297 4 = m + 1 → REM G G1 m W → Q (some (zi (W 4))) G1) (l5 : zV) : zAt xT_273 (zW (d + 3)) Q 51 [zr 9 0 297, zi p, zi y, zi k, zi o, l5] [] G := by
  subst hw
  have n4 := (WF_n wf).2.2.2.2.1
  refine zs_273_51 (c175 (by rfl) (WF_rg wf) n4 hp hy (fun hno => ?_) (fun t t0 t1 ta tb => ?_))
  · have hnh : ¬ has (G 298) p y := fun ⟨s, s0, s1, sa, sb⟩ => hno s s0 s1 ⟨sa, sb⟩
    clear hno
    apply zs_273_61 <;> intros
    case h4 => exact h5 (Or.inl (by assumption))
    case h7 => exact h5 (Or.inr (Or.inl (by omega)))
    case h6 =>
      have hn : ¬ (G 298 4 = 60 ∨ m = 20 ∨ has (G 298) p y) := by
        rintro (c | c | c)
        · omega
        · omega
        · exact hnh c
      refine c272 h4 ⟨by omega, by omega⟩ (fun G1 f1 hR h41 => ?_)
      have FA : fr G G1 SRA := fr_wide f1 (fun k j t => Or.inr t)
      have e8 : G1 298 = G 298 := fr_k f1 (fun j => by omega)
      refine c273e (x := G 298 4) (by rw [e8]) ⟨by omega, by omega⟩ hk ?_
      refine hQ hn _ (fr_u (fr_u (fr_u (fr_u (fr_u FA (sra _)) (sra _)) (sra _)) (sra _)) (sra _)) ?_ ?_ ⟨fun j j0 j1 => ?_, fun x hx => ?_⟩
      · rw [zu_f, zu_f, zu_f, zu_f, zu_f, e8]; rfl
      · rw [zu_kj (by omega), zu_kj (by omega), zu_kj (by omega), zu_kj (by omega), zu_kj (by omega)]; exact h41
      · rw [zu_kj (by omega), zu_kj (by omega), zu_kj (by omega), zu_kj (by omega), zu_kj (by omega)]; exact hR.1 j j0 j1
      · rw [zu_kj (by omega), zu_kj (by omega), zu_kj (by omega), zu_kj (by omega), zu_kj (by omega)]; exact hR.2 x hx
    all_goals first | omega | (repeat' first | exact hrg _ | assumption | (unfold rg; omega) | omega | refine And.intro ?_ ?_)
  · have hh : has (G 298) p y := ⟨t, t0, t1, ta, tb⟩
    apply zs_273_61 <;> intros
    case h2 => exact h5 (Or.inr (Or.inr hh))
    all_goals first | omega | (repeat' first | exact hrg _ | assumption | (unfold rg; omega) | omega | refine And.intro ?_ ?_)
set_option maxHeartbeats 600000 in
theorem r_add (wf : WF W) (hw : G 298 = W) (h4 : G 297 4 = m) (hm : 0 ≤ m ∧ m ≤ 20) {p y k o : Int} (hp : rg p) (hy : rg y) (hk : rg k) (ho : rg o) (h2 : ¬ okA W p y k o → Q (some (zi (-2))) G) (h5 : okA W p y k o → (W 4 = 60 ∨ m = 20 ∨ has W p y) → Q (some (zi (-5))) G) (hQ : okA W p y k o → ¬ (W 4 = 60 ∨ m = 20 ∨ has W p y) → ∀ G1, fr G G1 SRA → G1 298 = putS W p y k (ofA k o) → G1 297 4 = m + 1 → REM G G1 m W → Q (some (zi (W 4))) G1) : zW (d + 4) 273 [zr 9 0 297, zi p, zi y, zi k, zi o] G Q := by
  have g51 : okA W p y k o → ∀ l5, zAt xT_273 (zW (d + 3)) Q 51 [zr 9 0 297, zi p, zi y, zi k, zi o, l5] [] G := fun hok l5 => c273m wf hw h4 hm hp hy hk (h5 hok) (hQ hok) l5
  obtain ⟨n0, n1, n2, n3, n4, n5⟩ := WF_n wf
  have e2 : G 298 2 = W 2 := by rw [hw]
  have e3 : G 298 3 = W 3 := by rw [hw]
  clear hQ h5 hw
  have bad : (okA W p y k o → False) → Q (some (zi (-2))) G := fun h => h2 h
  clear h2
  refine zm_273 ?_
  apply zs_273_0
  case h1 => exact ⟨hp, ⟨by omega, by omega⟩⟩
  case h2 => intros; exact hy
  case h3 => intros; exact hk
  case h4 => intro a1 a2 a3 a4 a5 a6 a7 a8; exact g51 ⟨⟨a1, by omega⟩, ⟨a3, a4⟩, ⟨a5, a6⟩, fun c => absurd c a7, fun c => absurd c a8⟩ _
  case h5 => intros; exact ho
  case h6 => intro a1 a2 a3 a4 a5 a6 a7 a8 a9 a10; exact g51 ⟨⟨a1, by omega⟩, ⟨a3, a4⟩, ⟨a5, a6⟩, fun c => absurd c a7, fun _ => ⟨a9, by omega⟩⟩ _
  case h7 => intro a1 a2 a3 a4 a5 a6 a7 a8 a9; exact bad (fun hc => by have := hc.2.2.2.2 a8; omega)
  case h8 => intro a1 a2 a3 a4 a5 a6 a7 a8 a9 a10; exact bad (fun hc => by have := hc.2.2.2.2 a8; omega)
  case h9 => intros; exact ⟨ho, ⟨by omega, by omega⟩⟩
  case h10 => intro a1 a2 a3 a4 a5 a6 a7 a8 a9 a10; exact g51 ⟨⟨a1, by omega⟩, ⟨a3, a4⟩, ⟨a5, a6⟩, fun _ => ⟨a8, by omega⟩, fun c => absurd c a10⟩ _
  case h11 => intro a1 a2 a3 a4 a5 a6 a7 a8 a9 a10 a11; omega
  case h12 => intro a1 a2 a3 a4 a5 a6 a7 a8 a9 a10 a11; omega
  case h13 => intro a1 a2 a3 a4 a5 a6 a7 a8; exact bad (fun hc => by have := hc.2.2.2.1 a7; omega)
  case h14 => intro a1 a2 a3 a4 a5 a6 a7 a8 a9; exact bad (fun hc => by have := hc.2.2.2.1 a7; omega)
  case h15 => intro a1 a2 a3 a4 a5; exact bad (fun hc => by have := hc.2.2.1; omega)
  case h16 => intro a1 a2 a3 a4 a5 a6; exact bad (fun hc => by have := hc.2.2.1; omega)
  case h17 => intro a1 a2 a3; exact bad (fun hc => by have := hc.2.1; omega)
  case h18 => intro a1 a2 a3 a4; exact bad (fun hc => by have := hc.2.1; omega)
  case h19 => intro a1; exact bad (fun hc => by have := hc.1; omega)
  case h20 => intro a1 a2; exact bad (fun hc => by have := hc.1; omega)
end RE
