/-! THE START: its memory; the whole law -/
def gw (k j : Int) : Int := if k = 297 ∧ j = 38 then -1 else if k = 297 ∧ j = 7 then -1 else if k = 0 ∧ j = 7 then 1 else if k = 2 ∧ j = 1 then -1 else 0
def G0 : zG := fun k j => if (zst (xsh k.toNat).1 j.toNat).1 = 2 then (if k = 0 ∧ j = 3 then 5 else if k = 0 ∧ j = 4 then 17 else -1) else gw k j
theorem xsh_hi {k : Nat} (h : 320 ≤ k) : xsh k = (99, 0) := by
  have hb : Nat.blt k 320 = false := by
    cases e : Nat.blt k 320 with
    | false => rfl
    | true => have : k < 320 := Nat.le_of_ble_eq_true e; omega
  unfold xsh
  rw [hb]
  rfl
theorem G0_i (k n : Nat) (hne : (zst (xsh k).1 n).1 ≠ 2) : wrI LI0 k n = iI (G0 k n) := by
  have e : G0 k n = gw k n := by
    unfold G0
    rw [Int.toNat_natCast, Int.toNat_natCast, if_neg hne]
  rw [e]
  unfold gw LI0
  show (if k = 297 ∧ n = 38 then (-1 : Int32) else if k = 297 ∧ n = 7 then (-1 : Int32) else if k = 0 ∧ n = 7 then (1 : Int32) else if k = 2 ∧ n = 1 then (-1 : Int32) else 0) = _
  by_cases c1 : k = 297 ∧ n = 38
  · rw [if_pos c1, if_pos (show (k : Int) = 297 ∧ (n : Int) = 38 by omega)]; rfl
  · rw [if_neg c1, if_neg (show ¬ ((k : Int) = 297 ∧ (n : Int) = 38) by omega)]
    by_cases c2 : k = 297 ∧ n = 7
    · rw [if_pos c2, if_pos (show (k : Int) = 297 ∧ (n : Int) = 7 by omega)]; rfl
    · rw [if_neg c2, if_neg (show ¬ ((k : Int) = 297 ∧ (n : Int) = 7) by omega)]
      by_cases c3 : k = 0 ∧ n = 7
      · rw [if_pos c3, if_pos (show (k : Int) = 0 ∧ (n : Int) = 7 by omega)]; rfl
      · rw [if_neg c3, if_neg (show ¬ ((k : Int) = 0 ∧ (n : Int) = 7) by omega)]
        by_cases c4 : k = 2 ∧ n = 1
        · rw [if_pos c4, if_pos (show (k : Int) = 2 ∧ (n : Int) = 1 by omega)]; rfl
        · rw [if_neg c4, if_neg (show ¬ ((k : Int) = 2 ∧ (n : Int) = 1) by omega)]; rfl
theorem G0_f {R : List (Nat × Nat × Nat)} {n0 : Nat} {k s : Nat} (h : rchk R k s = true) : zRf G0 (wrI LI0, wrR R, n0) k s := by
  unfold rchk at h
  unfold zRf
  have hz2 : (zst (xsh k).1 s).1 = 2 → G0 k s = if (k : Int) = 0 ∧ (s : Int) = 3 then 5 else if (k : Int) = 0 ∧ (s : Int) = 4 then 17 else -1 := fun e => by
    unfold G0; rw [Int.toNat_natCast, Int.toNat_natCast, if_pos e]
  generalize zst (xsh k).1 s = z at *
  obtain ⟨z1, z2, z3, z4⟩ := z
  match z1, h, hz2 with
  | 0, _, _ => trivial
  | 1, h, _ =>
    show ((wrR R k s : Nat) : Int) = k + z4
    exact of_decide_eq_true h
  | 3, h, _ =>
    show ((wrR R k s : Nat) : Int) = z4
    exact of_decide_eq_true h
  | 2, h, hz2 =>
    show 0 ≤ G0 k s → wrR R k s = (G0 k s).toNat ∧ zkd z2 z3 (G0 k s).toNat
    have hg := hz2 rfl
    intro h0
    have h : (bif Nat.beq k 0 && Nat.beq s 3 then Nat.beq (wrR R k s) 5 && zkB z2 z3 5 else bif Nat.beq k 0 && Nat.beq s 4 then Nat.beq (wrR R k s) 17 && zkB z2 z3 17 else true) = true := h
    by_cases c3 : k = 0 ∧ s = 3
    · rw [if_pos (by omega)] at hg
      rw [c3.1, c3.2] at h
      have h := Bool.and_eq_true_iff.mp h
      rw [hg, c3.1, c3.2]
      exact ⟨Nat.eq_of_beq_eq_true h.1, zkB_d h.2⟩
    · rw [if_neg (by omega)] at hg
      by_cases c4 : k = 0 ∧ s = 4
      · rw [if_pos (by omega)] at hg
        rw [c4.1, c4.2] at h
        have h := Bool.and_eq_true_iff.mp h
        rw [hg, c4.1, c4.2]
        exact ⟨Nat.eq_of_beq_eq_true h.1, zkB_d h.2⟩
      · rw [if_neg (by omega)] at hg
        omega
  | z + 4, _, _ => trivial
theorem G0_R {R : List (Nat × Nat × Nat)} {n0 : Nat} (h : rall R = true) : zR G0 (wrI LI0, wrR R, n0) := by
  have hk : ∀ k, k < 320 → ((List.range 50).all (fun s => rchk R k s) && ach R k) = true := fun k hk => List.all_eq_true.mp h k (List.mem_range.mpr hk)
  refine ⟨fun k n hne => G0_i k n hne, fun k s hk3 => ?_, fun k i hx hi => ?_, fun k i hx hi => ?_⟩
  · by_cases hs : s < 50
    · exact G0_f (List.all_eq_true.mp (Bool.and_eq_true_iff.mp (hk k hk3)).1 s (List.mem_range.mpr hs))
    · unfold zRf
      rw [zst_hi (by omega)]
      trivial
  · by_cases c : k < 320
    · have h1 := (Bool.and_eq_true_iff.mp (Bool.and_eq_true_iff.mp (hk k c)).2).1
      rw [hx] at h1
      exact Nat.eq_of_beq_eq_true (List.all_eq_true.mp h1 i (List.mem_range.mpr hi))
    · rw [xsh_hi (by omega)] at hx; cases hx
  · by_cases c : k < 320
    · have h1 := (Bool.and_eq_true_iff.mp (Bool.and_eq_true_iff.mp (hk k c)).2).2
      rw [hx] at h1
      exact Nat.eq_of_beq_eq_true (List.all_eq_true.mp h1 i (List.mem_range.mpr hi))
    · rw [xsh_hi (by omega)] at hx; cases hx
theorem g0z (k : Nat) (hk : 10 ≤ (xsh k).1) (j : Int) : G0 (k : Int) j = 0 := by
  have h1 : k ≠ 297 := fun e => by rw [e] at hk; exact absurd hk (by decide)
  have h2 : k ≠ 0 := fun e => by rw [e] at hk; exact absurd hk (by decide)
  have h3 : k ≠ 2 := fun e => by rw [e] at hk; exact absurd hk (by decide)
  unfold G0
  rw [Int.toNat_natCast, zst_big hk, if_neg (by decide)]
  unfold gw
  rw [if_neg (by omega), if_neg (by omega), if_neg (by omega), if_neg (by omega)]
theorem WF_z : WF (fun _ => 0) := by
  refine ⟨fun j => rg_0, by decide, by decide, by decide, by decide, by decide, by decide, fun s s0 s1 => ?_, fun s t s0 s1 => ?_, fun b b0 b1 => ?_⟩
  · have s1 : s < 0 := s1
    omega
  · have s1 : s < 0 := s1
    omega
  · have b1 : b < 0 := b1
    omega
theorem BND_0 {a : Nat} (h1 : 10 ≤ (xsh (a + 1)).1) (h2 : 10 ≤ (xsh (a + 2)).1) (h3 : 10 ≤ (xsh (a + 3)).1) (h4 : 10 ≤ (xsh (a + 4)).1) (h5 : 10 ≤ (xsh (a + 5)).1) : BND G0 a := by
  refine ⟨fun b b0 b1 => ⟨?_, ?_, ?_⟩, fun i i0 i1 => ⟨?_, ?_⟩⟩
  · rw [show ((a : Int) + 1) = ((a + 1 : Nat) : Int) from rfl, g0z _ h1]; exact rg_0
  · rw [show ((a : Int) + 2) = ((a + 2 : Nat) : Int) from rfl, g0z _ h2]; omega
  · rw [show ((a : Int) + 3) = ((a + 3 : Nat) : Int) from rfl, g0z _ h3]; omega
  · rw [show ((a : Int) + 4) = ((a + 4 : Nat) : Int) from rfl, g0z _ h4]; exact rg_0
  · rw [show ((a : Int) + 5) = ((a + 5 : Nat) : Int) from rfl, g0z _ h5]; exact rg_0
theorem G0_298 : G0 298 = fun _ => 0 := funext fun j => g0z 298 (by decide) j
theorem INV_0 : INV G0 := by
  have z298 : ∀ j, G0 298 j = 0 := fun j => g0z 298 (by decide) j
  refine ⟨⟨5, 17, Or.inl ⟨rfl, rfl⟩, by decide, by decide, ?_, BND_0 (a := 17) (by decide) (by decide) (by decide) (by decide) (by decide), Or.inr (by decide), fun h => absurd h (by decide)⟩, by decide, ⟨by decide, by decide, fun j j0 j1 => ?_⟩, ⟨by decide, by decide⟩, ⟨[], ⟨by decide, fun i hi => absurd hi (Nat.not_lt_zero i)⟩, ⟨by decide, fun i hi => absurd hi (Nat.not_lt_zero i)⟩, by decide⟩, fun k k0 k1 => Or.inl ?_, fun j hj => ?_⟩
  · rw [show G0 297 4 = 0 by decide]
    refine ⟨by rw [G0_298]; exact WF_z, ⟨?_, ?_, ?_, fun b b0 b1 => ?_, fun s s0 s1 => ?_⟩, ⟨?_, ?_, ?_⟩, ⟨by decide, by decide, by decide⟩, BND_0 (a := 5) (by decide) (by decide) (by decide) (by decide) (by decide), fun i i0 i1 => by omega⟩
    · rw [z298]; decide
    · rw [z298]; decide
    · rw [z298]; decide
    · rw [z298] at b1; omega
    · rw [z298] at s1; omega
    · rw [z298]; decide
    · rw [z298]; decide
    · rw [z298]; decide
  · have : G0 0 1 = 0 := by decide
    omega
  · have hk : k = 0 ∨ k = 1 ∨ k = 2 := by omega
    have h302 : G0 302 k = 0 := g0z 302 (by decide) k
    refine ⟨h302, ?_⟩
    rcases hk with c | c | c <;> (rw [c]; decide)
  · have : G0 299 j = 0 := g0z 299 (by decide) j
    rw [this]; exact rg_0
theorem start_m : ∃ m1 m2 : eM, ecall 100 94 [.ref 0] eS0 = some m1 ∧ frs m1 = true ∧ m1.2.2 = 297 ∧ ecall 100 159 [.ref 297] (eadd m1) = some m2 ∧ m2.1 = LI0 ∧ rall m2.2.1 = true := by
  have h := echk_t
  unfold echk at h
  split at h
  · rename_i zzm zzh
    unfold estart at zzh
    split at zzh
    · rename_i zzm1 zzh1
      obtain ⟨hb, zzh⟩ := bif_t zzh
      have hb := Bool.and_eq_true_iff.mp hb
      have h := Bool.and_eq_true_iff.mp h
      exact ⟨zzm1, zzm, zzh1, hb.1, Nat.eq_of_beq_eq_true hb.2, zzh, of_decide_eq_true h.1, h.2⟩
    · cases zzh
  · cases h
theorem xS_a : xS (1 + 296) = xS 1 + 10665 := by decide +kernel
theorem xS_b : xS (298 + 22) = xS 298 + 43808 := by decide +kernel
set_option maxHeartbeats 2000000 in
theorem law_all (L : Nat) (xs : Nat → Int32) (hL : L ≤ 3072) : xLaw 100 L xs := by
  obtain ⟨m1, m2, e1, f1, n1, e2, i2, r2⟩ := start_m
  obtain ⟨L1, R1, k1⟩ := m1
  obtain ⟨L2, R2, k2⟩ := m2
  have n1 : k1 = 297 := n1
  have i2 : L2 = LI0 := i2
  subst n1
  subst i2
  have h0 : xnew xh0 = den eS0 := by
    refine Prod.ext (funext fun k => funext fun i => ?_) (Prod.ext (funext fun k => funext fun i => ?_) rfl)
    · show (if k = 0 then (0 : Int32) else 0) = 0
      split <;> rfl
    · show (if k = 0 then xNUL else xNUL) = xNUL
      split <;> rfl
  have hloop : LW 100 L xs 18 (iI ((0 : Nat) : Int)) (den (LI0, R2, k2)) := law_loop hL L 0 _ G0 (by omega) (by omega) (G0_R r2) INV_0
  have c2 : xW xP 100 159 [.ref 297] (den (L1, R1, 298)) (fun r h' => xr0 r (LW 100 L xs 18 (iI ((0 : Nat) : Int)) h')) := ecall_x 100 159 _ _ _ e2 _ hloop
  have hnew : xnew (den (L1, R1, 297)) = den (L1, R1, 298) := den_new f1
  have c1 : xW xP 100 94 [.ref 0] (den eS0) (fun r h' => xr0 r (h' = den (L1, R1, 297))) := ecall_x 100 94 _ _ _ e1 _ rfl
  rw [← h0] at c1
  refine xrun2 (fun p => Nat.beq p 18) 60 ?_
  refine And.intro (by decide) (And.intro rfl (And.intro (by decide) (And.intro xS_a (xW_m xP 100 _ _ _ _ _ (fun r h' zz1 => xr0_m (fun zz2 => ?_) zz1) c1))))
  subst zz2
  refine And.intro (show (297 : Nat) < xNK by decide) (And.intro rfl ?_)
  rw [hnew]
  exact And.intro (show (298 : Nat) + 22 ≤ xNK by decide) (And.intro xS_b (xW_m xP 100 _ _ _ _ _ (fun r h' z => xr0_m (fun z => z) z) c2))
