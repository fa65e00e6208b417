/-! THE READER by the class: words, names -/
def CT (B : Int → Int) (n : Int) (G : zG) (c : TK) : Prop := (G 2 2 = 1 ∧ G 2 3 = n ∧ ∀ j, 0 ≤ j → j < n → G 1 j = B j) ∧ TC G c ∧ TKok B n c
def SKR (k j : Int) : Prop := k = 2 ∧ (j = 0 ∨ j = 1 ∨ (5 ≤ j ∧ j ≤ 8))
def CN (G : zG) (N : Int → Int × Int) : Prop := ∀ p, 0 ≤ p → p < 18 → (N p).2 ≠ 0 → G 3 p = (N p).1 ∧ G 4 p = (N p).2
section CL
variable {d : Nat} {G : zG} {Q : zQ} {B : Int → Int} {n : Int} {c : TK} {N : Int → Int × Int}
theorem CT_n (hC : CT B n G c) : G 2 2 = 1 ∧ G 2 5 = c.2.2.1 ∧ G 2 7 = c.2.1 ∧ G 2 6 = c.1 ∧ (∀ j, c.2.1 ≤ j → j < c.2.2.1 → G 1 j = B j) ∧ (0 ≤ c.2.1 ∧ c.2.1 ≤ c.2.2.1 ∧ c.2.2.1 ≤ n) ∧ (0 ≤ c.1 ∧ c.1 ≤ 4) := by
  obtain ⟨h1, h2, h3⟩ := hC
  have a := h3.1
  exact ⟨h1.1, h2.1, h2.2.1, h2.2.2.1, fun j j0 j1 => h1.2.2 j (by omega) (by omega), a, h3.2.1⟩
theorem CT_fr {G1 : zG} (hC : CT B n G c) (e : ∀ k j, (k = 1 ∨ (k = 2 ∧ 2 ≤ j)) → G1 k j = G k j) : CT B n G1 c := by
  obtain ⟨h1, h2, h3⟩ := hC
  exact ⟨⟨(e _ _ (by omega)).trans h1.1, (e _ _ (by omega)).trans h1.2.1, fun j j0 j1 => (e _ _ (by omega)).trans (h1.2.2 j j0 j1)⟩, ⟨(e _ _ (by omega)).trans h2.1, (e _ _ (by omega)).trans h2.2.1, (e _ _ (by omega)).trans h2.2.2.1, fun h => (e _ _ (by omega)).trans (h2.2.2.2 h)⟩, h3⟩
set_option maxHeartbeats 4000000 in
theorem c52s (hT : TP B n) (hC : CT B n G c) (hQ : ∀ G1, fr G G1 S52 → CT B n G1 (nx B n c.2.2.1) → Q none G1) : zW (d + 3) 52 [zr 2 0 2] G Q := by
  obtain ⟨h1, h2, h3⟩ := hC
  have a := h3.1
  refine c52 hT.1 hT.2 h1.2.2 h1.1 h1.2.1 (i := c.2.2.1) (by omega) a.2.2 h2.1 (fun G1 f1 hT1 => hQ G1 f1 ?_)
  have e : ∀ k j, ¬ (k = 2 ∧ 5 ≤ j ∧ j ≤ 8) → G1 k j = G k j := fun k j h => f1 k j h
  exact ⟨⟨(e _ _ (by omega)).trans h1.1, (e _ _ (by omega)).trans h1.2.1, fun j j0 j1 => (e _ _ (by omega)).trans (h1.2.2 j j0 j1)⟩, hT1, (nx_ok (by omega) a.2.2).1⟩
set_option maxHeartbeats 4000000 in
theorem c50 (hT : TP B n) (hC : CT B n G c) {x : Int} {m : Nat} (hm : m ≤ 10) (h1 : isW B c x m → Q (some (zi 1)) G) (h0 : ¬ isW B c x m → Q (some (zi 0)) G) : zW (d + 2) 50 [zr 2 0 2, zr 15 m x] G Q := by
  obtain ⟨e2, e5, e7, e6, eB, a, a5⟩ := CT_n hC
  have key : ∀ (rem k : Nat), k + rem = m → c.1 = 1 → c.2.2.1 - c.2.1 = m → (∀ i : Int, 0 ≤ i → i < k → B (c.2.1 + i) = ztx x i) → zAt xT_50 (zW (d + 1)) Q 28 [zr 2 0 2, zr 15 m x, zi k] [] G := by
    intro rem
    induction rem with
    | zero =>
      intro k hk c1 c2 hi
      have ek : k = m := by omega
      apply zs_50_28 <;> intros
      case h2 => exact h1 ⟨c1, c2, fun i i0 i1 => hi i i0 (by omega)⟩
      all_goals first | omega | (repeat' first | exact hrg _ | assumption | (unfold rg; omega) | omega | refine And.intro ?_ ?_)
    | succ rem ih =>
      intro k hk c1 c2 hi
      have ha := hT.1
      have hb := hT.2 (c.2.1 + k) (by omega) (by omega)
      have eb := eB (c.2.1 + k) (by omega) (by omega)
      have ee : G (G 2 2) (G 2 7 + k) = B (c.2.1 + k) := by rw [e2, e7]; exact eb
      apply zs_50_28 <;> intros
      case h5 =>
        rename_i hne
        rw [ee] at hne
        exact h0 (fun h => hne (h.2.2 k (by omega) (by omega)))
      case h4 =>
        rename_i heq
        rw [ee] at heq
        refine ih (k + 1) (by omega) c1 c2 (fun i i0 i1 => ?_)
        by_cases cc : i = k
        · rw [cc]; exact heq
        · exact hi i i0 (by omega)
      case h3 => exact ⟨by omega, ⟨by omega, by omega⟩, ⟨by omega, by omega⟩, by rw [ee]; exact ⟨by omega, by omega⟩, rg_ztx _ _⟩
      all_goals first | omega | (repeat' first | exact hrg _ | assumption | (unfold rg; omega) | omega | refine And.intro ?_ ?_)
  have ha := hT.1
  refine zm_50 ?_
  apply zs_50_0 <;> intros
  case h2 => exact h0 (fun h => by have := h.1; omega)
  case h5 => exact h0 (fun h => by have := h.2.1; omega)
  case h4 => exact key m 0 (by omega) (by omega) (by omega) (fun i i0 i1 => by omega)
  all_goals first | omega | (repeat' first | exact hrg _ | assumption | (unfold rg; omega) | omega | refine And.intro ?_ ?_)
theorem sk_u (G : zG) (k v : Int) : fr G (zu (zu G 2 0 k) 2 1 v) SKR := fr_u (fr_u (fr_refl _ _) ⟨rfl, by omega⟩) ⟨rfl, by omega⟩
/-- a refusal: the kind and the place -/
def RF (G1 : zG) (k p : Int) : Prop := G1 2 0 = k ∧ G1 2 1 = p
theorem RF_u {k v : Int} (G : zG) : RF (zu (zu G 2 0 k) 2 1 v) k v := ⟨by rw [zu_j (by omega), zu_s], zu_s⟩
set_option maxHeartbeats 4000000 in
theorem c41 (hT : TP B n) (hC : CT B n G c) {x : Int} {m : Nat} (hm : m ≤ 10) (hY : isW B c x m → ∀ G1, fr G G1 S52 → CT B n G1 (nx B n c.2.2.1) → Q (some (zi 1)) G1) (hN : ¬ isW B c x m → ∀ G1, fr G G1 SKR → RF G1 1 c.2.1 → Q (some (zi 0)) G1) : zW (d + 5) 41 [zr 2 0 2, zr 15 m x] G Q := by
  have e7 := (CT_n hC).2.2.1
  refine zm_41 (zs_41_0 (c50 hT hC hm (fun hw => ?_) (fun hw => ?_)))
  · apply zs_41_5 <;> intros
    case h2 => exact c52s hT hC (fun G1 f1 hC1 => zs_41_18 (hY hw G1 f1 hC1))
    all_goals first | omega | (repeat' first | exact hrg _ | assumption | (unfold rg; omega) | omega | refine And.intro ?_ ?_)
  · apply zs_41_5 <;> intros
    case h3 => rw [e7]; exact hN hw _ (sk_u _ _ _) (RF_u _)
    all_goals first | omega | (repeat' first | exact hrg _ | assumption | (unfold rg; omega) | omega | refine And.intro ?_ ?_)
set_option maxHeartbeats 4000000 in
theorem c48 (hT : TP B n) (hC : CT B n G c) (hN : CN G N) {p : Int} (p0 : 0 ≤ p) (p1 : p < 18) (hp : NMs B n (N p)) (h1 : isN B c (N p) → Q (some (zi 1)) G) (h0 : ¬ isN B c (N p) → Q (some (zi 0)) G) : zW (d + 2) 48 [zr 2 0 2, zi p] G Q := by
  obtain ⟨e2, e5, e7, e6, eB, a, a5⟩ := CT_n hC
  have hg := hN p p0 p1 (by have := hp.1; omega)
  have hq := hp.1
  have hq2 := hp.2.1
  have hn := hT.1
  have key : ∀ (rem k : Nat), k + rem = (N p).2 → c.2.2.1 - c.2.1 = (N p).2 → (∀ i : Int, 0 ≤ i → i < k → B (c.2.1 + i) = B ((N p).1 + i)) → zAt xT_48 (zW (d + 1)) Q 24 [zr 2 0 2, zi p, zi (c.2.2.1 - c.2.1), zi k] [] G := by
    intro rem
    induction rem with
    | zero =>
      intro k hk c2 hi
      apply zs_48_24 <;> intros
      case h2 => exact h1 ⟨c2, fun i i0 i1 => hi i i0 (by omega)⟩
      all_goals first | omega | (repeat' first | exact hrg _ | assumption | (unfold rg; omega) | omega | refine And.intro ?_ ?_)
    | succ rem ih =>
      intro k hk c2 hi
      have hb := hT.2 (c.2.1 + k) (by omega) (by omega)
      have hb2 := hT.2 ((N p).1 + k) (by omega) (by omega)
      have ee : G (G 2 2) (G 2 7 + k) = B (c.2.1 + k) := by rw [e2, e7]; exact eB _ (by omega) (by omega)
      have ee2 : G (G 2 2) (G 3 p + k) = B ((N p).1 + k) := by rw [e2, hg.1]; exact hC.1.2.2 _ (by omega) (by omega)
      apply zs_48_24 <;> intros
      case h5 =>
        rename_i hne
        rw [ee, ee2] at hne
        exact h0 (fun h => hne (h.2 k (by omega) (by omega)).symm)
      case h4 =>
        rename_i heq
        rw [ee, ee2] at heq
        refine ih (k + 1) (by omega) c2 (fun i i0 i1 => ?_)
        by_cases cc : i = k
        · rw [cc]; exact heq.symm
        · exact hi i i0 (by omega)
      case h3 => exact ⟨by omega, ⟨by omega, by omega⟩, ⟨by omega, by omega⟩, ⟨by omega, by omega⟩, by rw [ee2]; exact ⟨by omega, by omega⟩, by rw [ee]; exact ⟨by omega, by omega⟩⟩
      all_goals first | omega | (repeat' first | exact hrg _ | assumption | (unfold rg; omega) | omega | refine And.intro ?_ ?_)
  refine zm_48 ?_
  have e : G 2 5 - G 2 7 = c.2.2.1 - c.2.1 := by omega
  apply zs_48_0 <;> intros
  case h2 =>
    rw [e]
    exact key (N p).2.toNat 0 (by omega) (by omega) (fun i i0 i1 => by omega)
  case h3 => exact h0 (fun h => by have := h.1; omega)
  all_goals first | omega | (repeat' first | exact hrg _ | assumption | (unfold rg; omega) | omega | refine And.intro ?_ ?_)
set_option maxHeartbeats 4000000 in
theorem c47 (hT : TP B n) (hC : CT B n G c) (hN : CN G N) {base m : Int} (hb : 0 ≤ base) (hm : 0 ≤ m ∧ m ≤ 10) (hbm : base + m ≤ 18) (hp : ∀ i, 0 ≤ i → i < m → NMs B n (N (base + i))) (hQ : Q (some (zi (fnd B c N base m))) G) : zW (d + 3) 47 [zr 2 0 2, zi base, zi m] G Q := by
  have key : ∀ (k : Nat) (i : Int), 0 ≤ i → i + k = m → Q (some (zi (fnF B c N base k i))) G → zAt xT_47 (zW (d + 2)) Q 2 [zr 2 0 2, zi base, zi m, zi i] [] G := by
    intro k
    induction k with
    | zero =>
      intro i i0 hi hq
      have hi : i = m := by simpa using hi
      apply zs_47_2 <;> intros
      case h2 => exact hq
      all_goals first | omega | (repeat' first | exact hrg _ | assumption | (unfold rg; omega) | omega | refine And.intro ?_ ?_)
    | succ k ih =>
      intro i i0 hi hq
      have hu := hp i i0 (by omega)
      apply zs_47_2 <;> intros
      case h3 =>
        refine c48 hT hC hN (by omega) (by omega) hu (fun hy => ?_) (fun hy => ?_)
        · have e : fnF B c N base (k + 1) i = i := by unfold fnF; rw [cif_t hy]
          rw [e] at hq
          apply zs_47_14 <;> intros
          case h3 => exact hq
          all_goals first | omega | (repeat' first | exact hrg _ | assumption | (unfold rg; omega) | omega | refine And.intro ?_ ?_)
        · have e : fnF B c N base (k + 1) i = fnF B c N base k (i + 1) := by
            show cif _ i (fnF B c N base k (i + 1)) = _
            rw [cif_f hy]
          rw [e] at hq
          apply zs_47_14 <;> intros
          case h2 => exact ih (i + 1) (by omega) (by omega) hq
          all_goals first | omega | (repeat' first | exact hrg _ | assumption | (unfold rg; omega) | omega | refine And.intro ?_ ?_)
      all_goals first | omega | (repeat' first | exact hrg _ | assumption | (unfold rg; omega) | omega | refine And.intro ?_ ?_)
  exact zm_47 (zs_47_0 (key m.toNat 0 (by omega) (by omega) hQ))
set_option maxHeartbeats 4000000 in
theorem c49 (hT : TP B n) (hR : CT B n G c) (hY : own B c → Q (some (zi 1)) G) (hN : ¬ own B c → Q (some (zi 0)) G) : zW (d + 3) 49 [zr 2 0 2] G Q := by
  refine zm_49 (zs_49_0 ?_)
  refine c50 hT hR (x := 1002) (m := 7) (by omega) (fun hw => ?_) (fun hn0 => ?_)
  · apply zs_49_6 <;> intros
    case h2 => exact hY (Or.inl hw)
    all_goals first | omega | (repeat' first | exact hrg _ | assumption | (unfold rg; omega) | omega | refine And.intro ?_ ?_)
  · apply zs_49_6 <;> intros
    case h3 =>
      refine c50 hT hR (x := 1000) (m := 4) (by omega) (fun hw => ?_) (fun hn1 => ?_)
      · apply zs_49_15 <;> intros
        case h2 => exact hY (Or.inr (Or.inl hw))
        all_goals first | omega | (repeat' first | exact hrg _ | assumption | (unfold rg; omega) | omega | refine And.intro ?_ ?_)
      · apply zs_49_15 <;> intros
        case h3 =>
          refine c50 hT hR (x := 1001) (m := 4) (by omega) (fun hw => ?_) (fun hn2 => ?_)
          · apply zs_49_24 <;> intros
            case h2 => exact hY (Or.inr (Or.inr (Or.inl hw)))
            all_goals first | omega | (repeat' first | exact hrg _ | assumption | (unfold rg; omega) | omega | refine And.intro ?_ ?_)
          · apply zs_49_24 <;> intros
            case h3 =>
              refine c50 hT hR (x := 1005) (m := 4) (by omega) (fun hw => ?_) (fun hn3 => ?_)
              · apply zs_49_33 <;> intros
                case h2 => exact hY (Or.inr (Or.inr (Or.inr (Or.inl hw))))
                all_goals first | omega | (repeat' first | exact hrg _ | assumption | (unfold rg; omega) | omega | refine And.intro ?_ ?_)
              · apply zs_49_33 <;> intros
                case h3 =>
                  refine c50 hT hR (x := 1006) (m := 4) (by omega) (fun hw => ?_) (fun hn4 => ?_)
                  · apply zs_49_42 <;> intros
                    case h2 => exact hY (Or.inr (Or.inr (Or.inr (Or.inr (Or.inl hw)))))
                    all_goals first | omega | (repeat' first | exact hrg _ | assumption | (unfold rg; omega) | omega | refine And.intro ?_ ?_)
                  · apply zs_49_42 <;> intros
                    case h3 =>
                      refine c50 hT hR (x := 1007) (m := 4) (by omega) (fun hw => ?_) (fun hn5 => ?_)
                      · apply zs_49_51 <;> intros
                        case h2 => exact hY (Or.inr (Or.inr (Or.inr (Or.inr (Or.inr (Or.inl hw))))))
                        all_goals first | omega | (repeat' first | exact hrg _ | assumption | (unfold rg; omega) | omega | refine And.intro ?_ ?_)
                      · apply zs_49_51 <;> intros
                        case h3 =>
                          refine c50 hT hR (x := 1008) (m := 4) (by omega) (fun hw => ?_) (fun hn6 => ?_)
                          · apply zs_49_60 <;> intros
                            case h2 => exact hY (Or.inr (Or.inr (Or.inr (Or.inr (Or.inr (Or.inr (Or.inl hw)))))))
                            all_goals first | omega | (repeat' first | exact hrg _ | assumption | (unfold rg; omega) | omega | refine And.intro ?_ ?_)
                          · apply zs_49_60 <;> intros
                            case h3 =>
                              refine c50 hT hR (x := 1010) (m := 4) (by omega) (fun hw => ?_) (fun hn7 => ?_)
                              · apply zs_49_69 <;> intros
                                case h2 => exact hY (Or.inr (Or.inr (Or.inr (Or.inr (Or.inr (Or.inr (Or.inr (Or.inl hw))))))))
                                all_goals first | omega | (repeat' first | exact hrg _ | assumption | (unfold rg; omega) | omega | refine And.intro ?_ ?_)
                              · apply zs_49_69 <;> intros
                                case h3 =>
                                  refine c50 hT hR (x := 1011) (m := 4) (by omega) (fun hw => ?_) (fun hn8 => ?_)
                                  · apply zs_49_78 <;> intros
                                    case h3 => exact hY (Or.inr (Or.inr (Or.inr (Or.inr (Or.inr (Or.inr (Or.inr (Or.inr hw))))))))
                                    all_goals first | omega | (repeat' first | exact hrg _ | assumption | (unfold rg; omega) | omega | refine And.intro ?_ ?_)
                                  · apply zs_49_78 <;> intros
                                    case h2 =>
                                      refine hN (fun h => ?_)
                                      rcases h with h | h | h | h | h | h | h | h | h
                                      · exact hn0 h
                                      · exact hn1 h
                                      · exact hn2 h
                                      · exact hn3 h
                                      · exact hn4 h
                                      · exact hn5 h
                                      · exact hn6 h
                                      · exact hn7 h
                                      · exact hn8 h
                                    all_goals first | omega | (repeat' first | exact hrg _ | assumption | (unfold rg; omega) | omega | refine And.intro ?_ ?_)
                                all_goals first | omega | (repeat' first | exact hrg _ | assumption | (unfold rg; omega) | omega | refine And.intro ?_ ?_)
                            all_goals first | omega | (repeat' first | exact hrg _ | assumption | (unfold rg; omega) | omega | refine And.intro ?_ ?_)
                        all_goals first | omega | (repeat' first | exact hrg _ | assumption | (unfold rg; omega) | omega | refine And.intro ?_ ?_)
                    all_goals first | omega | (repeat' first | exact hrg _ | assumption | (unfold rg; omega) | omega | refine And.intro ?_ ?_)
                all_goals first | omega | (repeat' first | exact hrg _ | assumption | (unfold rg; omega) | omega | refine And.intro ?_ ?_)
            all_goals first | omega | (repeat' first | exact hrg _ | assumption | (unfold rg; omega) | omega | refine And.intro ?_ ?_)
        all_goals first | omega | (repeat' first | exact hrg _ | assumption | (unfold rg; omega) | omega | refine And.intro ?_ ?_)
    all_goals first | omega | (repeat' first | exact hrg _ | assumption | (unfold rg; omega) | omega | refine And.intro ?_ ?_)
/-- how many names there are, and that they are names -/
def NU (B : Int → Int) (n : Int) (N : Int → Int × Int) (a p b : Int) (G : zG) : Prop := G 2 4 = a ∧ 5 ≤ a ∧ G a 3 = p ∧ G a 4 = b ∧ (0 ≤ p ∧ p ≤ 8) ∧ (0 ≤ b ∧ b ≤ 10) ∧ CN G N ∧ (∀ i, 0 ≤ i → i < p → NMs B n (N i)) ∧ (∀ i, 0 ≤ i → i < b → NMs B n (N (8 + i)))
set_option maxHeartbeats 4000000 in
theorem c45 (hT : TP B n) (hC : CT B n G c) {a p b : Int} (hU : NU B n N a p b G) (hY : (fnd B c N 0 p ≠ -1 ∨ fnd B c N 8 b ≠ -1) → Q (some (zi 1)) G) (hN : ¬ (fnd B c N 0 p ≠ -1 ∨ fnd B c N 8 b ≠ -1) → Q (some (zi 0)) G) : zW (d + 4) 45 [zr 2 0 2] G Q := by
  obtain ⟨u1, u2, u3, u4, u5, u6, u7, u8, u9⟩ := hU
  have e3 : G (G 2 4) 3 = p := by rw [u1]; exact u3
  have e4 : G (G 2 4) 4 = b := by rw [u1]; exact u4
  have f1 := fnd_rg (B := B) (c := c) (N := N) (base := 0) u5.1
  have f2 := fnd_rg (B := B) (c := c) (N := N) (base := 8) u6.1
  refine zm_45 ?_
  apply zs_45_0 <;> intros
  case h2 =>
    rw [e3]
    refine c47 hT hC u7 (by omega) ⟨by omega, by omega⟩ (by omega) (fun i i0 i1 => by rw [Int.zero_add]; exact u8 i i0 i1) ?_
    apply zs_45_12 <;> intros
    case h2 => exact hY (Or.inl (by assumption))
    case h4 =>
      rw [e4]
      refine c47 hT hC u7 (by omega) u6 (by omega) u9 ?_
      apply zs_45_29 <;> intros
      case h2 => exact hN (by omega)
      case h3 => exact hY (Or.inr (by assumption))
      all_goals first | omega | (repeat' first | exact hrg _ | assumption | (unfold rg; omega) | omega | refine And.intro ?_ ?_)
    all_goals first | omega | (repeat' first | exact hrg _ | assumption | (unfold rg; omega) | omega | refine And.intro ?_ ?_)
  all_goals first | omega | (repeat' first | exact hrg _ | assumption | (unfold rg; omega) | omega | refine And.intro ?_ ?_)
set_option maxHeartbeats 4000000 in
theorem c44 (hT : TP B n) (hC : CT B n G c) {a p b slot : Int} (hs : 0 ≤ slot ∧ slot < 18) (hU : NU B n N a p b G)
    (hY : c.1 = 1 → ¬ (6 < c.2.2.1 - c.2.1 ∨ own B c ∨ fnd B c N 0 p ≠ -1 ∨ fnd B c N 8 b ≠ -1) → ∀ G1, fr G G1 (fun k j => S52 k j ∨ ((k = 3 ∨ k = 4) ∧ j = slot)) → CT B n G1 (nx B n c.2.2.1) → G1 3 slot = c.2.1 → G1 4 slot = c.2.2.1 - c.2.1 → Q (some (zi 1)) G1)
    (h1 : c.1 ≠ 1 → ∀ G1, fr G G1 SKR → RF G1 1 c.2.1 → Q (some (zi 0)) G1)
    (h2 : c.1 = 1 → (6 < c.2.2.1 - c.2.1 ∨ own B c ∨ fnd B c N 0 p ≠ -1 ∨ fnd B c N 8 b ≠ -1) → ∀ G1, fr G G1 SKR → RF G1 2 c.2.1 → Q (some (zi 0)) G1) : zW (d + 6) 44 [zr 2 0 2, zi slot] G Q := by
  obtain ⟨e2, e5, e7, e6, eB, a0, a5⟩ := CT_n hC
  have hn := hT.1
  refine zm_44 ?_
  apply zs_44_0 <;> intros
  case h5 => rw [e7]; exact h1 (by omega) _ (sk_u _ _ _) (RF_u _)
  case h3 => rw [e7]; exact h2 (by omega) (Or.inl (by omega)) _ (sk_u _ _ _) (RF_u _)
  case h4 =>
    refine c49 hT hC (fun ho => ?_) (fun ho => ?_)
    · apply zs_44_32 <;> intros
      case h2 => rw [e7]; exact h2 (by omega) (Or.inr (Or.inl ho)) _ (sk_u _ _ _) (RF_u _)
      all_goals first | omega | (repeat' first | exact hrg _ | assumption | (unfold rg; omega) | omega | refine And.intro ?_ ?_)
    · apply zs_44_32 <;> intros
      case h3 =>
        refine c45 hT hC hU (fun hf => ?_) (fun hf => ?_)
        · apply zs_44_39 <;> intros
          case h4 => rw [e7]; exact h2 (by omega) (Or.inr (Or.inr hf)) _ (sk_u _ _ _) (RF_u _)
          all_goals first | omega | (repeat' first | exact hrg _ | assumption | (unfold rg; omega) | omega | refine And.intro ?_ ?_)
        · apply zs_44_39 <;> intros
          case h3 =>
            have hC1 : CT B n (zu (zu G 3 slot (G 2 7)) 4 slot (G 2 5 - G 2 7)) c := CT_fr hC (fun k j h => by rw [zu_kj (by omega), zu_kj (by omega)])
            refine c52s hT hC1 (fun G1 f1 hC2 => zs_44_77 (hY (by omega) (fun h => ?_) G1 ?_ hC2 ?_ ?_))
            · rcases h with h | h | h
              · omega
              · exact ho h
              · exact hf h
            · refine fr_trans (fr_u (fr_u (fr_refl _ _) (Or.inr ⟨Or.inl rfl, rfl⟩)) (Or.inr ⟨Or.inr rfl, rfl⟩)) f1 (fun k j t => Or.inl t)
            · rw [f1 _ _ (fun e => by unfold S52 at e; omega), zu_kj (by omega), zu_s]; exact e7
            · rw [f1 _ _ (fun e => by unfold S52 at e; omega), zu_s, e5, e7]
          all_goals first | omega | (repeat' first | exact hrg _ | assumption | (unfold rg; omega) | omega | refine And.intro ?_ ?_)
      all_goals first | omega | (repeat' first | exact hrg _ | assumption | (unfold rg; omega) | omega | refine And.intro ?_ ?_)
  all_goals first | omega | (repeat' first | exact hrg _ | assumption | (unfold rg; omega) | omega | refine And.intro ?_ ?_)
set_option maxHeartbeats 4000000 in
theorem c46 (hT : TP B n) (hC : CT B n G c) {base m : Int} (hN : CN G N) (hb : 0 ≤ base) (hm : 0 ≤ m ∧ m ≤ 10) (hbm : base + m ≤ 18) (hp : ∀ i, 0 ≤ i → i < m → NMs B n (N (base + i)))
    (hY : c.1 = 1 → fnd B c N base m ≠ -1 → ∀ G1, fr G G1 S52 → CT B n G1 (nx B n c.2.2.1) → Q (some (zi (fnd B c N base m))) G1)
    (h1 : c.1 ≠ 1 → ∀ G1, fr G G1 SKR → RF G1 1 c.2.1 → Q (some (zi (-1))) G1)
    (h2 : c.1 = 1 → fnd B c N base m = -1 → ∀ G1, fr G G1 SKR → RF G1 2 c.2.1 → Q (some (zi (-1))) G1) : zW (d + 5) 46 [zr 2 0 2, zi base, zi m] G Q := by
  obtain ⟨e2, e5, e7, e6, eB, a0, a5⟩ := CT_n hC
  have f1 := fnd_rg (B := B) (c := c) (N := N) (base := base) hm.1
  refine zm_46 ?_
  apply zs_46_0 <;> intros
  case h3 => rw [e7]; exact h1 (by omega) _ (sk_u _ _ _) (RF_u _)
  case h2 =>
    refine c47 hT hC hN hb hm hbm hp ?_
    apply zs_46_22 <;> intros
    case h2 => exact c52s hT hC (fun G1 f1 hC1 => zs_46_40 (hY (by omega) (by assumption) G1 f1 hC1))
    case h3 => rw [e7]; exact h2 (by omega) (by assumption) _ (sk_u _ _ _) (RF_u _)
    all_goals first | omega | (repeat' first | exact hrg _ | assumption | (unfold rg; omega) | omega | refine And.intro ?_ ?_)
  all_goals first | omega | (repeat' first | exact hrg _ | assumption | (unfold rg; omega) | omega | refine And.intro ?_ ?_)
end CL
