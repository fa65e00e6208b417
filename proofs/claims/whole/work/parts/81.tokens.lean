/-! THE READER: tokens -/
abbrev TK : Type := Int × Int × Int × Int
abbrev isL (b : Int) : Prop := 97 ≤ b ∧ b ≤ 122
abbrev isD (b : Int) : Prop := 48 ≤ b ∧ b ≤ 57
def skp (B : Int → Int) (n : Int) : Nat → Int → Int
  | 0, i => i
  | k + 1, i => if i < n ∧ (B i = 32 ∨ B i = 10) then skp B n k (i + 1) else i
def eow (B : Int → Int) (n : Int) : Nat → Int → Int
  | 0, i => i
  | k + 1, i => if i < n ∧ isL (B i) then eow B n k (i + 1) else i
def nmb (B : Int → Int) (n : Int) : Nat → Int → Int → Int × Int
  | 0, i, v => (i, v)
  | k + 1, i, v => if i < n ∧ isD (B i) then nmb B n k (i + 1) (10 * v + B i - 48) else (i, v)
/-- the token that begins at f: sort, place, end, value -/
def nxf (B : Int → Int) (n f : Int) : TK := if n ≤ f then (0, f, f, 0) else if isL (B f) then (1, f, eow B n (n - f).toNat f, 0) else if isD (B f) then (2, f, (nmb B n (n - f).toNat f 0).1, (nmb B n (n - f).toNat f 0).2) else if B f = 59 then (3, f, f + 1, 0) else (4, f, f + 1, 0)
def nx (B : Int → Int) (n i : Int) : TK := nxf B n (skp B n (n - i).toNat i)
def BY (B : Int → Int) (n : Int) : Prop := ∀ j, 0 ≤ j → j < n → -128 ≤ B j ∧ B j ≤ 127
def TR (G : zG) (c : TK) : Prop := G 297 33 = c.2.2.1 ∧ G 297 34 = c.2.1 ∧ G 297 35 = c.1 ∧ (c.1 = 2 → G 297 36 = min 99999 c.2.2.2)
def TC (G : zG) (c : TK) : Prop := G 2 5 = c.2.2.1 ∧ G 2 7 = c.2.1 ∧ G 2 6 = c.1 ∧ (c.1 = 2 → G 2 8 = min c.2.2.2 100000)
theorem z255n : ∀ n : Nat, n < 256 → zand ((n : Int) - 128) 255 = ((n : Int) - 128) % 256 := by decide +kernel
theorem z255 {x : Int} (h : -128 ≤ x ∧ x ≤ 127) : zand x 255 = x % 256 := by
  have := z255n (x + 128).toNat (by omega)
  rw [show (((x + 128).toNat : Nat) : Int) - 128 = x by omega] at this
  exact this
section TKS
variable {B : Int → Int} {n : Int}
theorem skp_rg : ∀ (k : Nat) (i : Int), (n - i).toNat = k → i ≤ n → i ≤ skp B n k i ∧ skp B n k i ≤ n := by
  intro k
  induction k with
  | zero => intro i _ h; exact ⟨Int.le_refl _, h⟩
  | succ k ih =>
    intro i hk h
    unfold skp
    split
    · have := ih (i + 1) (by omega) (by omega); omega
    · omega
theorem eow_rg : ∀ (k : Nat) (i : Int), (n - i).toNat = k → i ≤ n → (i ≤ eow B n k i ∧ eow B n k i ≤ n) ∧ ∀ j, i ≤ j → j < eow B n k i → isL (B j) := by
  intro k
  induction k with
  | zero => intro i _ h; exact ⟨⟨Int.le_refl _, h⟩, fun j h1 h2 => by unfold eow at h2; omega⟩
  | succ k ih =>
    intro i hk h
    unfold eow
    split
    · rename_i hc
      have h1 := ih (i + 1) (by omega) (by omega)
      refine ⟨by omega, fun j j0 j1 => ?_⟩
      by_cases e : j = i
      · rw [e]; exact hc.2
      · exact h1.2 j (by omega) j1
    · exact ⟨by omega, fun j h1 h2 => by omega⟩
theorem nmb_rg : ∀ (k : Nat) (i v : Int), (n - i).toNat = k → i ≤ n → 0 ≤ v → (i ≤ (nmb B n k i v).1 ∧ (nmb B n k i v).1 ≤ n) ∧ 0 ≤ (nmb B n k i v).2 := by
  intro k
  induction k with
  | zero => intro i v _ h h0; exact ⟨⟨Int.le_refl _, h⟩, h0⟩
  | succ k ih =>
    intro i v hk h h0
    unfold nmb
    split
    · rename_i hc
      have := ih (i + 1) (10 * v + B i - 48) (by omega) (by omega) (by have := hc.2; omega)
      omega
    · exact ⟨⟨Int.le_refl _, h⟩, h0⟩
/-- what holds of every token -/
def TKok (B : Int → Int) (n : Int) (c : TK) : Prop := (0 ≤ c.2.1 ∧ c.2.1 ≤ c.2.2.1 ∧ c.2.2.1 ≤ n) ∧ (0 ≤ c.1 ∧ c.1 ≤ 4) ∧ (c.1 = 0 → c.2.1 = n) ∧ (c.1 ≠ 0 → c.2.1 < c.2.2.1) ∧ 0 ≤ c.2.2.2 ∧ (c.1 = 1 → ∀ j, c.2.1 ≤ j → j < c.2.2.1 → isL (B j))
theorem TK_mk {k f a v : Int} (h1 : 0 ≤ f ∧ f ≤ a ∧ a ≤ n) (h2 : 0 ≤ k ∧ k ≤ 4) (h3 : k = 0 → f = n) (h4 : k ≠ 0 → f < a) (h5 : 0 ≤ v) (h6 : k = 1 → ∀ j, f ≤ j → j < a → isL (B j)) : TKok B n (k, f, a, v) := ⟨h1, h2, h3, h4, h5, h6⟩
theorem nxf_ok {f : Int} (f0 : 0 ≤ f) (f1 : f ≤ n) : TKok B n (nxf B n f) ∧ (nxf B n f).2.1 = f := by
  unfold nxf
  by_cases c0 : n ≤ f
  · rw [if_pos c0]; exact ⟨TK_mk ⟨f0, Int.le_refl _, f1⟩ (by omega) (by omega) (by omega) (by omega) (fun h => by omega), rfl⟩
  · rw [if_neg c0]
    by_cases c1 : isL (B f)
    · rw [if_pos c1]
      have h1 := eow_rg (B := B) (n := n) (n - f).toNat f rfl f1
      have h2 : f < eow B n (n - f).toNat f := by
        have e : (n - f).toNat = (n - (f + 1)).toNat + 1 := by omega
        rw [e]
        show f < (if f < n ∧ isL (B f) then eow B n (n - (f + 1)).toNat (f + 1) else f)
        rw [if_pos ⟨by omega, c1⟩]
        have := (eow_rg (B := B) (n := n) (n - (f + 1)).toNat (f + 1) rfl (by omega)).1
        omega
      exact ⟨TK_mk ⟨f0, h1.1.1, h1.1.2⟩ (by omega) (by omega) (fun _ => h2) (by omega) (fun _ j j0 j1 => h1.2 j j0 j1), rfl⟩
    · rw [if_neg c1]
      by_cases c2 : isD (B f)
      · rw [if_pos c2]
        have h1 := nmb_rg (B := B) (n := n) (n - f).toNat f 0 rfl f1 (Int.le_refl _)
        have h2 : f < (nmb B n (n - f).toNat f 0).1 := by
          have e : (n - f).toNat = (n - (f + 1)).toNat + 1 := by omega
          rw [e]
          show f < (if f < n ∧ isD (B f) then nmb B n (n - (f + 1)).toNat (f + 1) (10 * 0 + B f - 48) else (f, 0)).1
          rw [if_pos ⟨by omega, c2⟩]
          have := (nmb_rg (B := B) (n := n) (n - (f + 1)).toNat (f + 1) (10 * 0 + B f - 48) rfl (by omega) (by have := c2.1; omega)).1
          omega
        exact ⟨TK_mk ⟨f0, h1.1.1, h1.1.2⟩ (by omega) (by omega) (fun _ => h2) h1.2 (fun h => by omega), rfl⟩
      · rw [if_neg c2]
        by_cases c3 : B f = 59
        · rw [if_pos c3]; exact ⟨TK_mk ⟨f0, by omega, by omega⟩ (by omega) (by omega) (by omega) (by omega) (fun h => by omega), rfl⟩
        · rw [if_neg c3]; exact ⟨TK_mk ⟨f0, by omega, by omega⟩ (by omega) (by omega) (by omega) (by omega) (fun h => by omega), rfl⟩
theorem nx_ok {i : Int} (i0 : 0 ≤ i) (i1 : i ≤ n) : TKok B n (nx B n i) ∧ i ≤ (nx B n i).2.1 := by
  have h1 := skp_rg (B := B) (n := n) (n - i).toNat i rfl i1
  have h2 := nxf_ok (B := B) (n := n) (f := skp B n (n - i).toNat i) (by omega) h1.2
  refine ⟨h2.1, ?_⟩
  show i ≤ (nxf B n (skp B n (n - i).toNat i)).2.1
  rw [h2.2]; exact h1.1
end TKS
section RE
variable {d : Nat} {G : zG} {Q : zQ} {B : Int → Int} {n : Int}
def S195 (k j : Int) : Prop := k = 297 ∧ 33 ≤ j ∧ j ≤ 36
set_option maxHeartbeats 8000000 in
theorem c195 (hn : 0 ≤ n ∧ n ≤ 1200) (hb : BY B n) (hB : ∀ j, 0 ≤ j → j < n → G 312 j = B j) (h32 : G 297 32 = n) {i : Int} (i0 : 0 ≤ i) (i1 : i ≤ n) (h33 : G 297 33 = i) (hQ : ∀ G1, fr G G1 S195 → TR G1 (nx B n i) → Q none G1) : zW (d + 2) 195 [zr 9 0 297] G Q := by
  have g12 : ∀ G1, fr G G1 S195 → G1 297 32 = n ∧ ∀ j, 0 ≤ j → j < n → G1 312 j = B j := fun G1 f => ⟨(f _ _ (fun e => by unfold S195 at e; omega)).trans h32, fun j j0 j1 => (f _ _ (fun e => by unfold S195 at e; omega)).trans (hB j j0 j1)⟩
  refine zm_195 ?_
  have wrd : ∀ (k : Nat) (p f : Int) (G1 : zG), (n - p).toNat = k → 0 ≤ p → p ≤ n → fr G G1 S195 → G1 297 33 = p → G1 297 34 = f → nx B n i = (1, f, eow B n k p, 0) → ∀ l1, zAt xT_195 (zW (d + 1)) Q 83 [zr 9 0 297, l1] [] G1 := by
    intro k
    induction k with
    | zero =>
      intro p f G1 hk p0 p1 f1 e33 e34 he l1
      obtain ⟨e32, eB⟩ := g12 G1 f1
      apply zs_195_83 <;> intros
      case h2 => exact hQ _ (fr_u f1 ⟨rfl, by omega, by omega⟩) (by rw [he]; exact ⟨by rw [zu_j (by omega)]; exact e33, by rw [zu_j (by omega)]; exact e34, zu_s, fun h => absurd h (by simp)⟩)
      all_goals first | omega | (repeat' first | exact hrg _ | assumption | (unfold rg; omega) | omega | refine And.intro ?_ ?_)
    | succ k ih =>
      intro p f G1 hk p0 p1 f1 e33 e34 he l1
      obtain ⟨e32, eB⟩ := g12 G1 f1
      have hz : zand (G1 312 (G1 297 33)) 255 = B p % 256 := by rw [e33, eB p p0 (by omega), z255 (hb p p0 (by omega))]
      have hbp := hb p p0 (by omega)
      have hfin : ¬ isL (B p) → Q none (zu G1 297 35 1) := fun hc => by
        have e : eow B n (k + 1) p = p := by unfold eow; rw [if_neg (fun h => hc h.2)]
        rw [e] at he
        exact hQ _ (fr_u f1 ⟨rfl, by omega, by omega⟩) (by rw [he]; exact ⟨by rw [zu_j (by omega)]; exact e33, by rw [zu_j (by omega)]; exact e34, zu_s, fun h => absurd h (by simp)⟩)
      apply zs_195_83 <;> intros
      case h5 =>
        have hc : isL (B p) := by rw [hz] at *; exact ⟨by omega, by omega⟩
        have e : eow B n (k + 1) p = eow B n k (p + 1) := by
          show (if p < n ∧ isL (B p) then eow B n k (p + 1) else p) = _
          rw [if_pos ⟨by omega, hc⟩]
        rw [e] at he
        exact ih (p + 1) f _ (by omega) (by omega) (by omega) (fr_u f1 ⟨rfl, by omega, by omega⟩) (by rw [zu_s]; omega) (by rw [zu_j (by omega)]; exact e34) he _
      case h6 => exact hfin (fun hc => by rw [hz] at *; have := hc.1; omega)
      case h7 => exact hfin (fun hc => by rw [hz] at *; have := hc.2; omega)
      all_goals (rw [hz] at *; first | omega | (repeat' first | exact hrg _ | assumption | (unfold rg; omega) | omega | refine And.intro ?_ ?_))
  have num : ∀ (k : Nat) (p f v : Int) (G1 : zG), (n - p).toNat = k → 0 ≤ p → p ≤ n → 0 ≤ v → fr G G1 S195 → G1 297 33 = p → G1 297 34 = f → G1 297 36 = min 99999 v → nx B n i = (2, f, (nmb B n k p v).1, (nmb B n k p v).2) → ∀ l1, zAt xT_195 (zW (d + 1)) Q 144 [zr 9 0 297, l1] [] G1 := by
    intro k
    induction k with
    | zero =>
      intro p f v G1 hk p0 p1 v0 f1 e33 e34 e36 he l1
      obtain ⟨e32, eB⟩ := g12 G1 f1
      apply zs_195_144 <;> intros
      case h2 => exact hQ _ (fr_u f1 ⟨rfl, by omega, by omega⟩) (by rw [he]; exact ⟨by rw [zu_j (by omega)]; exact e33, by rw [zu_j (by omega)]; exact e34, zu_s, fun _ => by rw [zu_j (by omega)]; exact e36⟩)
      all_goals first | omega | (repeat' first | exact hrg _ | assumption | (unfold rg; omega) | omega | refine And.intro ?_ ?_)
    | succ k ih =>
      intro p f v G1 hk p0 p1 v0 f1 e33 e34 e36 he l1
      obtain ⟨e32, eB⟩ := g12 G1 f1
      have hz : zand (G1 312 (G1 297 33)) 255 = B p % 256 := by rw [e33, eB p p0 (by omega), z255 (hb p p0 (by omega))]
      have hbp := hb p p0 (by omega)
      have hfin : ¬ isD (B p) → Q none (zu G1 297 35 2) := fun hc => by
        have e : nmb B n (k + 1) p v = (p, v) := by unfold nmb; rw [if_neg (fun h => hc h.2)]
        rw [e] at he
        exact hQ _ (fr_u f1 ⟨rfl, by omega, by omega⟩) (by rw [he]; exact ⟨by rw [zu_j (by omega)]; exact e33, by rw [zu_j (by omega)]; exact e34, zu_s, fun _ => by rw [zu_j (by omega)]; exact e36⟩)
      apply zs_195_144 <;> intros
      case h7 =>
        have hc : isD (B p) := by rw [hz] at *; exact ⟨by omega, by omega⟩
        have e : nmb B n (k + 1) p v = nmb B n k (p + 1) (10 * v + B p - 48) := by
          show (if p < n ∧ isD (B p) then nmb B n k (p + 1) (10 * v + B p - 48) else (p, v)) = _
          rw [if_pos ⟨by omega, hc⟩]
        rw [e] at he
        refine ih (p + 1) f _ _ (by omega) (by omega) (by omega) (by have := hc.1; omega) (fr_u (fr_u f1 ⟨rfl, by omega, by omega⟩) ⟨rfl, by omega, by omega⟩) (by rw [zu_s]; omega) (by rw [zu_j (by omega), zu_j (by omega)]; exact e34) ?_ he _
        rw [zu_j (by omega), zu_s, e36, hz]
        have := hc.1
        omega
      case h8 => exact hfin (fun hc => by rw [hz] at *; have := hc.1; omega)
      case h9 => exact hfin (fun hc => by rw [hz] at *; have := hc.2; omega)
      all_goals (rw [hz] at *; first | omega | (repeat' first | exact hrg _ | assumption | (unfold rg; omega) | omega | refine And.intro ?_ ?_))
  have key : ∀ (k : Nat) (p : Int) (G1 : zG), (n - p).toNat = k → 0 ≤ p → p ≤ n → fr G G1 S195 → G1 297 33 = p → nx B n i = nxf B n (skp B n k p) → ∀ l1, zAt xT_195 (zW (d + 1)) Q 0 [zr 9 0 297, l1] [] G1 := by
    intro k
    induction k with
    | zero =>
      intro p G1 hk p0 p1 f1 e33 he l1
      obtain ⟨e32, eB⟩ := g12 G1 f1
      have he : nx B n i = (0, p, p, 0) := by rw [he]; show nxf B n p = _; unfold nxf; rw [if_pos (by omega)]
      apply zs_195_0 <;> intros
      case h2 => exact hQ _ (fr_u (fr_u f1 ⟨rfl, by omega, by omega⟩) ⟨rfl, by omega, by omega⟩) (by rw [he]; exact ⟨by rw [zu_j (by omega), zu_j (by omega)]; exact e33, by rw [zu_j (by omega), zu_s]; exact e33, zu_s, fun h => absurd h (by simp)⟩)
      all_goals first | omega | (repeat' first | exact hrg _ | assumption | (unfold rg; omega) | omega | refine And.intro ?_ ?_)
    | succ k ih =>
      intro p G1 hk p0 p1 f1 e33 he l1
      obtain ⟨e32, eB⟩ := g12 G1 f1
      have hz : zand (G1 312 (G1 297 33)) 255 = B p % 256 := by rw [e33, eB p p0 (by omega), z255 (hb p p0 (by omega))]
      have hbp := hb p p0 (by omega)
      have hsk : ¬ (B p = 32 ∨ B p = 10) → nx B n i = nxf B n p := fun hc => by
        rw [he]; unfold skp; rw [if_neg (fun h => hc h.2)]
      have hsp : (B p = 32 ∨ B p = 10) → ∀ l1, zAt xT_195 (zW (d + 1)) Q 0 [zr 9 0 297, l1] [] (zu G1 297 33 (G1 297 33 + 1)) := fun hc => by
        refine ih (p + 1) _ (by omega) (by omega) (by omega) (fr_u f1 ⟨rfl, by omega, by omega⟩) (by rw [zu_s]; omega) ?_
        rw [he]; show nxf B n (if p < n ∧ (B p = 32 ∨ B p = 10) then skp B n k (p + 1) else p) = _
        rw [if_pos ⟨by omega, hc⟩]
      have hone : ∀ t, ¬ (B p = 32 ∨ B p = 10) → nxf B n p = (t, p, p + 1, 0) → t ≠ 2 → Q none (zu (zu (zu G1 297 34 (G1 297 33)) 297 35 t) 297 33 (G1 297 33 + 1)) := fun t hc ht t2 => by
        refine hQ _ (fr_u (fr_u (fr_u f1 ⟨rfl, by omega, by omega⟩) ⟨rfl, by omega, by omega⟩) ⟨rfl, by omega, by omega⟩) ?_
        rw [hsk hc, ht]
        exact ⟨by rw [zu_s]; show _ = p + 1; omega, by rw [zu_j (by omega), zu_j (by omega), zu_s]; exact e33, by rw [zu_j (by omega), zu_s], fun h => absurd h t2⟩
      have hbad : ¬ (B p = 32 ∨ B p = 10) → ¬ isL (B p) → ¬ isD (B p) → B p ≠ 59 → Q none (zu (zu (zu G1 297 34 (G1 297 33)) 297 35 4) 297 33 (G1 297 33 + 1)) := fun c1 c2 c3 c4 => hone 4 c1 (by unfold nxf; rw [if_neg (by omega), if_neg c2, if_neg c3, if_neg c4]) (by decide)
      have hsem : B p = 59 → Q none (zu (zu (zu G1 297 34 (G1 297 33)) 297 35 3) 297 33 (G1 297 33 + 1)) := fun c4 => hone 3 (by omega) (by unfold nxf; rw [if_neg (by omega), if_neg (fun h => by have := h.1; omega), if_neg (fun h => by have := h.2; omega), if_pos c4]) (by decide)
      have hwd : isL (B p) → ∀ l1, zAt xT_195 (zW (d + 1)) Q 83 [zr 9 0 297, l1] [] (zu G1 297 34 (G1 297 33)) := fun hc => by
        refine wrd (k + 1) p p _ hk p0 p1 (fr_u f1 ⟨rfl, by omega, by omega⟩) (by rw [zu_j (by omega)]; exact e33) (by rw [zu_s]; exact e33) ?_
        rw [hsk (by have := hc.1; omega)]
        unfold nxf; rw [if_neg (by omega), if_pos hc, hk]
      have hnm : isD (B p) → ∀ l1, zAt xT_195 (zW (d + 1)) Q 144 [zr 9 0 297, l1] [] (zu (zu G1 297 34 (G1 297 33)) 297 36 0) := fun hc => by
        refine num (k + 1) p p 0 _ hk p0 p1 (by omega) (fr_u (fr_u f1 ⟨rfl, by omega, by omega⟩) ⟨rfl, by omega, by omega⟩) (by rw [zu_j (by omega), zu_j (by omega)]; exact e33) (by rw [zu_j (by omega), zu_s]; exact e33) (by rw [zu_s]; decide) ?_
        rw [hsk (by have := hc.1; omega)]
        unfold nxf; rw [if_neg (by omega), if_neg (fun h => by have := h.1; have := hc.2; omega), if_pos hc, hk]
      apply zs_195_0 <;> intros <;> (try rw [hz] at *)
      case h7 => exact hsp (by omega) _
      case h22 => exact hsp (by omega) _
      case h10 => exact hwd ⟨by omega, by omega⟩ _
      case h11 => exact hnm ⟨by omega, by omega⟩ _
      case h12 => exact hbad (by omega) (fun h => by have := h.1; omega) (fun h => by have := h.1; omega) (by omega)
      case h13 => exact hsem (by omega)
      case h14 => exact hbad (by omega) (fun h => by have := h.1; omega) (fun h => by have := h.2; omega) (by omega)
      case h15 => exact hsem (by omega)
      case h16 => omega
      case h17 => omega
      case h18 => omega
      case h19 => exact hbad (by omega) (fun h => by have := h.2; omega) (fun h => by have := h.2; omega) (by omega)
      case h20 => omega
      case h21 => omega
      all_goals first | omega | (repeat' first | exact hrg _ | assumption | (unfold rg; omega) | omega | refine And.intro ?_ ?_)
  exact key (n - i).toNat i G rfl i0 i1 (fr_refl _ _) h33 rfl _
end RE
