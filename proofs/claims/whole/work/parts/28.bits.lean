/-! BITS (begun with rows of kit/laws/BITS.to-paste), FRAMES, COUNTS -/
def bt (x : Int32) (i : Nat) : Bool := x.toBitVec.getLsbD i
theorem b_ext {x y : Int32} (h : ∀ i, i < 32 → bt x i = bt y i) : x = y := Int32.toBitVec_inj.mp (BitVec.eq_of_getLsbD_eq (fun i hi => h i hi))
theorem b_or (x y : Int32) (i : Nat) : bt (x ||| y) i = (bt x i || bt y i) := by unfold bt; rw [Int32.toBitVec_or, BitVec.getLsbD_or]
theorem b_and (x y : Int32) (i : Nat) : bt (x &&& y) i = (bt x i && bt y i) := by unfold bt; rw [Int32.toBitVec_and, BitVec.getLsbD_and]
theorem b_xor (x y : Int32) (i : Nat) : bt (x ^^^ y) i = (bt x i ^^ bt y i) := by unfold bt; rw [Int32.toBitVec_xor, BitVec.getLsbD_xor]
theorem b_big {x : Int32} {i : Nat} (h : 32 ≤ i) : bt x i = false := BitVec.getLsbD_of_ge _ _ h
theorem b_m1 : ∀ i, i < 32 → bt (-1) i = true := by decide +kernel
theorem b_0 (i : Nat) : bt 0 i = false := BitVec.getLsbD_zero
theorem s_l : ∀ n, n < 32 → ((nI n &&& 31).toBitVec.smod 32).toNat = n := by decide +kernel
theorem b_shl (n : Nat) (hn : n < 32) (x : Int32) {i : Nat} (hi : i < 32) : bt (x <<< (nI n &&& 31)) i = (decide (n ≤ i) && bt x (i - n)) := by
  unfold bt
  rw [Int32.toBitVec_shiftLeft]
  show (x.toBitVec <<< ((nI n &&& 31).toBitVec.smod 32).toNat).getLsbD i = _
  rw [s_l n hn, BitVec.getLsbD_shiftLeft]
  rcases Nat.lt_or_ge i n with h | h
  · simp [h, Nat.not_le.mpr h]
  · simp [hi, h, Nat.not_lt.mpr h]
theorem b_sshr (n : Nat) (hn : n < 32) (x : Int32) {i : Nat} (hi : i < 32) : bt (x >>> (nI n &&& 31)) i = if n + i < 32 then bt x (n + i) else bt x 31 := by
  unfold bt
  rw [Int32.toBitVec_shiftRight]
  show (x.toBitVec.sshiftRight ((nI n &&& 31).toBitVec.smod 32).toNat).getLsbD i = _
  rw [s_l n hn, BitVec.getLsbD_sshiftRight, BitVec.msb_eq_getLsbD_last]
  simp [hi]
theorem b_1 : ∀ i, i < 32 → bt 1 i = decide (i = 0) := by decide +kernel
/-- the bit p of v -/
def zt (v p : Int) : Prop := bt (iI v) p.toNat = true
theorem iI_nI {p : Int} (h : 0 ≤ p) : iI p = nI p.toNat := by
  have : p = (p.toNat : Int) := (Int.toNat_of_nonneg h).symm
  rw [this, ← iI_len]
  rfl
theorem zt_0 (q : Int) : ¬ zt 0 q := by
  unfold zt
  rw [← iI_0, b_0]
  decide
theorem bt_shl1 {p q : Int} (p0 : 0 ≤ p) (p1 : p < 32) (q0 : 0 ≤ q) (q1 : q < 32) : bt (iI (zshl 1 p)) q.toNat = decide (p = q) := by
  unfold zshl
  rw [iI_of, iI_nI p0, ← iI_1, b_shl p.toNat (by omega) 1 (by omega)]
  by_cases c : p = q
  · rw [c, b_1 _ (by omega)]; simp
  · rw [decide_eq_false c]
    by_cases c2 : p.toNat ≤ q.toNat
    · rw [b_1 _ (by omega), decide_eq_false (show ¬ (q.toNat - p.toNat = 0) by omega)]; simp
    · rw [decide_eq_false c2]; rfl
theorem zt_or {v u q : Int} : zt (zor v u) q ↔ zt v q ∨ zt u q := by
  unfold zt zor
  rw [iI_of, b_or, Bool.or_eq_true]
theorem zt_and {v u q : Int} : zt (zand v u) q ↔ zt v q ∧ zt u q := by
  unfold zt zand
  rw [iI_of, b_and, Bool.and_eq_true]
theorem zt_shl {p q : Int} (p0 : 0 ≤ p) (p1 : p < 32) (q0 : 0 ≤ q) (q1 : q < 32) : zt (zshl 1 p) q ↔ p = q := by
  unfold zt
  rw [bt_shl1 p0 p1 q0 q1, decide_eq_true_iff]
theorem zt_or1 {v p q : Int} (p0 : 0 ≤ p) (p1 : p < 32) (q0 : 0 ≤ q) (q1 : q < 32) : zt (zor v (zshl 1 p)) q ↔ zt v q ∨ p = q := by
  rw [zt_or, zt_shl p0 p1 q0 q1]
theorem zt_not {p q : Int} (p0 : 0 ≤ p) (p1 : p < 32) (q0 : 0 ≤ q) (q1 : q < 32) : zt (zxor (zshl 1 p) (-1)) q ↔ p ≠ q := by
  unfold zt zxor
  rw [iI_of, b_xor, bt_shl1 p0 p1 q0 q1, show iI (-1) = (-1 : Int32) by decide, b_m1 _ (by omega)]
  by_cases c : p = q
  · rw [decide_eq_true c]; simp [c]
  · rw [decide_eq_false c]; simp [c]
theorem zt_ext {v u : Int} (hv : rg v) (hu : rg u) (h : ∀ q, 0 ≤ q → q < 32 → (zt v q ↔ zt u q)) : v = u := by
  have : iI v = iI u := b_ext (fun i hi => by
    have := h i (by omega) (by omega)
    unfold zt at this
    rw [Int.toNat_natCast] at this
    exact Bool.eq_iff_iff.mpr this)
  exact (iI_eq hv hu).mp this
theorem rg_zor (x y : Int) : rg (zor x y) := rg_i _
theorem rg_zand (x y : Int) : rg (zand x y) := rg_i _
theorem rg_zxor (x y : Int) : rg (zxor x y) := rg_i _
theorem rg_zshl (x y : Int) : rg (zshl x y) := rg_i _
theorem rg_zshr (x y : Int) : rg (zshr x y) := rg_i _
theorem b_and1 (x : Int32) : x &&& 1 = if bt x 0 = true then 1 else 0 := by
  refine b_ext (fun i hi => ?_)
  rw [b_and, b_1 i hi]
  by_cases c : i = 0
  · subst c
    by_cases c2 : bt x 0 = true
    · rw [if_pos c2, c2]; decide
    · rw [if_neg c2, b_0]; simp at c2; rw [c2]; rfl
  · rw [decide_eq_false c]
    by_cases c2 : bt x 0 = true
    · rw [if_pos c2, b_1 i hi, decide_eq_false c]; simp
    · rw [if_neg c2, b_0]; simp
theorem zt_bit {v p : Int} (p0 : 0 ≤ p) (p1 : p < 32) : (zt v p → zand (zshr v p) 1 = 1) ∧ (¬ zt v p → zand (zshr v p) 1 = 0) := by
  unfold zt zand zshr
  rw [iI_of, iI_nI p0, ← iI_1, b_and1, b_sshr p.toNat (by omega) _ (by omega)]
  rw [if_pos (show p.toNat + 0 < 32 by omega), Nat.add_zero]
  constructor
  · intro c; rw [if_pos c]; decide
  · intro c; rw [if_neg c]; decide
theorem zt_bit1 {v p : Int} (p0 : 0 ≤ p) (p1 : p < 32) : zand (zshr v p) 1 = 1 ↔ zt v p := by
  have := zt_bit (v := v) p0 p1
  by_cases c : zt v p
  · exact ⟨fun _ => c, this.1⟩
  · constructor
    · intro e; rw [this.2 c] at e; exact absurd e (by decide)
    · intro e; exact absurd e c
theorem zt_and0 {v p : Int} (p0 : 0 ≤ p) (p1 : p < 32) : zand v (zshl 1 p) = 0 ↔ ¬ zt v p := by
  constructor
  · intro e c
    have : zt (zand v (zshl 1 p)) p := zt_and.mpr ⟨c, (zt_shl p0 p1 p0 p1).mpr rfl⟩
    rw [e] at this
    exact zt_0 p this
  · intro c
    refine zt_ext (rg_zand _ _) rg_0 (fun q q0 q1 => ⟨fun e => ?_, fun e => absurd e (zt_0 q)⟩)
    obtain ⟨e1, e2⟩ := zt_and.mp e
    rw [zt_shl p0 p1 q0 q1] at e2
    rw [e2] at c
    exact absurd e1 c
/-! FRAMES: nothing but S changes -/
def fr (G G1 : zG) (S : Int → Int → Prop) : Prop := ∀ k j, ¬ S k j → G1 k j = G k j
theorem fr_refl (G : zG) (S : Int → Int → Prop) : fr G G S := fun _ _ _ => rfl
theorem fr_trans {G G1 G2 : zG} {S T : Int → Int → Prop} (h : fr G G1 S) (g : fr G1 G2 T) (hs : ∀ k j, T k j → S k j) : fr G G2 S := fun k j n => (g k j (fun t => n (hs k j t))).trans (h k j n)
theorem fr_wide {G G1 : zG} {S T : Int → Int → Prop} (h : fr G G1 S) (hs : ∀ k j, S k j → T k j) : fr G G1 T := fun k j n => h k j (fun s => n (hs k j s))
theorem fr_u {G G1 : zG} {S : Int → Int → Prop} (h : fr G G1 S) {q i v : Int} (hs : S q i) : fr G (zu G1 q i v) S := fun k j n => by
  unfold zu
  rw [if_neg (fun e => n (by rw [e.1, e.2]; exact hs))]
  exact h k j n
theorem fr_k {G G1 : zG} {S : Int → Int → Prop} (h : fr G G1 S) {k : Int} (hs : ∀ j, ¬ S k j) : G1 k = G k := funext fun j => h k j (hs j)
theorem zu_k {G : zG} {q i v k : Int} (h : k ≠ q) : zu G q i v k = G k := funext fun j => if_neg (fun e => h e.1)
theorem zu_j {G : zG} {q i v k j : Int} (h : j ≠ i) : zu G q i v k j = G k j := if_neg (fun e => h e.2)
theorem zu_kj {G : zG} {q i v k j : Int} (h : k ≠ q) : zu G q i v k j = G k j := if_neg (fun e => h e.1)
theorem zu_s {G : zG} {q i v : Int} : zu G q i v q i = v := if_pos ⟨rfl, rfl⟩
theorem zu_e {G : zG} {q i v k j : Int} (h1 : k = q) (h2 : j = i) : zu G q i v k j = v := if_pos ⟨h1, h2⟩
/-! COUNTS -/
noncomputable def cn (P : Int → Prop) : Nat → Int
  | 0 => 0
  | n + 1 => cn P n + @ite Int (P n) (Classical.propDecidable _) 1 0
noncomputable def ci (P : Int → Prop) (n : Int) : Int := cn P n.toNat
theorem cn_congr {P R : Int → Prop} : ∀ n : Nat, (∀ t, 0 ≤ t → t < (n : Int) → (P t ↔ R t)) → cn P n = cn R n := by
  intro n
  induction n with
  | zero => intro _; rfl
  | succ n ih =>
    intro h
    unfold cn
    rw [ih (fun t t0 t1 => h t t0 (by omega))]
    have e := h n (by omega) (by omega)
    by_cases c : P n
    · rw [if_pos c, if_pos (e.mp c)]
    · rw [if_neg c, if_neg (fun w => c (e.mpr w))]
theorem cn_0 {P : Int → Prop} (n : Nat) (h : ∀ t, 0 ≤ t → t < (n : Int) → ¬ P t) : cn P n = 0 := by
  induction n with
  | zero => rfl
  | succ n ih =>
    unfold cn
    rw [ih (fun t t0 t1 => h t t0 (by omega)), if_neg (h n (by omega) (by omega))]
    rfl
theorem cn_add {P R : Int → Prop} {a : Int} : ∀ n : Nat, 0 ≤ a → a < (n : Int) → ¬ R a → (∀ t, 0 ≤ t → t < (n : Int) → (P t ↔ (R t ∨ t = a))) → cn P n = cn R n + 1 := by
  intro n
  induction n with
  | zero => intro h1 h2; omega
  | succ n ih =>
    intro h1 h2 hr h
    unfold cn
    by_cases c : a = n
    · have e : cn P n = cn R n := cn_congr n (fun t t0 t1 => by rw [h t t0 (by omega)]; exact ⟨fun w => w.resolve_right (by omega), Or.inl⟩)
      rw [e, if_pos ((h n (by omega) (by omega)).mpr (Or.inr c.symm)), if_neg (by rw [← c]; exact hr)]
      omega
    · rw [ih h1 (by omega) hr (fun t t0 t1 => h t t0 (by omega))]
      have e := h n (by omega) (by omega)
      by_cases c2 : R n
      · rw [if_pos c2, if_pos (e.mpr (Or.inl c2))]
      · rw [if_neg c2, if_neg (fun w => (e.mp w).elim c2 (fun z => c z.symm))]; omega
theorem cn_rg (P : Int → Prop) (n : Nat) : 0 ≤ cn P n ∧ cn P n ≤ n := by
  induction n with
  | zero => exact ⟨Int.le_refl 0, Int.le_refl 0⟩
  | succ n ih =>
    unfold cn
    by_cases c : P n
    · rw [if_pos c]; omega
    · rw [if_neg c]; omega
