/-! NUMBERS: ints of the machine as whole numbers. -/
theorem iI_add (a b : Int) : iI a + iI b = iI (a + b) := (Int32.ofInt_add a b).symm
theorem iI_sub (a b : Int) : iI a - iI b = iI (a - b) := (Int32.ofInt_sub a b).symm
theorem iI_mul (a b : Int) : iI a * iI b = iI (a * b) := (Int32.ofInt_mul a b).symm
theorem iI_of (x : Int32) : iI x.toInt = x := Int32.ofInt_toInt x
theorem iL_of (x : Int64) : iL x.toInt = x := Int64.ofInt_toInt x
theorem iI_toInt {z : Int} (h : rg z) : (iI z).toInt = z := Int32.toInt_ofInt_of_le (by have := h.1; omega) (by have := h.2; omega)
theorem iL_toInt {z : Int} (h : rg z) : (iL z).toInt = z := Int64.toInt_ofInt_of_le (by have := h.1; omega) (by have := h.2; omega)
theorem iI_lt {a b : Int} (h1 : rg a) (h2 : rg b) : (iI a < iI b) ↔ (a < b) := by
  rw [Int32.lt_iff_toInt_lt, iI_toInt h1, iI_toInt h2]
theorem iI_le {a b : Int} (h1 : rg a) (h2 : rg b) : (iI a ≤ iI b) ↔ (a ≤ b) := by
  rw [Int32.le_iff_toInt_le, iI_toInt h1, iI_toInt h2]
theorem iI_eq {a b : Int} (h1 : rg a) (h2 : rg b) : (iI a = iI b) ↔ (a = b) := by
  rw [← Int32.toInt_inj, iI_toInt h1, iI_toInt h2]
theorem iI_clamp {a : Int} (h1 : 0 ≤ a) (h2 : a < 2147483648) : (iI a).toNatClampNeg = a.toNat := by
  show (iI a).toInt.toNat = _
  rw [iI_toInt ⟨by omega, h2⟩]
theorem iI_in {a : Int} {n : Nat} (h1 : 0 ≤ a) (h2 : a < (n : Int)) (h3 : a < 2147483648) : vp_in (iI a) n := by
  rw [vp_in_iff, iI_toInt ⟨by omega, by omega⟩]
  exact ⟨h1, h2⟩
theorem iI_len (n : Nat) : Int32.ofNat n = iI n := (Int32.ofInt_eq_ofNat).symm
theorem iI_0 : (0 : Int32) = iI 0 := by decide
theorem iI_1 : (1 : Int32) = iI 1 := by decide
theorem rg_0 : rg 0 := ⟨by decide, by decide⟩
theorem rg_i (x : Int32) : rg x.toInt := ⟨by have := x.le_toInt; omega, by have := x.toInt_lt; omega⟩
theorem iI_zb (x : Int) : (iI x).toInt8.toInt32 = iI (zb x) := by
  refine Int32.toInt_inj.mp ?_
  rw [Int8.toInt_toInt32, Int32.toInt_toInt8]
  show (Int32.ofInt x).toInt.bmod (2 ^ 8) = (Int32.ofInt (x.bmod 256)).toInt
  rw [Int32.toInt_ofInt, Int32.toInt_ofInt]
  have h1 : (x.bmod Int32.size).bmod (2 ^ 8) = x.bmod (2 ^ 8) := Int.bmod_bmod_of_dvd (by decide)
  rw [h1]
  have h2 : (x.bmod 256).bmod Int32.size = x.bmod 256 := by
    have a := @Int.le_bmod x 256 (by decide)
    have b := @Int.bmod_lt x 256 (by decide)
    exact Int.bmod_eq_of_le (by simp [Int32.size]; omega) (by simp [Int32.size]; omega)
  rw [h2]
theorem iI_i2c {x : Int} (h1 : 0 ≤ x) (h2 : x < 65536) : ((iI x).toUInt32 % 65536).toInt32 = iI x := by
  have hx : x = ((x.toNat : Nat) : Int) := (Int.toNat_of_nonneg h1).symm
  have hn : x.toNat < 65536 := by omega
  rw [hx, ← iI_len]
  show ((UInt32.ofNat x.toNat) % 65536).toInt32 = _
  have : (UInt32.ofNat x.toNat) % 65536 = UInt32.ofNat x.toNat := by
    apply UInt32.toNat.inj
    rw [UInt32.toNat_mod, UInt32.toNat_ofNat']
    show x.toNat % 2 ^ 32 % 65536 = x.toNat % 2 ^ 32
    omega
  rw [this]
  rfl
theorem iI_i2l {x : Int} (h : rg x) : (iI x).toInt64 = iL x := Int64.toInt_inj.mp (by rw [Int32.toInt_toInt64, iI_toInt h, iL_toInt h])
theorem iI_div {x y : Int} (h : 0 ≤ x ∧ x < 2147483648 ∧ 0 < y ∧ y < 2147483648) : iI x / iI y = iI (x / y) := by
  have hq : 0 ≤ x / y := Int.ediv_nonneg h.1 (by omega)
  have hq2 : x / y ≤ x := Int.ediv_le_self _ h.1
  refine Int32.toInt_inj.mp ?_
  rw [Int32.toInt_div, iI_toInt ⟨by omega, h.2.1⟩, iI_toInt ⟨by omega, h.2.2.2⟩, Int.tdiv_eq_ediv_of_nonneg h.1, iI_toInt ⟨by omega, by omega⟩]
  exact Int.bmod_eq_of_le (by omega) (by omega)
theorem iI_rem {x y : Int} (h : 0 ≤ x ∧ x < 2147483648 ∧ 0 < y ∧ y < 2147483648) : iI x - iI x / iI y * iI y = iI (x % y) := by
  rw [iI_div h, iI_mul, iI_sub]
  have := Int.emod_add_mul_ediv x y
  rw [show x - x / y * y = x % y by rw [Int.mul_comm]; omega]
theorem iI_lcmp {x y : Int} (h1 : rg x) (h2 : rg y) : lg_cmp (iL x) (iL y) = iI (zlc x y) := by
  have e1 : (iL x > iL y) ↔ y < x := by
    show iL y < iL x ↔ _
    rw [Int64.lt_iff_toInt_lt, iL_toInt h1, iL_toInt h2]
  have e2 : (iL x = iL y) ↔ x = y := by rw [← Int64.toInt_inj, iL_toInt h1, iL_toInt h2]
  unfold lg_cmp zlc
  by_cases c1 : x < y
  · rw [if_pos c1, if_neg (by rw [e1]; omega), if_neg (by rw [e2]; omega)]; decide
  · by_cases c2 : x = y
    · rw [if_neg c1, if_pos c2, if_neg (by rw [e1]; omega), if_pos (e2.mpr c2)]; decide
    · rw [if_neg c1, if_neg c2, if_pos (by rw [e1]; omega)]; decide
theorem iI_max {a b : Int} (h1 : rg a) (h2 : rg b) : (if iI a < iI b then iI b else iI a) = iI (max a b) := by
  by_cases c : a < b
  · rw [if_pos ((iI_lt h1 h2).mpr c), Int.max_eq_right (by omega)]
  · rw [if_neg (fun q => c ((iI_lt h1 h2).mp q)), Int.max_eq_left (by omega)]
theorem iI_min {a b : Int} (h1 : rg a) (h2 : rg b) : (if iI b < iI a then iI b else iI a) = iI (min a b) := by
  by_cases c : b < a
  · rw [if_pos ((iI_lt h2 h1).mpr c), Int.min_eq_right (by omega)]
  · rw [if_neg (fun q => c ((iI_lt h2 h1).mp q)), Int.min_eq_left (by omega)]
theorem iI_abs {a : Int} (h1 : rg a) : (if 0 ≤ iI a then iI a else 0 - iI a) = iI (a.natAbs : Int) := by
  by_cases c : 0 ≤ a
  · rw [if_pos (by rw [iI_0]; exact (iI_le rg_0 h1).mpr c), show (a.natAbs : Int) = a by omega]
  · rw [if_neg (fun q => c ((iI_le rg_0 h1).mp (by rw [← iI_0]; exact q))), iI_0, iI_sub, show (a.natAbs : Int) = 0 - a by omega]
/-! IT IS SOUND: what holds over whole numbers holds on the pure machine. -/
def zx (v : zV) : Value := match v with
  | (1, _, z) => .int (iI z)
  | (2, _, z) => .long (iL z)
  | (_ + 3, _, q) => .ref q.toNat
  | _ => .null
def zkd (t n q : Nat) : Prop := (t < 15 ∧ q < 320 ∧ (xsh q).1 = t ∧ (10 ≤ t → (xsh q).2 = n)) ∨ (t = 15 ∧ 1000 ≤ q ∧ q < 1000 + xtxt.length ∧ (xtxt.getD (q - 1000) []).length = n)
def zok (v : zV) : Prop := match v with
  | (t + 3, n, q) => 0 ≤ q ∧ zkd t n q.toNat
  | _ => True
abbrev zoks (l : List zV) : Prop := ∀ v ∈ l, zok v
theorem zoks_c {v : zV} {l : List zV} (h : zok v) (g : zoks l) : zoks (v :: l) := by
  intro u hu
  rcases List.mem_cons.mp hu with rfl | hu
  · exact h
  · exact g u hu
theorem zoks_h {v : zV} {l : List zV} (h : zoks (v :: l)) : zok v := h v (List.mem_cons_self)
theorem zoks_t {v : zV} {l : List zV} (h : zoks (v :: l)) : zoks l := fun u hu => h u (List.mem_cons_of_mem _ hu)
def zkB (c n q : Nat) : Bool := Nat.blt c 15 && Nat.blt q 320 && Nat.beq (xsh q).1 c && (Nat.blt c 10 || Nat.beq (xsh q).2 n)
theorem zkB_d {c n q : Nat} (h : zkB c n q = true) : zkd c n q := by
  unfold zkB at h
  simp only [Bool.and_eq_true, Bool.or_eq_true] at h
  obtain ⟨⟨⟨h1, h2⟩, h3⟩, h4⟩ := h
  refine Or.inl ⟨Nat.le_of_ble_eq_true h1, Nat.le_of_ble_eq_true h2, Nat.eq_of_beq_eq_true h3, fun h => ?_⟩
  rcases h4 with h4 | h4
  · have : c < 10 := Nat.le_of_ble_eq_true h4
    omega
  · exact Nat.eq_of_beq_eq_true h4
def zstB (k s : Nat) : Bool := match zst (xsh k).1 s with
  | (1, c, n, o) => decide (0 ≤ (k : Int) + o) && zkB c n ((k : Int) + o).toNat
  | (3, c, n, o) => decide (0 ≤ o) && zkB c n o.toNat
  | _ => true
theorem zstB_all : ((List.range 320).all fun k => (List.range 50).all fun s => zstB k s) = true := by decide +kernel
theorem zst_hi {c s : Nat} (h : 50 ≤ s) : zst c s = (0, 0, 0, 0) := by
  have hr : ∀ r ∈ zstT, r.length ≤ 50 := by decide
  unfold zst
  have hl : (zstT.getD c []).length ≤ 50 := by
    rw [List.getD_eq_getElem?_getD]
    cases e : zstT[c]? with
    | none => exact Nat.zero_le _
    | some r => exact hr r (List.mem_of_getElem? e)
  rw [List.getD_eq_getElem?_getD, List.getElem?_eq_none (by omega)]
  rfl
theorem zst_big {c s : Nat} (h : 10 ≤ c) : zst c s = (0, 0, 0, 0) := by
  unfold zst
  rw [List.getD_eq_getElem?_getD (l := zstT), List.getElem?_eq_none (by have : zstT.length = 10 := by decide
                                                                        omega)]
  rfl
theorem zst_B {k s : Nat} (h : k < 320) : zstB k s = true := by
  by_cases hs : s < 50
  · exact List.all_eq_true.mp (List.all_eq_true.mp zstB_all k (List.mem_range.mpr h)) s (List.mem_range.mpr hs)
  · unfold zstB
    rw [zst_hi (by omega)]
    rfl
def zaeB (k : Nat) : Bool := (!(Nat.beq (xsh k).1 13) || (Nat.beq (xsh k).2 3 && (List.range 3).all fun i => zkB 0 0 (k + 1 + 12 * i))) && (!(Nat.beq (xsh k).1 14) || (Nat.beq (xsh k).2 85 && (List.range 85).all fun i => zkB 3 0 (k + 1 + i)))
theorem zaeB_all : ((List.range 320).all zaeB) = true := by decide +kernel
theorem zae_13 {k : Nat} (h : k < 320) (hk : (xsh k).1 = 13) : (xsh k).2 = 3 ∧ ∀ i, i < 3 → zkd 0 0 (k + 1 + 12 * i) := by
  have := List.all_eq_true.mp zaeB_all k (List.mem_range.mpr h)
  unfold zaeB at this
  rw [hk] at this
  have := (Bool.and_eq_true_iff.mp this).1
  have : (Nat.beq (xsh k).2 3 && (List.range 3).all fun i => zkB 0 0 (k + 1 + 12 * i)) = true := this
  have := Bool.and_eq_true_iff.mp this
  exact ⟨Nat.eq_of_beq_eq_true this.1, fun i hi => zkB_d (List.all_eq_true.mp this.2 i (List.mem_range.mpr hi))⟩
theorem zae_14 {k : Nat} (h : k < 320) (hk : (xsh k).1 = 14) : (xsh k).2 = 85 ∧ ∀ i, i < 85 → zkd 3 0 (k + 1 + i) := by
  have := List.all_eq_true.mp zaeB_all k (List.mem_range.mpr h)
  unfold zaeB at this
  rw [hk] at this
  have := (Bool.and_eq_true_iff.mp this).2
  have : (Nat.beq (xsh k).2 85 && (List.range 85).all fun i => zkB 3 0 (k + 1 + i)) = true := this
  have := Bool.and_eq_true_iff.mp this
  exact ⟨Nat.eq_of_beq_eq_true this.1, fun i hi => zkB_d (List.all_eq_true.mp this.2 i (List.mem_range.mpr hi))⟩
def zRf (G : zG) (h : xM) (k s : Nat) : Prop := match zst (xsh k).1 s with
  | (1, _, _, o) => (h.2.1 k s : Int) = k + o
  | (3, _, _, o) => (h.2.1 k s : Int) = o
  | (2, c, n, _) => 0 ≤ G k s → h.2.1 k s = (G k s).toNat ∧ zkd c n (G k s).toNat
  | _ => True
def zR (G : zG) (h : xM) : Prop :=
  (∀ k n : Nat, (zst (xsh k).1 n).1 ≠ 2 → h.1 k n = iI (G k n)) ∧ (∀ k s : Nat, k < 320 → zRf G h k s) ∧
  (∀ k i : Nat, (xsh k).1 = 13 → i < 3 → h.2.1 k i = k + 1 + 12 * i) ∧ (∀ k i : Nat, (xsh k).1 = 14 → i < 85 → h.2.1 k i = k + 1 + i)
theorem zu_at (G : zG) (k n q j : Nat) (v : Int) : zu G q j v k n = if k = q ∧ n = j then v else G k n := by
  unfold zu
  by_cases c : k = q ∧ n = j
  · rw [if_pos c, if_pos ⟨by rw [c.1], by rw [c.2]⟩]
  · rw [if_neg c, if_neg (fun e => c ⟨by omega, by omega⟩)]
theorem zR_u {G : zG} {h : xM} (hR : zR G h) {q j : Nat} (v : Int) (hq : (zst (xsh q).1 j).1 ≠ 2) : zR (zu G q j v) (xsi h q j (iI v)) := by
  refine ⟨fun k n hn => ?_, fun k s hk => ?_, hR.2.2.1, hR.2.2.2⟩
  · rw [zu_at]
    show (if k = q ∧ n = j then iI v else h.1 k n) = _
    by_cases c : k = q ∧ n = j
    · rw [if_pos c, if_pos c]
    · rw [if_neg c, if_neg c, hR.1 k n hn]
  · have := hR.2.1 k s hk
    unfold zRf at *
    rw [zu_at]
    by_cases c : k = q ∧ s = j
    · rw [c.1, c.2] at this ⊢
      generalize zst (xsh q).1 j = m at *
      split
      · exact this
      · exact this
      · exact absurd rfl hq
      · trivial
    · rw [if_neg c]; exact this
theorem zR_r {G : zG} {h : xM} (hR : zR G h) {q j : Nat} {v : Int} {c n : Nat} {o : Int} (hq : zst (xsh q).1 j = (2, c, n, o)) (hv : zkd c n v.toNat) : zR (zu G q j v) (xsr h q j v.toNat) := by
  have hm : (zst (xsh q).1 j).1 = 2 := by rw [hq]
  refine ⟨fun k m hn => ?_, fun k s hk => ?_, fun k i hk hi => ?_, fun k i hk hi => ?_⟩
  · rw [zu_at, if_neg (fun e => hn (by rw [e.1, e.2]; exact hm))]
    exact hR.1 k m hn
  · have := hR.2.1 k s hk
    unfold zRf at *
    rw [zu_at]
    by_cases e : k = q ∧ s = j
    · rw [if_pos e, e.1, e.2, hq]
      intro _
      exact ⟨if_pos ⟨rfl, rfl⟩, hv⟩
    · rw [if_neg e]
      have h2 : (xsr h q j v.toNat).2.1 k s = h.2.1 k s := if_neg e
      rw [h2]
      exact this
  · have : k ≠ q := fun e => by rw [← e, hk] at hm; rw [zst_big (by decide)] at hm; cases hm
    show (if k = q ∧ i = j then v.toNat else h.2.1 k i) = _
    rw [if_neg (fun e => this e.1)]
    exact hR.2.2.1 k i hk hi
  · have : k ≠ q := fun e => by rw [← e, hk] at hm; rw [zst_big (by decide)] at hm; cases hm
    show (if k = q ∧ i = j then v.toNat else h.2.1 k i) = _
    rw [if_neg (fun e => this e.1)]
    exact hR.2.2.2 k i hk hi
theorem zR_c {G : zG} {h : xM} (hR : zR G h) {q i p j n : Nat} (hq : 10 ≤ (xsh q).1) (hp : 10 ≤ (xsh p).1) : zR (zcp G q i p j n) (xcp h q i p j n) := by
  refine ⟨fun k x hn => ?_, fun k s hk => ?_, hR.2.2.1, hR.2.2.2⟩
  · show (if k = p ∧ j ≤ x ∧ x < j + n then h.1 q (i + (x - j)) else h.1 k x) = iI (if (k : Int) = p ∧ (j : Int) ≤ x ∧ (x : Int) < j + n then G q (i + (x - j)) else G k x)
    by_cases c : k = p ∧ j ≤ x ∧ x < j + n
    · rw [if_pos c, if_pos ⟨by omega, by omega, by omega⟩, hR.1 q _ (by rw [zst_big hq]; decide), show ((i + (x - j) : Nat) : Int) = (i : Int) + ((x : Int) - (j : Int)) by omega]
    · rw [if_neg c, if_neg (fun e => c ⟨by omega, by omega, by omega⟩), hR.1 k x hn]
  · have := hR.2.1 k s hk
    unfold zRf at *
    by_cases e : k = p
    · rw [e, zst_big hp]; trivial
    · have e2 : zcp G q i p j n k s = G k s := if_neg (fun w => e (by omega))
      rw [e2]
      exact this
