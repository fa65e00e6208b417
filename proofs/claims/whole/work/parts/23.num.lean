/-! NUMBERS: ints of the machine as whole numbers; the memory as whole numbers. -/
def iI (z : Int) : Int32 := Int32.ofInt z
theorem yl1 : (-6 : Int32) = iI (-6) ∧ (-5 : Int32) = iI (-5) ∧ (-4 : Int32) = iI (-4) ∧ (-2 : Int32) = iI (-2) ∧ (-1 : Int32) = iI (-1) ∧ (0 : Int32) = iI 0 ∧ (1 : Int32) = iI 1 ∧ (2 : Int32) = iI 2 ∧ (3 : Int32) = iI 3 ∧ (4 : Int32) = iI 4 ∧ (5 : Int32) = iI 5 ∧ (6 : Int32) = iI 6 ∧ (7 : Int32) = iI 7 ∧ (8 : Int32) = iI 8 ∧ (9 : Int32) = iI 9 ∧ (10 : Int32) = iI 10 ∧ (11 : Int32) = iI 11 ∧ (12 : Int32) = iI 12 := by decide +kernel
theorem yl2 : (13 : Int32) = iI 13 ∧ (14 : Int32) = iI 14 ∧ (15 : Int32) = iI 15 ∧ (16 : Int32) = iI 16 ∧ (17 : Int32) = iI 17 ∧ (18 : Int32) = iI 18 ∧ (19 : Int32) = iI 19 ∧ (20 : Int32) = iI 20 ∧ (21 : Int32) = iI 21 ∧ (22 : Int32) = iI 22 ∧ (23 : Int32) = iI 23 ∧ (24 : Int32) = iI 24 ∧ (25 : Int32) = iI 25 ∧ (26 : Int32) = iI 26 ∧ (27 : Int32) = iI 27 ∧ (28 : Int32) = iI 28 ∧ (29 : Int32) = iI 29 ∧ (30 : Int32) = iI 30 := by decide +kernel
theorem yl3 : (31 : Int32) = iI 31 ∧ (32 : Int32) = iI 32 ∧ (33 : Int32) = iI 33 ∧ (34 : Int32) = iI 34 ∧ (35 : Int32) = iI 35 ∧ (36 : Int32) = iI 36 ∧ (37 : Int32) = iI 37 ∧ (38 : Int32) = iI 38 ∧ (39 : Int32) = iI 39 ∧ (40 : Int32) = iI 40 ∧ (41 : Int32) = iI 41 ∧ (42 : Int32) = iI 42 ∧ (43 : Int32) = iI 43 ∧ (44 : Int32) = iI 44 ∧ (45 : Int32) = iI 45 ∧ (46 : Int32) = iI 46 ∧ (47 : Int32) = iI 47 ∧ (48 : Int32) = iI 48 := by decide +kernel
theorem yl4 : (49 : Int32) = iI 49 ∧ (50 : Int32) = iI 50 ∧ (57 : Int32) = iI 57 ∧ (59 : Int32) = iI 59 ∧ (60 : Int32) = iI 60 ∧ (63 : Int32) = iI 63 ∧ (64 : Int32) = iI 64 ∧ (85 : Int32) = iI 85 ∧ (90 : Int32) = iI 90 ∧ (91 : Int32) = iI 91 ∧ (93 : Int32) = iI 93 ∧ (94 : Int32) = iI 94 ∧ (95 : Int32) = iI 95 ∧ (97 : Int32) = iI 97 ∧ (100 : Int32) = iI 100 ∧ (108 : Int32) = iI 108 ∧ (112 : Int32) = iI 112 ∧ (116 : Int32) = iI 116 := by decide +kernel
theorem yl5 : (120 : Int32) = iI 120 ∧ (122 : Int32) = iI 122 ∧ (126 : Int32) = iI 126 ∧ (255 : Int32) = iI 255 ∧ (270 : Int32) = iI 270 ∧ (296 : Int32) = iI 296 ∧ (356 : Int32) = iI 356 ∧ (365 : Int32) = iI 365 ∧ (366 : Int32) = iI 366 ∧ (480 : Int32) = iI 480 ∧ (481 : Int32) = iI 481 ∧ (810 : Int32) = iI 810 ∧ (850 : Int32) = iI 850 ∧ (999 : Int32) = iI 999 ∧ (1000 : Int32) = iI 1000 ∧ (1200 : Int32) = iI 1200 ∧ (1500 : Int32) = iI 1500 ∧ (2928 : Int32) = iI 2928 := by decide +kernel
theorem yl6 : (3240 : Int32) = iI 3240 ∧ (7120 : Int32) = iI 7120 ∧ (7477 : Int32) = iI 7477 ∧ (22431 : Int32) = iI 22431 ∧ (99999 : Int32) = iI 99999 ∧ (100000 : Int32) = iI 100000 := by decide +kernel
theorem iI_add (a b : Int) : iI a + iI b = iI (a + b) := (Int32.ofInt_add a b).symm
theorem iI_sub (a b : Int) : iI a - iI b = iI (a - b) := (Int32.ofInt_sub a b).symm
theorem iI_mul (a b : Int) : iI a * iI b = iI (a * b) := (Int32.ofInt_mul a b).symm
theorem iI_neg (a : Int) : -iI a = iI (-a) := (Int32.ofInt_neg a).symm
theorem iI_toInt {z : Int} (h1 : -2147483648 ≤ z) (h2 : z < 2147483648) : (iI z).toInt = z := Int32.toInt_ofInt_of_le (by omega) (by omega)
theorem iI_lt {a b : Int} (h1 : -2147483648 ≤ a) (h2 : a < 2147483648) (h3 : -2147483648 ≤ b) (h4 : b < 2147483648) : (iI a < iI b) = (a < b) := by
  rw [Int32.lt_iff_toInt_lt, iI_toInt h1 h2, iI_toInt h3 h4]
theorem iI_le {a b : Int} (h1 : -2147483648 ≤ a) (h2 : a < 2147483648) (h3 : -2147483648 ≤ b) (h4 : b < 2147483648) : (iI a ≤ iI b) = (a ≤ b) := by
  rw [Int32.le_iff_toInt_le, iI_toInt h1 h2, iI_toInt h3 h4]
theorem iI_eq {a b : Int} (h1 : -2147483648 ≤ a) (h2 : a < 2147483648) (h3 : -2147483648 ≤ b) (h4 : b < 2147483648) : (iI a = iI b) = (a = b) := by
  rw [← Int32.toInt_inj, iI_toInt h1 h2, iI_toInt h3 h4]
theorem iI_clamp {a : Int} (h1 : 0 ≤ a) (h2 : a < 2147483648) : (iI a).toNatClampNeg = a.toNat := by
  show (iI a).toInt.toNat = _
  rw [iI_toInt (by omega) h2]
theorem iI_in {a : Int} {n : Nat} (h1 : 0 ≤ a) (h2 : a < n) (h3 : (n : Int) ≤ 2147483648) : vp_in (iI a) n = True := by
  rw [vp_in_iff, iI_toInt (by omega) (by omega)]
  exact eq_true ⟨h1, h2⟩
theorem iI_len (n : Nat) : Int32.ofNat n = iI n := by
  unfold iI
  exact (Int32.ofInt_eq_ofNat).symm
theorem iI_nI (n : Nat) : nI n = iI n := iI_len n
theorem iI_ite (c : Prop) [Decidable c] (a b : Int) : (if c then iI a else iI b) = iI (if c then a else b) := by split <;> rfl
/-- every int of the machine is one -/
theorem iI_of (x : Int32) : ∃ z : Int, -2147483648 ≤ z ∧ z < 2147483648 ∧ x = iI z := ⟨x.toInt, by have := x.le_toInt; omega, by have := x.toInt_lt; omega, by unfold iI; rw [Int32.ofInt_toInt]⟩
theorem b01 : (iI 0 &&& iI 1 = iI 0) ∧ (iI 1 &&& iI 1 = iI 1) := by decide +kernel
abbrev xZ : Type := Nat → Int → Int
def ih (G : xZ) : Nat → Nat → Int32 := fun k n => iI (G k n)
def ug (G : xZ) (q : Nat) (j v : Int) : xZ := fun k i => if k = q ∧ i = j then v else G k i
theorem ih_of (H : Nat → Nat → Int32) : ∃ G : xZ, H = ih G ∧ ∀ k j, -2147483648 ≤ G k j ∧ G k j < 2147483648 := by
  refine ⟨fun k j => (H k j.toNat).toInt, ?_, fun k j => ⟨?_, ?_⟩⟩
  · funext k n
    show H k n = Int32.ofInt (H k (Int.toNat (n : Int))).toInt
    rw [Int.toNat_natCast, Int32.ofInt_toInt]
  · have := (H k j.toNat).le_toInt; show -2147483648 ≤ (H k j.toNat).toInt; omega
  · have := (H k j.toNat).toInt_lt; show (H k j.toNat).toInt < 2147483648; omega
theorem ih_rd (G : xZ) (q n : Nat) : ih G q n = iI (G q (n : Int)) := rfl
theorem ih_cl {G : xZ} {q : Nat} {j : Int} (h1 : 0 ≤ j) (h2 : j < 2147483648) : ih G q (iI j).toNatClampNeg = iI (G q j) := by
  rw [iI_clamp h1 h2]
  show iI (G q (j.toNat : Int)) = _
  rw [Int.toNat_of_nonneg h1]
theorem xsi_l (G : xZ) (R : (Nat → Nat → Nat) × Nat) (q n : Nat) (v : Int) : xsi (ih G, R) q n (iI v) = (ih (ug G q (n : Int) v), R) := by
  unfold xsi
  refine Prod.ext (funext fun k => funext fun i => ?_) rfl
  show (if k = q ∧ i = n then iI v else iI (G k i)) = iI (if k = q ∧ (i : Int) = (n : Int) then v else G k i)
  by_cases c : k = q ∧ i = n
  · rw [if_pos c, if_pos ⟨c.1, by rw [c.2]⟩]
  · rw [if_neg c, if_neg (fun e => c ⟨e.1, by have := e.2; omega⟩)]
theorem xsi_c {G : xZ} {R : (Nat → Nat → Nat) × Nat} {q : Nat} {j v : Int} (h1 : 0 ≤ j) (h2 : j < 2147483648) : xsi (ih G, R) q (iI j).toNatClampNeg (iI v) = (ih (ug G q j v), R) := by
  rw [iI_clamp h1 h2, xsi_l, Int.toNat_of_nonneg h1]
theorem ug_k {G : xZ} {q k : Nat} {j v : Int} (h : k ≠ q) : ug G q j v k = G k := funext fun i => if_neg (fun e => h e.1)
theorem ug_s (G : xZ) (q : Nat) (j v : Int) : ug G q j v q j = v := if_pos ⟨rfl, rfl⟩
theorem ug_j {G : xZ} {q : Nat} {j v i : Int} (h : i ≠ j) : ug G q j v q i = G q i := if_neg (fun e => h e.2)
theorem xrI_i (a : Int32) (f : Int32 → Prop) : xrI (some (.int a)) f = f a := rfl
theorem xrR_i (a : Nat) (f : Nat → Prop) : xrR (some (.ref a)) f = f a := rfl
theorem xrL_i (a : Int64) (f : Int64 → Prop) : xrL (some (.long a)) f = f a := rfl
theorem xr0_i (A : Prop) : xr0 none A = A := rfl
theorem xAt_inv {T : Nat → Option xE} {call : Nat → List Value → xM → (Option Value → xM → Prop) → Prop} {ret : Option Value → xM → Prop} {lim : Nat} (hc : xcm call) {pc : Nat} {ls st : List Value} {h : xM} (x : xAt T call ret lim pc ls st h) : xgo T call ret lim (xAt T call ret lim) pc ls st h :=
  x (xgo T call ret lim (xAt T call ret lim)) (fun _ _ _ _ z => xgo_m hc (fun _ _ y => y) (fun _ _ _ _ y => xAt_step hc y) z)
/-- upwards to n: what holds at the end holds ahead of it -/
theorem up_ind {P : Int → Prop} (a n : Int) (hn : P n) (st : ∀ s, a ≤ s → s < n → P (s + 1) → P s) : ∀ s, a ≤ s → s ≤ n → P s := by
  have key : ∀ (m : Nat) (s : Int), a ≤ s → s ≤ n → n - s = m → P s := by
    intro m
    induction m with
    | zero => intro s h1 h2 h3; have : s = n := by omega
              rw [this]; exact hn
    | succ m ih => intro s h1 h2 h3; exact st s h1 (by omega) (ih (s + 1) (by omega) (by omega) (by omega))
  intro s h1 h2
  exact key (n - s).toNat s h1 h2 (by omega)
