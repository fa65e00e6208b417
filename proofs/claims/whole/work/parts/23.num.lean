/-! NUMBERS: ints of the machine as whole numbers. -/
def iI (z : Int) : Int32 := Int32.ofInt z
theorem xlits : (-6 : Int32) = iI (-6) ∧ (-5 : Int32) = iI (-5) ∧ (-4 : Int32) = iI (-4) ∧ (-2 : Int32) = iI (-2) ∧ (-1 : Int32) = iI (-1) ∧ (0 : Int32) = iI 0 ∧ (1 : Int32) = iI 1 ∧ (2 : Int32) = iI 2 ∧ (3 : Int32) = iI 3 ∧ (4 : Int32) = iI 4 ∧ (5 : Int32) = iI 5 ∧ (6 : Int32) = iI 6 ∧ (7 : Int32) = iI 7 ∧ (8 : Int32) = iI 8 ∧ (9 : Int32) = iI 9 ∧ (10 : Int32) = iI 10 ∧ (11 : Int32) = iI 11 ∧ (12 : Int32) = iI 12 ∧ (13 : Int32) = iI 13 ∧ (14 : Int32) = iI 14 ∧ (15 : Int32) = iI 15 ∧ (16 : Int32) = iI 16 ∧ (17 : Int32) = iI 17 ∧ (18 : Int32) = iI 18 ∧ (19 : Int32) = iI 19 ∧ (20 : Int32) = iI 20 ∧ (21 : Int32) = iI 21 ∧ (22 : Int32) = iI 22 ∧ (23 : Int32) = iI 23 ∧ (24 : Int32) = iI 24 ∧ (25 : Int32) = iI 25 ∧ (26 : Int32) = iI 26 ∧ (27 : Int32) = iI 27 ∧ (28 : Int32) = iI 28 ∧ (29 : Int32) = iI 29 ∧ (30 : Int32) = iI 30 ∧ (31 : Int32) = iI 31 ∧ (32 : Int32) = iI 32 ∧ (33 : Int32) = iI 33 ∧ (34 : Int32) = iI 34 ∧ (35 : Int32) = iI 35 ∧ (36 : Int32) = iI 36 ∧ (37 : Int32) = iI 37 ∧ (38 : Int32) = iI 38 ∧ (39 : Int32) = iI 39 ∧ (40 : Int32) = iI 40 ∧ (41 : Int32) = iI 41 ∧ (42 : Int32) = iI 42 ∧ (43 : Int32) = iI 43 ∧ (44 : Int32) = iI 44 ∧ (45 : Int32) = iI 45 ∧ (46 : Int32) = iI 46 ∧ (47 : Int32) = iI 47 ∧ (48 : Int32) = iI 48 ∧ (49 : Int32) = iI 49 ∧ (50 : Int32) = iI 50 ∧ (57 : Int32) = iI 57 ∧ (59 : Int32) = iI 59 ∧ (60 : Int32) = iI 60 ∧ (63 : Int32) = iI 63 ∧ (64 : Int32) = iI 64 ∧ (85 : Int32) = iI 85 ∧ (90 : Int32) = iI 90 ∧ (91 : Int32) = iI 91 ∧ (93 : Int32) = iI 93 ∧ (94 : Int32) = iI 94 ∧ (95 : Int32) = iI 95 ∧ (97 : Int32) = iI 97 ∧ (100 : Int32) = iI 100 ∧ (108 : Int32) = iI 108 ∧ (112 : Int32) = iI 112 ∧ (116 : Int32) = iI 116 ∧ (120 : Int32) = iI 120 ∧ (122 : Int32) = iI 122 ∧ (126 : Int32) = iI 126 ∧ (255 : Int32) = iI 255 ∧ (270 : Int32) = iI 270 ∧ (296 : Int32) = iI 296 ∧ (356 : Int32) = iI 356 ∧ (365 : Int32) = iI 365 ∧ (366 : Int32) = iI 366 ∧ (480 : Int32) = iI 480 ∧ (481 : Int32) = iI 481 ∧ (810 : Int32) = iI 810 ∧ (850 : Int32) = iI 850 ∧ (999 : Int32) = iI 999 ∧ (1000 : Int32) = iI 1000 ∧ (1200 : Int32) = iI 1200 ∧ (1500 : Int32) = iI 1500 ∧ (2928 : Int32) = iI 2928 ∧ (3240 : Int32) = iI 3240 ∧ (7120 : Int32) = iI 7120 ∧ (7477 : Int32) = iI 7477 ∧ (22431 : Int32) = iI 22431 ∧ (99999 : Int32) = iI 99999 ∧ (100000 : Int32) = iI 100000 := by decide +kernel
theorem iI_add (a b : Int) : iI a + iI b = iI (a + b) := (Int32.ofInt_add a b).symm
theorem iI_sub (a b : Int) : iI a - iI b = iI (a - b) := (Int32.ofInt_sub a b).symm
theorem iI_mul (a b : Int) : iI a * iI b = iI (a * b) := (Int32.ofInt_mul a b).symm
theorem iI_neg (a : Int) : -iI a = iI (-a) := (Int32.ofInt_neg a).symm
theorem xnums : (∀ a b : Int, iI a + iI b = iI (a + b)) ∧ (∀ a b : Int, iI a - iI b = iI (a - b)) ∧ (∀ a b : Int, iI a * iI b = iI (a * b)) ∧ (∀ a : Int, -iI a = iI (-a)) := ⟨iI_add, iI_sub, iI_mul, iI_neg⟩
theorem iI_toInt {z : Int} (h1 : -2147483648 ≤ z) (h2 : z < 2147483648) : (iI z).toInt = z := Int32.toInt_ofInt_of_le (by omega) (by omega)
theorem iI_lt {a b : Int} (h1 : -2147483648 ≤ a) (h2 : a < 2147483648) (h3 : -2147483648 ≤ b) (h4 : b < 2147483648) : iI a < iI b ↔ a < b := by
  rw [Int32.lt_iff_toInt_lt, iI_toInt h1 h2, iI_toInt h3 h4]
theorem iI_le {a b : Int} (h1 : -2147483648 ≤ a) (h2 : a < 2147483648) (h3 : -2147483648 ≤ b) (h4 : b < 2147483648) : iI a ≤ iI b ↔ a ≤ b := by
  rw [Int32.le_iff_toInt_le, iI_toInt h1 h2, iI_toInt h3 h4]
theorem iI_eq {a b : Int} (h1 : -2147483648 ≤ a) (h2 : a < 2147483648) (h3 : -2147483648 ≤ b) (h4 : b < 2147483648) : iI a = iI b ↔ a = b := by
  rw [← Int32.toInt_inj, iI_toInt h1 h2, iI_toInt h3 h4]
theorem iI_clamp {a : Int} (h1 : 0 ≤ a) (h2 : a < 2147483648) : (iI a).toNatClampNeg = a.toNat := by
  show (iI a).toInt.toNat = _
  rw [iI_toInt (by omega) h2]
theorem iI_in {a : Int} {n : Nat} (h1 : -2147483648 ≤ a) (h2 : a < 2147483648) : vp_in (iI a) n ↔ 0 ≤ a ∧ a < n := by
  rw [vp_in_iff, iI_toInt h1 h2]
theorem iI_len (n : Nat) : Int32.ofNat n = iI n := by
  unfold iI
  exact (Int32.ofInt_eq_ofNat).symm
theorem iI_nI (n : Nat) : nI n = iI n := iI_len n
/-- every int of the machine is one -/
theorem iI_of (x : Int32) : ∃ z : Int, -2147483648 ≤ z ∧ z < 2147483648 ∧ x = iI z := ⟨x.toInt, by have := x.le_toInt; omega, by have := x.toInt_lt; omega, by unfold iI; rw [Int32.ofInt_toInt]⟩
