/-! THE CELLS: kinds, lengths and refs of the class's objects. -/
theorem xnn_lt {q : Nat} (h : q < 1000) : xnn q := fun e => by rw [e] at h; exact absurd h (by decide)
/-- the five archives -/
def KA (a : Nat) : Prop := a = 5 ∨ a = 17 ∨ a = 30 ∨ a = 42 ∨ a = 54
theorem KA_sh {a : Nat} (h : KA a) : xsh a = (0, 0) ∧ xsh (a + 1) = (10, 10) ∧ xsh (a + 2) = (10, 10) ∧ xsh (a + 3) = (10, 10) ∧ xsh (a + 4) = (10, 40) ∧ xsh (a + 5) = (10, 40) ∧ xsh (a + 6) = (10, 10) ∧ xsh (a + 7) = (10, 60) ∧ xsh (a + 8) = (10, 60) ∧ xsh (a + 9) = (10, 60) ∧ xsh (a + 10) = (10, 60) ∧ xsh (a + 11) = (10, 120) ∧ a < 100 := by
  rcases h with rfl | rfl | rfl | rfl | rfl <;> decide +kernel
def RA (h : xM) (a : Nat) : Prop := h.2.1 a 7 = a + 1 ∧ h.2.1 a 8 = a + 2 ∧ h.2.1 a 9 = a + 3 ∧ h.2.1 a 10 = a + 4 ∧ h.2.1 a 11 = a + 5 ∧ h.2.1 a 12 = a + 6 ∧ h.2.1 a 13 = a + 7 ∧ h.2.1 a 14 = a + 8 ∧ h.2.1 a 15 = a + 9 ∧ h.2.1 a 16 = a + 10 ∧ h.2.1 a 17 = a + 11
theorem xok_of {q c n : Nat} (h : xsh q = (c, n)) : xok q c := by unfold xok; rw [h]
theorem c_part {d a : Nat} {h : xM} {Q : Option Value → xM → Prop} {b i : Int} (ka : KA a) (ra : RA h a) (hb : 0 ≤ b ∧ b < 10) (hi : 0 ≤ i ∧ i < 4) (hQ : Q (some (.int (h.1 (a + 4) (b * 4 + i).toNat))) h) : xW xP (d + 1) 4 [.ref a, .int (iI b), .int (iI i)] h Q := by
  obtain ⟨k0, k1, k2, k3, k4, k5, k6, k7, k8, k9, k10, k11, ka⟩ := KA_sh ka
  refine xm_4 (xs_4_0 ?_)
  simp only [ra.2.2.2.1, xlits, xnums, k4]
  refine ⟨xok_of k0, xnn_lt (by omega), xok_of k4, ?_, ?_⟩
  · rw [iI_in (by omega) (by omega)]; omega
  · rw [iI_clamp (by omega) (by omega)]; exact hQ
theorem c_link {d a : Nat} {h : xM} {Q : Option Value → xM → Prop} {b i : Int} (ka : KA a) (ra : RA h a) (hb : 0 ≤ b ∧ b < 10) (hi : 0 ≤ i ∧ i < 4) (hQ : Q (some (.int (h.1 (a + 5) (b * 4 + i).toNat))) h) : xW xP (d + 1) 5 [.ref a, .int (iI b), .int (iI i)] h Q := by
  obtain ⟨k0, k1, k2, k3, k4, k5, k6, k7, k8, k9, k10, k11, ka⟩ := KA_sh ka
  refine xm_5 (xs_5_0 ?_)
  simp only [ra.2.2.2.2.1, xlits, xnums, k5]
  refine ⟨xok_of k0, xnn_lt (by omega), xok_of k5, ?_, ?_⟩
  · rw [iI_in (by omega) (by omega)]; omega
  · rw [iI_clamp (by omega) (by omega)]; exact hQ
