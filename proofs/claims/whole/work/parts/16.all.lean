/-! every method is as the table has it; the machine's contracts for all -/
theorem xck_all : ∀ i, i < xNM → xckN i = true := by
  intro i hi
  have hi : i < 281 := hi
  rcases Nat.lt_or_ge i 32 with h0 | h0
  · exact xckp_0 i (by omega) h0
  rcases Nat.lt_or_ge i 64 with h1 | h1
  · exact xckp_1 i (by omega) h1
  rcases Nat.lt_or_ge i 96 with h2 | h2
  · exact xckp_2 i (by omega) h2
  rcases Nat.lt_or_ge i 128 with h3 | h3
  · exact xckp_3 i (by omega) h3
  rcases Nat.lt_or_ge i 160 with h4 | h4
  · exact xckp_4 i (by omega) h4
  rcases Nat.lt_or_ge i 192 with h5 | h5
  · exact xckp_5 i (by omega) h5
  rcases Nat.lt_or_ge i 224 with h6 | h6
  · exact xckp_6 i (by omega) h6
  rcases Nat.lt_or_ge i 256 with h7 | h7
  · exact xckp_7 i (by omega) h7
  exact xckp_8 i (by omega) hi
theorem xW_met {l : Launch} (d i : Nat) (vs : List Value) (h : xM) (Qp : Option Value → xM → Prop) (hi : i < xNM) (x : xW xP d i vs h Qp) : xCon l (xP i) d vs h Qp := xW_sound xck_all (fun i _ => ⟨_, rfl⟩) d i vs h Qp hi x
