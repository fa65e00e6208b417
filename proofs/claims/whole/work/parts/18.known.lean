/-! what is known besides the tables' words, and kept -/
def xXX (b : Nat) (sa sv : Nat → Nat) (U : State) (H : Heap) : Prop :=
  va_Nw (.methodLinkNest "AsOfPages$View" 40 xNest "AsOfPages") U ∧ va_AO "AsOfPages$Archive" U ∧ va_AO "AsOfPages$Spans" U ∧ (∀ (own : String) (k i : Nat), (own, k, i) ∈ xskT → vk_R own k (xskN.getD i "") (sa i) U) ∧ xSF b sa sv U H
theorem xr_s {b : Nat} {sa : Nat → Nat} {i : Nat} : xr b sa (1000 + i) = sa i := by
  unfold xr
  rw [if_neg (by omega), Nat.add_sub_cancel_left]
theorem xXX_ok {l : Launch} {b : Nat} {sa sv : Nat → Nat} : xXok l b (xr b sa) (xXX b sa sv) := by
  refine ⟨fun s U H hW h => ?_, fun U g mk a H h => ?_, fun s H H1 hq h => ?_, fun s H h => ⟨h.1, h.2.1, h.2.2.1⟩, fun s H h own k i hi => by rw [xr_s]; exact h.2.2.2.1 own k i hi, ?_, ?_⟩
  · exact ⟨va_Nw.warmM hW h.1, h.2.1.moved hW.alike, h.2.2.1.moved hW.alike, fun own k i hi => (h.2.2.2.1 own k i hi).warm hW, xSF_moved hW.alike h.2.2.2.2⟩
  · exact ⟨va_Nw.same (u := U) (U := U.calling g mk a) rfl rfl h.1, va_AO.moved (u := U) (U := U.calling g mk a) (Vm.Alike.refl U.vm) h.2.1, va_AO.moved (u := U) (U := U.calling g mk a) (Vm.Alike.refl U.vm) h.2.2.1, fun own k i hi => vk_R.same (u := U) (U := U.calling g mk a) rfl (h.2.2.2.1 own k i hi), xSF_moved (u := U) (U := U.calling g mk a) (Vm.Alike.refl U.vm) h.2.2.2.2⟩
  · exact ⟨h.1, h.2.1, h.2.2.1, h.2.2.2.1, xSF_kept hq h.2.2.2.2⟩
  · intro p e R s m args below meth c H locs cells slots Q cc pc la rest own n i hx hb hml hown hts hlink hXX hi hfr hlo hc hs hcat hdg kk
    rw [xr_s]
    have hF : xSF b sa sv s H := hXX.2.2.2.2
    obtain ⟨cell, g1, g2, g3, -⟩ := (hF.1 i hi).1
    exact W.callV (W.runV (As := []) (rest := rest) (C := RJ0) ⟨hx, hb, hml, hown, hts⟩ (xj_length (b := b) (sa := sa) (sv := sv) hi)
      ⟨callB_of 0 hts (xjgood (xjI 26 rfl)) rfl rfl rfl (hts _ (xjI 6 rfl)) hlink (by decide +kernel) ⟨by show 1 + 1 ≤ _; omega, by show 8 + (1 + 11) + 20 ≤ _; omega⟩, hts _ (xjI 24 rfl), hts _ (xjI 25 rfl)⟩
      ⟨xjP_blind, ⟨cell, g1, g2, g3⟩, fun U hU hW => ⟨rfl, by show xSF b sa sv U U.heap; rw [hU]; exact xSF_moved hW.alike hF⟩⟩ rfl rfl rfl rfl (lv_room hcat) hdg ⟨by omega, by omega⟩) kk
  · intro p e R s m args below meth c H locs cells slots Q cc pc la rest own n i j hx hb hml hown hts hlink hXX hi hj hfr hlo hc hs hcat hdg kk
    rw [xr_s]
    have hF : xSF b sa sv s H := hXX.2.2.2.2
    obtain ⟨cell, g1, g2, g3, -⟩ := (hF.1 i hi).1
    exact W.callV (W.runV (As := [.int j]) (rest := rest) (C := RJ0) ⟨hx, hb, hml, hown, hts⟩ (xj_char (b := b) (sa := sa) (sv := sv) hi hj)
      ⟨callB_of 1 hts (xjgood (xjI 29 rfl)) rfl rfl rfl (hts _ (xjI 6 rfl)) hlink (by decide +kernel) ⟨by show 3 + 1 ≤ _; omega, by show 8 + (2 + 11) + 64 ≤ _; omega⟩, hts _ (xjI 27 rfl), hts _ (xjI 28 rfl)⟩
      ⟨xjP_blind, ⟨cell, g1, g2, g3⟩, fun U hU hW => ⟨rfl, by show xSF b sa sv U U.heap; rw [hU]; exact xSF_moved hW.alike hF⟩⟩ rfl rfl rfl rfl (lv_room hcat) hdg ⟨by omega, by omega⟩) kk
