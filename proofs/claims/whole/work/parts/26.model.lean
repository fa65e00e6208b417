/-! THE REFERENCE READS: getters, ahead, behind, nearest, bodies. -/
variable {d : Nat} {G : xZ} {R : (Nat → Nat → Nat) × Nat} {Q : Option Value → xM → Prop} {w : Int → Int} {dr : Int}
theorem c166 (rm : RM R) (hw : G 298 = w) {s : Int} (h1 : -1 ≤ s) (h2 : s < 60) : xW xP (d + 1) 166 [.ref 297, .int (iI s)] (ih G, R) Q ↔ Q (some (.int (iI (pg w s)))) (ih G, R) := by
  rw [xf_166]
  simp (disch := omega) only [rm, kxm, hw, yl1, yl2, yl3, yl4, yl5, yl6, iI_add, iI_mul, iI_in, ih_cl, true_and, pg]
theorem c167 (rm : RM R) (hw : G 298 = w) {s : Int} (h1 : -1 ≤ s) (h2 : s < 60) : xW xP (d + 1) 167 [.ref 297, .int (iI s)] (ih G, R) Q ↔ Q (some (.int (iI (dy w s)))) (ih G, R) := by
  rw [xf_167]
  simp (disch := omega) only [rm, kxm, hw, yl1, yl2, yl3, yl4, yl5, yl6, iI_add, iI_mul, iI_in, ih_cl, true_and, dy]
theorem c168 (rm : RM R) (hw : G 298 = w) {s : Int} (h1 : -1 ≤ s) (h2 : s < 60) : xW xP (d + 1) 168 [.ref 297, .int (iI s)] (ih G, R) Q ↔ Q (some (.int (iI (kd w s)))) (ih G, R) := by
  rw [xf_168]
  simp (disch := omega) only [rm, kxm, hw, yl1, yl2, yl3, yl4, yl5, yl6, iI_add, iI_mul, iI_in, ih_cl, true_and, kd]
theorem c169 (rm : RM R) (hw : G 298 = w) {s : Int} (h1 : -1 ≤ s) (h2 : s < 60) : xW xP (d + 1) 169 [.ref 297, .int (iI s)] (ih G, R) Q ↔ Q (some (.int (iI (fo w s)))) (ih G, R) := by
  rw [xf_169]
  simp (disch := omega) only [rm, kxm, hw, yl1, yl2, yl3, yl4, yl5, yl6, iI_add, iI_mul, iI_in, ih_cl, true_and, fo]
theorem c170 (rm : RM R) (hw : G 298 = w) {s : Int} (h1 : 0 ≤ s) (h2 : s < 10) : xW xP (d + 1) 170 [.ref 297, .int (iI s)] (ih G, R) Q ↔ Q (some (.int (iI (wt w s)))) (ih G, R) := by
  rw [xf_170]
  simp (disch := omega) only [rm, kxm, hw, yl1, yl2, yl3, yl4, yl5, yl6, iI_add, iI_mul, iI_in, ih_cl, true_and, wt]
theorem c171 (rm : RM R) (hw : G 298 = w) {s : Int} (h1 : 0 ≤ s) (h2 : s < 10) : xW xP (d + 1) 171 [.ref 297, .int (iI s)] (ih G, R) Q ↔ Q (some (.int (iI (np w s)))) (ih G, R) := by
  rw [xf_171]
  simp (disch := omega) only [rm, kxm, hw, yl1, yl2, yl3, yl4, yl5, yl6, iI_add, iI_mul, iI_in, ih_cl, true_and, np]
theorem c172 (rm : RM R) (hw : G 298 = w) {s : Int} (h1 : 0 ≤ s) (h2 : s < 10) : xW xP (d + 1) 172 [.ref 297, .int (iI s)] (ih G, R) Q ↔ Q (some (.int (iI (nl w s)))) (ih G, R) := by
  rw [xf_172]
  simp (disch := omega) only [rm, kxm, hw, yl1, yl2, yl3, yl4, yl5, yl6, iI_add, iI_mul, iI_in, ih_cl, true_and, nl]
theorem c173 (rm : RM R) (hw : G 298 = w) {s i : Int} (h1 : 0 ≤ s) (h2 : s < 10) (h3 : 0 ≤ i) (h4 : i < 4) : xW xP (d + 1) 173 [.ref 297, .int (iI s), .int (iI i)] (ih G, R) Q ↔ Q (some (.int (iI (pa w s i)))) (ih G, R) := by
  rw [xf_173]
  simp (disch := omega) only [rm, kxm, hw, yl1, yl2, yl3, yl4, yl5, yl6, iI_add, iI_mul, iI_in, ih_cl, true_and, pa]
theorem c174 (rm : RM R) (hw : G 298 = w) {s i : Int} (h1 : 0 ≤ s) (h2 : s < 10) (h3 : 0 ≤ i) (h4 : i < 4) : xW xP (d + 1) 174 [.ref 297, .int (iI s), .int (iI i)] (ih G, R) Q ↔ Q (some (.int (iI (li w s i)))) (ih G, R) := by
  rw [xf_174]
  simp (disch := omega) only [rm, kxm, hw, yl1, yl2, yl3, yl4, yl5, yl6, iI_add, iI_mul, iI_in, ih_cl, true_and, li]
set_option maxHeartbeats 4000000 in
theorem c176 (rm : RM R) (hw : G 298 = w) (hdr : G 297 7 = dr) (wf : WF w) (hd1 : -1 ≤ dr) (hd2 : dr < 60) {p day o : Int} (hp : rgI p) (hday : rgI day) (ho : o = 0 ∨ o = 1) (hQ : ∀ r, r = ah w dr p day o → IsMn (fun t => -dy w t) (qah w dr p day o) r → -1 ≤ r → r < w 4 → Q (some (.int (iI r))) (ih G, R)) : xW xP (d + 2) 176 [.ref 297, .int (iI p), .int (iI day), .int (iI o)] (ih G, R) Q := by
  refine xm_176 (xs_176_0 ?_)
  simp only [yl1, yl2, yl3, yl4, yl5, yl6, iI_neg]
  obtain ⟨n0, n1, n2, n3, n4, n5⟩ := WF_n wf
  have rg := WF_rg wf
  unfold rgI at hp hday rg
  have key : ∀ s, 0 ≤ s → s ≤ w 4 → ∀ b, -1 ≤ b → b < s → IsMn (fun t => -dy w t) (fun t => qah w dr p day o t ∧ t < s) b → xAt xT_176 (xW xP (d + 1)) Q R.2 6 [.ref 297, .int (iI p), .int (iI day), .int (iI o), .int (iI b), .int (iI s)] [] (ih G, R) := by
    refine up_ind 0 (w 4) ?_ ?_
    · intro b b1 b2 hb
      refine xs_176_6 ?_
      simp (disch := first | omega | exact (rg _).1 | exact (rg _).2) only [rm, kxm, hw, yl1, yl2, yl3, yl4, yl5, yl6, iI_neg, iI_add, iI_sub, iI_mul, iI_in, ih_cl, ih_rd, true_and, and_true, iI_le, iI_lt, iI_eq, iI_ite, xrI_i, xr0_i, xrR_i, xrL_i, Nat.cast_ofNat_Int, xsi_l, xsi_c, ug_k, ug_s, ug_j, Int.le_refl, true_implies, false_implies, not_true_eq_false, not_false_eq_true, and_self, implies_true]
      have hb2 : IsMn (fun t => -dy w t) (qah w dr p day o) b := hb.imp (fun h => ⟨h.1, fun t ht => h.2 t ⟨ht, ht.1.2.1⟩⟩) (fun h => ⟨h.1.1, fun t ht => h.2 t ⟨ht, ht.1.2.1⟩⟩)
      exact hQ b (ah_eq wf hb2).symm hb2 b1 b2
    · intro s s1 s2 ihs b b1 b2 hb
      have ws := WF_s wf s1 s2
      have hn : ¬ w 4 ≤ s := by omega
      have h63 : qah w dr p day o s → xAt xT_176 (xW xP (d + 1)) Q R.2 63 [.ref 297, .int (iI p), .int (iI day), .int (iI o), .int (iI b), .int (iI s)] [] (ih G, R) := by
        intro hs
        refine xs_176_63 ?_
        simp (disch := first | omega | exact (rg _).1 | exact (rg _).2) only [rm, kxm, hw, yl1, yl2, yl3, yl4, yl5, yl6, iI_neg, iI_add, iI_sub, iI_mul, iI_in, ih_cl, ih_rd, true_and, and_true, iI_le, iI_lt, iI_eq, iI_ite, xrI_i, xr0_i, xrR_i, xrL_i, Nat.cast_ofNat_Int, xsi_l, xsi_c, ug_k, ug_s, ug_j, c167 rm hw]
        refine ⟨fun c => ?_, fun c => ⟨fun e => ?_, fun e => ?_⟩⟩ <;> refine ihs _ (by omega) (by omega) ?_ <;> unfold IsMn at hb ⊢ <;> unfold qah sho at * <;> grind
      have hsk : ¬ qah w dr p day o s → xAt xT_176 (xW xP (d + 1)) Q R.2 6 [.ref 297, .int (iI p), .int (iI day), .int (iI o), .int (iI b), .int (iI (s + 1))] [] (ih G, R) := by
        intro hs
        refine ihs b b1 (by omega) ?_
        unfold IsMn at hb ⊢
        unfold qah sho at *
        grind
      refine xs_176_6 ?_
      simp (disch := first | omega | exact (rg _).1 | exact (rg _).2) only [rm, kxm, hw, yl1, yl2, yl3, yl4, yl5, yl6, iI_neg, iI_add, iI_sub, iI_mul, iI_in, ih_cl, ih_rd, true_and, and_true, iI_le, iI_lt, iI_eq, iI_ite, xrI_i, xr0_i, xrR_i, xrL_i, Nat.cast_ofNat_Int, xsi_l, xsi_c, ug_k, ug_s, ug_j, hdr, hn, c166 rm hw, c167 rm hw, c168 rm hw, true_implies, false_implies, not_true_eq_false, not_false_eq_true, and_self, implies_true]
      refine ⟨fun c => hsk ?_, fun c => ⟨fun e => hsk ?_, fun e => ⟨fun f => hsk ?_, fun f => ⟨fun g => h63 ?_, fun g => ⟨fun i => h63 ?_, fun i => hsk ?_⟩⟩⟩⟩⟩ <;> unfold qah sho <;> grind
  exact key 0 (by omega) (by omega) (-1) (by omega) (by omega) (Or.inl ⟨rfl, fun t ht => by have := ht.1.1.1; have := ht.2; omega⟩)
set_option maxHeartbeats 4000000 in
theorem c177 (rm : RM R) (hw : G 298 = w) (hdr : G 297 7 = dr) (wf : WF w) (hd1 : -1 ≤ dr) (hd2 : dr < 60) {p day : Int} (hp : rgI p) (hday : rgI day) (hQ : ∀ r, r = be w dr p day → IsMn (dy w) (qbe w dr p day) r → -1 ≤ r → r < w 4 → Q (some (.int (iI r))) (ih G, R)) : xW xP (d + 2) 177 [.ref 297, .int (iI p), .int (iI day)] (ih G, R) Q := by
  refine xm_177 (xs_177_0 ?_)
  simp only [yl1, yl2, yl3, yl4, yl5, yl6, iI_neg]
  obtain ⟨n0, n1, n2, n3, n4, n5⟩ := WF_n wf
  have rg := WF_rg wf
  unfold rgI at hp hday rg
  have key : ∀ s, 0 ≤ s → s ≤ w 4 → ∀ b, -1 ≤ b → b < s → IsMn (dy w) (fun t => qbe w dr p day t ∧ t < s) b → xAt xT_177 (xW xP (d + 1)) Q R.2 5 [.ref 297, .int (iI p), .int (iI day), .int (iI b), .int (iI s)] [] (ih G, R) := by
    refine up_ind 0 (w 4) ?_ ?_
    · intro b b1 b2 hb
      refine xs_177_5 ?_
      simp (disch := first | omega | exact (rg _).1 | exact (rg _).2) only [rm, kxm, hw, yl1, yl2, yl3, yl4, yl5, yl6, iI_neg, iI_add, iI_sub, iI_mul, iI_in, ih_cl, ih_rd, true_and, and_true, iI_le, iI_lt, iI_eq, iI_ite, xrI_i, xr0_i, xrR_i, xrL_i, Nat.cast_ofNat_Int, xsi_l, xsi_c, ug_k, ug_s, ug_j, Int.le_refl, true_implies, false_implies, not_true_eq_false, not_false_eq_true, and_self, implies_true]
      have hb2 : IsMn (dy w) (qbe w dr p day) b := hb.imp (fun h => ⟨h.1, fun t ht => h.2 t ⟨ht, ht.1.2.1⟩⟩) (fun h => ⟨h.1.1, fun t ht => h.2 t ⟨ht, ht.1.2.1⟩⟩)
      exact hQ b (be_eq wf hb2).symm hb2 b1 b2
    · intro s s1 s2 ihs b b1 b2 hb
      have ws := WF_s wf s1 s2
      have hn : ¬ w 4 ≤ s := by omega
      have hsk : ¬ qbe w dr p day s → xAt xT_177 (xW xP (d + 1)) Q R.2 5 [.ref 297, .int (iI p), .int (iI day), .int (iI b), .int (iI (s + 1))] [] (ih G, R) := by
        intro hs
        refine ihs b b1 (by omega) ?_
        unfold IsMn at hb ⊢
        unfold qbe sho at *
        grind
      refine xs_177_5 ?_
      simp (disch := first | omega | exact (rg _).1 | exact (rg _).2) only [rm, kxm, hw, yl1, yl2, yl3, yl4, yl5, yl6, iI_neg, iI_add, iI_sub, iI_mul, iI_in, ih_cl, ih_rd, true_and, and_true, iI_le, iI_lt, iI_eq, iI_ite, xrI_i, xr0_i, xrR_i, xrL_i, Nat.cast_ofNat_Int, xsi_l, xsi_c, ug_k, ug_s, ug_j, hdr, hn, c166 rm hw, c167 rm hw, c168 rm hw, true_implies, false_implies, not_true_eq_false, not_false_eq_true, and_self, implies_true]
      refine ⟨fun c => hsk ?_, fun c => ⟨fun e => hsk ?_, fun e => ⟨fun f => ⟨fun g => ihs _ (by omega) (by omega) ?_, fun g => ⟨fun i => ihs _ (by omega) (by omega) ?_, fun i => ihs _ (by omega) (by omega) ?_⟩⟩, fun f => hsk ?_⟩⟩⟩ <;> unfold IsMn at * <;> unfold qbe sho at * <;> grind
  exact key 0 (by omega) (by omega) (-1) (by omega) (by omega) (Or.inl ⟨rfl, fun t ht => by have := ht.1.1.1; have := ht.2; omega⟩)
set_option maxHeartbeats 4000000 in
theorem c181 (rm : RM R) (hw : G 298 = w) (hdr : G 297 7 = dr) (wf : WF w) (hd1 : -1 ≤ dr) (hd2 : dr < 60) {p day : Int} (hp : rgI p) (hday1 : 0 ≤ day) (hday2 : day ≤ 365) (hQ : ∀ r, r = nr w dr p day → IsMn (fun t => rk (w 0) day (dy w t)) (sho w dr p) r → -1 ≤ r → r < w 4 → Q (some (.int (iI r))) (ih G, R)) : xW xP (d + 3) 181 [.ref 297, .int (iI p), .int (iI day)] (ih G, R) Q := by
  refine xm_181 (xs_181_0 ?_)
  simp only [yl1, yl2, yl3, yl4, yl5, yl6, iI_neg]
  obtain ⟨n0, n1, n2, n3, n4, n5⟩ := WF_n wf
  have rg := WF_rg wf
  have hp0 := hp
  unfold rgI at hp rg
  have key : ∀ s, 0 ≤ s → s ≤ w 4 → ∀ b, -1 ≤ b → b < s → ((b = -1 ∧ ∀ t, sho w dr p t → t < s → dy w t ≠ day) ∨ (sho w dr p b ∧ dy w b = day)) → xAt xT_181 (xW xP (d + 2)) Q R.2 5 [.ref 297, .int (iI p), .int (iI day), .int (iI b), .int (iI s), .null, .null, .null] [] (ih G, R) := by
    refine up_ind 0 (w 4) ?_ ?_
    · intro b b1 b2 hb
      refine xs_181_5 ?_
      simp (disch := first | omega | exact (rg _).1 | exact (rg _).2) only [rm, kxm, hw, yl1, yl2, yl3, yl4, yl5, yl6, iI_neg, iI_add, iI_sub, iI_mul, iI_in, ih_cl, ih_rd, true_and, and_true, iI_le, iI_lt, iI_eq, iI_ite, xrI_i, xr0_i, xrR_i, xrL_i, Nat.cast_ofNat_Int, xsi_l, xsi_c, ug_k, ug_s, ug_j, Int.le_refl, true_implies, false_implies, not_true_eq_false, not_false_eq_true, and_self, implies_true]
      refine c176 rm hw hdr wf hd1 hd2 hp0 ⟨by omega, by omega⟩ (Or.inl rfl) (fun a _ ha a1 a2 => ?_)
      simp (disch := first | omega | exact (rg _).1 | exact (rg _).2) only [rm, kxm, hw, yl1, yl2, yl3, yl4, yl5, yl6, iI_neg, iI_add, iI_sub, iI_mul, iI_in, ih_cl, ih_rd, true_and, and_true, iI_le, iI_lt, iI_eq, iI_ite, xrI_i, xr0_i, xrR_i, xrL_i, Nat.cast_ofNat_Int, xsi_l, xsi_c, ug_k, ug_s, ug_j]
      refine c177 rm hw hdr wf hd1 hd2 hp0 ⟨by omega, by omega⟩ (fun c _ hc c1 c2 => ?_)
      have fin : ∀ r, (r = a ∨ r = b ∨ r = c) → IsMn (fun t => rk (w 0) day (dy w t)) (sho w dr p) r → Q (some (.int (iI r))) (ih G, R) := fun r hr h => hQ r (nr_eq wf hday1 hday2 h).symm h (by omega) (by omega)
      simp (disch := first | omega | exact (rg _).1 | exact (rg _).2) only [rm, kxm, hw, yl1, yl2, yl3, yl4, yl5, yl6, iI_neg, iI_add, iI_sub, iI_mul, iI_in, ih_cl, ih_rd, true_and, and_true, iI_le, iI_lt, iI_eq, iI_ite, xrI_i, xr0_i, xrR_i, xrL_i, Nat.cast_ofNat_Int, xsi_l, xsi_c, ug_k, ug_s, ug_j, c167 rm hw]
      have wa : 0 ≤ a → _ := fun h => WF_s wf h a2
      have wc : 0 ≤ c → _ := fun h => WF_s wf h c2
      have inj := fun x y hx hy => @sho_inj w wf dr p x y hx hy
      sorry
    · intro s s1 s2 ihs b b1 b2 hb
      have ws := WF_s wf s1 s2
      have hn : ¬ w 4 ≤ s := by omega
      refine xs_181_5 ?_
      simp (disch := first | omega | exact (rg _).1 | exact (rg _).2) only [rm, kxm, hw, yl1, yl2, yl3, yl4, yl5, yl6, iI_neg, iI_add, iI_sub, iI_mul, iI_in, ih_cl, ih_rd, true_and, and_true, iI_le, iI_lt, iI_eq, iI_ite, xrI_i, xr0_i, xrR_i, xrL_i, Nat.cast_ofNat_Int, xsi_l, xsi_c, ug_k, ug_s, ug_j, hdr, hn, c166 rm hw, c167 rm hw, c168 rm hw, true_implies, false_implies, not_true_eq_false, not_false_eq_true, and_self, implies_true]
      refine ⟨fun c => ihs _ (by omega) (by omega) ?_, fun c => ⟨fun e => ihs _ (by omega) (by omega) ?_, fun e => ⟨fun f => ihs _ (by omega) (by omega) ?_, fun f => ihs _ (by omega) (by omega) ?_⟩⟩⟩ <;> unfold sho at * <;> grind
  exact key 0 (by omega) (by omega) (-1) (by omega) (by omega) (Or.inl ⟨rfl, fun t ht h => by have := ht.1; omega⟩)
