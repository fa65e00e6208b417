/-! THE LAW'S START: what the Statement gives, in the machine's words. -/
def xkR : List Nat := [55, 64, 82, 87, 98, 105, 107, 109, 111, 125, 129, 141, 155, 167, 169]
def xkM : List Nat := [284, 286, 282, 306, 312, 288, 290, 292, 294, 320, 296, 298, 326, 331, 332]
def xtm (i : Nat) : Term := .string "AsOfPages$Reader" (xkR.getD i 0)
def xtm2 (i : Nat) : Term := .string "AsOfPagesModel" (xkM.getD i 0)
theorem xskT_ok : ∀ q ∈ xskT, (q.2.2 < 15 ∧ (q.1 = "AsOfPages$Reader" ∧ q.2.1 = xkR.getD q.2.2 0) ∨ (q.2.2 < 15 ∧ q.1 = "AsOfPagesModel" ∧ q.2.1 = xkM.getD q.2.2 0)) := by decide +kernel
theorem xn_ex : ∀ i, i < 15 → Cond.exactly (xtm i) "java/lang/String" ∈ flatC (Jvm.Cond.and given_1 narrow_1) := by decide +kernel
theorem xn_co : ∀ i, i < 15 → Cond.eq (.field (xtm i) "java/lang/String" "coder" "B") (.int 0) ∈ flatC (Jvm.Cond.and given_1 narrow_1) := by decide +kernel
theorem xn_ar : ∀ i, i < 15 → Cond.arrayOf (.field (xtm i) "java/lang/String" "value" "[B") .byte ∈ flatC (Jvm.Cond.and given_1 narrow_1) := by decide +kernel
theorem xn_le : ∀ i, i < 15 → Cond.eq (.length (.field (xtm i) "java/lang/String" "value" "[B")) (.int (Int32.ofNat (xtxt.getD i []).length)) ∈ flatC (Jvm.Cond.and given_1 narrow_1) := by decide +kernel
theorem xn_el : ∀ i, i < 15 → ∀ j, j < (xtxt.getD i []).length → Cond.eq (.elem (.field (xtm i) "java/lang/String" "value" "[B") (.int (Int32.ofNat j))) (.int ((xtxt.getD i []).getD j 0)) ∈ flatC (Jvm.Cond.and given_1 narrow_1) := by decide +kernel
theorem xn_eq : ∀ i, i < 15 → Cond.eq (xtm i) (xtm2 i) ∈ flatC (Jvm.Cond.and given_1 narrow_1) := by decide +kernel
theorem xn_st : Cond.eq (.static "java/lang/String" "COMPACT_STRINGS" "Z") (.int 1) ∈ flatC (Jvm.Cond.and given_1 narrow_1) ∧ Cond.isRef (.static "jdk/internal/util/Preconditions" "SIOOBE_FORMATTER" "Ljava/util/function/BiFunction;") ∈ flatC (Jvm.Cond.and given_1 narrow_1) := by decide +kernel
theorem xt_sr : ∀ q ∈ xskT, Cond.stringRef q.1 q.2.1 (xskN.getD q.2.2 "") ∈ lw_tbl := by decide +kernel
theorem xt_ot : Cond.methodLinkNest "AsOfPages$View" 40 xNest "AsOfPages" ∈ lw_tbl ∧ Cond.arrayOver (.object "AsOfPages$Archive") ∈ lw_tbl ∧ Cond.arrayOver (.object "AsOfPages$Spans") ∈ lw_tbl ∧ Cond.laysStatic "java/lang/String" "COMPACT_STRINGS" "Z" ∈ lw_tbl ∧ Cond.laysStatic "jdk/internal/util/Preconditions" "SIOOBE_FORMATTER" "Ljava/util/function/BiFunction;" ∈ lw_tbl ∧ Cond.initialized "java/lang/String" ∈ lw_tbl ∧ Cond.initialized "jdk/internal/util/Preconditions" ∈ lw_tbl := by decide +kernel
theorem xt_ac : Cond.arrayClass .int ∈ lw_tbl ∧ Cond.arrayClass .byte ∈ lw_tbl ∧ Cond.arrayClass .boolean ∈ lw_tbl := by decide +kernel
theorem xarrK {args : Array Value} {s : State} {ty : FieldType} (h : (Cond.arrayClass ty).before args s = true) (hn : ∀ C, ty ≠ .object C) : ∃ cA : ClassId, ArrOfT s cA ty ∧ va_RA s cA ty := by
  obtain ⟨cA, kA, comp, h1, h2, h3⟩ := Cond.arrayClass_spec h
  refine ⟨cA, fun n z => ⟨fun k h => (by cases h), kA, h2, comp, h3⟩, ?_⟩
  cases ty <;> first | exact h1 | exact absurd rfl (hn _)
theorem xarrQ {args : Array Value} {s : State} {C : String} (h : (Cond.arrayOver (.object C)).before args s = true) : ∃ cA : ClassId, ArrOfT s cA (.object C) ∧ va_RA s cA (.object C) := by
  obtain ⟨comp, cA, kA, h1, -, h2, h3, h4⟩ := Cond.arrayOver_spec h
  exact ⟨cA, fun n z => ⟨fun k h => (by cases h), kA, h2, comp, h3⟩, kA, comp, h2, h3, h1, h4⟩
theorem xfacts {p : Program} {s : State} {m : MethodId} {meth : Method} {c : Code} {b0 L : Nat} {xs : Nat → Int32} (C0 : lw_At p s m meth c b0 L xs) : ∃ (D : va_G) (cy : Nat → ClassId) (sa sv : Nat → Nat), va_K D vwCl (xtys cy) s ∧ xXX s.heap.size sa sv s s.heap ∧ sa 500 = b0 := by
  obtain ⟨hx, hb, hr, hml, hown, hts, hX, hbl, hlocks, hgv⟩ := C0
  have hfl := flat_of_before _ hgv
  have hin : ∀ w ∈ xG, w.before #[Value.ref b0] s = true := fun w hw => hts w (List.mem_filter.mp hw).1
  have hA : ∀ a : Nat, a < s.heap.size → ¬ xA s.heap.size a := fun a h => Nat.not_le.mpr h
  -- classes
  have hcl : ∀ k, ∃ q : ClassId × (Nat → Nat), k < 10 → u_Kn s (xcl k).1 (xcl k).2.1 (xcl k).2.2 q.1 q.2 := by
    intro k
    by_cases hk : k < 10
    · obtain ⟨cC, iS, h⟩ := u_known (ws := xG) (n := (xcl k).2.2) hin (xin_all k hk) (hin _ (xinst_all k hk).1)
      exact ⟨(cC, iS), fun _ => h⟩
    · exact ⟨(0, fun _ => 0), fun h => absurd h hk⟩
  obtain ⟨fD, hfD⟩ := Classical.axiomOfChoice hcl
  obtain ⟨c0, a0⟩ := xarrK (hts _ xt_ac.1) (fun C h => by cases h)
  obtain ⟨c1, a1⟩ := xarrK (hts _ xt_ac.2.1) (fun C h => by cases h)
  obtain ⟨c2, a2⟩ := xarrK (hts _ xt_ac.2.2) (fun C h => by cases h)
  obtain ⟨c3, a3⟩ := xarrQ (hts _ xt_ot.2.1)
  obtain ⟨c4, a4⟩ := xarrQ (hts _ xt_ot.2.2.1)
  -- texts
  have htx : ∀ i : Nat, ∃ q : Nat × Nat, i < 15 → (xtm i).eval #[Value.ref b0] s none [] s = some (.ref q.1) ∧ va_O "java/lang/String" q.1 (xA s.heap.size) s s.heap ∧ va_OF "java/lang/String" "coder" "B" (.int 0) q.1 (xA s.heap.size) s s.heap ∧ va_OF "java/lang/String" "value" "[B" (.ref q.2) q.1 (xA s.heap.size) s s.heap ∧ va_T .byte q.2 (xtxt.getD i []).length (fun j => .int ((xtxt.getD i []).getD j 0)) (xA s.heap.size) s s.heap := by
    intro i
    by_cases hi : i < 15
    · obtain ⟨a, c', cA, kA, q1, q2, q3, q4, q5, q6, -⟩ := Cond.exactly_spec (args := #[Value.ref b0]) (first := s) (o := none) (s := s) (idx := []) (t := xtm i) (cls := "java/lang/String") (hfl _ (xn_ex i hi))
      obtain ⟨t, ht, hT⟩ := va_Tof (f := fun j => .int ((xtxt.getD i []).getD j 0)) (A := xA s.heap.size) (Nat.lt_trans (xtx_ok i hi).1 (by decide)) (hfl _ (xn_ar i hi)) (va_eqt (hfl _ (xn_le i hi))) (fun j hj => va_eqt (hfl _ (xn_el i hi j hj))) hA
      exact ⟨(a, t), fun _ => ⟨q1, ⟨cA, q3, q5, by rw [q6]; exact q2, hA a (Array.getElem?_eq_some_iff.mp q3).1⟩, vk_OFof q1 (va_eqt (hfl _ (xn_co i hi))) hA, vk_OFof q1 ht hA, hT⟩⟩
    · exact ⟨(0, 0), fun h => absurd h hi⟩
  obtain ⟨ad, had⟩ := Classical.axiomOfChoice htx
  refine ⟨(fun k => (fD k).1, fun k => (fD k).2), fun k => match k with | 0 => c0 | 1 => c1 | 2 => c2 | 3 => c3 | _ => c4, fun i => if i = 500 then b0 else (ad i).1, fun i => (ad i).2, ⟨fun k q hq => ?_, fun k q hq => ?_⟩, ⟨va_Nw.of rfl (hts _ xt_ot.1), va_AO.of (hts _ xt_ot.2.1), va_AO.of (hts _ xt_ot.2.2.1), fun own k i hi => ?_, ⟨fun i hi => ?_, ?_, ?_⟩⟩, if_pos rfl⟩
  · have hk : k < 10 := (List.getElem?_eq_some_iff.mp hq).1
    rw [xcl_at k hk] at hq
    cases hq
    exact hfD k hk
  · have hk : k < 5 := (List.getElem?_eq_some_iff.mp hq).1
    match k, hk with
    | 0, _ => cases hq; exact a0
    | 1, _ => cases hq; exact a1
    | 2, _ => cases hq; exact a2
    | 3, _ => cases hq; exact a3
    | 4, _ => cases hq; exact a4
    | k + 5, h => omega
  · have hsr : (Cond.stringRef own k (xskN.getD i "")).before #[Value.ref b0] s = true := hts _ (xt_sr _ hi)
    rcases xskT_ok _ hi with ⟨g1, g2, g3⟩ | ⟨g1, g2, g3⟩
    · replace g1 : i < 15 := g1
      replace g2 : own = "AsOfPages$Reader" := g2
      replace g3 : k = xkR.getD i 0 := g3
      rw [g2, g3] at hsr ⊢
      show vk_R _ _ _ (if i = 500 then b0 else (ad i).1) s
      rw [if_neg (by omega)]
      exact vk_R.of hsr (had i g1).1
    · replace g1 : i < 15 := g1
      replace g2 : own = "AsOfPagesModel" := g2
      replace g3 : k = xkM.getD i 0 := g3
      rw [g2, g3] at hsr ⊢
      show vk_R _ _ _ (if i = 500 then b0 else (ad i).1) s
      rw [if_neg (by omega)]
      exact vk_R.of hsr (va_eqR (hfl _ (xn_eq i g1)) (had i g1).1)
  · have hi : i < 15 := hi
    simp only [if_neg (show ¬ i = 500 by omega)]
    exact (had i hi).2
  · exact va_Zof (hts _ xt_ot.2.2.2.1) (hts _ xt_ot.2.2.2.2.2.1) (va_eqi (hfl _ xn_st.1)) hA
  · exact va_Zqof (hts _ xt_ot.2.2.2.2.1) (hts _ xt_ot.2.2.2.2.2.2) (hfl _ xn_st.2) hA
