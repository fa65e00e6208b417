/-! THE PURE MACHINE IS SOUND: worlds, the relation to the machine's heap, the plain instructions. -/
def xG : List Cond := lw_tbl.filter goodWord
theorem xG_good : ∀ w ∈ xG, (w.onTables && w.keeps) = true ∨ ∃ ty, w = .arrayClass ty := fun w h => good_of_word (List.mem_filter.mp h).2
def xtab (k : Nat) : List Cond := match k with
  | 1 => tables_1_1
  | 2 => tables_1_2
  | 3 => tables_1_3
  | 4 => tables_1_4
  | 5 => tables_1_5
  | 6 => tables_1_6
  | 7 => tables_1_7
  | 8 => tables_1_8
  | 11 => k2_sels lw_privs_1
  | 12 => k2_sels lw_privs_2
  | 13 => k2_sels lw_privs_3
  | 14 => k2_sels lw_privs_4
  | 15 => k2_sels lw_privs_5
  | 16 => k2_sels lw_privs_6
  | 17 => k2_sels lw_privs_7
  | 18 => k2_sels lw_privs_8
  | _ => []
theorem xsel_in {q : MethodName × Nat} {a : List (MethodName × Nat)} (ha : ∀ q ∈ a, q ∈ lw_privs) {w : Cond} (h : w ∈ k2_sels a) : w ∈ lw_tbl := by
  obtain ⟨q, h1, h2⟩ := List.mem_map.mp h
  exact List.mem_append_left _ (List.mem_map.mpr ⟨q, ha q h1, h2⟩)
theorem xtab_in {k : Nat} {w : Cond} (h : w ∈ xtab k) : w ∈ lw_tbl := by
  unfold xtab at h
  split at h
  · exact List.mem_append_right _ (List.mem_append_left _ h)
  · exact List.mem_append_right _ (List.mem_append_right _ (List.mem_append_left _ h))
  · exact List.mem_append_right _ (List.mem_append_right _ (List.mem_append_right _ (List.mem_append_left _ h)))
  · exact List.mem_append_right _ (List.mem_append_right _ (List.mem_append_right _ (List.mem_append_right _ (List.mem_append_left _ h))))
  · exact List.mem_append_right _ (List.mem_append_right _ (List.mem_append_right _ (List.mem_append_right _ (List.mem_append_right _ (List.mem_append_left _ h)))))
  · exact List.mem_append_right _ (List.mem_append_right _ (List.mem_append_right _ (List.mem_append_right _ (List.mem_append_right _ (List.mem_append_right _ (List.mem_append_left _ h))))))
  · exact List.mem_append_right _ (List.mem_append_right _ (List.mem_append_right _ (List.mem_append_right _ (List.mem_append_right _ (List.mem_append_right _ (List.mem_append_right _ (List.mem_append_left _ h)))))))
  · exact List.mem_append_right _ (List.mem_append_right _ (List.mem_append_right _ (List.mem_append_right _ (List.mem_append_right _ (List.mem_append_right _ (List.mem_append_right _ (List.mem_append_right _ h)))))))
  · exact xsel_in (q := (⟨"", "", ""⟩, 0)) (fun q hq => List.mem_append_left _ hq) h
  · exact xsel_in (q := (⟨"", "", ""⟩, 0)) (fun q hq => List.mem_append_right _ (List.mem_append_left _ hq)) h
  · exact xsel_in (q := (⟨"", "", ""⟩, 0)) (fun q hq => List.mem_append_right _ (List.mem_append_right _ (List.mem_append_left _ hq))) h
  · exact xsel_in (q := (⟨"", "", ""⟩, 0)) (fun q hq => List.mem_append_right _ (List.mem_append_right _ (List.mem_append_right _ (List.mem_append_left _ hq)))) h
  · exact xsel_in (q := (⟨"", "", ""⟩, 0)) (fun q hq => List.mem_append_right _ (List.mem_append_right _ (List.mem_append_right _ (List.mem_append_right _ (List.mem_append_left _ hq))))) h
  · exact xsel_in (q := (⟨"", "", ""⟩, 0)) (fun q hq => List.mem_append_right _ (List.mem_append_right _ (List.mem_append_right _ (List.mem_append_right _ (List.mem_append_right _ (List.mem_append_left _ hq)))))) h
  · exact xsel_in (q := (⟨"", "", ""⟩, 0)) (fun q hq => List.mem_append_right _ (List.mem_append_right _ (List.mem_append_right _ (List.mem_append_right _ (List.mem_append_right _ (List.mem_append_right _ (List.mem_append_left _ hq))))))) h
  · exact xsel_in (q := (⟨"", "", ""⟩, 0)) (fun q hq => List.mem_append_right _ (List.mem_append_right _ (List.mem_append_right _ (List.mem_append_right _ (List.mem_append_right _ (List.mem_append_right _ (List.mem_append_right _ hq))))))) h
  · exact absurd h List.not_mem_nil
def xlk (d : Nat) (w : Cond) : Bool := decide ((xtab (d / 1000))[d % 1000]? = some w) && goodWord w
theorem xlk_in {d : Nat} {w : Cond} (h : xlk d w = true) : w ∈ xG := by
  simp only [xlk, Bool.and_eq_true, decide_eq_true_eq] at h
  exact List.mem_filter.mpr ⟨xtab_in (List.mem_of_getElem? h.1), h.2⟩
def xr (b : Nat) (sa : Nat → Nat) (k : Nat) : Nat := if k < 1000 then b + k else sa (k - 1000)
def xlv (r : Nat → Nat) (v : Value) : Value := match v with
  | .ref k => .ref (r k)
  | v => v
def xvr (r : Nat → Nat) (k : Nat) : Value := if k = xNUL then .null else .ref (r k)
def xfs (r : Nat → Nat) (h : xM) (k c : Nat) : List Value := (List.range (xcl c).2.2).map fun j => if xisI ((xcl c).2.1 j).2.2.1 = true then .int (h.1 k j) else xvr r (h.2.1 k j)
def xrow (r : Nat → Nat) (h : xM) (k : Nat) : Nat → Option Nat := fun j => if h.2.1 k j = xNUL then none else some (r (h.2.1 k j))
def xcell (cy : Nat → ClassId) (r : Nat → Nat) (h : xM) (k : Nat) : va_E :=
  if (xsh k).1 < 10 then .inr ((xsh k).1, xfs r h k (xsh k).1)
  else if (xsh k).1 < 13 then .inl (cy ((xsh k).1 - 10), (xsh k).2, .inl (h.1 k))
  else .inl (cy ((xsh k).1 - 10), (xsh k).2, .inr (.inr (.inr (.inr (xrow r h k)))))
def xtys (cy : Nat → ClassId) : List (ClassId × FieldType) := [(cy 0, .int), (cy 1, .byte), (cy 2, .boolean), (cy 3, .object "AsOfPages$Archive"), (cy 4, .object "AsOfPages$Spans")]
def xVs (n : Nat) (st : List Value) : Prop := ∀ v ∈ st, ∀ k : Nat, v = .ref k → k < n ∨ 1000 ≤ k
def xvh (h : xM) : Prop := ∀ k j, k < h.2.2 → h.2.1 k j < h.2.2 ∨ 1000 ≤ h.2.1 k j
def xA (b : Nat) : Nat → Prop := fun q => b ≤ q
def xHd (D : va_G) (cy : Nat → ClassId) (r : Nat → Nat) (b n0 lim : Nat) (s : State) (h : xM) (H : Heap) (locs : List Loc) : Prop :=
  H.size = b + h.2.2 ∧ (∀ j, j < h.2.2 → va_at D vwCl (b + j, xcell cy r h j) H) ∧ xvh h ∧ va_S (xA b) s.heap H locs ∧ n0 ≤ h.2.2 ∧ h.2.2 ≤ lim ∧ lim ≤ xNK
def xLV (r : Nat → Nat) (nL : Nat) (la : Array Slot) (ls : List Value) : Prop := la.size = nL ∧ lv_wf la ∧ ∀ (j : Nat) (v : Value), ls[j]? = some v → v ≠ .null → la[j]? = some (.val (xlv r v))
def xSim (p : Program) (l : Launch) (e : Env) (R : Room) (s : State) (m : MethodId) (args : Array Value) (below : List Frame) (meth : Method) (c : Code) (Q : State → Prop) (nL n0 lim b : Nat) (D : va_G) (cy : Nat → ClassId) (r : Nat → Nat) (pc : Nat) (ls st : List Value) (h : xM) : Prop :=
  ∀ (H : Heap) (locs : List Loc) (la : Array Slot), xHd D cy r b n0 lim s h H locs → xLV r nL la ls → xVs h.2.2 ls → xVs h.2.2 st → W p l e R s m args below meth c H locs (h.2.2 - n0) (xS h.2.2 - xS n0) Q (F0 m pc la (st.map (xlv r)))
def xFx (p : Program) (s : State) (m : MethodId) (args : Array Value) (c : Code) (cc : ByteArray) (nL : Nat) (own : String) (D : va_G) (cy : Nat → ClassId) (r : Nat → Nat) (b n0 : Nat) : Prop :=
  p.tables.exec = Jvm.exec ∧ c.code = cc ∧ c.maxLocals = nL ∧ s.vm.findClass own = some m.cls ∧ (∀ w ∈ xG, w.before args s = true) ∧ va_K D vwCl (xtys cy) s ∧ s.heap.size = b + n0 ∧ ∀ k, k < 1000 → r k = b + k
theorem xVs_t {n : Nat} {v : Value} {st : List Value} (h : xVs n (v :: st)) : xVs n st := fun w hw => h w (List.mem_cons_of_mem _ hw)
theorem xVs_i {n : Nat} {a : Int32} {st : List Value} (h : xVs n st) : xVs n (.int a :: st) := by
  intro w hw k e
  rcases List.mem_cons.mp hw with rfl | hw
  · cases e
  · exact h w hw k e
theorem xVs_l {n : Nat} {a : Int64} {st : List Value} (h : xVs n st) : xVs n (.long a :: st) := by
  intro w hw k e
  rcases List.mem_cons.mp hw with rfl | hw
  · cases e
  · exact h w hw k e
theorem xVs_r {n k : Nat} {st : List Value} (hk : k < n ∨ 1000 ≤ k) (h : xVs n st) : xVs n (.ref k :: st) := by
  intro w hw j e
  rcases List.mem_cons.mp hw with rfl | hw
  · cases e; exact hk
  · exact h w hw j e
theorem xVs_h {n k : Nat} {st : List Value} (h : xVs n (.ref k :: st)) : k < n ∨ 1000 ≤ k := h _ List.mem_cons_self k rfl
theorem xVs_g {n i : Nat} {v : Value} {ls : List Value} (h : xVs n ls) (e : ls[i]? = some v) : ∀ k : Nat, v = .ref k → k < n ∨ 1000 ≤ k := h v (List.mem_of_getElem? e)
theorem xVs_v {n : Nat} {v : Value} {st : List Value} (hv : ∀ k : Nat, v = .ref k → k < n ∨ 1000 ≤ k) (h : xVs n st) : xVs n (v :: st) := by
  intro w hw k e
  rcases List.mem_cons.mp hw with rfl | hw
  · exact hv k e
  · exact h w hw k e
theorem xVs_s {n i : Nat} {v : Value} {ls : List Value} (hv : ∀ k : Nat, v = .ref k → k < n ∨ 1000 ≤ k) (h : xVs n ls) : xVs n (ls.set i v) := by
  intro w hw k e
  rcases List.mem_or_eq_of_mem_set hw with hw | rfl
  · exact h w hw k e
  · exact hv k e
theorem xkl_mem {w : Value} : ∀ {ls : List Value} {i : Nat}, w ∈ xkl ls i → w ∈ ls ∨ w = .null := by
  intro ls
  induction ls with
  | nil => intro i h; exact Or.inl h
  | cons x t ih =>
    intro i h
    match i with
    | 0 => exact Or.inl h
    | 1 =>
      rcases List.mem_cons.mp h with z | z
      · cases hb : Nat.beq x.category 2 with
        | true => rw [hb] at z; exact Or.inr z
        | false => rw [hb] at z; exact Or.inl (List.mem_cons.mpr (Or.inl z))
      · exact Or.inl (List.mem_cons_of_mem _ z)
    | i + 2 =>
      rcases List.mem_cons.mp h with z | z
      · exact Or.inl (List.mem_cons.mpr (Or.inl z))
      · rcases ih z with y | y
        · exact Or.inl (List.mem_cons_of_mem _ y)
        · exact Or.inr y
theorem xVs_kl {n i : Nat} {ls : List Value} (h : xVs n ls) : xVs n (xkl ls i) := by
  intro w hw k e
  rcases xkl_mem hw with z | z
  · exact h w z k e
  · rw [z] at e; cases e
theorem xVs_s1 {n i : Nat} {v : Value} {ls : List Value} (hv : ∀ k : Nat, v = .ref k → k < n ∨ 1000 ≤ k) (h : xVs n ls) : xVs n (xs1 ls i v) := xVs_s hv (xVs_kl h)
theorem xVs_s2 {n i : Nat} {v : Value} {ls : List Value} (hv : ∀ k : Nat, v = .ref k → k < n ∨ 1000 ≤ k) (h : xVs n ls) : xVs n (xs2 ls i v) := xVs_s (fun k e => by cases e) (xVs_s hv (xVs_kl h))
theorem xVs_ni {n : Nat} {a : Int32} : ∀ k, Value.int a = .ref k → k < n ∨ 1000 ≤ k := fun k e => by cases e
theorem xVs_nl {n : Nat} {a : Int64} : ∀ k, Value.long a = .ref k → k < n ∨ 1000 ≤ k := fun k e => by cases e
/-- the locals as the kit's list -/
def xal (r : Nat → Nat) (ls : List Value) : List (Nat × Value) := (List.range ls.length).filterMap fun j => match (ls[j]? : Option Value) with
  | some Value.null => none
  | some v => some (j, xlv r v)
  | none => none
theorem xal_mem {r : Nat → Nat} {ls : List Value} {j : Nat} {v : Value} (h : ls[j]? = some v) (hn : v ≠ .null) : (j, xlv r v) ∈ xal r ls := by
  have hj : j < ls.length := (List.getElem?_eq_some_iff.mp h).1
  refine List.mem_filterMap.mpr ⟨j, List.mem_range.mpr hj, ?_⟩
  rw [h]
  cases v <;> first | rfl | exact absurd rfl hn
theorem xal_of {r : Nat → Nat} {ls : List Value} {q : Nat × Value} (h : q ∈ xal r ls) : ∃ v, ls[q.1]? = some v ∧ v ≠ .null ∧ q.2 = xlv r v := by
  obtain ⟨j, -, hj⟩ := List.mem_filterMap.mp h
  split at hj
  · cases hj
  · rename_i v hv hg
    cases hj
    exact ⟨v, hg, fun e => hv e, rfl⟩
  · cases hj
theorem xLV_has {r : Nat → Nat} {nL : Nat} {la : Array Slot} {ls : List Value} (h : xLV r nL la ls) : lv_has la nL (xal r ls) := by
  refine ⟨h.1, h.2.1, fun q hq => ?_⟩
  obtain ⟨v, h1, h2, h3⟩ := xal_of hq
  rw [h3]
  exact h.2.2 _ _ h1 h2
theorem xlv_cat (r : Nat → Nat) (v : Value) : (xlv r v).category = v.category := by cases v <;> rfl
theorem xkl_get : ∀ {ls : List Value} {i j : Nat} {v : Value}, (xkl ls i)[j]? = some v → v ≠ .null → ls[j]? = some v ∧ ¬ (j + 1 = i ∧ v.category = 2) := by
  intro ls
  induction ls with
  | nil => intro i j v h _; simp [xkl] at h
  | cons x t ih =>
    intro i j v h hn
    match i with
    | 0 => exact ⟨h, fun q => by omega⟩
    | 1 =>
      match j with
      | 0 =>
        have h : some (bif Nat.beq x.category 2 then Value.null else x) = some v := h
        cases hb : Nat.beq x.category 2 with
        | true => rw [hb] at h; cases h; exact absurd rfl hn
        | false =>
          rw [hb] at h
          have h : some x = some v := h
          cases h
          refine ⟨rfl, fun q => ?_⟩
          rw [q.2] at hb
          cases hb
      | j + 1 => exact ⟨h, fun q => by omega⟩
    | i + 2 =>
      match j with
      | 0 => exact ⟨h, fun q => by omega⟩
      | j + 1 =>
        have h : (xkl t (i + 1))[j]? = some v := h
        obtain ⟨h1, h2⟩ := ih h hn
        exact ⟨h1, fun q => h2 ⟨by omega, q.2⟩⟩
theorem xLV_s1 {r : Nat → Nat} {nL i : Nat} {la : Array Slot} {ls : List Value} {v w : Value} (hw : w = xlv r v) (h : lv_has la nL ((i, w) :: (xal r ls).filter (fun q => !(q.1 == i) && !(q.1 + 1 == i && q.2.category == 2)))) : xLV r nL la (xs1 ls i v) := by
  refine ⟨h.1, h.2.1, fun j u hj hu => ?_⟩
  unfold xs1 at hj
  by_cases e : j = i
  · subst e
    have hl : j < ((xkl ls j).set j v).length := (List.getElem?_eq_some_iff.mp hj).1
    rw [List.length_set] at hl
    rw [List.getElem?_set_self hl] at hj
    cases hj
    rw [← hw]
    exact h.2.2 (j, w) List.mem_cons_self
  · rw [List.getElem?_set_ne (fun q => e q.symm)] at hj
    obtain ⟨h1, h2⟩ := xkl_get hj hu
    refine h.2.2 (j, xlv r u) (List.mem_cons_of_mem _ (List.mem_filter.mpr ⟨xal_mem h1 hu, ?_⟩))
    simp only [xlv_cat, Bool.and_eq_true, Bool.not_eq_true', beq_eq_false_iff_ne, ne_eq, Bool.and_eq_false_iff]
    refine ⟨e, ?_⟩
    by_cases q : j + 1 = i
    · exact Or.inr (fun z => h2 ⟨q, z⟩)
    · exact Or.inl q
theorem xLV_s2 {r : Nat → Nat} {nL i : Nat} {la : Array Slot} {ls : List Value} {v w : Value} (hw : w = xlv r v) (h : lv_has la nL ((i, w) :: (xal r ls).filter (fun q => !(q.1 == i) && (!(q.1 == i + 1) && !(q.1 + 1 == i && q.2.category == 2))))) : xLV r nL la (xs2 ls i v) := by
  refine ⟨h.1, h.2.1, fun j u hj hu => ?_⟩
  unfold xs2 at hj
  by_cases e2 : j = i + 1
  · subst e2
    have hl : i + 1 < (((xkl ls i).set i v).set (i + 1) .null).length := (List.getElem?_eq_some_iff.mp hj).1
    rw [List.length_set] at hl
    rw [List.getElem?_set_self hl] at hj
    cases hj
    exact absurd rfl hu
  · rw [List.getElem?_set_ne (fun q => e2 q.symm)] at hj
    by_cases e : j = i
    · subst e
      have hl : j < ((xkl ls j).set j v).length := (List.getElem?_eq_some_iff.mp hj).1
      rw [List.length_set] at hl
      rw [List.getElem?_set_self hl] at hj
      cases hj
      rw [← hw]
      exact h.2.2 (j, w) List.mem_cons_self
    · rw [List.getElem?_set_ne (fun q => e q.symm)] at hj
      obtain ⟨h1, h2⟩ := xkl_get hj hu
      refine h.2.2 (j, xlv r u) (List.mem_cons_of_mem _ (List.mem_filter.mpr ⟨xal_mem h1 hu, ?_⟩))
      simp only [xlv_cat, Bool.and_eq_true, Bool.not_eq_true', beq_eq_false_iff_ne, ne_eq, Bool.and_eq_false_iff]
      refine ⟨e, e2, ?_⟩
      by_cases q : j + 1 = i
      · exact Or.inr (fun z => h2 ⟨q, z⟩)
      · exact Or.inl q
theorem xLV_clr {r : Nat → Nat} {nL : Nat} {la : Array Slot} : ∀ {cl : List Nat} {ls : List Value}, xLV r nL la ls → xLV r nL la (xclr cl ls) := by
  intro cl
  induction cl with
  | nil => intro ls h; exact h
  | cons i t ih =>
    intro ls h
    refine ih (ls := ls.set i .null) ⟨h.1, h.2.1, fun j v hj hv => ?_⟩
    by_cases e : j = i
    · subst e
      have hl := (List.getElem?_eq_some_iff.mp hj).1
      rw [List.length_set] at hl
      rw [List.getElem?_set_self hl] at hj
      cases hj
      exact absurd rfl hv
    · rw [List.getElem?_set_ne (fun q => e q.symm)] at hj
      exact h.2.2 j v hj hv
theorem xVs_clr {n : Nat} : ∀ {cl : List Nat} {ls : List Value}, xVs n ls → xVs n (xclr cl ls) := by
  intro cl
  induction cl with
  | nil => intro ls h; exact h
  | cons i t ih => intro ls h; exact ih (xVs_s (fun k e => by cases e) h)
section XP
variable {p : Program} {l : Launch} {e : Env} {R : Room} {s : State} {m : MethodId} {args : Array Value} {below : List Frame} {meth : Method} {c : Code} {Q : State → Prop} {cc : ByteArray} {nL n0 lim b : Nat} {D : va_G} {cy : Nat → ClassId} {r : Nat → Nat} {own : String} {pc : Nat} {ls st : List Value} {h : xM}
theorem xSim_clr {cl : List Nat} (x : xSim p l e R s m args below meth c Q nL n0 lim b D cy r pc (xclr cl ls) st h) : xSim p l e R s m args below meth c Q nL n0 lim b D cy r pc ls st h := fun H locs la hH hl hv hw => x H locs la hH (xLV_clr hl) (xVs_clr hv) hw
theorem xq_iconst (F : xFx p s m args c cc nL own D cy r b n0) {n : Int} {v : Int32} (hdg : decode cc pc = .ok (.iconst n, 1)) (hv : Int32.ofInt n = v) (x : xSim p l e R s m args below meth c Q nL n0 lim b D cy r (pc + 1) ls (.int v :: st) h) : xSim p l e R s m args below meth c Q nL n0 lim b D cy r pc ls st h :=
  fun H locs la hH hl hv1 hw => lv_iconst F.1 F.2.1 hdg hv (x H locs la hH hl hv1 (xVs_i hw))
theorem xq_bipush (F : xFx p s m args c cc nL own D cy r b n0) {n : Int} {v : Int32} (hdg : decode cc pc = .ok (.bipush n, 2)) (hv : (Int8.ofInt n).toInt32 = v) (x : xSim p l e R s m args below meth c Q nL n0 lim b D cy r (pc + 2) ls (.int v :: st) h) : xSim p l e R s m args below meth c Q nL n0 lim b D cy r pc ls st h :=
  fun H locs la hH hl hv1 hw => lv_bipush F.1 F.2.1 hdg hv (x H locs la hH hl hv1 (xVs_i hw))
theorem xq_sipush (F : xFx p s m args c cc nL own D cy r b n0) {n : Int} {v : Int32} (hdg : decode cc pc = .ok (.sipush n, 3)) (hv : (Int16.ofInt n).toInt32 = v) (x : xSim p l e R s m args below meth c Q nL n0 lim b D cy r (pc + 3) ls (.int v :: st) h) : xSim p l e R s m args below meth c Q nL n0 lim b D cy r pc ls st h :=
  fun H locs la hH hl hv1 hw => lv_sipush F.1 F.2.1 hdg hv (x H locs la hH hl hv1 (xVs_i hw))
theorem xq_lconst (F : xFx p s m args c cc nL own D cy r b n0) {n : Fin 2} (hdg : decode cc pc = .ok (.lconst n, 1)) (x : xSim p l e R s m args below meth c Q nL n0 lim b D cy r (pc + 1) ls (.long (Int64.ofNat n.val) :: st) h) : xSim p l e R s m args below meth c Q nL n0 lim b D cy r pc ls st h :=
  fun H locs la hH hl hv1 hw => lv_lconst F.1 F.2.1 hdg rfl (x H locs la hH hl hv1 (xVs_l hw))
theorem xq_iload (F : xFx p s m args c cc nL own D cy r b n0) {n : Nat} (hdg : decode cc pc = .ok (.iload n, 2)) (x : xil ls n fun a => xSim p l e R s m args below meth c Q nL n0 lim b D cy r (pc + 2) ls (.int a :: st) h) : xSim p l e R s m args below meth c Q nL n0 lim b D cy r pc ls st h := by
  intro H locs la hH hl hv1 hw
  unfold xil at x
  split at x
  · rename_i a hg
    exact lv_iload F.1 F.2.1 hdg (hl.2.2 _ _ hg (fun e => by cases e)) (x H locs la hH hl hv1 (xVs_i hw))
  · exact x.elim
theorem xq_iload_n (F : xFx p s m args c cc nL own D cy r b n0) {n : Fin 4} (hdg : decode cc pc = .ok (.iload_n n, 1)) (x : xil ls n.val fun a => xSim p l e R s m args below meth c Q nL n0 lim b D cy r (pc + 1) ls (.int a :: st) h) : xSim p l e R s m args below meth c Q nL n0 lim b D cy r pc ls st h := by
  intro H locs la hH hl hv1 hw
  unfold xil at x
  split at x
  · rename_i a hg
    exact lv_iload_n F.1 F.2.1 hdg rfl (hl.2.2 _ _ hg (fun e => by cases e)) (x H locs la hH hl hv1 (xVs_i hw))
  · exact x.elim
theorem xq_lload (F : xFx p s m args c cc nL own D cy r b n0) {n : Nat} (hdg : decode cc pc = .ok (.lload n, 2)) (x : xll ls n fun a => xSim p l e R s m args below meth c Q nL n0 lim b D cy r (pc + 2) ls (.long a :: st) h) : xSim p l e R s m args below meth c Q nL n0 lim b D cy r pc ls st h := by
  intro H locs la hH hl hv1 hw
  unfold xll at x
  split at x
  · rename_i a hg
    exact lv_lload F.1 F.2.1 hdg (hl.2.2 _ _ hg (fun e => by cases e)) (x H locs la hH hl hv1 (xVs_l hw))
  · exact x.elim
theorem xq_lload_n (F : xFx p s m args c cc nL own D cy r b n0) {n : Fin 4} (hdg : decode cc pc = .ok (.lload_n n, 1)) (x : xll ls n.val fun a => xSim p l e R s m args below meth c Q nL n0 lim b D cy r (pc + 1) ls (.long a :: st) h) : xSim p l e R s m args below meth c Q nL n0 lim b D cy r pc ls st h := by
  intro H locs la hH hl hv1 hw
  unfold xll at x
  split at x
  · rename_i a hg
    exact lv_lload_n F.1 F.2.1 hdg rfl (hl.2.2 _ _ hg (fun e => by cases e)) (x H locs la hH hl hv1 (xVs_l hw))
  · exact x.elim
theorem xq_aload (F : xFx p s m args c cc nL own D cy r b n0) {n : Nat} (hdg : decode cc pc = .ok (.aload n, 2)) (x : xrl ls n fun a => xSim p l e R s m args below meth c Q nL n0 lim b D cy r (pc + 2) ls (.ref a :: st) h) : xSim p l e R s m args below meth c Q nL n0 lim b D cy r pc ls st h := by
  intro H locs la hH hl hv1 hw
  unfold xrl at x
  split at x
  · rename_i a hg
    exact lv_aload F.1 F.2.1 hdg (hl.2.2 _ _ hg (fun e => by cases e)) (x H locs la hH hl hv1 (xVs_r (xVs_g hv1 hg _ rfl) hw))
  · exact x.elim
theorem xq_aload_n (F : xFx p s m args c cc nL own D cy r b n0) {n : Fin 4} (hdg : decode cc pc = .ok (.aload_n n, 1)) (x : xrl ls n.val fun a => xSim p l e R s m args below meth c Q nL n0 lim b D cy r (pc + 1) ls (.ref a :: st) h) : xSim p l e R s m args below meth c Q nL n0 lim b D cy r pc ls st h := by
  intro H locs la hH hl hv1 hw
  unfold xrl at x
  split at x
  · rename_i a hg
    exact lv_aload_n F.1 F.2.1 hdg rfl (hl.2.2 _ _ hg (fun e => by cases e)) (x H locs la hH hl hv1 (xVs_r (xVs_g hv1 hg _ rfl) hw))
  · exact x.elim
theorem xq_istore (F : xFx p s m args c cc nL own D cy r b n0) {n : Nat} (hdg : decode cc pc = .ok (.istore n, 2)) (hn : n < nL) (x : xi1 st fun a t => xSim p l e R s m args below meth c Q nL n0 lim b D cy r (pc + 2) (xs1 ls n (.int a)) t h) : xSim p l e R s m args below meth c Q nL n0 lim b D cy r pc ls st h := by
  intro H locs la hH hl hv1 hw
  unfold xi1 at x
  split at x
  · refine lv_istore F.1 F.2.1 hdg (xLV_has hl) hn rfl (fun la' hl' => ?_)
    exact x H locs la' hH (xLV_s1 rfl hl') (xVs_s1 xVs_ni hv1) (xVs_t hw)
  · exact x.elim
theorem xq_istore_n (F : xFx p s m args c cc nL own D cy r b n0) {n : Fin 4} (hdg : decode cc pc = .ok (.istore_n n, 1)) (hn : n.val < nL) (x : xi1 st fun a t => xSim p l e R s m args below meth c Q nL n0 lim b D cy r (pc + 1) (xs1 ls n.val (.int a)) t h) : xSim p l e R s m args below meth c Q nL n0 lim b D cy r pc ls st h := by
  intro H locs la hH hl hv1 hw
  unfold xi1 at x
  split at x
  · refine lv_istore_n F.1 F.2.1 hdg rfl (xLV_has hl) hn rfl (fun la' hl' => ?_)
    exact x H locs la' hH (xLV_s1 rfl hl') (xVs_s1 xVs_ni hv1) (xVs_t hw)
  · exact x.elim
theorem xq_astore (F : xFx p s m args c cc nL own D cy r b n0) {n : Nat} (hdg : decode cc pc = .ok (.astore n, 2)) (hn : n < nL) (x : xr1 st fun a t => xSim p l e R s m args below meth c Q nL n0 lim b D cy r (pc + 2) (xs1 ls n (.ref a)) t h) : xSim p l e R s m args below meth c Q nL n0 lim b D cy r pc ls st h := by
  intro H locs la hH hl hv1 hw
  unfold xr1 at x
  split at x
  · refine lv_astore F.1 F.2.1 hdg (xLV_has hl) hn rfl (fun la' hl' => ?_)
    exact x H locs la' hH (xLV_s1 rfl hl') (xVs_s1 (fun k e => by cases e; exact xVs_h hw) hv1) (xVs_t hw)
  · exact x.elim
theorem xq_astore_n (F : xFx p s m args c cc nL own D cy r b n0) {n : Fin 4} (hdg : decode cc pc = .ok (.astore_n n, 1)) (hn : n.val < nL) (x : xr1 st fun a t => xSim p l e R s m args below meth c Q nL n0 lim b D cy r (pc + 1) (xs1 ls n.val (.ref a)) t h) : xSim p l e R s m args below meth c Q nL n0 lim b D cy r pc ls st h := by
  intro H locs la hH hl hv1 hw
  unfold xr1 at x
  split at x
  · refine lv_astore_n F.1 F.2.1 hdg rfl (xLV_has hl) hn rfl (fun la' hl' => ?_)
    exact x H locs la' hH (xLV_s1 rfl hl') (xVs_s1 (fun k e => by cases e; exact xVs_h hw) hv1) (xVs_t hw)
  · exact x.elim
theorem xq_lstore (F : xFx p s m args c cc nL own D cy r b n0) {n : Nat} (hdg : decode cc pc = .ok (.lstore n, 2)) (hn : n + 1 < nL) (x : xl1 st fun a t => xSim p l e R s m args below meth c Q nL n0 lim b D cy r (pc + 2) (xs2 ls n (.long a)) t h) : xSim p l e R s m args below meth c Q nL n0 lim b D cy r pc ls st h := by
  intro H locs la hH hl hv1 hw
  unfold xl1 at x
  split at x
  · refine lv_lstore F.1 F.2.1 hdg (xLV_has hl) hn rfl (fun la' hl' => ?_)
    exact x H locs la' hH (xLV_s2 rfl hl') (xVs_s2 xVs_nl hv1) (xVs_t hw)
  · exact x.elim
theorem xq_lstore_n (F : xFx p s m args c cc nL own D cy r b n0) {n : Fin 4} (hdg : decode cc pc = .ok (.lstore_n n, 1)) (hn : n.val + 1 < nL) (x : xl1 st fun a t => xSim p l e R s m args below meth c Q nL n0 lim b D cy r (pc + 1) (xs2 ls n.val (.long a)) t h) : xSim p l e R s m args below meth c Q nL n0 lim b D cy r pc ls st h := by
  intro H locs la hH hl hv1 hw
  unfold xl1 at x
  split at x
  · refine lv_lstore_n F.1 F.2.1 hdg rfl (xLV_has hl) hn rfl (fun la' hl' => ?_)
    exact x H locs la' hH (xLV_s2 rfl hl') (xVs_s2 xVs_nl hv1) (xVs_t hw)
  · exact x.elim
theorem xq_iinc (F : xFx p s m args c cc nL own D cy r b n0) {n : Nat} {z : Int} {v : Int32} (hdg : decode cc pc = .ok (.iinc n z, 3)) (hz : Int32.ofInt z = v) (hn : n < nL) (x : xil ls n fun a => xSim p l e R s m args below meth c Q nL n0 lim b D cy r (pc + 3) (xs1 ls n (.int (a + v))) st h) : xSim p l e R s m args below meth c Q nL n0 lim b D cy r pc ls st h := by
  intro H locs la hH hl hv1 hw
  unfold xil at x
  split at x
  · rename_i a hg
    obtain ⟨k, hk⟩ := List.getElem?_of_mem (xal_mem (r := r) hg (fun e => by cases e))
    refine lv_iinc F.1 F.2.1 hdg (xLV_has hl) (k := k) hk (by rw [hz]) hn rfl (fun la' hl' => ?_)
    exact x H locs la' hH (xLV_s1 rfl hl') (xVs_s1 xVs_ni hv1) hw
  · exact x.elim
theorem xq_iadd (F : xFx p s m args c cc nL own D cy r b n0) (hdg : decode cc pc = .ok (.iadd, 1)) (x : xi2 st fun a z t => xSim p l e R s m args below meth c Q nL n0 lim b D cy r (pc + 1) ls (.int (a + z) :: t) h) : xSim p l e R s m args below meth c Q nL n0 lim b D cy r pc ls st h := by
  intro H locs la hH hl hv1 hw
  unfold xi2 at x
  split at x
  · exact lv_iadd F.1 F.2.1 hdg (x H locs la hH hl hv1 (xVs_i (xVs_t (xVs_t hw))))
  · exact x.elim
theorem xq_isub (F : xFx p s m args c cc nL own D cy r b n0) (hdg : decode cc pc = .ok (.isub, 1)) (x : xi2 st fun a z t => xSim p l e R s m args below meth c Q nL n0 lim b D cy r (pc + 1) ls (.int (a - z) :: t) h) : xSim p l e R s m args below meth c Q nL n0 lim b D cy r pc ls st h := by
  intro H locs la hH hl hv1 hw
  unfold xi2 at x
  split at x
  · exact lv_isub F.1 F.2.1 hdg (x H locs la hH hl hv1 (xVs_i (xVs_t (xVs_t hw))))
  · exact x.elim
theorem xq_imul (F : xFx p s m args c cc nL own D cy r b n0) (hdg : decode cc pc = .ok (.imul, 1)) (x : xi2 st fun a z t => xSim p l e R s m args below meth c Q nL n0 lim b D cy r (pc + 1) ls (.int (a * z) :: t) h) : xSim p l e R s m args below meth c Q nL n0 lim b D cy r pc ls st h := by
  intro H locs la hH hl hv1 hw
  unfold xi2 at x
  split at x
  · exact lv_imul F.1 F.2.1 hdg (x H locs la hH hl hv1 (xVs_i (xVs_t (xVs_t hw))))
  · exact x.elim
theorem xq_iand (F : xFx p s m args c cc nL own D cy r b n0) (hdg : decode cc pc = .ok (.iand, 1)) (x : xi2 st fun a z t => xSim p l e R s m args below meth c Q nL n0 lim b D cy r (pc + 1) ls (.int (a &&& z) :: t) h) : xSim p l e R s m args below meth c Q nL n0 lim b D cy r pc ls st h := by
  intro H locs la hH hl hv1 hw
  unfold xi2 at x
  split at x
  · exact lv_iand F.1 F.2.1 hdg (x H locs la hH hl hv1 (xVs_i (xVs_t (xVs_t hw))))
  · exact x.elim
theorem xq_ior (F : xFx p s m args c cc nL own D cy r b n0) (hdg : decode cc pc = .ok (.ior, 1)) (x : xi2 st fun a z t => xSim p l e R s m args below meth c Q nL n0 lim b D cy r (pc + 1) ls (.int (a ||| z) :: t) h) : xSim p l e R s m args below meth c Q nL n0 lim b D cy r pc ls st h := by
  intro H locs la hH hl hv1 hw
  unfold xi2 at x
  split at x
  · exact lv_ior F.1 F.2.1 hdg (x H locs la hH hl hv1 (xVs_i (xVs_t (xVs_t hw))))
  · exact x.elim
theorem xq_ixor (F : xFx p s m args c cc nL own D cy r b n0) (hdg : decode cc pc = .ok (.ixor, 1)) (x : xi2 st fun a z t => xSim p l e R s m args below meth c Q nL n0 lim b D cy r (pc + 1) ls (.int (a ^^^ z) :: t) h) : xSim p l e R s m args below meth c Q nL n0 lim b D cy r pc ls st h := by
  intro H locs la hH hl hv1 hw
  unfold xi2 at x
  split at x
  · exact lv_ixor F.1 F.2.1 hdg (x H locs la hH hl hv1 (xVs_i (xVs_t (xVs_t hw))))
  · exact x.elim
theorem xq_ishl (F : xFx p s m args c cc nL own D cy r b n0) (hdg : decode cc pc = .ok (.ishl, 1)) (x : xi2 st fun a z t => xSim p l e R s m args below meth c Q nL n0 lim b D cy r (pc + 1) ls (.int (a <<< (z &&& 31)) :: t) h) : xSim p l e R s m args below meth c Q nL n0 lim b D cy r pc ls st h := by
  intro H locs la hH hl hv1 hw
  unfold xi2 at x
  split at x
  · exact lv_ishl F.1 F.2.1 hdg (x H locs la hH hl hv1 (xVs_i (xVs_t (xVs_t hw))))
  · exact x.elim
theorem xq_ishr (F : xFx p s m args c cc nL own D cy r b n0) (hdg : decode cc pc = .ok (.ishr, 1)) (x : xi2 st fun a z t => xSim p l e R s m args below meth c Q nL n0 lim b D cy r (pc + 1) ls (.int (a >>> (z &&& 31)) :: t) h) : xSim p l e R s m args below meth c Q nL n0 lim b D cy r pc ls st h := by
  intro H locs la hH hl hv1 hw
  unfold xi2 at x
  split at x
  · exact lv_ishr F.1 F.2.1 hdg (x H locs la hH hl hv1 (xVs_i (xVs_t (xVs_t hw))))
  · exact x.elim
theorem xq_idiv (F : xFx p s m args c cc nL own D cy r b n0) (hdg : decode cc pc = .ok (.idiv, 1)) (x : xi2 st fun a z t => ¬ z = 0 ∧ xSim p l e R s m args below meth c Q nL n0 lim b D cy r (pc + 1) ls (.int (a / z) :: t) h) : xSim p l e R s m args below meth c Q nL n0 lim b D cy r pc ls st h := by
  intro H locs la hH hl hv1 hw
  unfold xi2 at x
  split at x
  · exact lv_idiv F.1 F.2.1 hdg x.1 (x.2 H locs la hH hl hv1 (xVs_i (xVs_t (xVs_t hw))))
  · exact x.elim
theorem xq_irem (F : xFx p s m args c cc nL own D cy r b n0) (hdg : decode cc pc = .ok (.irem, 1)) (x : xi2 st fun a z t => ¬ z = 0 ∧ xSim p l e R s m args below meth c Q nL n0 lim b D cy r (pc + 1) ls (.int (a - a / z * z) :: t) h) : xSim p l e R s m args below meth c Q nL n0 lim b D cy r pc ls st h := by
  intro H locs la hH hl hv1 hw
  unfold xi2 at x
  split at x
  · exact lv_irem F.1 F.2.1 hdg x.1 (x.2 H locs la hH hl hv1 (xVs_i (xVs_t (xVs_t hw))))
  · exact x.elim
theorem xq_i2b (F : xFx p s m args c cc nL own D cy r b n0) (hdg : decode cc pc = .ok (.i2b, 1)) (x : xi1 st fun a t => xSim p l e R s m args below meth c Q nL n0 lim b D cy r (pc + 1) ls (.int a.toInt8.toInt32 :: t) h) : xSim p l e R s m args below meth c Q nL n0 lim b D cy r pc ls st h := by
  intro H locs la hH hl hv1 hw
  unfold xi1 at x
  split at x
  · exact lv_i2b F.1 F.2.1 hdg rfl (x H locs la hH hl hv1 (xVs_i (xVs_t hw)))
  · exact x.elim
theorem xq_i2c (F : xFx p s m args c cc nL own D cy r b n0) (hdg : decode cc pc = .ok (.i2c, 1)) (x : xi1 st fun a t => xSim p l e R s m args below meth c Q nL n0 lim b D cy r (pc + 1) ls (.int (a.toUInt32 % 65536).toInt32 :: t) h) : xSim p l e R s m args below meth c Q nL n0 lim b D cy r pc ls st h := by
  intro H locs la hH hl hv1 hw
  unfold xi1 at x
  split at x
  · exact lv_i2c F.1 F.2.1 hdg rfl (x H locs la hH hl hv1 (xVs_i (xVs_t hw)))
  · exact x.elim
theorem xq_i2l (F : xFx p s m args c cc nL own D cy r b n0) (hdg : decode cc pc = .ok (.i2l, 1)) (x : xi1 st fun a t => xSim p l e R s m args below meth c Q nL n0 lim b D cy r (pc + 1) ls (.long a.toInt64 :: t) h) : xSim p l e R s m args below meth c Q nL n0 lim b D cy r pc ls st h := by
  intro H locs la hH hl hv1 hw
  unfold xi1 at x
  split at x
  · exact lv_i2l F.1 F.2.1 hdg rfl (x H locs la hH hl hv1 (xVs_l (xVs_t hw)))
  · exact x.elim
theorem xq_lcmp (F : xFx p s m args c cc nL own D cy r b n0) (hdg : decode cc pc = .ok (.lcmp, 1)) (x : xl2 st fun a z t => xSim p l e R s m args below meth c Q nL n0 lim b D cy r (pc + 1) ls (.int (lg_cmp a z) :: t) h) : xSim p l e R s m args below meth c Q nL n0 lim b D cy r pc ls st h := by
  intro H locs la hH hl hv1 hw
  unfold xl2 at x
  split at x
  · exact W.lcmp F.1 F.2.1 hdg (x H locs la hH hl hv1 (xVs_i (xVs_t (xVs_t hw))))
  · exact x.elim
theorem xq_lor (F : xFx p s m args c cc nL own D cy r b n0) (hdg : decode cc pc = .ok (.lor, 1)) (x : xl2 st fun a z t => xSim p l e R s m args below meth c Q nL n0 lim b D cy r (pc + 1) ls (.long (a ||| z) :: t) h) : xSim p l e R s m args below meth c Q nL n0 lim b D cy r pc ls st h := by
  intro H locs la hH hl hv1 hw
  unfold xl2 at x
  split at x
  · exact lv_lor F.1 F.2.1 hdg (x H locs la hH hl hv1 (xVs_l (xVs_t (xVs_t hw))))
  · exact x.elim
theorem xq_lshl (F : xFx p s m args c cc nL own D cy r b n0) (hdg : decode cc pc = .ok (.lshl, 1)) (x : xli st fun a z t => xSim p l e R s m args below meth c Q nL n0 lim b D cy r (pc + 1) ls (.long (a <<< (z.toInt64 &&& 63)) :: t) h) : xSim p l e R s m args below meth c Q nL n0 lim b D cy r pc ls st h := by
  intro H locs la hH hl hv1 hw
  unfold xli at x
  split at x
  · exact lv_lshl F.1 F.2.1 hdg rfl (x H locs la hH hl hv1 (xVs_l (xVs_t (xVs_t hw))))
  · exact x.elim
theorem xq_dup (F : xFx p s m args c cc nL own D cy r b n0) (hdg : decode cc pc = .ok (.dup, 1)) (x : x1c st fun v t => xSim p l e R s m args below meth c Q nL n0 lim b D cy r (pc + 1) ls (v :: v :: t) h) : xSim p l e R s m args below meth c Q nL n0 lim b D cy r pc ls st h := by
  intro H locs la hH hl hv1 hw
  unfold x1c at x
  split at x
  · exact lv_dup F.1 F.2.1 hdg rfl (x H locs la hH hl hv1 (xVs_i hw))
  · exact lv_dup F.1 F.2.1 hdg rfl (x H locs la hH hl hv1 (xVs_r (xVs_h hw) hw))
  · exact x.elim
theorem xq_pop (F : xFx p s m args c cc nL own D cy r b n0) (hdg : decode cc pc = .ok (.pop, 1)) (x : x1c st fun _ t => xSim p l e R s m args below meth c Q nL n0 lim b D cy r (pc + 1) ls t h) : xSim p l e R s m args below meth c Q nL n0 lim b D cy r pc ls st h := by
  intro H locs la hH hl hv1 hw
  unfold x1c at x
  split at x
  · exact lv_pop F.1 F.2.1 hdg rfl (x H locs la hH hl hv1 (xVs_t hw))
  · exact lv_pop F.1 F.2.1 hdg rfl (x H locs la hH hl hv1 (xVs_t hw))
  · exact x.elim
theorem x1c_of {st : List Value} {f : Value → List Value → Prop} (x : x1c st f) : ∃ v t, st = v :: t ∧ f v t ∧ v.category = 1 ∧ (xlv r v).category = 1 := by
  unfold x1c at x
  split at x
  · exact ⟨_, _, rfl, x, rfl, rfl⟩
  · exact ⟨_, _, rfl, x, rfl, rfl⟩
  · exact x.elim
theorem xq_dup2 (F : xFx p s m args c cc nL own D cy r b n0) (hdg : decode cc pc = .ok (.dup2, 1)) (x : x2c st fun v w t => xSim p l e R s m args below meth c Q nL n0 lim b D cy r (pc + 1) ls (v :: w :: v :: w :: t) h) : xSim p l e R s m args below meth c Q nL n0 lim b D cy r pc ls st h := by
  intro H locs la hH hl hv1 hw
  obtain ⟨v, t, rfl, x, -, h1⟩ := x1c_of (r := r) x
  obtain ⟨w, t, rfl, x, -, h2⟩ := x1c_of (r := r) x
  refine lv_dup2_11 F.1 F.2.1 hdg h1 h2 (x H locs la hH hl hv1 (xVs_v (fun k e => ?_) (xVs_v (fun k e => ?_) hw)))
  · exact hw v List.mem_cons_self k e
  · exact hw w (List.mem_cons_of_mem _ List.mem_cons_self) k e
theorem xq_goto (F : xFx p s m args c cc nL own D cy r b n0) {off : Int} {tgt : Nat} (hdg : decode cc pc = .ok (.goto off, 3)) (ht : (pc : Int) + off = (tgt : Int)) (x : xSim p l e R s m args below meth c Q nL n0 lim b D cy r tgt ls st h) : xSim p l e R s m args below meth c Q nL n0 lim b D cy r pc ls st h :=
  fun H locs la hH hl hv1 hw => lv_goto F.1 F.2.1 hdg ht (x H locs la hH hl hv1 hw)
theorem xq_if (F : xFx p s m args c cc nL own D cy r b n0) {cd : ClassFile.Cond} {off : Int} {tgt : Nat} (hdg : decode cc pc = .ok (.ifCond cd off, 3)) (ht : (pc : Int) + off = (tgt : Int)) (x : xi1 st fun a t => (xcond cd a 0 → xSim p l e R s m args below meth c Q nL n0 lim b D cy r tgt ls t h) ∧ (¬ xcond cd a 0 → xSim p l e R s m args below meth c Q nL n0 lim b D cy r (pc + 3) ls t h)) : xSim p l e R s m args below meth c Q nL n0 lim b D cy r pc ls st h := by
  intro H locs la hH hl hv1 hw
  unfold xi1 at x
  split at x
  · have hw := xVs_t hw
    cases cd with
    | eq => exact lv_if_eq F.1 F.2.1 hdg ht (fun q => x.1 q H locs la hH hl hv1 hw) (fun q => x.2 q H locs la hH hl hv1 hw)
    | ne => exact lv_if_ne F.1 F.2.1 hdg ht (fun q => x.1 q H locs la hH hl hv1 hw) (fun q => x.2 (fun z => z q) H locs la hH hl hv1 hw)
    | lt => exact lv_if_lt F.1 F.2.1 hdg ht (fun q => x.1 q H locs la hH hl hv1 hw) (fun q => x.2 q H locs la hH hl hv1 hw)
    | ge => exact lv_if_ge F.1 F.2.1 hdg ht (fun q => x.1 q H locs la hH hl hv1 hw) (fun q => x.2 q H locs la hH hl hv1 hw)
    | gt => exact lv_if_gt F.1 F.2.1 hdg ht (fun q => x.1 q H locs la hH hl hv1 hw) (fun q => x.2 q H locs la hH hl hv1 hw)
    | le => exact lv_if_le F.1 F.2.1 hdg ht (fun q => x.1 q H locs la hH hl hv1 hw) (fun q => x.2 q H locs la hH hl hv1 hw)
  · exact x.elim
theorem xq_icmp (F : xFx p s m args c cc nL own D cy r b n0) {cd : ClassFile.Cond} {off : Int} {tgt : Nat} (hdg : decode cc pc = .ok (.if_icmp cd off, 3)) (ht : (pc : Int) + off = (tgt : Int)) (x : xi2 st fun a z t => (xcond cd a z → xSim p l e R s m args below meth c Q nL n0 lim b D cy r tgt ls t h) ∧ (¬ xcond cd a z → xSim p l e R s m args below meth c Q nL n0 lim b D cy r (pc + 3) ls t h)) : xSim p l e R s m args below meth c Q nL n0 lim b D cy r pc ls st h := by
  intro H locs la hH hl hv1 hw
  unfold xi2 at x
  split at x
  · have hw := xVs_t (xVs_t hw)
    cases cd with
    | eq => exact lv_icmp_eq F.1 F.2.1 hdg ht (fun q => x.1 q H locs la hH hl hv1 hw) (fun q => x.2 q H locs la hH hl hv1 hw)
    | ne => exact lv_icmp_ne F.1 F.2.1 hdg ht (fun q => x.1 q H locs la hH hl hv1 hw) (fun q => x.2 (fun z => z q) H locs la hH hl hv1 hw)
    | lt => exact lv_icmp_lt F.1 F.2.1 hdg ht (fun q => x.1 q H locs la hH hl hv1 hw) (fun q => x.2 q H locs la hH hl hv1 hw)
    | ge => exact lv_icmp_ge F.1 F.2.1 hdg ht (fun q => x.1 q H locs la hH hl hv1 hw) (fun q => x.2 q H locs la hH hl hv1 hw)
    | gt => exact lv_icmp_gt F.1 F.2.1 hdg ht (fun q => x.1 q H locs la hH hl hv1 hw) (fun q => x.2 q H locs la hH hl hv1 hw)
    | le => exact lv_icmp_le F.1 F.2.1 hdg ht (fun q => x.1 q H locs la hH hl hv1 hw) (fun q => x.2 q H locs la hH hl hv1 hw)
  · exact x.elim
theorem xq_ldcI (F : xFx p s m args c cc nL own D cy r b n0) {n d : Nat} {v : Int32} (hdg : decode cc pc = .ok (.ldc n, 2)) (hk : xlk d (.constant own n v) = true) (x : xSim p l e R s m args below meth c Q nL n0 lim b D cy r (pc + 2) ls (.int v :: st) h) : xSim p l e R s m args below meth c Q nL n0 lim b D cy r pc ls st h :=
  fun H locs la hH hl hv1 hw => lv_ldc F.1 F.2.1 F.2.2.2.1 (F.2.2.2.2.1 _ (xlk_in hk)) hdg (x H locs la hH hl hv1 (xVs_i hw))
theorem xq_ldcwI (F : xFx p s m args c cc nL own D cy r b n0) {n d : Nat} {v : Int32} (hdg : decode cc pc = .ok (.ldc_w n, 3)) (hk : xlk d (.constant own n v) = true) (x : xSim p l e R s m args below meth c Q nL n0 lim b D cy r (pc + 3) ls (.int v :: st) h) : xSim p l e R s m args below meth c Q nL n0 lim b D cy r pc ls st h :=
  fun H locs la hH hl hv1 hw => lv_ldcw F.1 F.2.1 F.2.2.2.1 (F.2.2.2.2.1 _ (xlk_in hk)) hdg (x H locs la hH hl hv1 (xVs_i hw))
theorem xq_ldc2 (F : xFx p s m args c cc nL own D cy r b n0) {n d : Nat} {v : Int64} (hdg : decode cc pc = .ok (.ldc2_w n, 3)) (hk : xlk d (.constantLong own n v) = true) (x : xSim p l e R s m args below meth c Q nL n0 lim b D cy r (pc + 3) ls (.long v :: st) h) : xSim p l e R s m args below meth c Q nL n0 lim b D cy r pc ls st h :=
  fun H locs la hH hl hv1 hw => lv_ldc2 F.1 F.2.1 F.2.2.2.1 (F.2.2.2.2.1 _ (xlk_in hk)) hdg (x H locs la hH hl hv1 (xVs_l hw))
end XP
