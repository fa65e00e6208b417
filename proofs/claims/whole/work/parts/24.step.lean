/-! IT IS SOUND: a step, a method. -/
theorem zi1_x {st : List zV} {f : Int → List zV → Prop} {g : Int32 → List Value → Prop} (hs : zoks st) (h : ∀ a r, zoks r → f a r → g (iI a) (r.map zx)) (x : zi1 st f) : xi1 (st.map zx) g := by
  unfold zi1 at x
  split at x
  · exact h _ _ (zoks_t hs) x
  · exact x.elim
theorem zi2_x {st : List zV} {f : Int → Int → List zV → Prop} {g : Int32 → Int32 → List Value → Prop} (hs : zoks st) (h : ∀ a b r, zoks r → f a b r → g (iI a) (iI b) (r.map zx)) (x : zi2 st f) : xi2 (st.map zx) g := by
  unfold zi2 zi1 at x
  split at x
  · split at x
    · exact h _ _ _ (zoks_t (zoks_t hs)) x
    · exact x.elim
  · exact x.elim
theorem zl1_x {st : List zV} {f : Int → List zV → Prop} {g : Int64 → List Value → Prop} (hs : zoks st) (h : ∀ a r, zoks r → f a r → g (iL a) (r.map zx)) (x : zl1 st f) : xl1 (st.map zx) g := by
  unfold zl1 at x
  split at x
  · exact h _ _ (zoks_t hs) x
  · exact x.elim
theorem zl2_x {st : List zV} {f : Int → Int → List zV → Prop} {g : Int64 → Int64 → List Value → Prop} (hs : zoks st) (h : ∀ a b r, zoks r → f a b r → g (iL a) (iL b) (r.map zx)) (x : zl1 st fun b r => zl1 r fun a t => f a b t) : xl2 (st.map zx) g := by
  unfold zl1 at x
  split at x
  · split at x
    · exact h _ _ _ (zoks_t (zoks_t hs)) x
    · exact x.elim
  · exact x.elim
theorem zli_x {st : List zV} {f : Int → Int → List zV → Prop} {g : Int64 → Int32 → List Value → Prop} (hs : zoks st) (h : ∀ a b r, zoks r → f a b r → g (iL a) (iI b) (r.map zx)) (x : zi1 st fun b r => zl1 r fun a t => f a b t) : xli (st.map zx) g := by
  unfold zi1 zl1 at x
  split at x
  · split at x
    · exact h _ _ _ (zoks_t (zoks_t hs)) x
    · exact x.elim
  · exact x.elim
theorem zr1_x {st : List zV} {f : Nat → Nat → Int → List zV → Prop} {g : Nat → List Value → Prop} (hs : zoks st) (h : ∀ t n q r, zok (t + 3, n, q) → zoks r → f t n q r → g q.toNat (r.map zx)) (x : zr1 st f) : xr1 (st.map zx) g := by
  unfold zr1 at x
  split at x
  · exact h _ _ _ _ (zoks_h hs) (zoks_t hs) x
  · exact x.elim
theorem zri_x {st : List zV} {f : Nat → Nat → Int → Int → List zV → Prop} {g : Nat → Int32 → List Value → Prop} (hs : zoks st) (h : ∀ t n q i r, zok (t + 3, n, q) → zoks r → f t n q i r → g q.toNat (iI i) (r.map zx)) (x : zri st f) : xri (st.map zx) g := by
  unfold zri zi1 zr1 at x
  split at x
  · split at x
    · exact h _ _ _ _ _ (zoks_h (zoks_t hs)) (zoks_t (zoks_t hs)) x
    · exact x.elim
  · exact x.elim
theorem zrii_x {st : List zV} {f : Nat → Nat → Int → Int → Int → List zV → Prop} {g : Nat → Int32 → Int32 → List Value → Prop} (hs : zoks st) (h : ∀ t n q i v r, zok (t + 3, n, q) → zoks r → f t n q i v r → g q.toNat (iI i) (iI v) (r.map zx)) (x : zrii st f) : xrii (st.map zx) g := by
  unfold zrii zri zi1 zr1 at x
  split at x
  · split at x
    · split at x
      · exact h _ _ _ _ _ _ (zoks_h (zoks_t (zoks_t hs))) (zoks_t (zoks_t (zoks_t hs))) x
      · exact x.elim
    · exact x.elim
  · exact x.elim
theorem ziv_x {st : List zV} {f : Nat → Nat → Int → Int → List zV → Prop} {g : Nat → Int32 → List Value → Prop} (hs : zoks st) (h : ∀ t n q i r, zok (t + 3, n, q) → zoks r → f t n q i r → g q.toNat (iI i) (r.map zx)) (x : zi1 st fun v r => zr1 r fun t n q r => f t n q v r) : xiv (st.map zx) g := by
  unfold zi1 zr1 at x
  split at x
  · split at x
    · exact h _ _ _ _ _ (zoks_h (zoks_t hs)) (zoks_t (zoks_t hs)) x
    · exact x.elim
  · exact x.elim
theorem zrr_x {st : List zV} {f : Nat → Nat → Int → Nat → Nat → Int → List zV → Prop} {g : Nat → Nat → List Value → Prop} (hs : zoks st) (h : ∀ t n q u m v r, zok (t + 3, n, q) → zok (u + 3, m, v) → zoks r → f u m v t n q r → g q.toNat v.toNat (r.map zx)) (x : zr1 st fun u m v r => zr1 r fun t n q r => f u m v t n q r) : xrr (st.map zx) g := by
  unfold zr1 at x
  split at x
  · split at x
    · exact h _ _ _ _ _ _ _ (zoks_h (zoks_t hs)) (zoks_h hs) (zoks_t (zoks_t hs)) x
    · exact x.elim
  · exact x.elim
theorem z1c_x {st : List zV} {f : zV → List zV → Prop} {g : Value → List Value → Prop} (hs : zoks st) (h : ∀ v r, zok v → zoks r → f v r → g (zx v) (r.map zx)) (x : z1c st f) : x1c (st.map zx) g := by
  unfold z1c at x
  split at x
  · exact h _ _ (zoks_h hs) (zoks_t hs) x
  · exact h _ _ (zoks_h hs) (zoks_t hs) x
  · exact x.elim
theorem z2c_x {st : List zV} {f : zV → zV → List zV → Prop} {g : Value → Value → List Value → Prop} (hs : zoks st) (h : ∀ v w r, zok v → zok w → zoks r → f v w r → g (zx v) (zx w) (r.map zx)) (x : z2c st f) : x2c (st.map zx) g :=
  z1c_x hs (fun _ _ hv hr y => z1c_x hr (fun _ _ hw ht z => h _ _ _ hv hw ht z) y) x
theorem zget_map {ls : List zV} {i : Nat} {v : zV} (h : ls[i]? = some v) : (ls.map zx)[i]? = some (zx v) := by rw [List.getElem?_map, h]; rfl
theorem zil_x {ls : List zV} {i : Nat} {f : Int → Prop} {g : Int32 → Prop} (h : ∀ a, f a → g (iI a)) (x : zil ls i f) : xil (ls.map zx) i g := by
  unfold zil at x
  split at x
  · rename_i e
    unfold xil
    rw [zget_map e]
    exact h _ x
  · exact x.elim
theorem zll_x {ls : List zV} {i : Nat} {f : Int → Prop} {g : Int64 → Prop} (h : ∀ a, f a → g (iL a)) (x : zll ls i f) : xll (ls.map zx) i g := by
  unfold zll at x
  split at x
  · rename_i e
    unfold xll
    rw [zget_map e]
    exact h _ x
  · exact x.elim
theorem zrl_x {ls : List zV} (hl : zoks ls) {i : Nat} {f : Nat → Nat → Int → Prop} {g : Nat → Prop} (h : ∀ t n a, zok (t + 3, n, a) → f t n a → g a.toNat) (x : zrl ls i f) : xrl (ls.map zx) i g := by
  unfold zrl at x
  split at x
  · rename_i e
    unfold xrl
    rw [zget_map e]
    exact h _ _ _ (hl _ (List.mem_of_getElem? e)) x
  · exact x.elim
theorem zx_cat (v : zV) : Nat.beq (zx v).category 2 = Nat.beq v.1 2 := by
  unfold zx
  split
  · rfl
  · rfl
  · rename_i t n q
    show false = Nat.beq (t + 3) 2
    symm
    rw [← Bool.not_eq_true]
    intro h
    have := Nat.eq_of_beq_eq_true h
    omega
  · rename_i h1 h2 h3
    obtain ⟨a, b, c⟩ := v
    match a, h1, h2, h3 with
    | 0, _, _, _ => rfl
    | 1, h1, _, _ => exact absurd rfl (h1 b c)
    | 2, _, h2, _ => exact absurd rfl (h2 b c)
    | t + 3, _, _, h3 => exact absurd rfl (h3 t b c)
theorem zkl_x : ∀ (ls : List zV) (i : Nat), (zkl ls i).map zx = xkl (ls.map zx) i := by
  intro ls
  induction ls with
  | nil => intro i; cases i <;> rfl
  | cons v ls ih =>
    intro i
    match i with
    | 0 => rfl
    | 1 =>
      show zx (bif Nat.beq v.1 2 then z0 else v) :: ls.map zx = (bif Nat.beq (zx v).category 2 then .null else zx v) :: ls.map zx
      rw [zx_cat]
      cases Nat.beq v.1 2 <;> rfl
    | i + 2 => show zx v :: (zkl ls (i + 1)).map zx = zx v :: xkl (ls.map zx) (i + 1); rw [ih]
theorem zs1_x (ls : List zV) (i : Nat) (v : zV) : (zs1 ls i v).map zx = xs1 (ls.map zx) i (zx v) := by
  unfold zs1 xs1
  rw [List.map_set, zkl_x]
theorem zs2_x (ls : List zV) (i : Nat) (v : zV) : (zs2 ls i v).map zx = xs2 (ls.map zx) i (zx v) := by
  unfold zs2 xs2
  rw [List.map_set, List.map_set, zkl_x]
  rfl
theorem zoks_set {ls : List zV} (h : zoks ls) {v : zV} (hv : zok v) (i : Nat) : zoks (ls.set i v) := by
  intro u hu
  rcases List.mem_or_eq_of_mem_set hu with hu | rfl
  · exact h u hu
  · exact hv
theorem zoks_kl : ∀ (ls : List zV), zoks ls → ∀ i : Nat, zoks (zkl ls i) := by
  intro ls
  induction ls with
  | nil => intro h i; cases i <;> exact h
  | cons v ls ih =>
    intro h i
    match i with
    | 0 => exact h
    | 1 =>
      refine zoks_c ?_ (zoks_t h)
      cases Nat.beq v.1 2
      · exact zoks_h h
      · trivial
    | i + 2 => exact zoks_c (zoks_h h) (ih (zoks_t h) (i + 1))
theorem zoks_s1 {ls : List zV} (h : zoks ls) {v : zV} (hv : zok v) (i : Nat) : zoks (zs1 ls i v) := zoks_set (zoks_kl ls h i) hv i
theorem zoks_s2 {ls : List zV} (h : zoks ls) {v : zV} (hv : zok v) (i : Nat) : zoks (zs2 ls i v) := zoks_set (zoks_set (zoks_kl ls h i) hv i) (show zok z0 from trivial) (i + 1)
theorem zclr_x : ∀ (cl : List Nat) (ls : List zV), (zclr cl ls).map zx = xclr cl (ls.map zx) := by
  intro cl
  induction cl with
  | nil => intro ls; rfl
  | cons i cl ih =>
    intro ls
    show (zclr cl (ls.set i z0)).map zx = xclr cl ((ls.map zx).set i .null)
    rw [ih, List.map_set]
    rfl
theorem zoks_clr : ∀ (cl : List Nat) (ls : List zV), zoks ls → zoks (zclr cl ls) := by
  intro cl
  induction cl with
  | nil => intro ls h; exact h
  | cons i cl ih => intro ls h; exact ih _ (zoks_set h (show zok z0 from trivial) i)
theorem zoc_x (o : Option (List Nat)) (ls : List zV) : (zoc o ls).map zx = xoc o (ls.map zx) := by
  cases o with
  | none => rfl
  | some cl => exact zclr_x cl ls
theorem zoks_oc {o : Option (List Nat)} {ls : List zV} (h : zoks ls) : zoks (zoc o ls) := by
  cases o with
  | none => exact h
  | some cl => exact zoks_clr cl ls h
theorem zcond_x {c : ClassFile.Cond} {x y : Int} (hx : rg x) (hy : rg y) : xcond c (iI x) (iI y) ↔ zcond c x y := by
  cases c
  · exact iI_eq hx hy
  · exact not_congr (iI_eq hx hy)
  · exact iI_lt hx hy
  · exact iI_le hy hx
  · exact iI_lt hy hx
  · exact iI_le hx hy
theorem zsw_x {x : Int} (hx : rg x) {d : Nat} {k k' : Nat → Prop} (h : ∀ t, k t → k' t) : ∀ ps : List (Int32 × Nat), zsw x ps d k → xsw (iI x) ps d k' := by
  intro ps
  induction ps with
  | nil => intro z; exact h _ z
  | cons q r ih =>
    intro z
    have e : iI x = q.1 ↔ x = q.1.toInt := by
      have := iI_eq hx (rg_i q.1)
      rw [iI_of] at this
      exact this
    exact ⟨fun c => h _ (z.1 (e.mp c)), fun c => ih (z.2 (fun w => c (e.mpr w)))⟩
theorem zck_t {b : Bool} {A : Prop} (x : zck b A) : b = true ∧ A := by
  cases b
  · exact x.elim
  · exact ⟨rfl, x⟩
theorem zkd_lt {t n q : Nat} (h : zkd t n q) (ht : t < 15) : q < 320 ∧ (xsh q).1 = t ∧ (10 ≤ t → (xsh q).2 = n) := by
  rcases h with h | h
  · exact h.2
  · have := h.1; omega
theorem zkd_nn {t n q : Nat} (h : zkd t n q) : xnn q := by
  have hx : xtxt.length < 1000 := by decide
  unfold xnn xNUL
  rcases h with h | h
  · have := h.2.1; omega
  · have := h.2.2.1; omega
theorem xsh_sm : ∀ q, q < 320 → (xsh q).2 < 2147483648 := by
  intro q hq
  have : ((List.range 320).all fun k => Nat.blt (xsh k).2 2147483648) = true := by decide +kernel
  exact Nat.le_of_ble_eq_true (List.all_eq_true.mp this q (List.mem_range.mpr hq))
section ZS
variable {e : xE} {pc lim : Nat} {ls st : List zV} {G : zG} {h : xM} {call : zC} {call' : Nat → List Value → xM → (Option Value → xM → Prop) → Prop} {ret : zQ} {ret' : Option Value → xM → Prop} {k : zK} {k' : Nat → List Value → List Value → xM → Prop}
abbrev zrel (ret : zQ) (ret' : Option Value → xM → Prop) : Prop := ∀ (r : Option zV) (G : zG) (h : xM), (∀ v, r = some v → zok v) → zR G h → ret r G → ret' (r.map zx) h
abbrev zcrel (call : zC) (call' : Nat → List Value → xM → (Option Value → xM → Prop) → Prop) : Prop := ∀ (j : Nat) (vs : List zV) (G : zG) (h : xM) (Q : zQ) (Q' : Option Value → xM → Prop), zoks vs → zR G h → zrel Q Q' → call j vs G Q → call' j (vs.map zx) h Q'
theorem zald_x {c : Nat} {f : List zV → Prop} {g : List Value → Prop} (hs : zoks st) (hR : zR G h) (hk : ∀ a r, zoks r → f (zi a :: r) → g (.int (iI a) :: r.map zx)) (x : zald c st G f) : xald c (st.map zx) h g := by
  refine zri_x hs (fun t n q i r hq hr z0 => ?_) x
  obtain ⟨hb, hi, z⟩ := zck_t z0
  clear z0
  simp only [Bool.and_eq_true] at hb
  obtain ⟨⟨b1, b2⟩, b3⟩ := hb
  have b1 := Nat.eq_of_beq_eq_true b1
  have b2 := Nat.le_of_ble_eq_true b2
  have b3 : c < 15 := Nat.le_of_ble_eq_true b3
  subst b1
  obtain ⟨hq0, hq⟩ := hq
  obtain ⟨q1, q2, q3⟩ := zkd_lt hq b3
  have q3 := q3 b2
  have hsm := xsh_sm _ q1
  rw [q3] at hsm
  refine ⟨q2, ?_, ?_⟩
  · rw [q3]; exact iI_in hi.1 hi.2 (by omega)
  · have := hk _ r hr z
    rw [iI_clamp hi.1 (by omega), hR.1 _ _ (by rw [q2, zst_big b2]; decide), Int.toNat_of_nonneg hq0, Int.toNat_of_nonneg hi.1]
    exact this
theorem zast_x {c : Nat} {fn : Int32 → Int32} (hfn : (c = 10 ∧ ∀ v, fn v = v) ∨ (c ≠ 10 ∧ ∀ v, fn v = xnar c v)) {f : List zV → zG → Prop} {g : List Value → xM → Prop} (hs : zoks st) (hR : zR G h) (hk : ∀ r G h, zoks r → zR G h → f r G → g (r.map zx) h) (x : zast c st G f) : xast c fn (st.map zx) h g := by
  refine zrii_x hs (fun t n q i v r hq hr z0 => ?_) x
  obtain ⟨hb, hi, z⟩ := zck_t z0
  clear z0
  have hb := Nat.eq_of_beq_eq_true hb
  subst hb
  obtain ⟨hq0, hq⟩ := hq
  have key : ∀ v', 10 ≤ t → t < 15 → f r (zu G q i v') → fn (iI v) = iI v' → xok q.toNat t ∧ vp_in (iI i) (xsh q.toNat).2 ∧ g (r.map zx) (xsi h q.toNat (iI i).toNatClampNeg (fn (iI v))) := by
    intro v' b2 b3 hf hv
    obtain ⟨q1, q2, q3⟩ := zkd_lt hq b3
    have q3 := q3 b2
    have hsm := xsh_sm _ q1
    rw [q3] at hsm
    refine ⟨q2, ?_, ?_⟩
    · rw [q3]; exact iI_in hi.1 hi.2 (by omega)
    · rw [iI_clamp hi.1 (by omega), hv]
      have := zR_u hR (q := q.toNat) (j := i.toNat) v' (by rw [q2, zst_big b2]; decide)
      rw [Int.toNat_of_nonneg hq0, Int.toNat_of_nonneg hi.1] at this
      exact hk _ _ _ hr this hf
  unfold zbst at z
  split at z
  · rcases hfn with ⟨h1, _⟩ | ⟨_, h2⟩
    · cases h1
    · exact key _ (by decide) (by decide) z (by rw [h2]; exact iI_zb v)
  · rcases hfn with ⟨h1, _⟩ | ⟨_, h2⟩
    · cases h1
    · refine key _ (by decide) (by decide) z.2 ?_
      rw [h2]
      rcases z.1 with rfl | rfl <;> decide
  · rcases hfn with ⟨_, h2⟩ | ⟨h1, _⟩
    · exact key _ (by decide) (by decide) z (by rw [h2])
    · exact absurd rfl h1
  · exact z.elim
theorem zget_x {q : Int} {r : List zV} {t n : Nat} {f : List zV → Prop} {g : List Value → Prop} (hR : zR G h) (hq : zok (t + 3, n, q)) (ht : t = e.2.2.1.1) (hr : zoks r) (hk : ∀ v, zok v → f (v :: r) → g (zx v :: r.map zx)) (x : zget e q r G f) : xok q.toNat e.2.2.1.1 ∧ xget e q.toNat (r.map zx) h g := by
  obtain ⟨hq0, hq⟩ := hq
  have hk15 : ∀ s, (zst e.2.2.1.1 s).1 ≠ 0 → t < 10 := by
    intro s hs
    rcases Nat.lt_or_ge t 10 with c | c
    · exact c
    · rw [← ht, zst_big c] at hs; exact absurd rfl hs
  have hcast : ∀ s : Nat, G q (Int.ofNat s) = G (q.toNat : Int) (s : Int) := fun s => by rw [Int.toNat_of_nonneg hq0]; rfl
  unfold zget at x
  unfold xget
  split at x
  · rename_i hc
    rw [hc]
    show xok q.toNat e.2.2.1.1 ∧ xnn (h.2.1 q.toNat e.2.2.1.2.1) ∧ g (.ref (h.2.1 q.toNat e.2.2.1.2.1) :: r.map zx)
    unfold zgr at x
    cases hz : zst e.2.2.1.1 e.2.2.1.2.1 with
    | mk m0 m =>
    have ht10 : m0 ≠ 0 → t < 10 := fun w => hk15 e.2.2.1.2.1 (by rw [hz]; exact w)
    rw [hz] at x
    obtain ⟨c, l, o⟩ := m
    split at x
    · rename_i _ _ _ _ hm
      cases hm
      obtain ⟨q1, q2, _⟩ := zkd_lt hq (by have := ht10 (by decide); omega)
      have hf := hR.2.1 q.toNat e.2.2.1.2.1 q1
      have hB := zst_B (k := q.toNat) (s := e.2.2.1.2.1) q1
      unfold zRf at hf
      unfold zstB at hB
      rw [q2, ht, hz] at hf hB
      have hf : (h.2.1 q.toNat e.2.2.1.2.1 : Int) = (q.toNat : Int) + o := hf
      have hB := Bool.and_eq_true_iff.mp hB
      have hd := zkB_d hB.2
      have h0 : 0 ≤ (q.toNat : Int) + o := of_decide_eq_true hB.1
      rw [Int.toNat_of_nonneg hq0] at hf h0 hd
      have he : h.2.1 q.toNat e.2.2.1.2.1 = (q + o).toNat := by omega
      rw [he]
      exact ⟨by show (xsh q.toNat).1 = _; rw [q2, ht], zkd_nn hd, hk (zr c l _) (show zok (zr c l _) from And.intro h0 hd) x⟩
    · rename_i _ _ _ _ hm
      cases hm
      obtain ⟨q1, q2, _⟩ := zkd_lt hq (by have := ht10 (by decide); omega)
      have hf := hR.2.1 q.toNat e.2.2.1.2.1 q1
      have hB := zst_B (k := q.toNat) (s := e.2.2.1.2.1) q1
      unfold zRf at hf
      unfold zstB at hB
      rw [q2, ht, hz] at hf hB
      have hf : (h.2.1 q.toNat e.2.2.1.2.1 : Int) = o := hf
      have hB := Bool.and_eq_true_iff.mp hB
      have hd := zkB_d hB.2
      have h0 : 0 ≤ o := of_decide_eq_true hB.1
      have he : h.2.1 q.toNat e.2.2.1.2.1 = o.toNat := by omega
      rw [he]
      exact ⟨by show (xsh q.toNat).1 = _; rw [q2, ht], zkd_nn hd, hk (zr c l _) (show zok (zr c l _) from And.intro h0 hd) x⟩
    · rename_i _ _ _ _ hm
      cases hm
      obtain ⟨q1, q2, _⟩ := zkd_lt hq (by have := ht10 (by decide); omega)
      have hf := hR.2.1 q.toNat e.2.2.1.2.1 q1
      unfold zRf at hf
      rw [q2, ht, hz] at hf
      have hf : 0 ≤ G (q.toNat : Int) (e.2.2.1.2.1 : Int) → h.2.1 q.toNat e.2.2.1.2.1 = (G (q.toNat : Int) (e.2.2.1.2.1 : Int)).toNat ∧ zkd c l (G (q.toNat : Int) (e.2.2.1.2.1 : Int)).toNat := hf
      rw [hcast] at x
      obtain ⟨he, hd⟩ := hf x.1
      rw [he]
      exact ⟨by show (xsh q.toNat).1 = _; rw [q2, ht], zkd_nn hd, hk (zr c l _) (show zok (zr c l _) from And.intro x.1 hd) x.2⟩
    · exact x.elim
  · rename_i hc
    obtain ⟨hb, x⟩ := zck_t x
    have hb := Bool.and_eq_true_iff.mp hb
    have hb1 := Nat.eq_of_beq_eq_true hb.1
    have hb2 : e.2.2.1.1 < 10 := Nat.le_of_ble_eq_true hb.2
    obtain ⟨q1, q2, _⟩ := zkd_lt hq (by omega)
    refine ⟨by show (xsh q.toNat).1 = _; rw [q2, ht], ?_⟩
    rw [hR.1 _ _ (by rw [q2, ht, hb1]; decide), ← hcast]
    have y := hk _ (show zok (zi _) from trivial) x
    split
    · exact absurd (by assumption) hc
    · exact y
theorem zput_x {f : List zV → zG → Prop} {g : List Value → xM → Prop} (hs : zoks st) (hR : zR G h) (hk : ∀ r G h, zoks r → zR G h → f r G → g (r.map zx) h) (x : zput e st G f) : xput e (st.map zx) h g := by
  unfold zput at x
  unfold xput
  split at x
  · rename_i hc
    rw [hc]
    refine ziv_x hs (fun t n q v r hq hr z => ?_) x
    obtain ⟨hb, z⟩ := zck_t z
    simp only [Bool.and_eq_true] at hb
    obtain ⟨⟨b1, b2⟩, b3⟩ := hb
    have b1 := Nat.eq_of_beq_eq_true b1
    have b2 := Nat.eq_of_beq_eq_true b2
    have b3 : t < 10 := Nat.le_of_ble_eq_true b3
    obtain ⟨hq0, hq⟩ := hq
    obtain ⟨q1, q2, _⟩ := zkd_lt hq (by omega)
    refine ⟨by show (xsh q.toNat).1 = _; rw [q2, b1], hk _ _ _ hr ?_ z⟩
    have := zR_u hR (q := q.toNat) (j := e.2.2.1.2.1) v (by rw [q2, b1, b2]; decide)
    rw [Int.toNat_of_nonneg hq0] at this
    exact this
  · rename_i hc
    rw [hc]
    refine ziv_x hs (fun t n q v r hq hr z => ?_) x
    obtain ⟨hb, hv, z⟩ := zck_t z
    simp only [Bool.and_eq_true] at hb
    obtain ⟨⟨b1, b2⟩, b3⟩ := hb
    have b1 := Nat.eq_of_beq_eq_true b1
    have b2 := Nat.eq_of_beq_eq_true b2
    have b3 : t < 10 := Nat.le_of_ble_eq_true b3
    obtain ⟨hq0, hq⟩ := hq
    obtain ⟨q1, q2, _⟩ := zkd_lt hq (by omega)
    refine ⟨by show (xsh q.toNat).1 = _; rw [q2, b1], ?_, hk _ _ _ hr ?_ z⟩
    · rcases hv with rfl | rfl
      · exact Or.inl (by decide)
      · exact Or.inr (by decide)
    have := zR_u hR (q := q.toNat) (j := e.2.2.1.2.1) v (by rw [q2, b1, b2]; decide)
    rw [Int.toNat_of_nonneg hq0] at this
    exact this
  · rename_i hc
    rw [hc]
    refine zrr_x hs (fun t n q u m v r hq hv hr z => ?_) x
    obtain ⟨hb, z⟩ := zck_t z
    have b1 := Nat.eq_of_beq_eq_true hb
    unfold zpr at z
    cases hz : zst e.2.2.1.1 e.2.2.1.2.1 with
    | mk m0 mm =>
    rw [hz] at z
    obtain ⟨c, l, o⟩ := mm
    split at z
    · rename_i _ _ _ _ hm
      cases hm
      obtain ⟨hb, z⟩ := zck_t z
      simp only [Bool.and_eq_true, Bool.or_eq_true] at hb
      obtain ⟨⟨c1, c2⟩, c3⟩ := hb
      have c1 := Nat.eq_of_beq_eq_true c1
      have c3 : c < 15 := Nat.le_of_ble_eq_true c3
      obtain ⟨hq0, hq⟩ := hq
      obtain ⟨hv0, hv⟩ := hv
      have t10 : t < 10 := by
        rcases Nat.lt_or_ge t 10 with w | w
        · exact w
        · rw [← b1, zst_big w] at hz; cases hz
      obtain ⟨q1, q2, _⟩ := zkd_lt hq (by omega)
      have hd : zkd c l v.toNat := by
        rw [c1] at hv
        obtain ⟨v1, v2, v3⟩ := zkd_lt hv c3
        refine Or.inl ⟨c3, v1, v2, fun w => ?_⟩
        rcases c2 with c2 | c2
        · have : c < 10 := Nat.le_of_ble_eq_true c2
          omega
        · rw [← Nat.eq_of_beq_eq_true c2]; exact v3 w
      refine ⟨by show (xsh q.toNat).1 = _; rw [q2, b1], zkd_nn hv, hk _ _ _ hr ?_ z⟩
      have := zR_r hR (q := q.toNat) (j := e.2.2.1.2.1) (v := v) (by rw [q2, b1]; exact hz) hd
      rw [Int.toNat_of_nonneg hq0] at this
      exact this
    · exact z.elim
  · exact x.elim
theorem zcpy_x {f : List zV → zG → Prop} {g : List Value → xM → Prop} (hs : zoks st) (hR : zR G h) (hk : ∀ r G h, zoks r → zR G h → f r G → g (r.map zx) h) (x : zcpy st G f) : xcpy (st.map zx) h g := by
  unfold zcpy zi1 zr1 at x
  split at x
  · rename_i m5 n r5
    split at x
    · rename_i m4 dp r4
      split at x
      · rename_i t2 n2 dq r3
        split at x
        · rename_i m2 sp r2
          split at x
          · rename_i t1 n1 q r1
            obtain ⟨hb, ⟨h1, h2, h3, h4, h5⟩, z⟩ := zck_t x
            have hb := Bool.and_eq_true_iff.mp hb
            have b1 := Nat.eq_of_beq_eq_true hb.1
            have b2 := Nat.eq_of_beq_eq_true hb.2
            subst b1 b2
            obtain ⟨d0, hd⟩ := zoks_h (zoks_t (zoks_t hs))
            obtain ⟨q0, hq⟩ := zoks_h (zoks_t (zoks_t (zoks_t (zoks_t hs))))
            obtain ⟨d1, d2, d3⟩ := zkd_lt hd (by decide)
            obtain ⟨q1, q2, q3⟩ := zkd_lt hq (by decide)
            have d3 := d3 (by decide)
            have q3 := q3 (by decide)
            have s1 := xsh_sm _ d1
            have s2 := xsh_sm _ q1
            rw [d3] at s1
            rw [q3] at s2
            show xok q.toNat 10 ∧ xok dq.toNat 10 ∧ ¬ iI sp < 0 ∧ ¬ iI dp < 0 ∧ ¬ iI n < 0 ∧ (iI sp).toNatClampNeg + (iI n).toNatClampNeg ≤ (xsh q.toNat).2 ∧ (iI dp).toNatClampNeg + (iI n).toNatClampNeg ≤ (xsh dq.toNat).2 ∧ g (r1.map zx) (xcp h q.toNat (iI sp).toNatClampNeg dq.toNat (iI dp).toNatClampNeg (iI n).toNatClampNeg)
            have nn : ∀ z : Int, 0 ≤ z → z < 2147483648 → ¬ iI z < 0 := fun z z0 z1 => by rw [iI_0, iI_lt ⟨by omega, z1⟩ rg_0]; omega
            rw [iI_clamp h1 (by omega), iI_clamp h2 (by omega), iI_clamp h3 (by omega), q3, d3]
            refine ⟨q2, d2, nn _ h1 (by omega), nn _ h2 (by omega), nn _ h3 (by omega), by omega, by omega, hk _ _ _ (zoks_t (zoks_t (zoks_t (zoks_t (zoks_t hs))))) ?_ z⟩
            have := zR_c hR (q := q.toNat) (i := sp.toNat) (p := dq.toNat) (j := dp.toNat) (n := n.toNat) (by rw [q2]; decide) (by rw [d2]; decide)
            rw [Int.toNat_of_nonneg q0, Int.toNat_of_nonneg d0, Int.toNat_of_nonneg h1, Int.toNat_of_nonneg h2, Int.toNat_of_nonneg h3] at this
            exact this
          · exact x.elim
        · exact x.elim
      · exact x.elim
    · exact x.elim
  · exact x.elim
theorem znat_x {c : Nat} {f : List zV → zG → Prop} {g : List Value → xM → Prop} (hs : zoks st) (hR : zR G h) (hk : ∀ r G h, zoks r → zR G h → f r G → g (r.map zx) h) (x : znat c st G f) : xnat c (st.map zx) h g := by
  unfold znat at x
  unfold xnat
  split at x
  · refine zi2_x hs (fun a b r hr z => ?_) x
    rw [iI_max z.1.1 z.1.2]
    exact hk _ _ _ (zoks_c (show zok (zi _) from trivial) hr) hR z.2
  · refine zi2_x hs (fun a b r hr z => ?_) x
    rw [iI_min z.1.1 z.1.2]
    exact hk _ _ _ (zoks_c (show zok (zi _) from trivial) hr) hR z.2
  · refine zi1_x hs (fun a r hr z => ?_) x
    rw [iI_abs z.1]
    exact hk _ _ _ (zoks_c (show zok (zi _) from trivial) hr) hR z.2
  · exact zcpy_x hs hR hk x
  · refine zr1_x hs (fun t n q r hq hr z0 => ?_) x
    obtain ⟨hb, z⟩ := zck_t z0
    clear z0
    have hb := Nat.eq_of_beq_eq_true hb
    subst hb
    obtain ⟨q0, hq⟩ := hq
    rcases hq with hq | hq
    · exact absurd hq.1 (by decide)
    · refine ⟨hq.2.1, hq.2.2.1, ?_⟩
      rw [hq.2.2.2, show nI n = iI (n : Int) from iI_len n]
      exact hk _ _ _ (zoks_c (show zok (zi _) from trivial) hr) hR z
  · refine zri_x hs (fun t n q i r hq hr z0 => ?_) x
    obtain ⟨hb, hi, z⟩ := zck_t z0
    clear z0
    have hb := Nat.eq_of_beq_eq_true hb
    subst hb
    obtain ⟨q0, hq⟩ := hq
    rcases hq with hq | hq
    · exact absurd hq.1 (by decide)
    · have hl : (xtxt.getD (q.toNat - 1000) []).length < 2147483648 := by
        have : ∀ l ∈ xtxt, l.length < 2147483648 := by decide
        rw [List.getD_eq_getElem?_getD]
        cases e0 : xtxt[q.toNat - 1000]? with
        | none => decide
        | some l => exact this l (List.mem_of_getElem? e0)
      rw [hq.2.2.2] at hl
      refine ⟨hq.2.1, hq.2.2.1, ?_, ?_⟩
      · rw [hq.2.2.2]; exact iI_in hi.1 hi.2 (by omega)
      · rw [iI_clamp hi.1 (by omega)]
        have := hk _ _ _ (zoks_c (show zok (zi _) from trivial) hr) hR z
        have e1 : zx (zi (ztx q i)) = .int ((xtxt.getD (q.toNat - 1000) []).getD i.toNat 0) := by
          show Value.int (iI (ztx q i)) = _
          unfold ztx
          rw [iI_of]
        rw [List.map_cons, e1] at this
        exact this
  · exact x.elim
theorem zoks_drop {l : List zV} (hl : zoks l) (n : Nat) : zoks (l.drop n) := fun v hv => hl v (List.mem_of_mem_drop hv)
theorem zoks_tr {l : List zV} (hl : zoks l) (n : Nat) : zoks (l.take n).reverse := fun v hv => hl v (List.mem_of_mem_take (List.mem_reverse.mp hv))
theorem zroom_x {l : List zV} {A B : Prop} (hab : A → B) (x : zroom l A) : xroom (l.map zx) B := by
  obtain ⟨hb, x⟩ := zck_t x
  unfold xroom
  rw [List.length_map, hb]
  exact hab x
theorem zen_x {A B : Prop} (hab : A → B) (x : zen e st A) : xen e (st.map zx) B := by
  obtain ⟨hb, x⟩ := zck_t x
  unfold xen
  rw [List.length_map, hb]
  exact hab x
theorem zcall_x {f : List zV → zG → Prop} {g : List Value → xM → Prop} (hs : zoks st) (hR : zR G h) (hc : zcrel call call') (hk : ∀ r G h, zoks r → zR G h → f r G → g (r.map zx) h) (x : zcall e st G call f) : xcall e lim (st.map zx) h call' g := by
  unfold zcall at x
  unfold xcall
  rw [← List.map_drop, ← List.map_take, ← List.map_reverse]
  split at x
  · rename_i hm
    rw [hm]
    refine zen_x (zroom_x fun y => ?_) x
    refine hc _ _ _ _ _ _ (zoks_tr hs _) hR (fun r G h hr hR z => ?_) y
    unfold zq0 at z
    split at z
    · exact hk _ _ _ (zoks_drop hs _) hR z
    · exact z.elim
  · rename_i hm
    rw [hm]
    refine zen_x (zroom_x fun y => ?_) x
    refine hc _ _ _ _ _ _ (zoks_tr hs _) hR (fun r G h hr hR z => ?_) y
    unfold zqI at z
    split at z
    · exact hk _ _ _ (zoks_c (show zok (zi _) from trivial) (zoks_drop hs _)) hR z
    · exact z.elim
  · rename_i hm
    rw [hm]
    refine zen_x (zroom_x fun y => ?_) x
    refine hc _ _ _ _ _ _ (zoks_tr hs _) hR (fun r G h hr hR z => ?_) y
    unfold zqR at z
    split at z
    · exact hk _ _ _ (zoks_c (hr _ rfl) (zoks_drop hs _)) hR z
    · exact z.elim
  · rename_i hm
    rw [hm]
    refine zen_x (zroom_x fun y => ?_) x
    refine hc _ _ _ _ _ _ (zoks_tr hs _) hR (fun r G h hr hR z => ?_) y
    unfold zqL at z
    split at z
    · exact hk _ _ _ (zoks_c (show zok (zl _) from trivial) (zoks_drop hs _)) hR z
    · exact z.elim
  · exact x.elim
  · exact x.elim
  · rename_i h0 h1 h2 h3 h4 h5
    have y := zroom_x (znat_x hs hR hk) x
    split
    · exact absurd (by assumption) h0
    · exact absurd (by assumption) h4
    · exact absurd (by assumption) h1
    · exact absurd (by assumption) h2
    · exact absurd (by assumption) h3
    · exact absurd (by assumption) h5
    · exact y
theorem zvirt_x {A B : Prop} (hs : zoks st) (hab : A → B) (x : zvirt e st A) : xvirt e (st.map zx) B := by
  unfold zvirt at x
  unfold xvirt
  split at x
  · rename_i hm
    rw [hm]
    exact hab x
  · rename_i q r hm
    rw [hm]
    rw [← List.map_drop]
    have hs' := zoks_drop hs (e.2.2.1.2.1 - 1)
    generalize List.drop (e.2.2.1.2.1 - 1) st = l at *
    unfold zr1 at x
    split at x
    · rename_i t n a r2
      obtain ⟨hb, x⟩ := zck_t x
      have hb := Bool.and_eq_true_iff.mp hb
      have hb1 := Nat.eq_of_beq_eq_true hb.1
      have hb2 : t < 10 := Nat.le_of_ble_eq_true hb.2
      obtain ⟨a0, ha⟩ := zoks_h hs'
      refine ⟨?_, hab x⟩
      show (xsh a.toNat).1 = q.2
      rw [(zkd_lt ha (by omega)).2.1, hb1]
    · exact x.elim
theorem zldc_x {f : List zV → Prop} {g : List Value → Prop} (hk : ∀ v, zok v → f (v :: st) → g (zx v :: st.map zx)) (x : zldc e st f) : xldc e (st.map zx) g := by
  unfold zldc at x
  unfold xldc
  split at x
  · rename_i hm
    rw [hm]
    obtain ⟨hb, x⟩ := zck_t x
    have hb : e.2.2.1.1 < xtxt.length := Nat.le_of_ble_eq_true hb
    refine hk (zr 15 _ _) (show zok (zr 15 _ _) from And.intro (by show (0 : Int) ≤ ((1000 + e.2.2.1.1 : Nat) : Int); omega) (Or.inr ⟨rfl, ?_, ?_, ?_⟩)) x
    · show 1000 ≤ 1000 + e.2.2.1.1; omega
    · show 1000 + e.2.2.1.1 < _; omega
    · show (xtxt.getD (1000 + e.2.2.1.1 - 1000) []).length = _
      rw [Nat.add_sub_cancel_left]
  · have := hk _ (show zok (zi _) from trivial) x
    have e1 : zx (zi e.2.2.2.1.toInt) = .int e.2.2.2.1 := by show Value.int (iI _) = _; rw [iI_of]
    rw [e1] at this
    split
    · exact absurd (by assumption) (by assumption)
    · exact this
theorem zlen_x {f : List zV → Prop} {g : List Value → Prop} (hs : zoks st) (hk : ∀ a r, zoks r → f (zi a :: r) → g (.int (iI a) :: r.map zx)) (x : zlen e st f) : xlen e (st.map zx) h call' g := by
  unfold zlen at x
  unfold xlen
  split
  · rename_i hm
    refine zr1_x hs (fun t n q r hq hr z => ?_) x
    obtain ⟨hb, z⟩ := zck_t z
    simp only [Bool.and_eq_true] at hb
    have b1 := Nat.eq_of_beq_eq_true hb.1.1
    have b2 := Nat.le_of_ble_eq_true hb.1.2
    omega
  · refine zr1_x hs (fun t n q r hq hr z => ?_) x
    obtain ⟨hb, z⟩ := zck_t z
    simp only [Bool.and_eq_true] at hb
    have b1 := Nat.eq_of_beq_eq_true hb.1.1
    have b2 := Nat.le_of_ble_eq_true hb.1.2
    have b3 : t < 15 := Nat.le_of_ble_eq_true hb.2
    obtain ⟨q1, q2, q3⟩ := zkd_lt hq.2 b3
    refine ⟨by show (xsh q.toNat).1 = _; rw [q2, b1], ?_⟩
    rw [q3 b2, iI_len]
    exact hk _ _ hr z
theorem zirt_x {c : Nat} {v : Int} {A B : Prop} (hab : A → B) (x : zirt c v A) : xirt c (iI v) B := by
  unfold zirt at x
  unfold xirt
  split at x
  · refine ⟨?_, hab x.2⟩
    rcases x.1 with rfl | rfl <;> decide
  · split
    · exact absurd rfl (by assumption)
    · exact hab x
theorem znil_x {t : List zV} {A B : Prop} (hab : A → B) (x : znil t A) : xnil (t.map zx) B := by
  unfold znil at x
  split at x
  · exact hab x
  · exact x.elim
theorem zael_x {t n : Nat} {q i : Int} {f : zV → Prop} {B : Prop} {g : Nat → Prop} (hR : zR G h) (hq : zok (t + 3, n, q)) (hi : 0 ≤ i ∧ i < (n : Int)) (hk : ∀ (c : Nat) (a : Int), zok (zr c 0 a) → f (zr c 0 a) → g a.toNat) (hB : ∀ p, g p → xnn p → xok q.toNat t → vp_in (iI i) (xsh q.toNat).2 → h.2.1 q.toNat (iI i).toNatClampNeg = p → B) (x : zael t q i f) : B := by
  obtain ⟨q0, hq⟩ := hq
  unfold zael at x
  split at x
  · obtain ⟨q1, q2, q3⟩ := zkd_lt hq (by decide)
    obtain ⟨l1, l2⟩ := zae_13 q1 q2
    have q3 := q3 (by decide)
    rw [l1] at q3
    have hi3 : i.toNat < 3 := by omega
    have hd := l2 i.toNat hi3
    have he : (q + 1 + 12 * i).toNat = q.toNat + 1 + 12 * i.toNat := by omega
    have hg := hk 0 _ ⟨by omega, by rw [he]; exact hd⟩ x
    refine hB _ hg (by rw [he]; exact zkd_nn hd) q2 (by rw [l1]; exact iI_in hi.1 (by omega) (by omega)) ?_
    rw [iI_clamp hi.1 (by omega), hR.2.2.1 _ _ q2 hi3, he]
  · obtain ⟨q1, q2, q3⟩ := zkd_lt hq (by decide)
    obtain ⟨l1, l2⟩ := zae_14 q1 q2
    have q3 := q3 (by decide)
    rw [l1] at q3
    have hi3 : i.toNat < 85 := by omega
    have hd := l2 i.toNat hi3
    have he : (q + 1 + i).toNat = q.toNat + 1 + i.toNat := by omega
    have hg := hk 3 _ ⟨by omega, by rw [he]; exact hd⟩ x
    refine hB _ hg (by rw [he]; exact zkd_nn hd) q2 (by rw [l1]; exact iI_in hi.1 (by omega) (by omega)) ?_
    rw [iI_clamp hi.1 (by omega), hR.2.2.2 _ _ q2 hi3, he]
  · exact x.elim
set_option maxHeartbeats 4000000 in
theorem zstep_x (hl : zoks ls) (hs : zoks st) (hR : zR G h) (hc : zcrel call call') (hr : zrel ret ret') (hk : ∀ pc ls st G h, zoks ls → zoks st → zR G h → k pc ls st G → k' pc (ls.map zx) (st.map zx) h) (x : zstep e pc ls st G call ret k) : xstep e pc (ls.map zx) (st.map zx) h call' ret' lim k' := by
  have kI : ∀ pc a r, zoks r → k pc ls (zi a :: r) G → k' pc (ls.map zx) (.int (iI a) :: r.map zx) h := fun pc a r hr z => hk pc ls (zi a :: r) G h hl (zoks_c (show zok (zi _) from trivial) hr) hR z
  have kL : ∀ pc a r, zoks r → k pc ls (zl a :: r) G → k' pc (ls.map zx) (.long (iL a) :: r.map zx) h := fun pc a r hr z => hk pc ls (zl a :: r) G h hl (zoks_c (show zok (zl _) from trivial) hr) hR z
  have kc : ∀ (pc : Nat) (v : Int32) r, zoks r → k pc ls (zi v.toInt :: r) G → k' pc (ls.map zx) (.int v :: r.map zx) h := fun pc v r hr z => by
    have := kI pc v.toInt r hr z
    rw [iI_of] at this
    exact this
  have kr : ∀ pc r, zoks r → k pc ls r G → k' pc (ls.map zx) (r.map zx) h := fun pc r hr z => hk pc ls r G h hl hr hR z
  have kv : ∀ pc v r, zok v → zoks r → k pc ls (v :: r) G → k' pc (ls.map zx) (zx v :: r.map zx) h := fun pc v r hv hr z => hk pc ls (v :: r) G h hl (zoks_c hv hr) hR z
  have k1 : ∀ (pc n : Nat) v r, zok v → zoks r → k pc (zs1 ls n v) r G → k' pc (xs1 (ls.map zx) n (zx v)) (r.map zx) h := fun pc n v r hv hr z => by
    have := hk pc _ r G h (zoks_s1 hl hv n) hr hR z
    rw [zs1_x] at this
    exact this
  have k2 : ∀ (pc n : Nat) v r, zok v → zoks r → k pc (zs2 ls n v) r G → k' pc (xs2 (ls.map zx) n (zx v)) (r.map zx) h := fun pc n v r hv hr z => by
    have := hk pc _ r G h (zoks_s2 hl hv n) hr hR z
    rw [zs2_x] at this
    exact this
  have km : ∀ (pc : Nat) r (G : zG) (h : xM), zoks r → zR G h → k pc ls r G → k' pc (ls.map zx) (r.map zx) h := fun pc r G h hr hR z => hk pc ls r G h hl hr hR z
  obtain ⟨⟨ins, len⟩, cut, ⟨ea, eb, ec, ed⟩, ev, es⟩ := e
  cases ins with
  | aaload =>
    refine zri_x hs (fun t n q i r hq hr z0 => ?_) x
    obtain ⟨hb, hi, z⟩ := zck_t z0
    clear z0
    have hb := Nat.eq_of_beq_eq_true hb
    have hb : t = ea := hb
    subst hb
    refine zael_x hR hq hi (f := fun v => k (pc + 1) ls (v :: r) G) (g := fun p => k' (pc + 1) (ls.map zx) (.ref p :: r.map zx) h) (fun c a hv w => kv _ (zr c 0 a) _ hv hr w) (fun p hp h1 h2 h3 h4 => ?_) z
    rw [h4]
    exact ⟨h2, h3, h1, hp⟩
  | aload n => exact zrl_x hl (fun t m a ha z => kv _ (zr t m a) _ ha hs z) x
  | aload_n n => exact zrl_x hl (fun t m a ha z => kv _ (zr t m a) _ ha hs z) x
  | areturn => exact zr1_x hs (fun t n q r hq hr' z => znil_x (fun y => hr (some (zr t n q)) G h (fun v hv => by cases hv; exact hq) hR y) z) x
  | arraylength => exact zlen_x (f := fun t => k (pc + 1) ls t G) (g := fun t => k' (pc + 1) (ls.map zx) t h) hs (fun a r hr z => kI _ _ _ hr z) x
  | astore n => exact zr1_x hs (fun t m q r hq hr z => k1 _ _ (zr t m q) _ hq hr z) x
  | astore_n n => exact zr1_x hs (fun t m q r hq hr z => k1 _ _ (zr t m q) _ hq hr z) x
  | baload => exact zald_x (f := fun t => k (pc + 1) ls t G) (g := fun t => k' (pc + 1) (ls.map zx) t h) hs hR (fun a r hr z => kI _ _ _ hr z) x
  | bastore =>
    obtain ⟨hb, x⟩ := zck_t x
    have hb : 10 < ea := Nat.le_of_ble_eq_true hb
    exact zast_x (c := ea) (Or.inr ⟨by omega, fun v => rfl⟩) hs hR (fun r G h hr hR z => km _ _ _ _ hr hR z) x
  | bipush b => exact kc _ _ _ hs x
  | dup => exact z1c_x (g := fun v r => k' (pc + 1) (ls.map zx) (v :: v :: r) h) hs (fun v r hv hr z => hk _ ls (v :: v :: r) G h hl (zoks_c hv (zoks_c hv hr)) hR z) x
  | dup2 => exact z2c_x hs (fun v w r hv hw hr z => hk _ ls (v :: w :: v :: w :: r) G h hl (zoks_c hv (zoks_c hw (zoks_c hv (zoks_c hw hr)))) hR z) x
  | getfield i => exact zr1_x hs (fun t n q r hq hr z => by
      obtain ⟨hb, z⟩ := zck_t z
      exact zget_x hR hq (Nat.eq_of_beq_eq_true hb) hr (fun v hv w => kv _ _ _ hv hr w) z) x
  | goto o => exact kr _ _ hs x
  | i2b => exact zi1_x hs (fun a r hr z => by rw [iI_zb]; exact kI _ _ _ hr z) x
  | i2c => exact zi1_x hs (fun a r hr z => by rw [iI_i2c z.1.1 z.1.2]; exact kI _ _ _ hr z.2) x
  | i2l => exact zi1_x hs (fun a r hr z => by rw [iI_i2l z.1]; exact kL _ _ _ hr z.2) x
  | iadd => exact zi2_x hs (fun a b r hr z => by rw [iI_add]; exact kI _ _ _ hr z) x
  | iaload =>
    obtain ⟨hb, x⟩ := zck_t x
    have hb : ea = 0 := Nat.eq_of_beq_eq_true hb
    subst hb
    exact zald_x (f := fun t => k (pc + 1) ls t G) (g := fun t => k' (pc + 1) (ls.map zx) t h) hs hR (fun a r hr z => kI _ _ _ hr z) x
  | iand => exact zi2_x hs (fun a b r hr z => by have := kI _ _ _ hr z; rw [show iI (zand a b) = iI a &&& iI b from iI_of _] at this; exact this) x
  | iastore => exact zast_x (Or.inl ⟨rfl, fun v => rfl⟩) hs hR (fun r G h hr hR z => km _ _ _ _ hr hR z) x
  | iconst n => exact kc _ _ _ hs x
  | idiv => exact zi2_x hs (fun a b r hr z => by
      rw [iI_div z.1]
      refine ⟨fun w => ?_, kI _ _ _ hr z.2⟩
      rw [iI_0, iI_eq ⟨by omega, by omega⟩ rg_0] at w
      omega) x
  | if_icmp c o => exact zi2_x hs (fun a b r hr z => by
      rw [zcond_x z.1.1 z.1.2]
      exact ⟨fun w => kr _ _ hr (z.2.1 w), fun w => kr _ _ hr (z.2.2 w)⟩) x
  | ifCond c o => exact zi1_x hs (fun a r hr z => by
      rw [iI_0, zcond_x z.1 rg_0]
      exact ⟨fun w => kr _ _ hr (z.2.1 w), fun w => kr _ _ hr (z.2.2 w)⟩) x
  | iinc n m => exact zil_x (fun a z => by
      have := k1 _ n (zi (a + ev.toInt)) _ (show zok (zi _) from trivial) hs z
      rw [show zx (zi (a + ev.toInt)) = .int (iI a + ev) by show Value.int (iI _) = _; rw [← iI_add, iI_of]] at this
      exact this) x
  | iload n => exact zil_x (fun a z => kI _ _ _ hs z) x
  | iload_n n => exact zil_x (fun a z => kI _ _ _ hs z) x
  | imul => exact zi2_x hs (fun a b r hr z => by rw [iI_mul]; exact kI _ _ _ hr z) x
  | invokespecial i => exact zcall_x hs hR hc (fun r G h hr hR z => km _ _ _ _ hr hR z) x
  | invokestatic i => exact zcall_x hs hR hc (fun r G h hr hR z => km _ _ _ _ hr hR z) x
  | invokevirtual i => exact zvirt_x hs (zcall_x hs hR hc (fun r G h hr hR z => km _ _ _ _ hr hR z)) x
  | ior => exact zi2_x hs (fun a b r hr z => by have := kI _ _ _ hr z; rw [show iI (zor a b) = iI a ||| iI b from iI_of _] at this; exact this) x
  | irem => exact zi2_x hs (fun a b r hr z => by
      rw [iI_rem z.1]
      refine ⟨fun w => ?_, kI _ _ _ hr z.2⟩
      rw [iI_0, iI_eq ⟨by omega, by omega⟩ rg_0] at w
      omega) x
  | ireturn => exact zi1_x hs (fun a r hr' z => znil_x (fun y => zirt_x (fun w => hr (some (zi a)) G h (fun v hv => by cases hv; trivial) hR w) y) z) x
  | ishl => exact zi2_x hs (fun a b r hr z => by have := kI _ _ _ hr z; rw [show iI (zshl a b) = iI a <<< (iI b &&& 31) from iI_of _] at this; exact this) x
  | ishr => exact zi2_x hs (fun a b r hr z => by have := kI _ _ _ hr z; rw [show iI (zshr a b) = iI a >>> (iI b &&& 31) from iI_of _] at this; exact this) x
  | istore n => exact zi1_x hs (fun a r hr z => k1 _ _ (zi a) _ (show zok (zi _) from trivial) hr z) x
  | istore_n n => exact zi1_x hs (fun a r hr z => k1 _ _ (zi a) _ (show zok (zi _) from trivial) hr z) x
  | isub => exact zi2_x hs (fun a b r hr z => by rw [iI_sub]; exact kI _ _ _ hr z) x
  | ixor => exact zi2_x hs (fun a b r hr z => by have := kI _ _ _ hr z; rw [show iI (zxor a b) = iI a ^^^ iI b from iI_of _] at this; exact this) x
  | lcmp => exact zl2_x hs (fun a b r hr z => by rw [iI_lcmp z.1.1 z.1.2]; exact kI _ _ _ hr z.2) x
  | lconst n => exact (by
      have := kL _ _ _ hs x
      rw [show iL (Int.ofNat n.val) = Int64.ofNat n.val from Int64.ofInt_eq_ofNat] at this
      exact this)
  | ldc i => exact zldc_x (f := fun t => k (pc + 2) ls t G) (g := fun t => k' (pc + 2) (ls.map zx) t h) (fun v hv z => kv _ _ _ hv hs z) x
  | ldc_w i => exact zldc_x (f := fun t => k (pc + 3) ls t G) (g := fun t => k' (pc + 3) (ls.map zx) t h) (fun v hv z => kv _ _ _ hv hs z) x
  | ldc2_w i => exact (by
      have := kL _ _ _ hs x
      rw [← iI_i2l (rg_i ev), iI_of] at this
      exact this)
  | lload n => exact zll_x (fun a z => kL _ _ _ hs z) x
  | lload_n n => exact zll_x (fun a z => kL _ _ _ hs z) x
  | lookupswitch a b => exact zi1_x hs (fun a r hr z => zsw_x z.1 (fun t w => kr _ _ hr w) _ z.2) x
  | lor => exact zl2_x hs (fun a b r hr z => by have := kL _ _ _ hr z; rw [show iL (zlor a b) = iL a ||| iL b from iL_of _] at this; exact this) x
  | lreturn => exact zl1_x hs (fun a r hr' z => znil_x (fun w => hr (some (zl a)) G h (fun v hv => by cases hv; trivial) hR w) z) x
  | lshl => exact zli_x hs (fun a b r hr z => by have := kL _ _ _ hr z; rw [show iL (zlshl a b) = iL a <<< ((iI b).toInt64 &&& 63) from iL_of _] at this; exact this) x
  | lstore n => exact zl1_x hs (fun a r hr z => k2 _ _ (zl a) _ (show zok (zl _) from trivial) hr z) x
  | lstore_n n => exact zl1_x hs (fun a r hr z => k2 _ _ (zl a) _ (show zok (zl _) from trivial) hr z) x
  | pop => exact z1c_x (g := fun _ r => k' (pc + 1) (ls.map zx) r h) hs (fun v r hv hr z => kr _ _ hr z) x
  | putfield i => exact zput_x hs hR (fun r G h hr hR z => km _ _ _ _ hr hR z) x
  | return_ => exact znil_x (fun y => hr none G h (fun v hv => by cases hv) hR y) x
  | sipush b => exact kc _ _ _ hs x
  | tableswitch a b c d => exact zi1_x hs (fun a r hr z => zsw_x z.1 (fun t w => kr _ _ hr w) _ z.2) x
  | _ => exact False.elim x
theorem zAt_x {T : Nat → Option xE} (hcm : xcm call') (hc : zcrel call call') (hr : zrel ret ret') (hl : zoks ls) (hs : zoks st) (hR : zR G h) (x : zAt T call ret pc ls st G) : xAt T call' ret' lim pc (ls.map zx) (st.map zx) h := by
  refine x (fun pc ls st G => ∀ h, zoks ls → zoks st → zR G h → xAt T call' ret' lim pc (ls.map zx) (st.map zx) h) (fun pc ls st G z h hl hs hR => ?_) h hl hs hR
  refine xAt_step hcm ?_
  unfold zgo at z
  unfold xgo
  split at z
  · exact z.elim
  · rename_i en hen
    rw [hen]
    have := zstep_x (lim := lim) (zoks_oc (o := en.2.1) hl) hs hR hc hr (k' := xAt T call' ret' lim) (fun pc ls st G h hl hs hR w => w h hl hs hR) z
    rw [zoc_x] at this
    exact this
theorem zarg_x : ∀ vs : List zV, (zarg vs).map zx = xarg (vs.map zx) := by
  intro vs
  induction vs with
  | nil => rfl
  | cons v vs ih =>
    show ((bif Nat.beq v.1 2 then [v, z0] else [v]) ++ zarg vs).map zx = (bif Nat.beq (zx v).category 2 then [zx v, .null] else [zx v]) ++ xarg (vs.map zx)
    rw [List.map_append, ih, zx_cat]
    cases Nat.beq v.1 2 <;> rfl
theorem zoks_arg : ∀ vs : List zV, zoks vs → zoks (zarg vs) := by
  intro vs hv u hu
  obtain ⟨v, h1, h2⟩ := List.mem_flatMap.mp hu
  cases hb : Nat.beq v.1 2 with
  | false => rw [hb] at h2; rcases List.mem_singleton.mp h2 with rfl; exact hv _ h1
  | true =>
    rw [hb] at h2
    rcases List.mem_cons.mp h2 with rfl | h2
    · exact hv _ h1
    · rcases List.mem_singleton.mp h2 with rfl; trivial
theorem zW_x : ∀ d : Nat, zcrel (zW d) (xW xP d) := by
  intro d
  induction d with
  | zero => intro j vs G h Q Q' hv hR hQ x; exact x.elim
  | succ d ih =>
    intro j vs G h Q Q' hv hR hQ x
    obtain ⟨hb, x⟩ := zck_t x
    have hb := Bool.and_eq_true_iff.mp hb
    have b1 := Nat.le_of_ble_eq_true hb.1
    have b2 := Nat.eq_of_beq_eq_true hb.2
    have ha := zarg_x vs
    refine ⟨by rw [← ha, List.length_map]; exact b1, ?_⟩
    have hl : zoks (zloc vs (xP j).2.2.2.1) := by
      intro u hu
      rcases List.mem_append.mp hu with hu | hu
      · exact zoks_arg vs hv u hu
      · rw [(List.mem_replicate.mp hu).2]; trivial
    have := zAt_x (lim := h.2.2 + (xP j).2.2.2.2.2.2.1) (ret' := xfin (xP j).2.2.2.2.2.2.1 (h.2.2 + (xP j).2.2.2.2.2.2.1) Q') (xW_m xP d) ih (fun r G h2 hr hR z => by rw [b2]; exact hQ r G h2 hr hR z) hl (st := []) (fun v hv => by cases hv) hR x
    have e1 : (zloc vs (xP j).2.2.2.1).map zx = xloc (vs.map zx) (xP j).2.2.2.1 := by
      unfold zloc xloc
      rw [List.map_append, ha, List.map_replicate, ← ha, List.length_map]
      rfl
    rw [e1] at this
    exact this
end ZS
