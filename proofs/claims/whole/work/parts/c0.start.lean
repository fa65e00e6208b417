/-! THE START: constructors by a run of the kernel -/
abbrev eM : Type := List (Nat × Nat × Int32) × List (Nat × Nat × Nat) × Nat
def wrI : List (Nat × Nat × Int32) → Nat → Nat → Int32
  | [], _, _ => 0
  | e :: r, k, i => if k = e.1 ∧ i = e.2.1 then e.2.2 else wrI r k i
def wrR : List (Nat × Nat × Nat) → Nat → Nat → Nat
  | [], _, _ => xNUL
  | e :: r, k, i => if k = e.1 ∧ i = e.2.1 then e.2.2 else wrR r k i
def den (m : eM) : xM := (wrI m.1, wrR m.2.1, m.2.2)
def frs (m : eM) : Bool := m.1.all (fun e => Nat.blt e.1 m.2.2) && m.2.1.all (fun e => Nat.blt e.1 m.2.2)
theorem wrI_n {L : List (Nat × Nat × Int32)} {n : Nat} (h : L.all (fun e => Nat.blt e.1 n) = true) (i : Nat) : wrI L n i = 0 := by
  induction L with
  | nil => rfl
  | cons e r ih =>
    rw [List.all_cons, Bool.and_eq_true] at h
    have h1 : e.1 < n := Nat.le_of_ble_eq_true h.1
    show (if n = e.1 ∧ i = e.2.1 then e.2.2 else wrI r n i) = 0
    rw [if_neg (by omega)]; exact ih h.2
theorem wrR_n {L : List (Nat × Nat × Nat)} {n : Nat} (h : L.all (fun e => Nat.blt e.1 n) = true) (i : Nat) : wrR L n i = xNUL := by
  induction L with
  | nil => rfl
  | cons e r ih =>
    rw [List.all_cons, Bool.and_eq_true] at h
    have h1 : e.1 < n := Nat.le_of_ble_eq_true h.1
    show (if n = e.1 ∧ i = e.2.1 then e.2.2 else wrR r n i) = xNUL
    rw [if_neg (by omega)]; exact ih h.2
def eadd (m : eM) : eM := (m.1, m.2.1, m.2.2 + 1)
theorem den_new {m : eM} (h : frs m = true) : xnew (den m) = den (eadd m) := by
  have h := Bool.and_eq_true_iff.mp h
  unfold xnew den eadd
  refine Prod.ext ?_ (Prod.ext ?_ rfl)
  · funext k i
    show (if k = m.2.2 then 0 else wrI m.1 k i) = wrI m.1 k i
    by_cases c : k = m.2.2
    · rw [if_pos c, c, wrI_n h.1]
    · rw [if_neg c]
  · funext k i
    show (if k = m.2.2 then xNUL else wrR m.2.1 k i) = wrR m.2.1 k i
    by_cases c : k = m.2.2
    · rw [if_pos c, c, wrR_n h.2]
    · rw [if_neg c]
abbrev eR : Type := Option (Nat × List Value × List Value × eM)
def epush (pc : Nat) (ls st : List Value) (m : eM) (v : Value) : eR := some (pc, ls, v :: st, m)
def earr (c : Nat) (pc n : Nat) (ls st : List Value) (m : eM) (lim : Nat) : eR := match st with
  | .int v :: r => bif Nat.blt m.2.2 lim && decide (¬ v < 0) && Nat.beq (xsh m.2.2).1 c && Nat.beq (xsh m.2.2).2 v.toNatClampNeg && frs m then some (pc + n, ls, .ref m.2.2 :: r, eadd m) else none
  | _ => none
def eput (e : xE) (pc : Nat) (ls st : List Value) (m : eM) : eR := match e.2.2.1.2.2.1, st with
  | 0, .int v :: .ref q :: r => bif Nat.beq (xsh q).1 e.2.2.1.1 then some (pc + 3, ls, r, ((q, e.2.2.1.2.1, v) :: m.1, m.2)) else none
  | 2, .int v :: .ref q :: r => bif Nat.beq (xsh q).1 e.2.2.1.1 && (decide (v = 0) || decide (v = 1)) then some (pc + 3, ls, r, ((q, e.2.2.1.2.1, v) :: m.1, m.2)) else none
  | 1, .ref v :: .ref q :: r => bif Nat.beq (xsh q).1 e.2.2.1.1 && !(Nat.beq v xNUL) then some (pc + 3, ls, r, (m.1, (q, e.2.2.1.2.1, v) :: m.2.1, m.2.2)) else none
  | 11, .ref v :: .ref q :: r => bif Nat.beq (xsh q).1 e.2.2.1.1 && !(Nat.beq v xNUL) then some (pc + 3, ls, r, (m.1, (q, e.2.2.1.2.1, v) :: m.2.1, m.2.2)) else none
  | _, _ => none
def ecal (e : xE) (pc : Nat) (ls st : List Value) (m : eM) (lim : Nat) (call : Nat → List Value → eM → Option eM) : eR := match e.2.2.1.2.2.1, st with
  | 6, .ref _ :: r => bif Nat.beq e.2.2.1.2.1 1 && Nat.ble r.length 4 then some (pc + 3, ls, r, m) else none
  | 9, .ref q :: r => bif Nat.beq e.2.2.1.2.1 1 && Nat.ble r.length 4 then (match call e.2.2.1.1 [.ref q] m with | some m' => some (pc + 3, ls, r, m') | none => none) else none
  | 13, .ref q :: r => bif Nat.beq e.2.2.1.2.1 1 && Nat.ble r.length 4 && Nat.ble (m.2.2 + xsw2 e 0) lim && Nat.beq (xS (m.2.2 + xsw2 e 0)) (xS m.2.2 + xsw2 e 1) then (match call e.2.2.1.1 [.ref q] m with | some m' => some (pc + 3, ls, r, m') | none => none) else none
  | _, _ => none
def est (call : Nat → List Value → eM → Option eM) (lim : Nat) (e : xE) (pc : Nat) (ls st : List Value) (m : eM) : eR := match e.1.1 with
  | .aload_n n => (match ls[n.val]? with | some (.ref a) => epush (pc + 1) ls st m (.ref a) | _ => none)
  | .iload_n n => (match ls[n.val]? with | some (.int a) => epush (pc + 1) ls st m (.int a) | _ => none)
  | .bipush _ => epush (pc + 2) ls st m (.int e.2.2.2.1)
  | .sipush _ => epush (pc + 3) ls st m (.int e.2.2.2.1)
  | .iconst _ => epush (pc + 1) ls st m (.int e.2.2.2.1)
  | .newarray _ => earr e.2.2.1.1 pc 2 ls st m lim
  | .anewarray _ => earr e.2.2.1.1 pc 3 ls st m lim
  | .new _ => bif Nat.blt m.2.2 lim && Nat.beq (xsh m.2.2).1 e.2.2.1.1 && frs m then some (pc + 3, ls, .ref m.2.2 :: st, eadd m) else none
  | .dup => (match st with | .ref a :: r => some (pc + 1, ls, .ref a :: .ref a :: r, m) | _ => none)
  | .istore_n n => (match st with | .int a :: r => some (pc + 1, xs1 ls n.val (.int a), r, m) | _ => none)
  | .if_icmp .ge _ => (match st with | .int y :: .int x :: r => bif decide (y ≤ x) then some (e.2.2.1.1, ls, r, m) else some (pc + 3, ls, r, m) | _ => none)
  | .getfield _ => (match st with | .ref q :: r => bif Nat.beq (xsh q).1 e.2.2.1.1 && Nat.beq e.2.2.1.2.2.1 1 && !(Nat.beq (wrR m.2.1 q e.2.2.1.2.1) xNUL) then some (pc + 3, ls, .ref (wrR m.2.1 q e.2.2.1.2.1) :: r, m) else none | _ => none)
  | .aastore => (match st with | .ref v :: .int i :: .ref q :: r => bif Nat.beq (xsh q).1 e.2.2.1.1 && decide (¬ (i < 0 ∨ (xsh q).2 ≤ i.toNatClampNeg)) && Nat.beq (xsh v).1 e.2.2.1.2.1 then some (pc + 1, ls, r, (m.1, (q, i.toNatClampNeg, v) :: m.2.1, m.2.2)) else none | _ => none)
  | .iinc n _ => (match ls[n]? with | some (.int x) => some (pc + 3, xs1 ls n (.int (x + e.2.2.2.1)), st, m) | _ => none)
  | .goto _ => some (e.2.2.1.1, ls, st, m)
  | .putfield _ => eput e pc ls st m
  | .invokespecial _ => ecal e pc ls st m lim call
  | _ => none
theorem bif_t {α : Type} {b : Bool} {x : Option α} {y : α} (h : (bif b then x else none) = some y) : b = true ∧ x = some y := by
  cases b with
  | true => exact ⟨rfl, h⟩
  | false => cases h
def ecr (call : Nat → List Value → eM → Option eM) (call' : Nat → List Value → xM → (Option Value → xM → Prop) → Prop) : Prop := ∀ i vs m m', call i vs m = some m' → ∀ Q : Option Value → xM → Prop, Q none (den m') → call' i vs (den m) Q
section ES
variable {call : Nat → List Value → eM → Option eM} {call' : Nat → List Value → xM → (Option Value → xM → Prop) → Prop} {ret : Option Value → xM → Prop} {lim : Nat} {X : Nat → List Value → List Value → xM → Prop} {e : xE} {pc p2 : Nat} {ls st l2 s2 : List Value} {m m2 : eM}
theorem earr_x {c n : Nat} (h : earr c pc n ls st m lim = some (p2, l2, s2, m2)) (hX : X p2 l2 s2 (den m2)) : xi1 st fun v r => (den m).2.2 < lim ∧ ¬ v < 0 ∧ xsh (den m).2.2 = (c, v.toNatClampNeg) ∧ X (pc + n) ls (.ref (den m).2.2 :: r) (xnew (den m)) := by
  unfold earr at h
  split at h
  · rename_i v r
    obtain ⟨hb, h⟩ := bif_t h
    simp only [Bool.and_eq_true, decide_eq_true_eq] at hb
    obtain ⟨⟨⟨⟨b1, b2⟩, b3⟩, b4⟩, b5⟩ := hb
    cases h
    refine ⟨Nat.le_of_ble_eq_true b1, b2, Prod.ext (Nat.eq_of_beq_eq_true b3) (Nat.eq_of_beq_eq_true b4), ?_⟩
    rw [den_new b5]; exact hX
  · cases h
theorem not_beq {a b : Nat} (h : (!(Nat.beq a b)) = true) : a ≠ b := by
  intro e
  subst e
  rw [Nat.beq_refl] at h
  cases h
theorem eput_x (h : eput e pc ls st m = some (p2, l2, s2, m2)) (hX : X p2 l2 s2 (den m2)) : xput e st (den m) fun t h' => X (pc + 3) ls t h' := by
  unfold eput at h
  unfold xput
  split at h
  · rename_i he
    obtain ⟨hb, h⟩ := bif_t h
    cases h
    rw [he]
    exact ⟨Nat.eq_of_beq_eq_true hb, hX⟩
  · rename_i he
    obtain ⟨hb, h⟩ := bif_t h
    simp only [Bool.and_eq_true, Bool.or_eq_true, decide_eq_true_eq] at hb
    cases h
    rw [he]
    exact ⟨Nat.eq_of_beq_eq_true hb.1, hb.2, hX⟩
  · rename_i he
    obtain ⟨hb, h⟩ := bif_t h
    have hb := Bool.and_eq_true_iff.mp hb
    cases h
    rw [he]
    exact ⟨Nat.eq_of_beq_eq_true hb.1, not_beq hb.2, hX⟩
  · rename_i he
    obtain ⟨hb, h⟩ := bif_t h
    have hb := Bool.and_eq_true_iff.mp hb
    cases h
    rw [he]
    exact ⟨Nat.eq_of_beq_eq_true hb.1, not_beq hb.2, hX⟩
  · cases h
theorem xroom_t {r : List Value} {A : Prop} (h : Nat.ble r.length 4 = true) (a : A) : xroom r A := by
  unfold xroom; rw [h]; exact a
theorem ecal_x (hc : ecr call call') (h : ecal e pc ls st m lim call = some (p2, l2, s2, m2)) (hX : X p2 l2 s2 (den m2)) : xcall e lim st (den m) call' fun t h' => X (pc + 3) ls t h' := by
  unfold ecal at h
  unfold xcall
  split at h
  · rename_i he
    obtain ⟨hb, h⟩ := bif_t h
    have hb := Bool.and_eq_true_iff.mp hb
    have h1 := Nat.eq_of_beq_eq_true hb.1
    cases h
    rw [he, h1]
    exact xroom_t hb.2 hX
  · rename_i q r he
    obtain ⟨hb, h⟩ := bif_t h
    have hb := Bool.and_eq_true_iff.mp hb
    have h1 := Nat.eq_of_beq_eq_true hb.1
    split at h
    · rename_i m' hm
      cases h
      rw [he, h1]
      show xrcv e (.ref q :: r) _
      unfold xrcv
      rw [h1]
      exact xroom_t hb.2 (hc _ _ _ _ hm _ hX)
    · cases h
  · rename_i q r he
    obtain ⟨hb, h⟩ := bif_t h
    simp only [Bool.and_eq_true] at hb
    obtain ⟨⟨⟨b1, b2⟩, b3⟩, b4⟩ := hb
    have h1 := Nat.eq_of_beq_eq_true b1
    split at h
    · rename_i m' hm
      cases h
      rw [he, h1]
      show xrcv e (.ref q :: r) _
      unfold xrcv
      rw [h1]
      exact xroom_t b2 ⟨Nat.le_of_ble_eq_true b3, Nat.eq_of_beq_eq_true b4, hc _ _ _ _ hm _ hX⟩
    · cases h
  · cases h
theorem est_x (hc : ecr call call') (h : est call lim e pc ls st m = some (p2, l2, s2, m2)) (hX : X p2 l2 s2 (den m2)) : xstep e pc ls st (den m) call' ret lim X := by
  unfold est at h
  unfold xstep
  split at h
  · rename_i he
    rw [he]
    split at h
    · rename_i hl; cases h; show xrl ls _ _; unfold xrl; rw [hl]; exact hX
    · cases h
  · rename_i he
    rw [he]
    split at h
    · rename_i hl; cases h; show xil ls _ _; unfold xil; rw [hl]; exact hX
    · cases h
  · rename_i he; rw [he]; cases h; exact hX
  · rename_i he; rw [he]; cases h; exact hX
  · rename_i he; rw [he]; cases h; exact hX
  · rename_i he; rw [he]; exact earr_x h hX
  · rename_i he; rw [he]; exact earr_x h hX
  · rename_i he
    rw [he]
    obtain ⟨hb, h⟩ := bif_t h
    simp only [Bool.and_eq_true] at hb
    cases h
    refine ⟨Nat.le_of_ble_eq_true hb.1.1, Nat.eq_of_beq_eq_true hb.1.2, ?_⟩
    rw [den_new hb.2]; exact hX
  · rename_i he
    rw [he]
    split at h
    · cases h; exact hX
    · cases h
  · rename_i he
    rw [he]
    split at h
    · cases h; exact hX
    · cases h
  · rename_i he
    rw [he]
    split at h
    · rename_i y x r
      cases hd : decide (y ≤ x) with
      | true =>
        rw [hd] at h
        cases h
        have := of_decide_eq_true hd
        exact ⟨fun _ => hX, fun hn => absurd this hn⟩
      | false =>
        rw [hd] at h
        cases h
        have := of_decide_eq_false hd
        exact ⟨fun hn => absurd hn this, fun _ => hX⟩
    · cases h
  · rename_i he
    rw [he]
    split at h
    · obtain ⟨hb, h⟩ := bif_t h
      simp only [Bool.and_eq_true] at hb
      cases h
      refine ⟨Nat.eq_of_beq_eq_true hb.1.1, ?_⟩
      unfold xget
      rw [Nat.eq_of_beq_eq_true hb.1.2]
      exact ⟨not_beq hb.2, hX⟩
    · cases h
  · rename_i he
    rw [he]
    split at h
    · obtain ⟨hb, h⟩ := bif_t h
      simp only [Bool.and_eq_true, decide_eq_true_eq] at hb
      cases h
      exact ⟨Nat.eq_of_beq_eq_true hb.1.1, hb.1.2, Nat.eq_of_beq_eq_true hb.2, hX⟩
    · cases h
  · rename_i he
    rw [he]
    split at h
    · rename_i hl; cases h; show xil ls _ _; unfold xil; rw [hl]; exact hX
    · cases h
  · rename_i he; rw [he]; cases h; exact hX
  · rename_i he; rw [he]; exact eput_x h hX
  · rename_i he; rw [he]; exact ecal_x hc h hX
  · cases h
end ES
def erun (T : Nat → Option xE) (call : Nat → List Value → eM → Option eM) (lim : Nat) : Nat → Nat → List Value → List Value → eM → Option eM
  | 0, _, _, _, _ => none
  | k + 1, pc, ls, st, m => match T pc with
    | none => none
    | some e => match e.1.1 with
      | .return_ => (match st with | [] => some m | _ => none)
      | _ => match est call lim e pc (xoc e.2.1 ls) st m with
        | some r => erun T call lim k r.1 r.2.1 r.2.2.1 r.2.2.2
        | none => none
theorem erun_x {T : Nat → Option xE} {call : Nat → List Value → eM → Option eM} {call' : Nat → List Value → xM → (Option Value → xM → Prop) → Prop} {ret : Option Value → xM → Prop} {lim : Nat} (hcm : xcm call') (hc : ecr call call') : ∀ (k pc : Nat) (ls st : List Value) (m m' : eM), erun T call lim k pc ls st m = some m' → ret none (den m') → xAt T call' ret lim pc ls st (den m) := by
  intro k
  induction k with
  | zero => intro pc ls st m m' h; cases h
  | succ k ih =>
    intro pc ls st m m' h hr
    unfold erun at h
    refine xAt_step hcm ?_
    unfold xgo
    split at h
    · cases h
    · rename_i e he
      rw [he]
      split at h
      · rename_i hi
        split at h
        · cases h
          show xstep e pc _ _ _ _ _ _ _
          unfold xstep
          rw [hi]
          exact hr
        · cases h
      · split at h
        · rename_i r hs
          exact est_x hc hs (ih _ _ _ _ _ h hr)
        · cases h
def ecall : Nat → Nat → List Value → eM → Option eM
  | 0, _, _, _ => none
  | d + 1, i, vs, m => bif Nat.ble (xarg vs).length (xP i).2.2.2.1 then (match erun (xP i).2.2.2.2.2.1 (ecall d) (m.2.2 + (xP i).2.2.2.2.2.2.1) 4000 0 (xloc vs (xP i).2.2.2.1) [] m with
    | some m' => bif Nat.beq m'.2.2 (m.2.2 + (xP i).2.2.2.2.2.2.1) then some m' else none
    | none => none) else none
theorem ecall_x : ∀ d, ecr (ecall d) (xW xP d) := by
  intro d
  induction d with
  | zero => intro i vs m m' h; cases h
  | succ d ih =>
    intro i vs m m' h Q hQ
    unfold ecall at h
    obtain ⟨hb, h⟩ := bif_t h
    split at h
    · rename_i m2 hm
      obtain ⟨hb2, h⟩ := bif_t h
      cases h
      refine ⟨Nat.le_of_ble_eq_true hb, erun_x (xW_m xP d) ih _ _ _ _ _ _ hm ?_⟩
      have := Nat.eq_of_beq_eq_true hb2
      unfold xfin
      split
      · exact hQ
      · rename_i n hn
        exact ⟨this, hQ⟩
    · cases h
