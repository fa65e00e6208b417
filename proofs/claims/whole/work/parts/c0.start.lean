/-! THE START: constructors by a run of the kernel -/
abbrev eM : Type := List (Nat × Nat × Int32) × List (Nat × Nat × Nat) × Nat
def wrI : List (Nat × Nat × Int32) → Nat → Nat → Int32
  | [], _, _ => 0
  | e :: r, k, i => if k = e.1 ∧ i = e.2.1 then e.2.2 else wrI r k i
def wrR : List (Nat × Nat × Nat) → Nat → Nat → Nat
  | [], _, _ => xNUL
  | e :: r, k, i => if k = e.1 ∧ i = e.2.1 then e.2.2 else wrR r k i
def den (m : eM) : xM := (wrI m.1, wrR m.2.1, m.2.2)
def frs (m : eM) : Bool := match m with
  | (L, R, n) => L.all (fun e => Nat.blt e.1 n) && R.all (fun e => Nat.blt e.1 n)
def fcN {α : Type} (n : Nat) (k : Nat → α) : α := match n with
  | 0 => k 0
  | p + 1 => k (p + 1)
theorem fcN_eq {α : Type} (n : Nat) (k : Nat → α) : fcN n k = k n := by
  cases n <;> rfl
theorem wrI_n {L : List (Nat × Nat × Int32)} {n : Nat} (h : L.all (fun e => Nat.blt e.1 n) = true) (i : Nat) : wrI L n i = 0 := by
  induction L with
  | nil => rfl
  | cons e r ih =>
    rw [List.all_cons, Bool.and_eq_true] at h
    have h1 : e.1 < n := Nat.le_of_ble_eq_true h.1
    show (if n = e.1 ∧ i = e.2.1 then e.2.2 else wrI r n i) = 0
    rw [if_neg (by omega)]; exact ih h.2
theorem wrR_n {L : List (Nat × Nat × Nat)} {n : Nat} (h : L.all (fun e => Nat.blt e.1 n) = true) (i : Nat) : wrR L n i = xNUL := by
  induction L with
  | nil => rfl
  | cons e r ih =>
    rw [List.all_cons, Bool.and_eq_true] at h
    have h1 : e.1 < n := Nat.le_of_ble_eq_true h.1
    show (if n = e.1 ∧ i = e.2.1 then e.2.2 else wrR r n i) = xNUL
    rw [if_neg (by omega)]; exact ih h.2
def eadd (m : eM) : eM := match m with
  | (L, R, n) => (L, R, n + 1)
theorem den_new {m : eM} (h : frs m = true) : xnew (den m) = den (eadd m) := by
  obtain ⟨L, R, n⟩ := m
  have h := Bool.and_eq_true_iff.mp h
  unfold xnew den eadd
  refine Prod.ext ?_ (Prod.ext ?_ rfl)
  · funext k i
    show (if k = n then 0 else wrI L k i) = wrI L k i
    by_cases c : k = n
    · rw [if_pos c, c, wrI_n h.1]
    · rw [if_neg c]
  · funext k i
    show (if k = n then xNUL else wrR R k i) = wrR R k i
    by_cases c : k = n
    · rw [if_pos c, c, wrR_n h.2]
    · rw [if_neg c]
abbrev eR : Type := Option (Nat × List Value × List Value × eM)
def epush (pc : Nat) (ls st : List Value) (m : eM) (v : Value) : eR := some (pc, ls, v :: st, m)
def earr (c : Nat) (pc w : Nat) (ls st : List Value) (L : List (Nat × Nat × Int32)) (R : List (Nat × Nat × Nat)) (n : Nat) (lim : Nat) : eR := match st with
  | .int v :: r => bif Nat.blt n lim && decide (¬ v < 0) && Nat.beq (xsh n).1 c && Nat.beq (xsh n).2 v.toNatClampNeg && frs (L, R, n) then some (pc + w, ls, .ref n :: r, (L, R, n + 1)) else none
  | _ => none
def eput (e : xE) (pc : Nat) (ls st : List Value) (L : List (Nat × Nat × Int32)) (R : List (Nat × Nat × Nat)) (n : Nat) : eR := match e.2.2.1.2.2.1, st with
  | 0, .int v :: .ref q :: r => bif Nat.beq (xsh q).1 e.2.2.1.1 then some (pc + 3, ls, r, ((q, e.2.2.1.2.1, v) :: L, R, n)) else none
  | 2, .int v :: .ref q :: r => bif Nat.beq (xsh q).1 e.2.2.1.1 && (decide (v = 0) || decide (v = 1)) then some (pc + 3, ls, r, ((q, e.2.2.1.2.1, v) :: L, R, n)) else none
  | 1, .ref v :: .ref q :: r => bif Nat.beq (xsh q).1 e.2.2.1.1 && !(Nat.beq v xNUL) then some (pc + 3, ls, r, (L, (q, e.2.2.1.2.1, v) :: R, n)) else none
  | 11, .ref v :: .ref q :: r => bif Nat.beq (xsh q).1 e.2.2.1.1 && !(Nat.beq v xNUL) then some (pc + 3, ls, r, (L, (q, e.2.2.1.2.1, v) :: R, n)) else none
  | _, _ => none
def ecal (e : xE) (pc : Nat) (ls st : List Value) (L : List (Nat × Nat × Int32)) (R : List (Nat × Nat × Nat)) (n : Nat) (lim : Nat) (call : Nat → List Value → eM → Option eM) : eR := match e.2.2.1.2.2.1, st with
  | 6, .ref _ :: r => bif Nat.beq e.2.2.1.2.1 1 && Nat.ble r.length 4 then some (pc + 3, ls, r, (L, R, n)) else none
  | 9, .ref q :: r => bif Nat.beq e.2.2.1.2.1 1 && Nat.ble r.length 4 then (match call e.2.2.1.1 [.ref q] (L, R, n) with | some m' => some (pc + 3, ls, r, m') | none => none) else none
  | 13, .ref q :: r => bif Nat.beq e.2.2.1.2.1 1 && Nat.ble r.length 4 && Nat.ble (n + xsw2 e 0) lim && Nat.beq (xS (n + xsw2 e 0)) (xS n + xsw2 e 1) then (match call e.2.2.1.1 [.ref q] (L, R, n) with | some m' => some (pc + 3, ls, r, m') | none => none) else none
  | _, _ => none
def est (call : Nat → List Value → eM → Option eM) (lim : Nat) (e : xE) (pc : Nat) (ls st : List Value) (L : List (Nat × Nat × Int32)) (R : List (Nat × Nat × Nat)) (n : Nat) : eR := match e.1.1 with
  | .aload_n a1 => (match ls[a1.val]? with | some (.ref a) => epush (pc + 1) ls st (L, R, n) (.ref a) | _ => none)
  | .iload_n a1 => (match ls[a1.val]? with | some (.int a) => epush (pc + 1) ls st (L, R, n) (.int a) | _ => none)
  | .bipush _ => epush (pc + 2) ls st (L, R, n) (.int e.2.2.2.1)
  | .sipush _ => epush (pc + 3) ls st (L, R, n) (.int e.2.2.2.1)
  | .iconst _ => epush (pc + 1) ls st (L, R, n) (.int e.2.2.2.1)
  | .newarray _ => earr e.2.2.1.1 pc 2 ls st L R n lim
  | .anewarray _ => earr e.2.2.1.1 pc 3 ls st L R n lim
  | .new _ => bif Nat.blt n lim && Nat.beq (xsh n).1 e.2.2.1.1 && frs (L, R, n) then some (pc + 3, ls, .ref n :: st, (L, R, n + 1)) else none
  | .dup => (match st with | .ref a :: r => some (pc + 1, ls, .ref a :: .ref a :: r, (L, R, n)) | _ => none)
  | .istore_n a1 => (match st with | .int a :: r => some (pc + 1, xs1 ls a1.val (.int a), r, (L, R, n)) | _ => none)
  | .if_icmp .ge _ => (match st with | .int y :: .int x :: r => bif decide (y ≤ x) then some (e.2.2.1.1, ls, r, (L, R, n)) else some (pc + 3, ls, r, (L, R, n)) | _ => none)
  | .getfield _ => (match st with | .ref q :: r => bif Nat.beq (xsh q).1 e.2.2.1.1 && Nat.beq e.2.2.1.2.2.1 1 && !(Nat.beq (wrR R q e.2.2.1.2.1) xNUL) then (fcN (wrR R q e.2.2.1.2.1) fun a => some (pc + 3, ls, .ref a :: r, (L, R, n))) else none | _ => none)
  | .aastore => (match st with | .ref v :: .int i :: .ref q :: r => bif Nat.beq (xsh q).1 e.2.2.1.1 && decide (¬ (i < 0 ∨ (xsh q).2 ≤ i.toNatClampNeg)) && Nat.beq (xsh v).1 e.2.2.1.2.1 then (fcN i.toNatClampNeg fun a => some (pc + 1, ls, r, (L, (q, a, v) :: R, n))) else none | _ => none)
  | .iinc a1 _ => (match ls[a1]? with | some (.int x) => some (pc + 3, xs1 ls a1 (.int (x + e.2.2.2.1)), st, (L, R, n)) | _ => none)
  | .goto _ => some (e.2.2.1.1, ls, st, (L, R, n))
  | .putfield _ => eput e pc ls st L R n
  | .invokespecial _ => ecal e pc ls st L R n lim call
  | _ => none
theorem bif_t {α : Type} {b : Bool} {x : Option α} {y : α} (h : (bif b then x else none) = some y) : b = true ∧ x = some y := by
  cases b with
  | true => exact ⟨rfl, h⟩
  | false => cases h
def ecr (call : Nat → List Value → eM → Option eM) (call' : Nat → List Value → xM → (Option Value → xM → Prop) → Prop) : Prop := ∀ i vs m m', call i vs m = some m' → ∀ Q : Option Value → xM → Prop, Q none (den m') → call' i vs (den m) Q
section ES
variable {call : Nat → List Value → eM → Option eM} {call' : Nat → List Value → xM → (Option Value → xM → Prop) → Prop} {ret : Option Value → xM → Prop} {lim : Nat} {X : Nat → List Value → List Value → xM → Prop} {e : xE} {pc p2 : Nat} {ls st l2 s2 : List Value} {m2 : eM} {L : List (Nat × Nat × Int32)} {R : List (Nat × Nat × Nat)} {n : Nat}
theorem earr_x {c w : Nat} (h : earr c pc w ls st L R n lim = some (p2, l2, s2, m2)) (hX : X p2 l2 s2 (den m2)) : xi1 st fun v r => (den (L, R, n)).2.2 < lim ∧ ¬ v < 0 ∧ xsh (den (L, R, n)).2.2 = (c, v.toNatClampNeg) ∧ X (pc + w) ls (.ref (den (L, R, n)).2.2 :: r) (xnew (den (L, R, n))) := by
  unfold earr at h
  split at h
  · rename_i zzv zzr
    obtain ⟨hb, h⟩ := bif_t h
    simp only [Bool.and_eq_true, decide_eq_true_eq] at hb
    obtain ⟨⟨⟨⟨b1, b2⟩, b3⟩, b4⟩, b5⟩ := hb
    cases h
    refine ⟨Nat.le_of_ble_eq_true b1, b2, Prod.ext (Nat.eq_of_beq_eq_true b3) (Nat.eq_of_beq_eq_true b4), ?_⟩
    rw [den_new b5]; exact hX
  · cases h
theorem not_beq {a b : Nat} (h : (!(Nat.beq a b)) = true) : a ≠ b := by
  intro e
  subst e
  rw [Nat.beq_refl] at h
  cases h
theorem eput_x (h : eput e pc ls st L R n = some (p2, l2, s2, m2)) (hX : X p2 l2 s2 (den m2)) : xput e st (den (L, R, n)) fun t h' => X (pc + 3) ls t h' := by
  unfold eput at h
  unfold xput
  split at h
  · rename_i zzhe
    obtain ⟨hb, h⟩ := bif_t h
    cases h
    rw [zzhe]
    exact ⟨Nat.eq_of_beq_eq_true hb, hX⟩
  · rename_i zzhe
    obtain ⟨hb, h⟩ := bif_t h
    simp only [Bool.and_eq_true, Bool.or_eq_true, decide_eq_true_eq] at hb
    cases h
    rw [zzhe]
    exact ⟨Nat.eq_of_beq_eq_true hb.1, hb.2, hX⟩
  · rename_i zzhe
    obtain ⟨hb, h⟩ := bif_t h
    have hb := Bool.and_eq_true_iff.mp hb
    cases h
    rw [zzhe]
    exact ⟨Nat.eq_of_beq_eq_true hb.1, not_beq hb.2, hX⟩
  · rename_i zzhe
    obtain ⟨hb, h⟩ := bif_t h
    have hb := Bool.and_eq_true_iff.mp hb
    cases h
    rw [zzhe]
    exact ⟨Nat.eq_of_beq_eq_true hb.1, not_beq hb.2, hX⟩
  · cases h
theorem xroom_t {r : List Value} {A : Prop} (h : Nat.ble r.length 4 = true) (a : A) : xroom r A := by
  unfold xroom; rw [h]; exact a
theorem ecal_x (hc : ecr call call') (h : ecal e pc ls st L R n lim call = some (p2, l2, s2, m2)) (hX : X p2 l2 s2 (den m2)) : xcall e lim st (den (L, R, n)) call' fun t h' => X (pc + 3) ls t h' := by
  unfold ecal at h
  unfold xcall
  split at h
  · rename_i zzhe
    obtain ⟨hb, h⟩ := bif_t h
    have hb := Bool.and_eq_true_iff.mp hb
    have h1 := Nat.eq_of_beq_eq_true hb.1
    cases h
    rw [zzhe, h1]
    exact xroom_t hb.2 hX
  · rename_i zzq zzr zzhe
    obtain ⟨hb, h⟩ := bif_t h
    have hb := Bool.and_eq_true_iff.mp hb
    have h1 := Nat.eq_of_beq_eq_true hb.1
    split at h
    · rename_i zzmp zzhm
      cases h
      rw [zzhe, h1]
      show xrcv e _ _
      unfold xrcv
      rw [h1]
      exact xroom_t hb.2 (hc _ _ _ _ zzhm _ hX)
    · cases h
  · rename_i zzq zzr zzhe
    obtain ⟨hb, h⟩ := bif_t h
    simp only [Bool.and_eq_true] at hb
    obtain ⟨⟨⟨b1, b2⟩, b3⟩, b4⟩ := hb
    have h1 := Nat.eq_of_beq_eq_true b1
    split at h
    · rename_i zzmp zzhm
      cases h
      rw [zzhe, h1]
      show xrcv e _ _
      unfold xrcv
      rw [h1]
      exact xroom_t b2 ⟨Nat.le_of_ble_eq_true b3, Nat.eq_of_beq_eq_true b4, hc _ _ _ _ zzhm _ hX⟩
    · cases h
  · cases h
theorem est_x (hc : ecr call call') (h : est call lim e pc ls st L R n = some (p2, l2, s2, m2)) (hX : X p2 l2 s2 (den m2)) : xstep e pc ls st (den (L, R, n)) call' ret lim X := by
  unfold est at h
  unfold xstep
  split at h
  · rename_i zzhe
    rw [zzhe]
    split at h
    · rename_i zzhl; cases h; show xrl ls _ _; unfold xrl; rw [zzhl]; exact hX
    · cases h
  · rename_i zzhe
    rw [zzhe]
    split at h
    · rename_i zzhl; cases h; show xil ls _ _; unfold xil; rw [zzhl]; exact hX
    · cases h
  · rename_i zzhe; rw [zzhe]; cases h; exact hX
  · rename_i zzhe; rw [zzhe]; cases h; exact hX
  · rename_i zzhe; rw [zzhe]; cases h; exact hX
  · rename_i zzhe; rw [zzhe]; exact earr_x h hX
  · rename_i zzhe; rw [zzhe]; exact earr_x h hX
  · rename_i zzhe
    rw [zzhe]
    obtain ⟨hb, h⟩ := bif_t h
    simp only [Bool.and_eq_true] at hb
    cases h
    refine ⟨Nat.le_of_ble_eq_true hb.1.1, Nat.eq_of_beq_eq_true hb.1.2, ?_⟩
    rw [den_new hb.2]; exact hX
  · rename_i zzhe
    rw [zzhe]
    split at h
    · cases h; exact hX
    · cases h
  · rename_i zzhe
    rw [zzhe]
    split at h
    · cases h; exact hX
    · cases h
  · rename_i zzhe
    rw [zzhe]
    split at h
    · rename_i zzy zzx zzr
      cases hd : decide (zzy ≤ zzx) with
      | true =>
        rw [hd] at h
        cases h
        have := of_decide_eq_true hd
        exact ⟨fun _ => hX, fun hn => absurd this hn⟩
      | false =>
        rw [hd] at h
        cases h
        have := of_decide_eq_false hd
        exact ⟨fun hn => absurd hn this, fun _ => hX⟩
    · cases h
  · rename_i zzhe
    rw [zzhe]
    split at h
    · obtain ⟨hb, h⟩ := bif_t h
      simp only [Bool.and_eq_true] at hb
      rw [fcN_eq] at h
      cases h
      refine ⟨Nat.eq_of_beq_eq_true hb.1.1, ?_⟩
      unfold xget
      rw [Nat.eq_of_beq_eq_true hb.1.2]
      exact ⟨not_beq hb.2, hX⟩
    · cases h
  · rename_i zzhe
    rw [zzhe]
    split at h
    · obtain ⟨hb, h⟩ := bif_t h
      simp only [Bool.and_eq_true, decide_eq_true_eq] at hb
      rw [fcN_eq] at h
      cases h
      exact ⟨Nat.eq_of_beq_eq_true hb.1.1, hb.1.2, Nat.eq_of_beq_eq_true hb.2, hX⟩
    · cases h
  · rename_i zzhe
    rw [zzhe]
    split at h
    · rename_i zzhl; cases h; show xil ls _ _; unfold xil; rw [zzhl]; exact hX
    · cases h
  · rename_i zzhe; rw [zzhe]; cases h; exact hX
  · rename_i zzhe; rw [zzhe]; exact eput_x h hX
  · rename_i zzhe; rw [zzhe]; exact ecal_x hc h hX
  · cases h
end ES
def erun (T : Nat → Option xE) (call : Nat → List Value → eM → Option eM) (lim : Nat) : Nat → Nat → List Value → List Value → eM → Option eM
  | 0, _, _, _, _ => none
  | k + 1, pc, ls, st, (L, R, n) => match T pc with
    | none => none
    | some e => match e.1.1 with
      | .return_ => (match st with | [] => some (L, R, n) | _ => none)
      | _ => match est call lim e pc (xoc e.2.1 ls) st L R n with
        | some (p2, l2, s2, (L2, R2, n2)) => fcN p2 fun p3 => fcN n2 fun n3 => erun T call lim k p3 l2 s2 (L2, R2, n3)
        | none => none
theorem erun_x {T : Nat → Option xE} {call : Nat → List Value → eM → Option eM} {call' : Nat → List Value → xM → (Option Value → xM → Prop) → Prop} {ret : Option Value → xM → Prop} {lim : Nat} (hcm : xcm call') (hc : ecr call call') : ∀ (k pc : Nat) (ls st : List Value) (m m' : eM), erun T call lim k pc ls st m = some m' → ret none (den m') → xAt T call' ret lim pc ls st (den m) := by
  intro k
  induction k with
  | zero => intro pc ls st m m' h; cases h
  | succ k ih =>
    intro pc ls st m m' h hr
    obtain ⟨L, R, n⟩ := m
    unfold erun at h
    refine xAt_step hcm ?_
    unfold xgo
    split at h
    · cases h
    · rename_i zze zzhe
      rw [zzhe]
      split at h
      · rename_i zzhi
        split at h
        · cases h
          show xstep zze pc _ _ _ _ _ _ _
          unfold xstep
          rw [zzhi]
          exact hr
        · cases h
      · split at h
        · rename_i zzhs
          rw [fcN_eq, fcN_eq] at h
          exact est_x hc zzhs (ih _ _ _ _ _ h hr)
        · cases h
def ecall : Nat → Nat → List Value → eM → Option eM
  | 0, _, _, _ => none
  | d + 1, i, vs, (L, R, n) => bif Nat.ble (xarg vs).length (xP i).2.2.2.1 then (match erun (xP i).2.2.2.2.2.1 (ecall d) (n + (xP i).2.2.2.2.2.2.1) 4000 0 (xloc vs (xP i).2.2.2.1) [] (L, R, n) with
    | some (L2, R2, n2) => bif Nat.beq n2 (n + (xP i).2.2.2.2.2.2.1) then some (L2, R2, n2) else none
    | none => none) else none
theorem ecall_x : ∀ d, ecr (ecall d) (xW xP d) := by
  intro d
  induction d with
  | zero => intro i vs m m' h; cases h
  | succ d ih =>
    intro i vs m m' h Q hQ
    obtain ⟨L, R, n⟩ := m
    unfold ecall at h
    obtain ⟨hb, h⟩ := bif_t h
    split at h
    · rename_i zzhm
      obtain ⟨hb2, h⟩ := bif_t h
      cases h
      refine ⟨Nat.le_of_ble_eq_true hb, erun_x (xW_m xP d) ih _ _ _ _ _ _ zzhm ?_⟩
      have := Nat.eq_of_beq_eq_true hb2
      unfold xfin
      split
      · exact hQ
      · rename_i zzn zzhn
        exact ⟨this, hQ⟩
    · cases h
