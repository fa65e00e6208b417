theorem xi1_m {st : List Value} {f g : Int32 → List Value → Prop} (h : ∀ a r, f a r → g a r) (x : xi1 st f) : xi1 st g := by
  unfold xi1 at *; split at x <;> first | exact h _ _ x | exact x.elim
theorem xi2_m {st : List Value} {f g : Int32 → Int32 → List Value → Prop} (h : ∀ a b r, f a b r → g a b r) (x : xi2 st f) : xi2 st g := by
  unfold xi2 at *; split at x <;> first | exact h _ _ _ x | exact x.elim
theorem xl2_m {st : List Value} {f g : Int64 → Int64 → List Value → Prop} (h : ∀ a b r, f a b r → g a b r) (x : xl2 st f) : xl2 st g := by
  unfold xl2 at *; split at x <;> first | exact h _ _ _ x | exact x.elim
theorem xli_m {st : List Value} {f g : Int64 → Int32 → List Value → Prop} (h : ∀ a b r, f a b r → g a b r) (x : xli st f) : xli st g := by
  unfold xli at *; split at x <;> first | exact h _ _ _ x | exact x.elim
theorem xl1_m {st : List Value} {f g : Int64 → List Value → Prop} (h : ∀ a r, f a r → g a r) (x : xl1 st f) : xl1 st g := by
  unfold xl1 at *; split at x <;> first | exact h _ _ x | exact x.elim
theorem xr1_m {st : List Value} {f g : Nat → List Value → Prop} (h : ∀ a r, f a r → g a r) (x : xr1 st f) : xr1 st g := by
  unfold xr1 at *; split at x <;> first | exact h _ _ x | exact x.elim
theorem xri_m {st : List Value} {f g : Nat → Int32 → List Value → Prop} (h : ∀ a i r, f a i r → g a i r) (x : xri st f) : xri st g := by
  unfold xri at *; split at x <;> first | exact h _ _ _ x | exact x.elim
theorem xiv_m {st : List Value} {f g : Nat → Int32 → List Value → Prop} (h : ∀ a i r, f a i r → g a i r) (x : xiv st f) : xiv st g := by
  unfold xiv at *; split at x <;> first | exact h _ _ _ x | exact x.elim
theorem xrr_m {st : List Value} {f g : Nat → Nat → List Value → Prop} (h : ∀ a i r, f a i r → g a i r) (x : xrr st f) : xrr st g := by
  unfold xrr at *; split at x <;> first | exact h _ _ _ x | exact x.elim
theorem xrii_m {st : List Value} {f g : Nat → Int32 → Int32 → List Value → Prop} (h : ∀ a i v r, f a i v r → g a i v r) (x : xrii st f) : xrii st g := by
  unfold xrii at *; split at x <;> first | exact h _ _ _ _ x | exact x.elim
theorem xrir_m {st : List Value} {f g : Nat → Int32 → Nat → List Value → Prop} (h : ∀ a i v r, f a i v r → g a i v r) (x : xrir st f) : xrir st g := by
  unfold xrir at *; split at x <;> first | exact h _ _ _ _ x | exact x.elim
theorem x1c_m {st : List Value} {f g : Value → List Value → Prop} (h : ∀ a r, f a r → g a r) (x : x1c st f) : x1c st g := by
  unfold x1c at *; split at x <;> first | exact h _ _ x | exact x.elim
theorem x2c_m {st : List Value} {f g : Value → Value → List Value → Prop} (h : ∀ a b r, f a b r → g a b r) (x : x2c st f) : x2c st g := x1c_m (fun _ _ y => x1c_m (fun _ _ z => h _ _ _ z) y) x
theorem xil_m {ls : List Value} {i : Nat} {f g : Int32 → Prop} (h : ∀ a, f a → g a) (x : xil ls i f) : xil ls i g := by
  unfold xil at *; split at x <;> first | exact h _ x | exact x.elim
theorem xll_m {ls : List Value} {i : Nat} {f g : Int64 → Prop} (h : ∀ a, f a → g a) (x : xll ls i f) : xll ls i g := by
  unfold xll at *; split at x <;> first | exact h _ x | exact x.elim
theorem xrl_m {ls : List Value} {i : Nat} {f g : Nat → Prop} (h : ∀ a, f a → g a) (x : xrl ls i f) : xrl ls i g := by
  unfold xrl at *; split at x <;> first | exact h _ x | exact x.elim
theorem xsw_m {x : Int32} {d : Nat} {f g : Nat → Prop} (h : ∀ a, f a → g a) : ∀ {ps : List (Int32 × Nat)}, xsw x ps d f → xsw x ps d g := by
  intro ps
  induction ps with
  | nil => intro z; exact h _ z
  | cons q r ih => intro z; exact ⟨fun e => h _ (z.1 e), fun e => ih (z.2 e)⟩
theorem xroom_m {st : List Value} {A B : Prop} (h : A → B) (x : xroom st A) : xroom st B := by
  unfold xroom at *; split at x <;> first | exact h x | exact x.elim
theorem xnat_m {c : Nat} {st : List Value} {h : xM} {f g : List Value → xM → Prop} (k : ∀ t h, f t h → g t h) (x : xnat c st h f) : xnat c st h g := by
  unfold xnat at *
  split at x
  · exact xi2_m (fun _ _ _ z => k _ _ z) x
  · exact xi2_m (fun _ _ _ z => k _ _ z) x
  · exact xi1_m (fun _ _ z => k _ _ z) x
  · unfold xcpy at *
    split at x
    · exact ⟨x.1, x.2.1, x.2.2.1, x.2.2.2.1, x.2.2.2.2.1, x.2.2.2.2.2.1, x.2.2.2.2.2.2.1, k _ _ x.2.2.2.2.2.2.2⟩
    · exact x.elim
  · exact xr1_m (fun _ _ z => k _ _ z) x
  · exact xr1_m (fun _ _ z => ⟨z.1, z.2.1, k _ _ z.2.2⟩) x
  · exact xri_m (fun _ _ _ z => ⟨z.1, z.2.1, z.2.2.1, k _ _ z.2.2.2⟩) x
  · exact x.elim
def xcm (call : Nat → List Value → xM → (Option Value → xM → Prop) → Prop) : Prop := ∀ (i : Nat) (vs : List Value) (h : xM) (Q Q' : Option Value → xM → Prop), (∀ r h, Q r h → Q' r h) → call i vs h Q → call i vs h Q'
theorem xr0_m {r : Option Value} {A B : Prop} (h : A → B) (x : xr0 r A) : xr0 r B := by
  unfold xr0 at *; split at x <;> first | exact h x | exact x.elim
theorem xrI_m {r : Option Value} {f g : Int32 → Prop} (h : ∀ a, f a → g a) (x : xrI r f) : xrI r g := by
  unfold xrI at *; split at x <;> first | exact h _ x | exact x.elim
theorem xrR_m {r : Option Value} {f g : Nat → Prop} (h : ∀ a, f a → g a) (x : xrR r f) : xrR r g := by
  unfold xrR at *; split at x <;> first | exact h _ x | exact x.elim
theorem xrL_m {r : Option Value} {f g : Int64 → Prop} (h : ∀ a, f a → g a) (x : xrL r f) : xrL r g := by
  unfold xrL at *; split at x <;> first | exact h _ x | exact x.elim
theorem xen_m {e : xE} {st : List Value} {A B : Prop} (h : A → B) (x : xen e st A) : xen e st B := by
  unfold xen at *; split at x <;> first | exact h x | exact x.elim
theorem xrcv_m {e : xE} {st : List Value} {A B : Prop} (h : A → B) (x : xrcv e st A) : xrcv e st B := by
  unfold xrcv at *; split at x <;> first | exact h x | exact x.elim
theorem xcall_m {e : xE} {lim : Nat} {st : List Value} {h : xM} {call : Nat → List Value → xM → (Option Value → xM → Prop) → Prop} (hc : xcm call) {f g : List Value → xM → Prop} (k : ∀ t h, f t h → g t h) (x : xcall e lim st h call f) : xcall e lim st h call g := by
  unfold xcall at *
  split at x
  · exact xen_m (xroom_m (fun z => hc _ _ _ _ _ (fun _ _ y => xr0_m (k _ _) y) z)) x
  · exact xrcv_m (xroom_m (fun z => hc _ _ _ _ _ (fun _ _ y => xr0_m (k _ _) y) z)) x
  · exact xen_m (xroom_m (fun z => hc _ _ _ _ _ (fun _ _ y => xrI_m (fun _ => k _ _) y) z)) x
  · exact xen_m (xroom_m (fun z => hc _ _ _ _ _ (fun _ _ y => xrR_m (fun _ => k _ _) y) z)) x
  · exact xen_m (xroom_m (fun z => hc _ _ _ _ _ (fun _ _ y => xrL_m (fun _ => k _ _) y) z)) x
  · exact xrcv_m (xroom_m (fun z => ⟨z.1, z.2.1, hc _ _ _ _ _ (fun _ _ y => xr0_m (k _ _) y) z.2.2⟩)) x
  · exact xroom_m (fun z => xnat_m k z) x
theorem xvirt_m {e : xE} {st : List Value} {A B : Prop} (k : A → B) (x : xvirt e st A) : xvirt e st B := by
  unfold xvirt at *
  split at x
  · exact k x
  · split at x
    · exact ⟨x.1, k x.2⟩
    · exact x.elim
theorem xget_m {e : xE} {q : Nat} {r : List Value} {h : xM} {f g : List Value → Prop} (k : ∀ t, f t → g t) (x : xget e q r h f) : xget e q r h g := by
  unfold xget at *
  split at x
  · exact ⟨x.1, k _ x.2⟩
  · exact k _ x
theorem xldc_m {e : xE} {r : List Value} {f g : List Value → Prop} (k : ∀ t, f t → g t) (x : xldc e r f) : xldc e r g := by
  unfold xldc at *
  split at x
  · exact k _ x
  · exact k _ x
theorem xirt_m {c : Nat} {x : Int32} {A B : Prop} (k : A → B) (z : xirt c x A) : xirt c x B := by
  unfold xirt at *
  split at z
  · exact ⟨z.1, k z.2⟩
  · exact k z
theorem xnil_m {t : List Value} {A B : Prop} (k : A → B) (z : xnil t A) : xnil t B := by
  unfold xnil at *
  split at z
  · exact k z
  · exact z.elim
theorem xput_m {e : xE} {st : List Value} {h : xM} {f g : List Value → xM → Prop} (k : ∀ t h, f t h → g t h) (x : xput e st h f) : xput e st h g := by
  unfold xput at *
  split at x
  · exact xiv_m (fun _ _ _ z => ⟨z.1, k _ _ z.2⟩) x
  · exact xiv_m (fun _ _ _ z => ⟨z.1, z.2.1, k _ _ z.2.2⟩) x
  · exact xrr_m (fun _ _ _ z => ⟨z.1, z.2.1, k _ _ z.2.2⟩) x
  · exact xrr_m (fun _ _ _ z => ⟨z.1, z.2.1, k _ _ z.2.2⟩) x
  · exact x.elim
theorem xial_m {e : xE} {st : List Value} {h : xM} {call : Nat → List Value → xM → (Option Value → xM → Prop) → Prop} (hc : xcm call) {f g : List Value → Prop} (k : ∀ t, f t → g t) (x : xial e st h call f) : xial e st h call g := by
  unfold xial at *
  split at x
  · exact xri_m (fun _ _ _ z => ⟨z.1, hc _ _ _ _ _ (fun _ _ y => xrI_m (fun _ => k _) y) z.2⟩) x
  · exact xri_m (fun _ _ _ z => ⟨z.1, z.2.1, k _ z.2.2⟩) x
theorem xlen_m {e : xE} {st : List Value} {h : xM} {call : Nat → List Value → xM → (Option Value → xM → Prop) → Prop} (hc : xcm call) {f g : List Value → Prop} (k : ∀ t, f t → g t) (x : xlen e st h call f) : xlen e st h call g := by
  unfold xlen at *
  split at x
  · exact xr1_m (fun _ _ z => ⟨z.1, hc _ _ _ _ _ (fun _ _ y => xrI_m (fun _ => k _) y) z.2⟩) x
  · exact xr1_m (fun _ _ z => ⟨z.1, k _ z.2⟩) x
set_option maxHeartbeats 4000000 in
theorem xstep_m {e : xE} {pc : Nat} {ls st : List Value} {h : xM} {call : Nat → List Value → xM → (Option Value → xM → Prop) → Prop} {ret ret' : Option Value → xM → Prop} {lim : Nat} {k k' : Nat → List Value → List Value → xM → Prop} (hc : xcm call) (hr : ∀ r h, ret r h → ret' r h) (hk : ∀ pc ls st h, k pc ls st h → k' pc ls st h)
    (x : xstep e pc ls st h call ret lim k) : xstep e pc ls st h call ret' lim k' := by
  unfold xstep at *
  split at x
  all_goals first
    | exact x.elim
    | exact hk _ _ _ _ x
    | exact hr _ _ x
    | exact xi1_m (fun _ _ z => hk _ _ _ _ z) x
    | exact xi2_m (fun _ _ _ z => hk _ _ _ _ z) x
    | exact xl2_m (fun _ _ _ z => hk _ _ _ _ z) x
    | exact xli_m (fun _ _ _ z => hk _ _ _ _ z) x
    | exact xl1_m (fun _ _ z => hk _ _ _ _ z) x
    | exact xl1_m (fun _ _ z => xnil_m (hr _ _) z) x
    | exact xr1_m (fun _ _ z => hk _ _ _ _ z) x
    | exact xr1_m (fun _ _ z => xnil_m (hr _ _) z) x
    | exact xnil_m (hr _ _) x
    | exact xr1_m (fun _ _ z => ⟨z.1, hk _ _ _ _ z.2⟩) x
    | exact xr1_m (fun _ _ z => ⟨z.1, xget_m (fun _ y => hk _ _ _ _ y) z.2⟩) x
    | exact xi2_m (fun _ _ _ z => ⟨z.1, hk _ _ _ _ z.2⟩) x
    | exact xi2_m (fun _ _ _ z => ⟨fun q => hk _ _ _ _ (z.1 q), fun q => hk _ _ _ _ (z.2 q)⟩) x
    | exact xi1_m (fun _ _ z => ⟨fun q => hk _ _ _ _ (z.1 q), fun q => hk _ _ _ _ (z.2 q)⟩) x
    | exact xi1_m (fun _ _ z => xnil_m (fun y => xirt_m (hr _ _) y) z) x
    | exact xi1_m (fun _ _ z => ⟨z.1, z.2.1, z.2.2.1, hk _ _ _ _ z.2.2.2⟩) x
    | exact xi1_m (fun _ _ z => xsw_m (fun _ y => hk _ _ _ _ y) z) x
    | exact xil_m (fun _ z => hk _ _ _ _ z) x
    | exact xll_m (fun _ z => hk _ _ _ _ z) x
    | exact xrl_m (fun _ z => hk _ _ _ _ z) x
    | exact x1c_m (fun _ _ z => hk _ _ _ _ z) x
    | exact x2c_m (fun _ _ _ z => hk _ _ _ _ z) x
    | exact xri_m (fun _ _ _ z => ⟨z.1, z.2.1, z.2.2.1, hk _ _ _ _ z.2.2.2⟩) x
    | exact xrir_m (fun _ _ _ _ z => ⟨z.1, z.2.1, z.2.2.1, hk _ _ _ _ z.2.2.2⟩) x
    | exact xri_m (fun _ _ _ z => ⟨z.1, z.2.1, hk _ _ _ _ z.2.2⟩) x
    | exact xrii_m (fun _ _ _ _ z => ⟨z.1, z.2.1, hk _ _ _ _ z.2.2⟩) x
    | exact ⟨x.1, x.2.1, hk _ _ _ _ x.2.2⟩
    | exact xcall_m hc (fun _ _ z => hk _ _ _ _ z) x
    | exact xvirt_m (fun y => xcall_m hc (fun _ _ z => hk _ _ _ _ z) y) x
    | exact xput_m (fun _ _ z => hk _ _ _ _ z) x
    | exact xial_m hc (fun _ z => hk _ _ _ _ z) x
    | exact xlen_m hc (fun _ z => hk _ _ _ _ z) x
    | exact xldc_m (fun _ z => hk _ _ _ _ z) x
theorem xgo_m {T : Nat → Option xE} {call : Nat → List Value → xM → (Option Value → xM → Prop) → Prop} {ret ret' : Option Value → xM → Prop} {lim : Nat} {X X' : Nat → List Value → List Value → xM → Prop} (hc : xcm call) (hr : ∀ r h, ret r h → ret' r h) (hX : ∀ pc ls st h, X pc ls st h → X' pc ls st h)
    {pc : Nat} {ls st : List Value} {h : xM} (x : xgo T call ret lim X pc ls st h) : xgo T call ret' lim X' pc ls st h := by
  unfold xgo at *
  split at x
  · exact x.elim
  · exact xstep_m hc hr hX x
/-- a step from a cut to the next -/
theorem xAt_step {T : Nat → Option xE} {call : Nat → List Value → xM → (Option Value → xM → Prop) → Prop} {ret : Option Value → xM → Prop} {lim : Nat} (hc : xcm call) {pc : Nat} {ls st : List Value} {h : xM} (x : xgo T call ret lim (xAt T call ret lim) pc ls st h) : xAt T call ret lim pc ls st h :=
  fun X hX => hX _ _ _ _ (xgo_m hc (fun _ _ z => z) (fun _ _ _ _ z => z X hX) x)
theorem xAt_m {T : Nat → Option xE} {call : Nat → List Value → xM → (Option Value → xM → Prop) → Prop} {ret ret' : Option Value → xM → Prop} {lim : Nat} (hc : xcm call) (hr : ∀ r h, ret r h → ret' r h) {pc : Nat} {ls st : List Value} {h : xM} (x : xAt T call ret lim pc ls st h) : xAt T call ret' lim pc ls st h :=
  x (xAt T call ret' lim) (fun _ _ _ _ z => xAt_step hc (xgo_m hc hr (fun _ _ _ _ y => y) z))
theorem xfin_m {mc lim : Nat} {Q Q' : Option Value → xM → Prop} (hQ : ∀ r h, Q r h → Q' r h) (r : Option Value) (h : xM) (x : xfin mc lim Q r h) : xfin mc lim Q' r h := by
  unfold xfin at *
  split at x
  · exact hQ _ _ x
  · exact ⟨x.1, hQ _ _ x.2⟩
theorem xW_m (M : Nat → xMe) : ∀ d : Nat, xcm (xW M d) := by
  intro d
  induction d with
  | zero => intro i vs h Q Q' hQ x; exact x.elim
  | succ d ih => intro i vs h Q Q' hQ x; exact ⟨x.1, xAt_m ih (xfin_m hQ) x.2⟩
