/-! THE LAW: each call keeps what holds between calls -/
theorem xsw_of {x : Int32} {d : Nat} {k : Nat → Prop} : ∀ (ps : List (Int32 × Nat)), (∀ t, (t = d ∨ t ∈ ps.map (·.2)) → k t) → xsw x ps d k := by
  intro ps
  induction ps with
  | nil => intro h; exact h d (Or.inl rfl)
  | cons q r ih => intro h; exact ⟨fun _ => h q.2 (Or.inr List.mem_cons_self), fun _ => ih (fun t ht => h t (ht.imp id (List.mem_cons_of_mem _)))⟩
def SWL : List (Int32 × Nat) := [(0, 252), (1, 315), (2, 338), (3, 351), (4, 374), (5, 397), (6, 430), (7, 463), (8, 486), (9, 519), (10, 552), (11, 595), (12, 638), (13, 671), (14, 724), (15, 757), (16, 790), (17, 833), (18, 866), (19, 899), (20, 932), (21, 965), (22, 998), (23, 1031), (24, 1064), (25, 1097), (26, 1120), (27, 1153), (28, 1176), (29, 1199), (30, 1212), (31, 1255), (32, 1298), (33, 1331), (34, 1354), (35, 1407), (36, 1450), (37, 1493), (38, 1526), (39, 1549), (40, 1563), (41, 1586), (42, 1639), (43, 1672), (44, 1695), (45, 1748), (46, 1771), (47, 1804), (48, 1827), (49, 1850), (50, 1863)]
def TGT : List Nat := 1876 :: SWL.map (·.2)
theorem xev2_of {T : Nat → Option xE} {call : Nat → List Value → xM → (Option Value → xM → Prop) → Prop} {ret : Option Value → xM → Prop} {lim : Nat} {S : Nat → Bool} {n pc : Nat} {ls st : List Value} {h : xM} (hb : S pc = true) (x : xAt T call ret lim pc ls st h) : xev2 T call ret lim S (n + 1) pc ls st h := by
  unfold xev2; rw [hb]; exact x
theorem TGT_S : ∀ t ∈ TGT, (Nat.ble 252 t && Nat.ble t 1876) = true := by decide
section LAW
variable {d L : Nat} {xs : Nat → Int32} {h : xM} {i : Int32} {G : zG}
set_option maxHeartbeats 2000000 in
theorem xl_18 (hs : ¬ (Int32.ofNat L - 6 < i) → vp_in i L ∧ ∀ t ∈ TGT, LW d L xs t i h) : LW d L xs 18 i h :=
  xrun2 (fun p => Nat.ble 252 p && Nat.ble p 1876) 60 (And.intro rfl (And.intro (fun _ => And.intro rfl rfl) (fun hn => And.intro rfl (And.intro (hs hn).1 (xsw_of _ (fun t ht => xev2_of (TGT_S t (List.mem_cons.mpr ht)) ((hs hn).2 t (List.mem_cons.mpr ht))))))))
theorem pairX {i j : Nat} {vs us : List zV} {K : xM → Prop} (hv : zoks vs) (hu : zoks us) (hR : zR G h) (hK : ∀ G2 h2, zR G2 h2 → INV G2 → K h2) (hp : PAIR 100 i vs j us G) : xW xP 100 i (vs.map zx) h (fun r h1 => xrI r fun a => xW xP 100 j (us.map zx) h1 (fun r2 h2 => xrI r2 fun b => a = b ∧ K h2)) := by
  refine zW_x 100 i vs G h _ _ hv hR (fun r G1 h1 hr hR1 z => ?_) hp
  obtain ⟨v, rfl, z⟩ := z
  show xW xP 100 j (us.map zx) h1 _
  refine zW_x 100 j us G1 h1 _ _ hu hR1 (fun r2 G2 h2 _ hR2 z2 => ?_) z
  obtain ⟨rfl, hI⟩ := z2
  exact ⟨rfl, hK G2 h2 hR2 hI⟩
theorem ok8 : zok (zr 8 0 0) := ⟨by decide, Or.inl ⟨by decide, by decide, by decide, fun h => absurd h (by decide)⟩⟩
theorem ok9 : zok (zr 9 0 297) := ⟨by decide, Or.inl ⟨by decide, by decide, by decide, fun h => absurd h (by decide)⟩⟩
theorem okis {v : zV} {l : List Int} (h : zok v) : zoks (v :: l.map (fun x => zi x)) := by
  intro u hu
  rcases List.mem_cons.mp hu with rfl | hu
  · exact h
  · obtain ⟨x, _, rfl⟩ := List.mem_map.mp hu
    trivial

set_option maxHeartbeats 1000000 in
theorem ql_0 (hR : zR G h) (hI : INV G) (v1 : vp_in (i + 1) L) (v2 : vp_in (i + 2) L) (v3 : vp_in (i + 3) L) (v4 : vp_in (i + 4) L) (v5 : vp_in (i + 5) L) (hK : ∀ G2 h2, zR G2 h2 → INV G2 → LW 100 L xs 1876 i h2) : LW 100 L xs 252 i h := by
  have z : xW xP 100 95 [.ref 0, .int (iI (xs (i + 1).toNatClampNeg).toInt), .int (iI (xs (i + 2).toNatClampNeg).toInt), .int (iI (xs (i + 3).toNatClampNeg).toInt), .int (iI (xs (i + 4).toNatClampNeg).toInt), .int (iI (xs (i + 5).toNatClampNeg).toInt)] h (fun r h1 => xrI r fun a => xW xP 100 192 [.ref 297, .int (iI (xs (i + 1).toNatClampNeg).toInt), .int (iI (xs (i + 2).toNatClampNeg).toInt), .int (iI (xs (i + 3).toNatClampNeg).toInt), .int (iI (xs (i + 4).toNatClampNeg).toInt), .int (iI (xs (i + 5).toNatClampNeg).toInt)] h1 (fun r2 h2 => xrI r2 fun b => a = b ∧ LW 100 L xs 1876 i h2)) := pairX (okis (l := [(xs (i + 1).toNatClampNeg).toInt, (xs (i + 2).toNatClampNeg).toInt, (xs (i + 3).toNatClampNeg).toInt, (xs (i + 4).toNatClampNeg).toInt, (xs (i + 5).toNatClampNeg).toInt]) ok8) (okis (l := [(xs (i + 1).toNatClampNeg).toInt, (xs (i + 2).toNatClampNeg).toInt, (xs (i + 3).toNatClampNeg).toInt, (xs (i + 4).toNatClampNeg).toInt, (xs (i + 5).toNatClampNeg).toInt]) ok9) hR hK (pr_0 hI)
  try simp only [iI_of] at z
  exact xl_252 v1 v2 v3 v4 v5 z
set_option maxHeartbeats 1000000 in
theorem ql_1 (hR : zR G h) (hI : INV G) (v1 : vp_in (i + 1) L) (hK : ∀ G2 h2, zR G2 h2 → INV G2 → LW 100 L xs 1876 i h2) : LW 100 L xs 315 i h := by
  have z : xW xP 100 96 [.ref 0, .int (iI (xs (i + 1).toNatClampNeg).toInt)] h (fun r h1 => xrI r fun a => xW xP 100 193 [.ref 297, .int (iI (xs (i + 1).toNatClampNeg).toInt)] h1 (fun r2 h2 => xrI r2 fun b => a = b ∧ LW 100 L xs 1876 i h2)) := pairX (okis (l := [(xs (i + 1).toNatClampNeg).toInt]) ok8) (okis (l := [(xs (i + 1).toNatClampNeg).toInt]) ok9) hR hK (pr_1 hI (rg_i _))
  try simp only [iI_of] at z
  exact xl_315 v1 z
set_option maxHeartbeats 1000000 in
theorem ql_2 (hR : zR G h) (hI : INV G) (hK : ∀ G2 h2, zR G2 h2 → INV G2 → LW 100 L xs 1876 i h2) : LW 100 L xs 338 i h := by
  have z : xW xP 100 97 [.ref 0] h (fun r h1 => xrI r fun a => xW xP 100 216 [.ref 297] h1 (fun r2 h2 => xrI r2 fun b => a = b ∧ LW 100 L xs 1876 i h2)) := pairX (okis (l := []) ok8) (okis (l := []) ok9) hR hK (pr_2 hI )
  try simp only [iI_of] at z
  exact xl_338  z
set_option maxHeartbeats 1000000 in
theorem ql_3 (hR : zR G h) (hI : INV G) (v1 : vp_in (i + 1) L) (hK : ∀ G2 h2, zR G2 h2 → INV G2 → LW 100 L xs 1876 i h2) : LW 100 L xs 351 i h := by
  have z : xW xP 100 98 [.ref 0, .int (iI (xs (i + 1).toNatClampNeg).toInt)] h (fun r h1 => xrI r fun a => xW xP 100 202 [.ref 297, .int (iI (xs (i + 1).toNatClampNeg).toInt)] h1 (fun r2 h2 => xrI r2 fun b => a = b ∧ LW 100 L xs 1876 i h2)) := pairX (okis (l := [(xs (i + 1).toNatClampNeg).toInt]) ok8) (okis (l := [(xs (i + 1).toNatClampNeg).toInt]) ok9) hR hK (pr_3 hI (rg_i _))
  try simp only [iI_of] at z
  exact xl_351 v1 z
set_option maxHeartbeats 1000000 in
theorem ql_4 (hR : zR G h) (hI : INV G) (v1 : vp_in (i + 1) L) (hK : ∀ G2 h2, zR G2 h2 → INV G2 → LW 100 L xs 1876 i h2) : LW 100 L xs 374 i h := by
  have z : xW xP 100 99 [.ref 0, .int (iI (xs (i + 1).toNatClampNeg).toInt)] h (fun r h1 => xrI r fun a => xW xP 100 217 [.ref 297, .int (iI (xs (i + 1).toNatClampNeg).toInt)] h1 (fun r2 h2 => xrI r2 fun b => a = b ∧ LW 100 L xs 1876 i h2)) := pairX (okis (l := [(xs (i + 1).toNatClampNeg).toInt]) ok8) (okis (l := [(xs (i + 1).toNatClampNeg).toInt]) ok9) hR hK (pr_4 hI (rg_i _))
  try simp only [iI_of] at z
  exact xl_374 v1 z
set_option maxHeartbeats 1000000 in
theorem ql_5 (hR : zR G h) (hI : INV G) (v1 : vp_in (i + 1) L) (v2 : vp_in (i + 2) L) (hK : ∀ G2 h2, zR G2 h2 → INV G2 → LW 100 L xs 1876 i h2) : LW 100 L xs 397 i h := by
  have z : xW xP 100 100 [.ref 0, .int (iI (xs (i + 1).toNatClampNeg).toInt), .int (iI (xs (i + 2).toNatClampNeg).toInt)] h (fun r h1 => xrI r fun a => xW xP 100 218 [.ref 297, .int (iI (xs (i + 1).toNatClampNeg).toInt), .int (iI (xs (i + 2).toNatClampNeg).toInt)] h1 (fun r2 h2 => xrI r2 fun b => a = b ∧ LW 100 L xs 1876 i h2)) := pairX (okis (l := [(xs (i + 1).toNatClampNeg).toInt, (xs (i + 2).toNatClampNeg).toInt]) ok8) (okis (l := [(xs (i + 1).toNatClampNeg).toInt, (xs (i + 2).toNatClampNeg).toInt]) ok9) hR hK (pr_5 hI (rg_i _) (rg_i _))
  try simp only [iI_of] at z
  exact xl_397 v1 v2 z
set_option maxHeartbeats 1000000 in
theorem ql_6 (hR : zR G h) (hI : INV G) (v1 : vp_in (i + 1) L) (v2 : vp_in (i + 2) L) (hK : ∀ G2 h2, zR G2 h2 → INV G2 → LW 100 L xs 1876 i h2) : LW 100 L xs 430 i h := by
  have z : xW xP 100 101 [.ref 0, .int (iI (xs (i + 1).toNatClampNeg).toInt), .int (iI (xs (i + 2).toNatClampNeg).toInt)] h (fun r h1 => xrI r fun a => xW xP 100 219 [.ref 297, .int (iI (xs (i + 1).toNatClampNeg).toInt), .int (iI (xs (i + 2).toNatClampNeg).toInt)] h1 (fun r2 h2 => xrI r2 fun b => a = b ∧ LW 100 L xs 1876 i h2)) := pairX (okis (l := [(xs (i + 1).toNatClampNeg).toInt, (xs (i + 2).toNatClampNeg).toInt]) ok8) (okis (l := [(xs (i + 1).toNatClampNeg).toInt, (xs (i + 2).toNatClampNeg).toInt]) ok9) hR hK (pr_6 hI (rg_i _) (rg_i _))
  try simp only [iI_of] at z
  exact xl_430 v1 v2 z
set_option maxHeartbeats 1000000 in
theorem ql_7 (hR : zR G h) (hI : INV G) (v1 : vp_in (i + 1) L) (hK : ∀ G2 h2, zR G2 h2 → INV G2 → LW 100 L xs 1876 i h2) : LW 100 L xs 463 i h := by
  have z : xW xP 100 102 [.ref 0, .int (iI (xs (i + 1).toNatClampNeg).toInt)] h (fun r h1 => xrI r fun a => xW xP 100 220 [.ref 297, .int (iI (xs (i + 1).toNatClampNeg).toInt)] h1 (fun r2 h2 => xrI r2 fun b => a = b ∧ LW 100 L xs 1876 i h2)) := pairX (okis (l := [(xs (i + 1).toNatClampNeg).toInt]) ok8) (okis (l := [(xs (i + 1).toNatClampNeg).toInt]) ok9) hR hK (pr_7 hI (rg_i _))
  try simp only [iI_of] at z
  exact xl_463 v1 z
set_option maxHeartbeats 1000000 in
theorem ql_8 (hR : zR G h) (hI : INV G) (v1 : vp_in (i + 1) L) (v2 : vp_in (i + 2) L) (hK : ∀ G2 h2, zR G2 h2 → INV G2 → LW 100 L xs 1876 i h2) : LW 100 L xs 486 i h := by
  have z : xW xP 100 103 [.ref 0, .int (iI (xs (i + 1).toNatClampNeg).toInt), .int (iI (xs (i + 2).toNatClampNeg).toInt)] h (fun r h1 => xrI r fun a => xW xP 100 221 [.ref 297, .int (iI (xs (i + 1).toNatClampNeg).toInt), .int (iI (xs (i + 2).toNatClampNeg).toInt)] h1 (fun r2 h2 => xrI r2 fun b => a = b ∧ LW 100 L xs 1876 i h2)) := pairX (okis (l := [(xs (i + 1).toNatClampNeg).toInt, (xs (i + 2).toNatClampNeg).toInt]) ok8) (okis (l := [(xs (i + 1).toNatClampNeg).toInt, (xs (i + 2).toNatClampNeg).toInt]) ok9) hR hK (pr_8 hI (rg_i _) (rg_i _))
  try simp only [iI_of] at z
  exact xl_486 v1 v2 z
set_option maxHeartbeats 1000000 in
theorem ql_9 (hR : zR G h) (hI : INV G) (v1 : vp_in (i + 1) L) (v2 : vp_in (i + 2) L) (hK : ∀ G2 h2, zR G2 h2 → INV G2 → LW 100 L xs 1876 i h2) : LW 100 L xs 519 i h := by
  have z : xW xP 100 104 [.ref 0, .int (iI (xs (i + 1).toNatClampNeg).toInt), .int (iI (xs (i + 2).toNatClampNeg).toInt)] h (fun r h1 => xrI r fun a => xW xP 100 223 [.ref 297, .int (iI (xs (i + 1).toNatClampNeg).toInt), .int (iI (xs (i + 2).toNatClampNeg).toInt)] h1 (fun r2 h2 => xrI r2 fun b => a = b ∧ LW 100 L xs 1876 i h2)) := pairX (okis (l := [(xs (i + 1).toNatClampNeg).toInt, (xs (i + 2).toNatClampNeg).toInt]) ok8) (okis (l := [(xs (i + 1).toNatClampNeg).toInt, (xs (i + 2).toNatClampNeg).toInt]) ok9) hR hK (pr_9 hI (rg_i _) (rg_i _))
  try simp only [iI_of] at z
  exact xl_519 v1 v2 z
set_option maxHeartbeats 1000000 in
theorem ql_10 (hR : zR G h) (hI : INV G) (v1 : vp_in (i + 1) L) (v2 : vp_in (i + 2) L) (v3 : vp_in (i + 3) L) (hK : ∀ G2 h2, zR G2 h2 → INV G2 → LW 100 L xs 1876 i h2) : LW 100 L xs 552 i h := by
  have z : xW xP 100 105 [.ref 0, .int (iI (xs (i + 1).toNatClampNeg).toInt), .int (iI (xs (i + 2).toNatClampNeg).toInt), .int (iI (xs (i + 3).toNatClampNeg).toInt)] h (fun r h1 => xrI r fun a => xW xP 100 224 [.ref 297, .int (iI (xs (i + 1).toNatClampNeg).toInt), .int (iI (xs (i + 2).toNatClampNeg).toInt), .int (iI (xs (i + 3).toNatClampNeg).toInt)] h1 (fun r2 h2 => xrI r2 fun b => a = b ∧ LW 100 L xs 1876 i h2)) := pairX (okis (l := [(xs (i + 1).toNatClampNeg).toInt, (xs (i + 2).toNatClampNeg).toInt, (xs (i + 3).toNatClampNeg).toInt]) ok8) (okis (l := [(xs (i + 1).toNatClampNeg).toInt, (xs (i + 2).toNatClampNeg).toInt, (xs (i + 3).toNatClampNeg).toInt]) ok9) hR hK (pr_10 hI (rg_i _) (rg_i _) (rg_i _))
  try simp only [iI_of] at z
  exact xl_552 v1 v2 v3 z
set_option maxHeartbeats 1000000 in
theorem ql_11 (hR : zR G h) (hI : INV G) (v1 : vp_in (i + 1) L) (v2 : vp_in (i + 2) L) (v3 : vp_in (i + 3) L) (hK : ∀ G2 h2, zR G2 h2 → INV G2 → LW 100 L xs 1876 i h2) : LW 100 L xs 595 i h := by
  have z : xW xP 100 106 [.ref 0, .int (iI (xs (i + 1).toNatClampNeg).toInt), .int (iI (xs (i + 2).toNatClampNeg).toInt), .int (iI (xs (i + 3).toNatClampNeg).toInt)] h (fun r h1 => xrI r fun a => xW xP 100 225 [.ref 297, .int (iI (xs (i + 1).toNatClampNeg).toInt), .int (iI (xs (i + 2).toNatClampNeg).toInt), .int (iI (xs (i + 3).toNatClampNeg).toInt)] h1 (fun r2 h2 => xrI r2 fun b => a = b ∧ LW 100 L xs 1876 i h2)) := pairX (okis (l := [(xs (i + 1).toNatClampNeg).toInt, (xs (i + 2).toNatClampNeg).toInt, (xs (i + 3).toNatClampNeg).toInt]) ok8) (okis (l := [(xs (i + 1).toNatClampNeg).toInt, (xs (i + 2).toNatClampNeg).toInt, (xs (i + 3).toNatClampNeg).toInt]) ok9) hR hK (pr_11 hI (rg_i _) (rg_i _) (rg_i _))
  try simp only [iI_of] at z
  exact xl_595 v1 v2 v3 z
set_option maxHeartbeats 1000000 in
theorem ql_12 (hR : zR G h) (hI : INV G) (v1 : vp_in (i + 1) L) (v2 : vp_in (i + 2) L) (hK : ∀ G2 h2, zR G2 h2 → INV G2 → LW 100 L xs 1876 i h2) : LW 100 L xs 638 i h := by
  have z : xW xP 100 107 [.ref 0, .int (iI (xs (i + 1).toNatClampNeg).toInt), .int (iI (xs (i + 2).toNatClampNeg).toInt)] h (fun r h1 => xrI r fun a => xW xP 100 226 [.ref 297, .int (iI (xs (i + 1).toNatClampNeg).toInt), .int (iI (xs (i + 2).toNatClampNeg).toInt)] h1 (fun r2 h2 => xrI r2 fun b => a = b ∧ LW 100 L xs 1876 i h2)) := pairX (okis (l := [(xs (i + 1).toNatClampNeg).toInt, (xs (i + 2).toNatClampNeg).toInt]) ok8) (okis (l := [(xs (i + 1).toNatClampNeg).toInt, (xs (i + 2).toNatClampNeg).toInt]) ok9) hR hK (pr_12 hI (rg_i _) (rg_i _))
  try simp only [iI_of] at z
  exact xl_638 v1 v2 z
set_option maxHeartbeats 1000000 in
theorem ql_13 (hR : zR G h) (hI : INV G) (v1 : vp_in (i + 1) L) (v2 : vp_in (i + 2) L) (v3 : vp_in (i + 3) L) (v4 : vp_in (i + 4) L) (hK : ∀ G2 h2, zR G2 h2 → INV G2 → LW 100 L xs 1876 i h2) : LW 100 L xs 671 i h := by
  have z : xW xP 100 108 [.ref 0, .int (iI (xs (i + 1).toNatClampNeg).toInt), .int (iI (xs (i + 2).toNatClampNeg).toInt), .int (iI (xs (i + 3).toNatClampNeg).toInt), .int (iI (xs (i + 4).toNatClampNeg).toInt)] h (fun r h1 => xrI r fun a => xW xP 100 228 [.ref 297, .int (iI (xs (i + 1).toNatClampNeg).toInt), .int (iI (xs (i + 2).toNatClampNeg).toInt), .int (iI (xs (i + 3).toNatClampNeg).toInt), .int (iI (xs (i + 4).toNatClampNeg).toInt)] h1 (fun r2 h2 => xrI r2 fun b => a = b ∧ LW 100 L xs 1876 i h2)) := pairX (okis (l := [(xs (i + 1).toNatClampNeg).toInt, (xs (i + 2).toNatClampNeg).toInt, (xs (i + 3).toNatClampNeg).toInt, (xs (i + 4).toNatClampNeg).toInt]) ok8) (okis (l := [(xs (i + 1).toNatClampNeg).toInt, (xs (i + 2).toNatClampNeg).toInt, (xs (i + 3).toNatClampNeg).toInt, (xs (i + 4).toNatClampNeg).toInt]) ok9) hR hK (pr_13 hI (rg_i _) (rg_i _) (rg_i _) (rg_i _))
  try simp only [iI_of] at z
  exact xl_671 v1 v2 v3 v4 z
set_option maxHeartbeats 1000000 in
theorem ql_14 (hR : zR G h) (hI : INV G) (v1 : vp_in (i + 1) L) (v2 : vp_in (i + 2) L) (hK : ∀ G2 h2, zR G2 h2 → INV G2 → LW 100 L xs 1876 i h2) : LW 100 L xs 724 i h := by
  have z : xW xP 100 109 [.ref 0, .int (iI (xs (i + 1).toNatClampNeg).toInt), .int (iI (xs (i + 2).toNatClampNeg).toInt)] h (fun r h1 => xrI r fun a => xW xP 100 229 [.ref 297, .int (iI (xs (i + 1).toNatClampNeg).toInt), .int (iI (xs (i + 2).toNatClampNeg).toInt)] h1 (fun r2 h2 => xrI r2 fun b => a = b ∧ LW 100 L xs 1876 i h2)) := pairX (okis (l := [(xs (i + 1).toNatClampNeg).toInt, (xs (i + 2).toNatClampNeg).toInt]) ok8) (okis (l := [(xs (i + 1).toNatClampNeg).toInt, (xs (i + 2).toNatClampNeg).toInt]) ok9) hR hK (pr_14 hI (rg_i _) (rg_i _))
  try simp only [iI_of] at z
  exact xl_724 v1 v2 z
set_option maxHeartbeats 1000000 in
theorem ql_15 (hR : zR G h) (hI : INV G) (v1 : vp_in (i + 1) L) (v2 : vp_in (i + 2) L) (hK : ∀ G2 h2, zR G2 h2 → INV G2 → LW 100 L xs 1876 i h2) : LW 100 L xs 757 i h := by
  have z : xW xP 100 110 [.ref 0, .int (iI (xs (i + 1).toNatClampNeg).toInt), .int (iI (xs (i + 2).toNatClampNeg).toInt)] h (fun r h1 => xrI r fun a => xW xP 100 230 [.ref 297, .int (iI (xs (i + 1).toNatClampNeg).toInt), .int (iI (xs (i + 2).toNatClampNeg).toInt)] h1 (fun r2 h2 => xrI r2 fun b => a = b ∧ LW 100 L xs 1876 i h2)) := pairX (okis (l := [(xs (i + 1).toNatClampNeg).toInt, (xs (i + 2).toNatClampNeg).toInt]) ok8) (okis (l := [(xs (i + 1).toNatClampNeg).toInt, (xs (i + 2).toNatClampNeg).toInt]) ok9) hR hK (pr_15 hI (rg_i _) (rg_i _))
  try simp only [iI_of] at z
  exact xl_757 v1 v2 z
set_option maxHeartbeats 1000000 in
theorem ql_16 (hR : zR G h) (hI : INV G) (v1 : vp_in (i + 1) L) (v2 : vp_in (i + 2) L) (v3 : vp_in (i + 3) L) (hK : ∀ G2 h2, zR G2 h2 → INV G2 → LW 100 L xs 1876 i h2) : LW 100 L xs 790 i h := by
  have z : xW xP 100 111 [.ref 0, .int (iI (xs (i + 1).toNatClampNeg).toInt), .int (iI (xs (i + 2).toNatClampNeg).toInt), .int (iI (xs (i + 3).toNatClampNeg).toInt)] h (fun r h1 => xrI r fun a => xW xP 100 231 [.ref 297, .int (iI (xs (i + 1).toNatClampNeg).toInt), .int (iI (xs (i + 2).toNatClampNeg).toInt), .int (iI (xs (i + 3).toNatClampNeg).toInt)] h1 (fun r2 h2 => xrI r2 fun b => a = b ∧ LW 100 L xs 1876 i h2)) := pairX (okis (l := [(xs (i + 1).toNatClampNeg).toInt, (xs (i + 2).toNatClampNeg).toInt, (xs (i + 3).toNatClampNeg).toInt]) ok8) (okis (l := [(xs (i + 1).toNatClampNeg).toInt, (xs (i + 2).toNatClampNeg).toInt, (xs (i + 3).toNatClampNeg).toInt]) ok9) hR hK (pr_16 hI (rg_i _) (rg_i _) (rg_i _))
  try simp only [iI_of] at z
  exact xl_790 v1 v2 v3 z
set_option maxHeartbeats 1000000 in
theorem ql_17 (hR : zR G h) (hI : INV G) (v1 : vp_in (i + 1) L) (v2 : vp_in (i + 2) L) (hK : ∀ G2 h2, zR G2 h2 → INV G2 → LW 100 L xs 1876 i h2) : LW 100 L xs 833 i h := by
  have z : xW xP 100 112 [.ref 0, .int (iI (xs (i + 1).toNatClampNeg).toInt), .int (iI (xs (i + 2).toNatClampNeg).toInt)] h (fun r h1 => xrI r fun a => xW xP 100 233 [.ref 297, .int (iI (xs (i + 1).toNatClampNeg).toInt), .int (iI (xs (i + 2).toNatClampNeg).toInt)] h1 (fun r2 h2 => xrI r2 fun b => a = b ∧ LW 100 L xs 1876 i h2)) := pairX (okis (l := [(xs (i + 1).toNatClampNeg).toInt, (xs (i + 2).toNatClampNeg).toInt]) ok8) (okis (l := [(xs (i + 1).toNatClampNeg).toInt, (xs (i + 2).toNatClampNeg).toInt]) ok9) hR hK (pr_17 hI (rg_i _) (rg_i _))
  try simp only [iI_of] at z
  exact xl_833 v1 v2 z
set_option maxHeartbeats 1000000 in
theorem ql_18 (hR : zR G h) (hI : INV G) (v1 : vp_in (i + 1) L) (v2 : vp_in (i + 2) L) (hK : ∀ G2 h2, zR G2 h2 → INV G2 → LW 100 L xs 1876 i h2) : LW 100 L xs 866 i h := by
  have z : xW xP 100 113 [.ref 0, .int (iI (xs (i + 1).toNatClampNeg).toInt), .int (iI (xs (i + 2).toNatClampNeg).toInt)] h (fun r h1 => xrI r fun a => xW xP 100 234 [.ref 297, .int (iI (xs (i + 1).toNatClampNeg).toInt), .int (iI (xs (i + 2).toNatClampNeg).toInt)] h1 (fun r2 h2 => xrI r2 fun b => a = b ∧ LW 100 L xs 1876 i h2)) := pairX (okis (l := [(xs (i + 1).toNatClampNeg).toInt, (xs (i + 2).toNatClampNeg).toInt]) ok8) (okis (l := [(xs (i + 1).toNatClampNeg).toInt, (xs (i + 2).toNatClampNeg).toInt]) ok9) hR hK (pr_18 hI (rg_i _) (rg_i _))
  try simp only [iI_of] at z
  exact xl_866 v1 v2 z
set_option maxHeartbeats 1000000 in
theorem ql_19 (hR : zR G h) (hI : INV G) (v1 : vp_in (i + 1) L) (v2 : vp_in (i + 2) L) (hK : ∀ G2 h2, zR G2 h2 → INV G2 → LW 100 L xs 1876 i h2) : LW 100 L xs 899 i h := by
  have z : xW xP 100 114 [.ref 0, .int (iI (xs (i + 1).toNatClampNeg).toInt), .int (iI (xs (i + 2).toNatClampNeg).toInt)] h (fun r h1 => xrI r fun a => xW xP 100 235 [.ref 297, .int (iI (xs (i + 1).toNatClampNeg).toInt), .int (iI (xs (i + 2).toNatClampNeg).toInt)] h1 (fun r2 h2 => xrI r2 fun b => a = b ∧ LW 100 L xs 1876 i h2)) := pairX (okis (l := [(xs (i + 1).toNatClampNeg).toInt, (xs (i + 2).toNatClampNeg).toInt]) ok8) (okis (l := [(xs (i + 1).toNatClampNeg).toInt, (xs (i + 2).toNatClampNeg).toInt]) ok9) hR hK (pr_19 hI (rg_i _) (rg_i _))
  try simp only [iI_of] at z
  exact xl_899 v1 v2 z
set_option maxHeartbeats 1000000 in
theorem ql_20 (hR : zR G h) (hI : INV G) (v1 : vp_in (i + 1) L) (v2 : vp_in (i + 2) L) (hK : ∀ G2 h2, zR G2 h2 → INV G2 → LW 100 L xs 1876 i h2) : LW 100 L xs 932 i h := by
  have z : xW xP 100 115 [.ref 0, .int (iI (xs (i + 1).toNatClampNeg).toInt), .int (iI (xs (i + 2).toNatClampNeg).toInt)] h (fun r h1 => xrI r fun a => xW xP 100 236 [.ref 297, .int (iI (xs (i + 1).toNatClampNeg).toInt), .int (iI (xs (i + 2).toNatClampNeg).toInt)] h1 (fun r2 h2 => xrI r2 fun b => a = b ∧ LW 100 L xs 1876 i h2)) := pairX (okis (l := [(xs (i + 1).toNatClampNeg).toInt, (xs (i + 2).toNatClampNeg).toInt]) ok8) (okis (l := [(xs (i + 1).toNatClampNeg).toInt, (xs (i + 2).toNatClampNeg).toInt]) ok9) hR hK (pr_20 hI (rg_i _) (rg_i _))
  try simp only [iI_of] at z
  exact xl_932 v1 v2 z
set_option maxHeartbeats 1000000 in
theorem ql_21 (hR : zR G h) (hI : INV G) (v1 : vp_in (i + 1) L) (v2 : vp_in (i + 2) L) (hK : ∀ G2 h2, zR G2 h2 → INV G2 → LW 100 L xs 1876 i h2) : LW 100 L xs 965 i h := by
  have z : xW xP 100 116 [.ref 0, .int (iI (xs (i + 1).toNatClampNeg).toInt), .int (iI (xs (i + 2).toNatClampNeg).toInt)] h (fun r h1 => xrI r fun a => xW xP 100 237 [.ref 297, .int (iI (xs (i + 1).toNatClampNeg).toInt), .int (iI (xs (i + 2).toNatClampNeg).toInt)] h1 (fun r2 h2 => xrI r2 fun b => a = b ∧ LW 100 L xs 1876 i h2)) := pairX (okis (l := [(xs (i + 1).toNatClampNeg).toInt, (xs (i + 2).toNatClampNeg).toInt]) ok8) (okis (l := [(xs (i + 1).toNatClampNeg).toInt, (xs (i + 2).toNatClampNeg).toInt]) ok9) hR hK (pr_21 hI (rg_i _) (rg_i _))
  try simp only [iI_of] at z
  exact xl_965 v1 v2 z
set_option maxHeartbeats 1000000 in
theorem ql_22 (hR : zR G h) (hI : INV G) (v1 : vp_in (i + 1) L) (v2 : vp_in (i + 2) L) (hK : ∀ G2 h2, zR G2 h2 → INV G2 → LW 100 L xs 1876 i h2) : LW 100 L xs 998 i h := by
  have z : xW xP 100 128 [.ref 0, .int (iI (xs (i + 1).toNatClampNeg).toInt), .int (iI (xs (i + 2).toNatClampNeg).toInt)] h (fun r h1 => xrI r fun a => xW xP 100 238 [.ref 297, .int (iI (xs (i + 1).toNatClampNeg).toInt), .int (iI (xs (i + 2).toNatClampNeg).toInt)] h1 (fun r2 h2 => xrI r2 fun b => a = b ∧ LW 100 L xs 1876 i h2)) := pairX (okis (l := [(xs (i + 1).toNatClampNeg).toInt, (xs (i + 2).toNatClampNeg).toInt]) ok8) (okis (l := [(xs (i + 1).toNatClampNeg).toInt, (xs (i + 2).toNatClampNeg).toInt]) ok9) hR hK (pr_22 hI (rg_i _) (rg_i _))
  try simp only [iI_of] at z
  exact xl_998 v1 v2 z
set_option maxHeartbeats 1000000 in
theorem ql_23 (hR : zR G h) (hI : INV G) (v1 : vp_in (i + 1) L) (v2 : vp_in (i + 2) L) (hK : ∀ G2 h2, zR G2 h2 → INV G2 → LW 100 L xs 1876 i h2) : LW 100 L xs 1031 i h := by
  have z : xW xP 100 122 [.ref 0, .int (iI (xs (i + 1).toNatClampNeg).toInt), .int (iI (xs (i + 2).toNatClampNeg).toInt)] h (fun r h1 => xrI r fun a => xW xP 100 246 [.ref 297, .int (iI (xs (i + 1).toNatClampNeg).toInt), .int (iI (xs (i + 2).toNatClampNeg).toInt)] h1 (fun r2 h2 => xrI r2 fun b => a = b ∧ LW 100 L xs 1876 i h2)) := pairX (okis (l := [(xs (i + 1).toNatClampNeg).toInt, (xs (i + 2).toNatClampNeg).toInt]) ok8) (okis (l := [(xs (i + 1).toNatClampNeg).toInt, (xs (i + 2).toNatClampNeg).toInt]) ok9) hR hK (pr_23 hI (rg_i _) (rg_i _))
  try simp only [iI_of] at z
  exact xl_1031 v1 v2 z
set_option maxHeartbeats 1000000 in
theorem ql_24 (hR : zR G h) (hI : INV G) (v1 : vp_in (i + 1) L) (v2 : vp_in (i + 2) L) (hK : ∀ G2 h2, zR G2 h2 → INV G2 → LW 100 L xs 1876 i h2) : LW 100 L xs 1064 i h := by
  have z : xW xP 100 123 [.ref 0, .int (iI (xs (i + 1).toNatClampNeg).toInt), .int (iI (xs (i + 2).toNatClampNeg).toInt)] h (fun r h1 => xrI r fun a => xW xP 100 247 [.ref 297, .int (iI (xs (i + 1).toNatClampNeg).toInt), .int (iI (xs (i + 2).toNatClampNeg).toInt)] h1 (fun r2 h2 => xrI r2 fun b => a = b ∧ LW 100 L xs 1876 i h2)) := pairX (okis (l := [(xs (i + 1).toNatClampNeg).toInt, (xs (i + 2).toNatClampNeg).toInt]) ok8) (okis (l := [(xs (i + 1).toNatClampNeg).toInt, (xs (i + 2).toNatClampNeg).toInt]) ok9) hR hK (pr_24 hI (rg_i _) (rg_i _))
  try simp only [iI_of] at z
  exact xl_1064 v1 v2 z
set_option maxHeartbeats 1000000 in
theorem ql_25 (hR : zR G h) (hI : INV G) (v1 : vp_in (i + 1) L) (hK : ∀ G2 h2, zR G2 h2 → INV G2 → LW 100 L xs 1876 i h2) : LW 100 L xs 1097 i h := by
  have z : xW xP 100 124 [.ref 0, .int (iI (xs (i + 1).toNatClampNeg).toInt)] h (fun r h1 => xrI r fun a => xW xP 100 250 [.ref 297, .int (iI (xs (i + 1).toNatClampNeg).toInt)] h1 (fun r2 h2 => xrI r2 fun b => a = b ∧ LW 100 L xs 1876 i h2)) := pairX (okis (l := [(xs (i + 1).toNatClampNeg).toInt]) ok8) (okis (l := [(xs (i + 1).toNatClampNeg).toInt]) ok9) hR hK (pr_25 hI (rg_i _))
  try simp only [iI_of] at z
  exact xl_1097 v1 z
set_option maxHeartbeats 1000000 in
theorem ql_26 (hR : zR G h) (hI : INV G) (v1 : vp_in (i + 1) L) (v2 : vp_in (i + 2) L) (hK : ∀ G2 h2, zR G2 h2 → INV G2 → LW 100 L xs 1876 i h2) : LW 100 L xs 1120 i h := by
  have z : xW xP 100 125 [.ref 0, .int (iI (xs (i + 1).toNatClampNeg).toInt), .int (iI (xs (i + 2).toNatClampNeg).toInt)] h (fun r h1 => xrI r fun a => xW xP 100 251 [.ref 297, .int (iI (xs (i + 1).toNatClampNeg).toInt), .int (iI (xs (i + 2).toNatClampNeg).toInt)] h1 (fun r2 h2 => xrI r2 fun b => a = b ∧ LW 100 L xs 1876 i h2)) := pairX (okis (l := [(xs (i + 1).toNatClampNeg).toInt, (xs (i + 2).toNatClampNeg).toInt]) ok8) (okis (l := [(xs (i + 1).toNatClampNeg).toInt, (xs (i + 2).toNatClampNeg).toInt]) ok9) hR hK (pr_26 hI (rg_i _) (rg_i _))
  try simp only [iI_of] at z
  exact xl_1120 v1 v2 z
set_option maxHeartbeats 1000000 in
theorem ql_27 (hR : zR G h) (hI : INV G) (v1 : vp_in (i + 1) L) (hK : ∀ G2 h2, zR G2 h2 → INV G2 → LW 100 L xs 1876 i h2) : LW 100 L xs 1153 i h := by
  have z : xW xP 100 129 [.ref 0, .int (iI (xs (i + 1).toNatClampNeg).toInt)] h (fun r h1 => xrI r fun a => xW xP 100 252 [.ref 297, .int (iI (xs (i + 1).toNatClampNeg).toInt)] h1 (fun r2 h2 => xrI r2 fun b => a = b ∧ LW 100 L xs 1876 i h2)) := pairX (okis (l := [(xs (i + 1).toNatClampNeg).toInt]) ok8) (okis (l := [(xs (i + 1).toNatClampNeg).toInt]) ok9) hR hK (pr_27 hI (rg_i _))
  try simp only [iI_of] at z
  exact xl_1153 v1 z
set_option maxHeartbeats 1000000 in
theorem ql_28 (hR : zR G h) (hI : INV G) (v1 : vp_in (i + 1) L) (hK : ∀ G2 h2, zR G2 h2 → INV G2 → LW 100 L xs 1876 i h2) : LW 100 L xs 1176 i h := by
  have z : xW xP 100 130 [.ref 0, .int (iI (xs (i + 1).toNatClampNeg).toInt)] h (fun r h1 => xrI r fun a => xW xP 100 253 [.ref 297, .int (iI (xs (i + 1).toNatClampNeg).toInt)] h1 (fun r2 h2 => xrI r2 fun b => a = b ∧ LW 100 L xs 1876 i h2)) := pairX (okis (l := [(xs (i + 1).toNatClampNeg).toInt]) ok8) (okis (l := [(xs (i + 1).toNatClampNeg).toInt]) ok9) hR hK (pr_28 hI (rg_i _))
  try simp only [iI_of] at z
  exact xl_1176 v1 z
set_option maxHeartbeats 1000000 in
theorem ql_29 (hR : zR G h) (hI : INV G) (hK : ∀ G2 h2, zR G2 h2 → INV G2 → LW 100 L xs 1876 i h2) : LW 100 L xs 1199 i h := by
  have z : xW xP 100 131 [.ref 0] h (fun r h1 => xrI r fun a => xW xP 100 254 [.ref 297] h1 (fun r2 h2 => xrI r2 fun b => a = b ∧ LW 100 L xs 1876 i h2)) := pairX (okis (l := []) ok8) (okis (l := []) ok9) hR hK (pr_29 hI )
  try simp only [iI_of] at z
  exact xl_1199  z
set_option maxHeartbeats 1000000 in
theorem ql_30 (hR : zR G h) (hI : INV G) (v1 : vp_in (i + 1) L) (v2 : vp_in (i + 2) L) (v3 : vp_in (i + 3) L) (hK : ∀ G2 h2, zR G2 h2 → INV G2 → LW 100 L xs 1876 i h2) : LW 100 L xs 1212 i h := by
  have z : xW xP 100 118 [.ref 0, .int (iI (xs (i + 1).toNatClampNeg).toInt), .int (iI (xs (i + 2).toNatClampNeg).toInt), .int (iI (xs (i + 3).toNatClampNeg).toInt)] h (fun r h1 => xrI r fun a => xW xP 100 241 [.ref 297, .int (iI (xs (i + 1).toNatClampNeg).toInt), .int (iI (xs (i + 2).toNatClampNeg).toInt), .int (iI (xs (i + 3).toNatClampNeg).toInt)] h1 (fun r2 h2 => xrI r2 fun b => a = b ∧ LW 100 L xs 1876 i h2)) := pairX (okis (l := [(xs (i + 1).toNatClampNeg).toInt, (xs (i + 2).toNatClampNeg).toInt, (xs (i + 3).toNatClampNeg).toInt]) ok8) (okis (l := [(xs (i + 1).toNatClampNeg).toInt, (xs (i + 2).toNatClampNeg).toInt, (xs (i + 3).toNatClampNeg).toInt]) ok9) hR hK (pr_30 hI (rg_i _) (rg_i _) (rg_i _))
  try simp only [iI_of] at z
  exact xl_1212 v1 v2 v3 z
set_option maxHeartbeats 1000000 in
theorem ql_31 (hR : zR G h) (hI : INV G) (v1 : vp_in (i + 1) L) (v2 : vp_in (i + 2) L) (v3 : vp_in (i + 3) L) (hK : ∀ G2 h2, zR G2 h2 → INV G2 → LW 100 L xs 1876 i h2) : LW 100 L xs 1255 i h := by
  have z : xW xP 100 126 [.ref 0, .int (iI (xs (i + 1).toNatClampNeg).toInt), .int (iI (xs (i + 2).toNatClampNeg).toInt), .int (iI (xs (i + 3).toNatClampNeg).toInt)] h (fun r h1 => xrI r fun a => xW xP 100 242 [.ref 297, .int (iI (xs (i + 1).toNatClampNeg).toInt), .int (iI (xs (i + 2).toNatClampNeg).toInt), .int (iI (xs (i + 3).toNatClampNeg).toInt)] h1 (fun r2 h2 => xrI r2 fun b => a = b ∧ LW 100 L xs 1876 i h2)) := pairX (okis (l := [(xs (i + 1).toNatClampNeg).toInt, (xs (i + 2).toNatClampNeg).toInt, (xs (i + 3).toNatClampNeg).toInt]) ok8) (okis (l := [(xs (i + 1).toNatClampNeg).toInt, (xs (i + 2).toNatClampNeg).toInt, (xs (i + 3).toNatClampNeg).toInt]) ok9) hR hK (pr_31 hI (rg_i _) (rg_i _) (rg_i _))
  try simp only [iI_of] at z
  exact xl_1255 v1 v2 v3 z
set_option maxHeartbeats 1000000 in
theorem ql_32 (hR : zR G h) (hI : INV G) (v1 : vp_in (i + 1) L) (v2 : vp_in (i + 2) L) (hK : ∀ G2 h2, zR G2 h2 → INV G2 → LW 100 L xs 1876 i h2) : LW 100 L xs 1298 i h := by
  have z : xW xP 100 117 [.ref 0, .int (iI (xs (i + 1).toNatClampNeg).toInt), .int (iI (xs (i + 2).toNatClampNeg).toInt)] h (fun r h1 => xrI r fun a => xW xP 100 244 [.ref 297, .int (iI (xs (i + 1).toNatClampNeg).toInt), .int (iI (xs (i + 2).toNatClampNeg).toInt)] h1 (fun r2 h2 => xrI r2 fun b => a = b ∧ LW 100 L xs 1876 i h2)) := pairX (okis (l := [(xs (i + 1).toNatClampNeg).toInt, (xs (i + 2).toNatClampNeg).toInt]) ok8) (okis (l := [(xs (i + 1).toNatClampNeg).toInt, (xs (i + 2).toNatClampNeg).toInt]) ok9) hR hK (pr_32 hI (rg_i _) (rg_i _))
  try simp only [iI_of] at z
  exact xl_1298 v1 v2 z
set_option maxHeartbeats 1000000 in
theorem ql_33 (hR : zR G h) (hI : INV G) (v1 : vp_in (i + 1) L) (hK : ∀ G2 h2, zR G2 h2 → INV G2 → LW 100 L xs 1876 i h2) : LW 100 L xs 1331 i h := by
  have z : xW xP 100 127 [.ref 0, .int (iI (xs (i + 1).toNatClampNeg).toInt)] h (fun r h1 => xrI r fun a => xW xP 100 245 [.ref 297, .int (iI (xs (i + 1).toNatClampNeg).toInt)] h1 (fun r2 h2 => xrI r2 fun b => a = b ∧ LW 100 L xs 1876 i h2)) := pairX (okis (l := [(xs (i + 1).toNatClampNeg).toInt]) ok8) (okis (l := [(xs (i + 1).toNatClampNeg).toInt]) ok9) hR hK (pr_33 hI (rg_i _))
  try simp only [iI_of] at z
  exact xl_1331 v1 z
set_option maxHeartbeats 1000000 in
theorem ql_34 (hR : zR G h) (hI : INV G) (v1 : vp_in (i + 1) L) (v2 : vp_in (i + 2) L) (v3 : vp_in (i + 3) L) (v4 : vp_in (i + 4) L) (hK : ∀ G2 h2, zR G2 h2 → INV G2 → LW 100 L xs 1876 i h2) : LW 100 L xs 1354 i h := by
  have z : xW xP 100 134 [.ref 0, .int (iI (xs (i + 1).toNatClampNeg).toInt), .int (iI (xs (i + 2).toNatClampNeg).toInt), .int (iI (xs (i + 3).toNatClampNeg).toInt), .int (iI (xs (i + 4).toNatClampNeg).toInt)] h (fun r h1 => xrI r fun a => xW xP 100 256 [.ref 297, .int (iI (xs (i + 1).toNatClampNeg).toInt), .int (iI (xs (i + 2).toNatClampNeg).toInt), .int (iI (xs (i + 3).toNatClampNeg).toInt), .int (iI (xs (i + 4).toNatClampNeg).toInt)] h1 (fun r2 h2 => xrI r2 fun b => a = b ∧ LW 100 L xs 1876 i h2)) := pairX (okis (l := [(xs (i + 1).toNatClampNeg).toInt, (xs (i + 2).toNatClampNeg).toInt, (xs (i + 3).toNatClampNeg).toInt, (xs (i + 4).toNatClampNeg).toInt]) ok8) (okis (l := [(xs (i + 1).toNatClampNeg).toInt, (xs (i + 2).toNatClampNeg).toInt, (xs (i + 3).toNatClampNeg).toInt, (xs (i + 4).toNatClampNeg).toInt]) ok9) hR hK (pr_34 hI (rg_i _) (rg_i _) (rg_i _) (rg_i _))
  try simp only [iI_of] at z
  exact xl_1354 v1 v2 v3 v4 z
set_option maxHeartbeats 1000000 in
theorem ql_35 (hR : zR G h) (hI : INV G) (v1 : vp_in (i + 1) L) (v2 : vp_in (i + 2) L) (v3 : vp_in (i + 3) L) (hK : ∀ G2 h2, zR G2 h2 → INV G2 → LW 100 L xs 1876 i h2) : LW 100 L xs 1407 i h := by
  have z : xW xP 100 135 [.ref 0, .int (iI (xs (i + 1).toNatClampNeg).toInt), .int (iI (xs (i + 2).toNatClampNeg).toInt), .int (iI (xs (i + 3).toNatClampNeg).toInt)] h (fun r h1 => xrI r fun a => xW xP 100 258 [.ref 297, .int (iI (xs (i + 1).toNatClampNeg).toInt), .int (iI (xs (i + 2).toNatClampNeg).toInt), .int (iI (xs (i + 3).toNatClampNeg).toInt)] h1 (fun r2 h2 => xrI r2 fun b => a = b ∧ LW 100 L xs 1876 i h2)) := pairX (okis (l := [(xs (i + 1).toNatClampNeg).toInt, (xs (i + 2).toNatClampNeg).toInt, (xs (i + 3).toNatClampNeg).toInt]) ok8) (okis (l := [(xs (i + 1).toNatClampNeg).toInt, (xs (i + 2).toNatClampNeg).toInt, (xs (i + 3).toNatClampNeg).toInt]) ok9) hR hK (pr_35 hI (rg_i _) (rg_i _) (rg_i _))
  try simp only [iI_of] at z
  exact xl_1407 v1 v2 v3 z
set_option maxHeartbeats 1000000 in
theorem ql_36 (hR : zR G h) (hI : INV G) (v1 : vp_in (i + 1) L) (v2 : vp_in (i + 2) L) (v3 : vp_in (i + 3) L) (hK : ∀ G2 h2, zR G2 h2 → INV G2 → LW 100 L xs 1876 i h2) : LW 100 L xs 1450 i h := by
  have z : xW xP 100 136 [.ref 0, .int (iI (xs (i + 1).toNatClampNeg).toInt), .int (iI (xs (i + 2).toNatClampNeg).toInt), .int (iI (xs (i + 3).toNatClampNeg).toInt)] h (fun r h1 => xrI r fun a => xW xP 100 259 [.ref 297, .int (iI (xs (i + 1).toNatClampNeg).toInt), .int (iI (xs (i + 2).toNatClampNeg).toInt), .int (iI (xs (i + 3).toNatClampNeg).toInt)] h1 (fun r2 h2 => xrI r2 fun b => a = b ∧ LW 100 L xs 1876 i h2)) := pairX (okis (l := [(xs (i + 1).toNatClampNeg).toInt, (xs (i + 2).toNatClampNeg).toInt, (xs (i + 3).toNatClampNeg).toInt]) ok8) (okis (l := [(xs (i + 1).toNatClampNeg).toInt, (xs (i + 2).toNatClampNeg).toInt, (xs (i + 3).toNatClampNeg).toInt]) ok9) hR hK (pr_36 hI (rg_i _) (rg_i _) (rg_i _))
  try simp only [iI_of] at z
  exact xl_1450 v1 v2 v3 z
set_option maxHeartbeats 1000000 in
theorem ql_37 (hR : zR G h) (hI : INV G) (v1 : vp_in (i + 1) L) (v2 : vp_in (i + 2) L) (hK : ∀ G2 h2, zR G2 h2 → INV G2 → LW 100 L xs 1876 i h2) : LW 100 L xs 1493 i h := by
  have z : xW xP 100 137 [.ref 0, .int (iI (xs (i + 1).toNatClampNeg).toInt), .int (iI (xs (i + 2).toNatClampNeg).toInt)] h (fun r h1 => xrI r fun a => xW xP 100 260 [.ref 297, .int (iI (xs (i + 1).toNatClampNeg).toInt), .int (iI (xs (i + 2).toNatClampNeg).toInt)] h1 (fun r2 h2 => xrI r2 fun b => a = b ∧ LW 100 L xs 1876 i h2)) := pairX (okis (l := [(xs (i + 1).toNatClampNeg).toInt, (xs (i + 2).toNatClampNeg).toInt]) ok8) (okis (l := [(xs (i + 1).toNatClampNeg).toInt, (xs (i + 2).toNatClampNeg).toInt]) ok9) hR hK (pr_37 hI (rg_i _) (rg_i _))
  try simp only [iI_of] at z
  exact xl_1493 v1 v2 z
set_option maxHeartbeats 1000000 in
theorem ql_38 (hR : zR G h) (hI : INV G) (v1 : vp_in (i + 1) L) (hK : ∀ G2 h2, zR G2 h2 → INV G2 → LW 100 L xs 1876 i h2) : LW 100 L xs 1526 i h := by
  have z : xW xP 100 138 [.ref 0, .int (iI (xs (i + 1).toNatClampNeg).toInt)] h (fun r h1 => xrI r fun a => xW xP 100 261 [.ref 297, .int (iI (xs (i + 1).toNatClampNeg).toInt)] h1 (fun r2 h2 => xrI r2 fun b => a = b ∧ LW 100 L xs 1876 i h2)) := pairX (okis (l := [(xs (i + 1).toNatClampNeg).toInt]) ok8) (okis (l := [(xs (i + 1).toNatClampNeg).toInt]) ok9) hR hK (pr_38 hI (rg_i _))
  try simp only [iI_of] at z
  exact xl_1526 v1 z
set_option maxHeartbeats 1000000 in
theorem ql_39 (hR : zR G h) (hI : INV G) (hK : ∀ G2 h2, zR G2 h2 → INV G2 → LW 100 L xs 1876 i h2) : LW 100 L xs 1549 i h := by
  refine xl_1549 (zW_x 100 132 [zr 8 0 0] G h _ _ (okis (l := []) ok8) hR (fun r G1 h1 hr hR1 z => ?_) (pr_39 hI))
  obtain ⟨v, rfl, z⟩ := z
  show xW xP 100 263 _ h1 _
  refine zW_x 100 263 [zr 9 0 297] G1 h1 _ _ (okis (l := []) ok9) hR1 (fun r2 G2 h2 _ hR2 z2 => ?_) z
  obtain ⟨rfl, hI⟩ := z2
  exact ⟨rfl, hK G2 h2 hR2 hI⟩
set_option maxHeartbeats 1000000 in
theorem ql_40 (hR : zR G h) (hI : INV G) (v1 : vp_in (i + 1) L) (hK : ∀ G2 h2, zR G2 h2 → INV G2 → LW 100 L xs 1876 i h2) : LW 100 L xs 1563 i h := by
  have z : xW xP 100 133 [.ref 0, .int (iI (xs (i + 1).toNatClampNeg).toInt)] h (fun r h1 => xrI r fun a => xW xP 100 264 [.ref 297, .int (iI (xs (i + 1).toNatClampNeg).toInt)] h1 (fun r2 h2 => xrI r2 fun b => a = b ∧ LW 100 L xs 1876 i h2)) := pairX (okis (l := [(xs (i + 1).toNatClampNeg).toInt]) ok8) (okis (l := [(xs (i + 1).toNatClampNeg).toInt]) ok9) hR hK (pr_40 hI (rg_i _))
  try simp only [iI_of] at z
  exact xl_1563 v1 z
set_option maxHeartbeats 1000000 in
theorem ql_41 (hR : zR G h) (hI : INV G) (v1 : vp_in (i + 1) L) (v2 : vp_in (i + 2) L) (v3 : vp_in (i + 3) L) (v4 : vp_in (i + 4) L) (hK : ∀ G2 h2, zR G2 h2 → INV G2 → LW 100 L xs 1876 i h2) : LW 100 L xs 1586 i h := by
  have z : xW xP 100 119 [.ref 0, .int (iI (xs (i + 1).toNatClampNeg).toInt), .int (iI (xs (i + 2).toNatClampNeg).toInt), .int (iI (xs (i + 3).toNatClampNeg).toInt), .int (iI (xs (i + 4).toNatClampNeg).toInt)] h (fun r h1 => xrI r fun a => xW xP 100 265 [.ref 297, .int (iI (xs (i + 1).toNatClampNeg).toInt), .int (iI (xs (i + 2).toNatClampNeg).toInt), .int (iI (xs (i + 3).toNatClampNeg).toInt), .int (iI (xs (i + 4).toNatClampNeg).toInt)] h1 (fun r2 h2 => xrI r2 fun b => a = b ∧ LW 100 L xs 1876 i h2)) := pairX (okis (l := [(xs (i + 1).toNatClampNeg).toInt, (xs (i + 2).toNatClampNeg).toInt, (xs (i + 3).toNatClampNeg).toInt, (xs (i + 4).toNatClampNeg).toInt]) ok8) (okis (l := [(xs (i + 1).toNatClampNeg).toInt, (xs (i + 2).toNatClampNeg).toInt, (xs (i + 3).toNatClampNeg).toInt, (xs (i + 4).toNatClampNeg).toInt]) ok9) hR hK (pr_41 hI (rg_i _) (rg_i _) (rg_i _) (rg_i _))
  try simp only [iI_of] at z
  exact xl_1586 v1 v2 v3 v4 z
set_option maxHeartbeats 1000000 in
theorem ql_42 (hR : zR G h) (hI : INV G) (v1 : vp_in (i + 1) L) (v2 : vp_in (i + 2) L) (hK : ∀ G2 h2, zR G2 h2 → INV G2 → LW 100 L xs 1876 i h2) : LW 100 L xs 1639 i h := by
  have z : xW xP 100 120 [.ref 0, .int (iI (xs (i + 1).toNatClampNeg).toInt), .int (iI (xs (i + 2).toNatClampNeg).toInt)] h (fun r h1 => xrI r fun a => xW xP 100 269 [.ref 297, .int (iI (xs (i + 1).toNatClampNeg).toInt), .int (iI (xs (i + 2).toNatClampNeg).toInt)] h1 (fun r2 h2 => xrI r2 fun b => a = b ∧ LW 100 L xs 1876 i h2)) := pairX (okis (l := [(xs (i + 1).toNatClampNeg).toInt, (xs (i + 2).toNatClampNeg).toInt]) ok8) (okis (l := [(xs (i + 1).toNatClampNeg).toInt, (xs (i + 2).toNatClampNeg).toInt]) ok9) hR hK (pr_42 hI (rg_i _) (rg_i _))
  try simp only [iI_of] at z
  exact xl_1639 v1 v2 z
set_option maxHeartbeats 1000000 in
theorem ql_43 (hR : zR G h) (hI : INV G) (v1 : vp_in (i + 1) L) (hK : ∀ G2 h2, zR G2 h2 → INV G2 → LW 100 L xs 1876 i h2) : LW 100 L xs 1672 i h := by
  have z : xW xP 100 121 [.ref 0, .int (iI (xs (i + 1).toNatClampNeg).toInt)] h (fun r h1 => xrI r fun a => xW xP 100 270 [.ref 297, .int (iI (xs (i + 1).toNatClampNeg).toInt)] h1 (fun r2 h2 => xrI r2 fun b => a = b ∧ LW 100 L xs 1876 i h2)) := pairX (okis (l := [(xs (i + 1).toNatClampNeg).toInt]) ok8) (okis (l := [(xs (i + 1).toNatClampNeg).toInt]) ok9) hR hK (pr_43 hI (rg_i _))
  try simp only [iI_of] at z
  exact xl_1672 v1 z
set_option maxHeartbeats 1000000 in
theorem ql_44 (hR : zR G h) (hI : INV G) (v1 : vp_in (i + 1) L) (v2 : vp_in (i + 2) L) (v3 : vp_in (i + 3) L) (v4 : vp_in (i + 4) L) (hK : ∀ G2 h2, zR G2 h2 → INV G2 → LW 100 L xs 1876 i h2) : LW 100 L xs 1695 i h := by
  have z : xW xP 100 139 [.ref 0, .int (iI (xs (i + 1).toNatClampNeg).toInt), .int (iI (xs (i + 2).toNatClampNeg).toInt), .int (iI (xs (i + 3).toNatClampNeg).toInt), .int (iI (xs (i + 4).toNatClampNeg).toInt)] h (fun r h1 => xrI r fun a => xW xP 100 273 [.ref 297, .int (iI (xs (i + 1).toNatClampNeg).toInt), .int (iI (xs (i + 2).toNatClampNeg).toInt), .int (iI (xs (i + 3).toNatClampNeg).toInt), .int (iI (xs (i + 4).toNatClampNeg).toInt)] h1 (fun r2 h2 => xrI r2 fun b => a = b ∧ LW 100 L xs 1876 i h2)) := pairX (okis (l := [(xs (i + 1).toNatClampNeg).toInt, (xs (i + 2).toNatClampNeg).toInt, (xs (i + 3).toNatClampNeg).toInt, (xs (i + 4).toNatClampNeg).toInt]) ok8) (okis (l := [(xs (i + 1).toNatClampNeg).toInt, (xs (i + 2).toNatClampNeg).toInt, (xs (i + 3).toNatClampNeg).toInt, (xs (i + 4).toNatClampNeg).toInt]) ok9) hR hK (pr_44 hI (rg_i _) (rg_i _) (rg_i _) (rg_i _))
  try simp only [iI_of] at z
  exact xl_1695 v1 v2 v3 v4 z
set_option maxHeartbeats 1000000 in
theorem ql_45 (hR : zR G h) (hI : INV G) (v1 : vp_in (i + 1) L) (hK : ∀ G2 h2, zR G2 h2 → INV G2 → LW 100 L xs 1876 i h2) : LW 100 L xs 1748 i h := by
  have z : xW xP 100 140 [.ref 0, .int (iI (xs (i + 1).toNatClampNeg).toInt)] h (fun r h1 => xrI r fun a => xW xP 100 274 [.ref 297, .int (iI (xs (i + 1).toNatClampNeg).toInt)] h1 (fun r2 h2 => xrI r2 fun b => a = b ∧ LW 100 L xs 1876 i h2)) := pairX (okis (l := [(xs (i + 1).toNatClampNeg).toInt]) ok8) (okis (l := [(xs (i + 1).toNatClampNeg).toInt]) ok9) hR hK (pr_45 hI (rg_i _))
  try simp only [iI_of] at z
  exact xl_1748 v1 z
set_option maxHeartbeats 1000000 in
theorem ql_46 (hR : zR G h) (hI : INV G) (v1 : vp_in (i + 1) L) (v2 : vp_in (i + 2) L) (hK : ∀ G2 h2, zR G2 h2 → INV G2 → LW 100 L xs 1876 i h2) : LW 100 L xs 1771 i h := by
  have z : xW xP 100 141 [.ref 0, .int (iI (xs (i + 1).toNatClampNeg).toInt), .int (iI (xs (i + 2).toNatClampNeg).toInt)] h (fun r h1 => xrI r fun a => xW xP 100 275 [.ref 297, .int (iI (xs (i + 1).toNatClampNeg).toInt), .int (iI (xs (i + 2).toNatClampNeg).toInt)] h1 (fun r2 h2 => xrI r2 fun b => a = b ∧ LW 100 L xs 1876 i h2)) := pairX (okis (l := [(xs (i + 1).toNatClampNeg).toInt, (xs (i + 2).toNatClampNeg).toInt]) ok8) (okis (l := [(xs (i + 1).toNatClampNeg).toInt, (xs (i + 2).toNatClampNeg).toInt]) ok9) hR hK (pr_46 hI (rg_i _) (rg_i _))
  try simp only [iI_of] at z
  exact xl_1771 v1 v2 z
set_option maxHeartbeats 1000000 in
theorem ql_47 (hR : zR G h) (hI : INV G) (v1 : vp_in (i + 1) L) (hK : ∀ G2 h2, zR G2 h2 → INV G2 → LW 100 L xs 1876 i h2) : LW 100 L xs 1804 i h := by
  have z : xW xP 100 142 [.ref 0, .int (iI (xs (i + 1).toNatClampNeg).toInt)] h (fun r h1 => xrI r fun a => xW xP 100 276 [.ref 297, .int (iI (xs (i + 1).toNatClampNeg).toInt)] h1 (fun r2 h2 => xrI r2 fun b => a = b ∧ LW 100 L xs 1876 i h2)) := pairX (okis (l := [(xs (i + 1).toNatClampNeg).toInt]) ok8) (okis (l := [(xs (i + 1).toNatClampNeg).toInt]) ok9) hR hK (pr_47 hI (rg_i _))
  try simp only [iI_of] at z
  exact xl_1804 v1 z
set_option maxHeartbeats 1000000 in
theorem ql_48 (hR : zR G h) (hI : INV G) (v1 : vp_in (i + 1) L) (hK : ∀ G2 h2, zR G2 h2 → INV G2 → LW 100 L xs 1876 i h2) : LW 100 L xs 1827 i h := by
  have z : xW xP 100 143 [.ref 0, .int (iI (xs (i + 1).toNatClampNeg).toInt)] h (fun r h1 => xrI r fun a => xW xP 100 277 [.ref 297, .int (iI (xs (i + 1).toNatClampNeg).toInt)] h1 (fun r2 h2 => xrI r2 fun b => a = b ∧ LW 100 L xs 1876 i h2)) := pairX (okis (l := [(xs (i + 1).toNatClampNeg).toInt]) ok8) (okis (l := [(xs (i + 1).toNatClampNeg).toInt]) ok9) hR hK (pr_48 hI (rg_i _))
  try simp only [iI_of] at z
  exact xl_1827 v1 z
set_option maxHeartbeats 1000000 in
theorem ql_49 (hR : zR G h) (hI : INV G) (hK : ∀ G2 h2, zR G2 h2 → INV G2 → LW 100 L xs 1876 i h2) : LW 100 L xs 1850 i h := by
  have z : xW xP 100 144 [.ref 0] h (fun r h1 => xrI r fun a => xW xP 100 279 [.ref 297] h1 (fun r2 h2 => xrI r2 fun b => a = b ∧ LW 100 L xs 1876 i h2)) := pairX (okis (l := []) ok8) (okis (l := []) ok9) hR hK (pr_49 hI )
  try simp only [iI_of] at z
  exact xl_1850  z
set_option maxHeartbeats 1000000 in
theorem ql_50 (hR : zR G h) (hI : INV G) (hK : ∀ G2 h2, zR G2 h2 → INV G2 → LW 100 L xs 1876 i h2) : LW 100 L xs 1863 i h := by
  have z : xW xP 100 145 [.ref 0] h (fun r h1 => xrI r fun a => xW xP 100 280 [.ref 297] h1 (fun r2 h2 => xrI r2 fun b => a = b ∧ LW 100 L xs 1876 i h2)) := pairX (okis (l := []) ok8) (okis (l := []) ok9) hR hK (pr_50 hI )
  try simp only [iI_of] at z
  exact xl_1863  z
theorem vp_of {n k : Nat} (hL : L ≤ 3072) (hn : n + 6 ≤ L) (hk : k < 6) {i j : Int32} (hi : i = iI n) (hj : j = iI k) : vp_in (i + j) L := by
  rw [hi, hj, iI_add]
  have c := iI_clamp (a := (n : Int) + k) (by omega) (by omega)
  rintro (h | h)
  · have h0 : (0 : Int32) = iI 0 := rfl
    rw [h0, iI_lt ⟨by omega, by omega⟩ rg_0] at h
    omega
  · rw [c] at h; omega
set_option maxHeartbeats 2000000 in
theorem law_loop (hL : L ≤ 3072) : ∀ (k n : Nat) (h : xM) (G : zG), L ≤ n + k → n ≤ 4000 → zR G h → INV G → LW 100 L xs 18 (iI n) h := by
  intro k
  induction k with
  | zero =>
    intro n h G hk hn hR hI
    refine xl_18 (fun hc => ?_)
    exfalso
    apply hc
    rw [iI_len, show (6 : Int32) = iI 6 from rfl, iI_sub, iI_lt ⟨by omega, by omega⟩ ⟨by omega, by omega⟩]
    omega
  | succ k ih =>
    intro n h G hk hn hR hI
    refine xl_18 (fun hc => ?_)
    have hn6 : n + 6 ≤ L := by
      rw [iI_len, show (6 : Int32) = iI 6 from rfl, iI_sub, iI_lt ⟨by omega, by omega⟩ ⟨by omega, by omega⟩] at hc
      omega
    have v0 : vp_in (iI n) L := by
      have := vp_of (k := 0) hL hn6 (by omega) (i := iI n) (j := 0) rfl rfl
      rw [show (0 : Int32) = iI 0 from rfl, iI_add, Int.add_zero] at this
      exact this
    have v1 : vp_in (iI n + 1) L := vp_of (k := 1) hL hn6 (by omega) rfl rfl
    have v2 : vp_in (iI n + 2) L := vp_of (k := 2) hL hn6 (by omega) rfl rfl
    have v3 : vp_in (iI n + 3) L := vp_of (k := 3) hL hn6 (by omega) rfl rfl
    have v4 : vp_in (iI n + 4) L := vp_of (k := 4) hL hn6 (by omega) rfl rfl
    have v5 : vp_in (iI n + 5) L := vp_of (k := 5) hL hn6 (by omega) rfl rfl
    have hK : ∀ G2 h2, zR G2 h2 → INV G2 → LW 100 L xs 1876 (iI n) h2 := fun G2 h2 hR2 hI2 => by
      refine xl_1876 ?_
      have e : iI n + 6 = iI ((n + 6 : Nat) : Int) := by rw [show (6 : Int32) = iI 6 from rfl, iI_add]; rfl
      rw [e]
      exact ih (n + 6) h2 G2 (by omega) (by omega) hR2 hI2
    refine ⟨v0, fun t ht => ?_⟩
    rcases List.mem_cons.mp ht with rfl | ht
    · exact hK G h hR hI
    have ht : t ∈ [252, 315, 338, 351, 374, 397, 430, 463, 486, 519, 552, 595, 638, 671, 724, 757, 790, 833, 866, 899, 932, 965, 998, 1031, 1064, 1097, 1120, 1153, 1176, 1199, 1212, 1255, 1298, 1331, 1354, 1407, 1450, 1493, 1526, 1549, 1563, 1586, 1639, 1672, 1695, 1748, 1771, 1804, 1827, 1850, 1863] := ht
    clear v0
    rcases List.mem_cons.mp ht with rfl | ht
    · exact ql_0 hR hI v1 v2 v3 v4 v5 hK
    rcases List.mem_cons.mp ht with rfl | ht
    · exact ql_1 hR hI v1 hK
    rcases List.mem_cons.mp ht with rfl | ht
    · exact ql_2 hR hI  hK
    rcases List.mem_cons.mp ht with rfl | ht
    · exact ql_3 hR hI v1 hK
    rcases List.mem_cons.mp ht with rfl | ht
    · exact ql_4 hR hI v1 hK
    rcases List.mem_cons.mp ht with rfl | ht
    · exact ql_5 hR hI v1 v2 hK
    rcases List.mem_cons.mp ht with rfl | ht
    · exact ql_6 hR hI v1 v2 hK
    rcases List.mem_cons.mp ht with rfl | ht
    · exact ql_7 hR hI v1 hK
    rcases List.mem_cons.mp ht with rfl | ht
    · exact ql_8 hR hI v1 v2 hK
    rcases List.mem_cons.mp ht with rfl | ht
    · exact ql_9 hR hI v1 v2 hK
    rcases List.mem_cons.mp ht with rfl | ht
    · exact ql_10 hR hI v1 v2 v3 hK
    rcases List.mem_cons.mp ht with rfl | ht
    · exact ql_11 hR hI v1 v2 v3 hK
    rcases List.mem_cons.mp ht with rfl | ht
    · exact ql_12 hR hI v1 v2 hK
    rcases List.mem_cons.mp ht with rfl | ht
    · exact ql_13 hR hI v1 v2 v3 v4 hK
    rcases List.mem_cons.mp ht with rfl | ht
    · exact ql_14 hR hI v1 v2 hK
    rcases List.mem_cons.mp ht with rfl | ht
    · exact ql_15 hR hI v1 v2 hK
    rcases List.mem_cons.mp ht with rfl | ht
    · exact ql_16 hR hI v1 v2 v3 hK
    rcases List.mem_cons.mp ht with rfl | ht
    · exact ql_17 hR hI v1 v2 hK
    rcases List.mem_cons.mp ht with rfl | ht
    · exact ql_18 hR hI v1 v2 hK
    rcases List.mem_cons.mp ht with rfl | ht
    · exact ql_19 hR hI v1 v2 hK
    rcases List.mem_cons.mp ht with rfl | ht
    · exact ql_20 hR hI v1 v2 hK
    rcases List.mem_cons.mp ht with rfl | ht
    · exact ql_21 hR hI v1 v2 hK
    rcases List.mem_cons.mp ht with rfl | ht
    · exact ql_22 hR hI v1 v2 hK
    rcases List.mem_cons.mp ht with rfl | ht
    · exact ql_23 hR hI v1 v2 hK
    rcases List.mem_cons.mp ht with rfl | ht
    · exact ql_24 hR hI v1 v2 hK
    rcases List.mem_cons.mp ht with rfl | ht
    · exact ql_25 hR hI v1 hK
    rcases List.mem_cons.mp ht with rfl | ht
    · exact ql_26 hR hI v1 v2 hK
    rcases List.mem_cons.mp ht with rfl | ht
    · exact ql_27 hR hI v1 hK
    rcases List.mem_cons.mp ht with rfl | ht
    · exact ql_28 hR hI v1 hK
    rcases List.mem_cons.mp ht with rfl | ht
    · exact ql_29 hR hI  hK
    rcases List.mem_cons.mp ht with rfl | ht
    · exact ql_30 hR hI v1 v2 v3 hK
    rcases List.mem_cons.mp ht with rfl | ht
    · exact ql_31 hR hI v1 v2 v3 hK
    rcases List.mem_cons.mp ht with rfl | ht
    · exact ql_32 hR hI v1 v2 hK
    rcases List.mem_cons.mp ht with rfl | ht
    · exact ql_33 hR hI v1 hK
    rcases List.mem_cons.mp ht with rfl | ht
    · exact ql_34 hR hI v1 v2 v3 v4 hK
    rcases List.mem_cons.mp ht with rfl | ht
    · exact ql_35 hR hI v1 v2 v3 hK
    rcases List.mem_cons.mp ht with rfl | ht
    · exact ql_36 hR hI v1 v2 v3 hK
    rcases List.mem_cons.mp ht with rfl | ht
    · exact ql_37 hR hI v1 v2 hK
    rcases List.mem_cons.mp ht with rfl | ht
    · exact ql_38 hR hI v1 hK
    rcases List.mem_cons.mp ht with rfl | ht
    · exact ql_39 hR hI  hK
    rcases List.mem_cons.mp ht with rfl | ht
    · exact ql_40 hR hI v1 hK
    rcases List.mem_cons.mp ht with rfl | ht
    · exact ql_41 hR hI v1 v2 v3 v4 hK
    rcases List.mem_cons.mp ht with rfl | ht
    · exact ql_42 hR hI v1 v2 hK
    rcases List.mem_cons.mp ht with rfl | ht
    · exact ql_43 hR hI v1 hK
    rcases List.mem_cons.mp ht with rfl | ht
    · exact ql_44 hR hI v1 v2 v3 v4 hK
    rcases List.mem_cons.mp ht with rfl | ht
    · exact ql_45 hR hI v1 hK
    rcases List.mem_cons.mp ht with rfl | ht
    · exact ql_46 hR hI v1 v2 hK
    rcases List.mem_cons.mp ht with rfl | ht
    · exact ql_47 hR hI v1 hK
    rcases List.mem_cons.mp ht with rfl | ht
    · exact ql_48 hR hI v1 hK
    rcases List.mem_cons.mp ht with rfl | ht
    · exact ql_49 hR hI  hK
    rcases List.mem_cons.mp ht with rfl | ht
    · exact ql_50 hR hI  hK
    cases ht
end LAW
