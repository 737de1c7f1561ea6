/-! # what the Statement gives of the start -/
theorem k_start {args : Array Value} {s : State} (hts : ∀ w ∈ lw_tbl, w.before args s = true) : ∃ (D : va_G) (gc : Nat → ClassId), va_K D vwCl [(gc 0, .int), (gc 1, .char), (gc 2, .object "BreadSpans$Span"), (gc 3, .object "BreadSpans$Law"), (gc 4, .object "BreadSpans$Sheet")] s := by
  have kn : ∀ k : Nat, ∃ q : ClassId × (Nat → Nat), ∀ r : vw_C, vwCl[k]? = some r → u_Kn s r.1 r.2.1 r.2.2 q.1 q.2 := by
    intro k
    match k with
    | 0 => obtain ⟨a, b, h⟩ := u_known (C := RX0) (T := TX0) (N := 13) (n := 13) hts (fun w h => WS_tbl (inW0 w h)) (hts _ (WS_tbl it_X0)); exact ⟨(a, b), fun r hr => by cases hr; exact h⟩
    | 1 => obtain ⟨a, b, h⟩ := u_known (C := RX1) (T := TX1) (N := 4) (n := 4) hts (fun w h => WS_tbl (inW1 w h)) (hts _ (WS_tbl it_X1)); exact ⟨(a, b), fun r hr => by cases hr; exact h⟩
    | 2 => obtain ⟨a, b, h⟩ := u_known (C := RX2) (T := TX2) (N := 6) (n := 6) hts (fun w h => WS_tbl (inW2 w h)) (hts _ (WS_tbl it_X2)); exact ⟨(a, b), fun r hr => by cases hr; exact h⟩
    | 3 => obtain ⟨a, b, h⟩ := u_known (C := RX3) (T := TX3) (N := 3) (n := 3) hts (fun w h => WS_tbl (inW3 w h)) (hts _ (WS_tbl it_X3)); exact ⟨(a, b), fun r hr => by cases hr; exact h⟩
    | 4 => obtain ⟨a, b, h⟩ := u_known (C := RX4) (T := TX4) (N := 7) (n := 7) hts (fun w h => WS_tbl (inW4 w h)) (hts _ (WS_tbl it_X4)); exact ⟨(a, b), fun r hr => by cases hr; exact h⟩
    | 5 => obtain ⟨a, b, h⟩ := u_known (C := RX5) (T := TX5) (N := 6) (n := 6) hts (fun w h => WS_tbl (inW5 w h)) (hts _ (WS_tbl it_X5)); exact ⟨(a, b), fun r hr => by cases hr; exact h⟩
    | 6 => obtain ⟨a, b, h⟩ := u_known (C := RX6) (T := TX6) (N := 8) (n := 8) hts (fun w h => WS_tbl (inW6 w h)) (hts _ (WS_tbl it_X6)); exact ⟨(a, b), fun r hr => by cases hr; exact h⟩
    | 7 => obtain ⟨a, b, h⟩ := u_known (C := RX7) (T := TX7) (N := 21) (n := 21) hts (fun w h => WS_tbl (inW7 w h)) (hts _ (WS_tbl it_X7)); exact ⟨(a, b), fun r hr => by cases hr; exact h⟩
    | k + 8 => exact ⟨(0, fun _ => 0), fun r hr => by simp [vwCl] at hr⟩
  obtain ⟨f, hf⟩ := Classical.axiomOfChoice kn
  obtain ⟨c0, k0, m0, a1, a2, a3⟩ := Cond.arrayClass_spec (args := args) (first := s) (o := none) (s := s) (idx := []) (type := .int) (hts _ (WS_tbl ac_int))
  obtain ⟨c1, k1, m1, b1, b2, b3⟩ := Cond.arrayClass_spec (args := args) (first := s) (o := none) (s := s) (idx := []) (type := .char) (hts _ (WS_tbl ac_char))
  obtain ⟨m2, c2, k2, d1, -, d2, d3, d4⟩ := Cond.arrayOver_spec (args := args) (first := s) (o := none) (s := s) (idx := []) (n := "BreadSpans$Span") (hts _ (by decide +kernel))
  obtain ⟨m3, c3, k3, e1, -, e2, e3, e4⟩ := Cond.arrayOver_spec (args := args) (first := s) (o := none) (s := s) (idx := []) (n := "BreadSpans$Law") (hts _ (by decide +kernel))
  obtain ⟨m4, c4, k4, f1, -, f2, f3, f4⟩ := Cond.arrayOver_spec (args := args) (first := s) (o := none) (s := s) (idx := []) (n := "BreadSpans$Sheet") (hts _ (by decide +kernel))
  refine ⟨(fun k => (f k).1, fun k => (f k).2), fun i => ([c0, c1, c2, c3, c4] : List ClassId).getD i c0, fun k r hr => hf k r hr, fun k q hq => ?_⟩
  match k, hq with
  | 0, hq => cases hq; exact ⟨fun n z => ⟨fun k h => (by cases h), k0, a2, m0, a3⟩, a1⟩
  | 1, hq => cases hq; exact ⟨fun n z => ⟨fun k h => (by cases h), k1, b2, m1, b3⟩, b1⟩
  | 2, hq => cases hq; exact ⟨fun n z => ⟨fun k h => (by cases h), k2, d2, m2, d3⟩, k2, m2, d2, d3, d1, d4⟩
  | 3, hq => cases hq; exact ⟨fun n z => ⟨fun k h => (by cases h), k3, e2, m3, e3⟩, k3, m3, e2, e3, e1, e4⟩
  | 4, hq => cases hq; exact ⟨fun n z => ⟨fun k h => (by cases h), k4, f2, m4, f3⟩, k4, m4, f2, f3, f1, f4⟩
  | k + 5, hq => simp at hq
def SFA (x : Nat → Nat) (A : Nat → Prop) (U : State) (H : Heap) : Prop :=
  va_Z "BreadSpans" "ABOVE" "[I" (.ref (x 0)) A U H ∧ va_T .int (x 0) 7 (fun j => .int (fAb j)) A U H ∧
  va_Z "BreadSpans" "BODIES" "[I" (.ref (x 1)) A U H ∧ va_T .int (x 1) 28 (fun j => .int (fBo j)) A U H ∧
  vk_S 2 [3, 3] [[114, 119, 107], [108, 98, 109]] (fun i => x (2 + i)) (fun i => x (4 + i)) A U H ∧
  va_Z "java/lang/String" "COMPACT_STRINGS" "Z" (.int 1) A U H
theorem SFA.narrow {x : Nat → Nat} {A B : Nat → Prop} {U : State} {H : Heap} (h : SFA x A U H) (hAB : ∀ q, B q → A q) : SFA x B U H := ⟨h.1.narrow hAB, h.2.1.narrow hAB, h.2.2.1.narrow hAB, h.2.2.2.1.narrow hAB, h.2.2.2.2.1.narrow hAB, h.2.2.2.2.2.narrow hAB⟩
def tmS (i : Nat) : Term := .string "BreadSpans$Reader" (if i = 0 then 29 else 51)
theorem sf_start {args : Array Value} {s : State} (hts : ∀ w ∈ lw_tbl, w.before args s = true) (hgv : (Jvm.Cond.and given_1 narrow_1).before args s = true) : ∃ gx : Nat → Nat, SFA gx (fun q => s.heap.size ≤ q) s s.heap ∧ vk_R "BreadSpans$Reader" 29 "rwk" (gx 2) s ∧ vk_R "BreadSpans$Reader" 51 "lbm" (gx 3) s ∧ SN s := by
  have hs := flat_of_before _ hgv
  have hA : ∀ a : Nat, a < s.heap.size → ¬ (fun q : Nat => s.heap.size ≤ q) a := fun a h => Nat.not_le.mpr h
  obtain ⟨tA, hA1, hA2⟩ := va_Tof (args := args) (s := s) (tm := .static "BreadSpans" "ABOVE" "[I") (ty := .int) (N := 7) (f := fun j => .int (fAb j)) (A := fun q : Nat => s.heap.size ≤ q) (by decide) (hs _ (by decide +kernel)) (va_eqt (hs _ (by decide +kernel))) (fun j hj => va_eqt (hs _ ((by decide +kernel : ∀ j, j < 7 → Cond.eq (.elem (.static "BreadSpans" "ABOVE" "[I") (.int (Int32.ofNat j))) (.int (fAb j)) ∈ flatC (Jvm.Cond.and given_1 narrow_1)) j hj))) hA
  obtain ⟨tB, hB1, hB2⟩ := va_Tof (args := args) (s := s) (tm := .static "BreadSpans" "BODIES" "[I") (ty := .int) (N := 28) (f := fun j => .int (fBo j)) (A := fun q : Nat => s.heap.size ≤ q) (by decide) (hs _ (by decide +kernel)) (va_eqt (hs _ (by decide +kernel))) (fun j hj => va_eqt (hs _ ((by decide +kernel : ∀ j, j < 28 → Cond.eq (.elem (.static "BreadSpans" "BODIES" "[I") (.int (Int32.ofNat j))) (.int (fBo j)) ∈ flatC (Jvm.Cond.and given_1 narrow_1)) j hj))) hA
  obtain ⟨aK, aV, hS, hSe⟩ := vk_Sof (args := args) (s := s) (N := 2) (tm := tmS) (len := [3, 3]) (byt := [[114, 119, 107], [108, 98, 109]]) (A := fun q : Nat => s.heap.size ≤ q) (by decide)
    (fun i hi => hs _ ((by decide +kernel : ∀ i, i < 2 → Cond.exactly (tmS i) "java/lang/String" ∈ flatC (Jvm.Cond.and given_1 narrow_1)) i hi))
    (fun i hi => hs _ ((by decide +kernel : ∀ i, i < 2 → Cond.eq (.field (tmS i) "java/lang/String" "coder" "B") (.int 0) ∈ flatC (Jvm.Cond.and given_1 narrow_1)) i hi))
    (fun i hi => hs _ ((by decide +kernel : ∀ i, i < 2 → Cond.arrayOf (.field (tmS i) "java/lang/String" "value" "[B") .byte ∈ flatC (Jvm.Cond.and given_1 narrow_1)) i hi))
    (fun i hi => hs _ ((by decide +kernel : ∀ i, i < 2 → Cond.eq (.length (.field (tmS i) "java/lang/String" "value" "[B")) (.int (Int32.ofNat (([3, 3] : List Nat).getD i 0))) ∈ flatC (Jvm.Cond.and given_1 narrow_1)) i hi))
    (fun i hi j hj => hs _ ((by decide +kernel : ∀ i, i < 2 → ∀ j, j < ([3, 3] : List Nat).getD i 0 → Cond.eq (.elem (.field (tmS i) "java/lang/String" "value" "[B") (.int (Int32.ofNat j))) (.int ((([[114, 119, 107], [108, 98, 109]] : List (List Int32)).getD i []).getD j 0)) ∈ flatC (Jvm.Cond.and given_1 narrow_1)) i hi j hj))
    (fun i j hi hj hne => by
      rcases (show (i = 0 ∧ j = 1) ∨ (i = 1 ∧ j = 0) by omega) with ⟨rfl, rfl⟩ | ⟨rfl, rfl⟩
      · exact Or.inl (hs _ (by decide +kernel))
      · exact Or.inr (hs _ (by decide +kernel))) hA
  have hC : va_Z "java/lang/String" "COMPACT_STRINGS" "Z" (.int 1) (fun q : Nat => s.heap.size ≤ q) s s.heap := va_Zof (args := args) (hts _ (by decide +kernel)) (hts _ (by decide +kernel)) (va_eqi (hs _ (by decide +kernel))) hA
  have hZA := va_Zref (args := args) (C := "BreadSpans") (n := "ABOVE") (d := "[I") (A := fun q : Nat => s.heap.size ≤ q) (hts _ (by decide +kernel)) (hts _ (by decide +kernel)) hA1 hA
  have hZB := va_Zref (args := args) (C := "BreadSpans") (n := "BODIES") (d := "[I") (A := fun q : Nat => s.heap.size ≤ q) (hts _ (by decide +kernel)) (hts _ (by decide +kernel)) hB1 hA
  refine ⟨fun k => ([tA, tB, aK 0, aK 1, aV 0, aV 1] : List Nat).getD k 0, ⟨hZA, hA2, hZB, hB2, ⟨fun i hi => ?_, fun i j hi hj e => ?_⟩, hC⟩, vk_R.of (hts _ (by decide +kernel)) (hSe 0 (by decide)), vk_R.of (hts _ (by decide +kernel)) (hSe 1 (by decide)), fun q hq => va_Nw.of rfl (hts _ ((by decide +kernel : ∀ q ∈ nestM, Cond.methodLinkNest q.1 q.2.1 q.2.2 "BreadSpans" ∈ lw_tbl) q hq)), va_Nw.of rfl (hts _ (by decide +kernel))⟩
  · rcases (show i = 0 ∨ i = 1 by omega) with rfl | rfl
    · exact hS.1 0 (by decide)
    · exact hS.1 1 (by decide)
  · refine hS.2 i j hi hj ?_
    rcases (show i = 0 ∨ i = 1 by omega) with rfl | rfl <;> rcases (show j = 0 ∨ j = 1 by omega) with rfl | rfl <;> exact e
