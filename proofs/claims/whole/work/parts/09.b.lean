/-! ## the small constructors -/
abbrev ad0 : (Nat → Nat) → Nat := fun u => u 0
def bS (u : Nat → Nat) : va_W := [(u 0, .inr (4, [.int 0, .int 0, .int 0, .int 0, .int 0, .int 0, .int 0]))]
def bL (G : Gm) (u : Nat → Nat) : va_W := [(u 0, .inr (1, [.int 0, .int 0, .ref (u 1), .ref (u 2)])), (u 1, .inl (gC G 0, 60, .inl (fun _ => 0))), (u 2, .inl (gC G 0, 60, .inl (fun _ => 0)))]
def bH (G : Gm) (u : Nat → Nat) : va_W := [(u 0, .inr (3, [.int 0, .int 0, .ref (u 1)])), (u 1, .inl (gC G 0, 24, .inl (fun _ => 0)))]
def bR (G : Gm) (u : Nat → Nat) : va_W := [(u 0, .inr (2, [.ref (u 1), .int 0, .int 0, .ref (u 2), .int 0, .ref (gX G 2)])), (u 1, .inl (gC G 0, 60, .inl (fun _ => 0))), (u 2, .inl (gC G 1, 60, .inl (fun _ => 0)))]
def bV (G : Gm) (u : Nat → Nat) : va_W := [(u 0, .inr (5, [.ref (u 1), .int 0, .int 0, .int 0, .int 0, .int 0])), (u 1, .inl (gC G 0, 30, .inl (fun _ => 0)))]
def bD (G : Gm) (u : Nat → Nat) : va_W := [(u 0, .inr (0, [.ref (u 1), .int 0, .int 0, .int 200, .int 0, .int 0, .int 0, .int 1, .ref (u 2), .ref (u 3), .int 0, .ref (u 4), .int 0])), (u 1, .inl (gC G 2, 9, .inr (.inr (.inr (.inr (va_up (va_up (va_up (va_up (va_up (va_up (va_up (va_up (va_up (fun _ => none) 0 (some (u 5))) 1 (some (u 6))) 2 (some (u 7))) 3 (some (u 8))) 4 (some (u 9))) 5 (some (u 10))) 6 (some (u 11))) 7 (some (u 12))) 8 (some (u 13)))))))), (u 2, .inl (gC G 3, 2, .inr (.inr (.inr (.inr (va_up (va_up (fun _ => none) 0 (some (u 14))) 1 (some (u 17)))))))), (u 3, .inl (gC G 1, 60, .inl (fun _ => 0))), (u 4, .inl (gC G 0, 24, .inl (fun _ => 0))), (u 5, .inr (4, [.int 0, .int 0, .int 0, .int 0, .int 0, .int 0, .int 0])), (u 6, .inr (4, [.int 0, .int 0, .int 0, .int 0, .int 0, .int 0, .int 0])), (u 7, .inr (4, [.int 0, .int 0, .int 0, .int 0, .int 0, .int 0, .int 0])), (u 8, .inr (4, [.int 0, .int 0, .int 0, .int 0, .int 0, .int 0, .int 0])), (u 9, .inr (4, [.int 0, .int 0, .int 0, .int 0, .int 0, .int 0, .int 0])), (u 10, .inr (4, [.int 0, .int 0, .int 0, .int 0, .int 0, .int 0, .int 0])), (u 11, .inr (4, [.int 0, .int 0, .int 0, .int 0, .int 0, .int 0, .int 0])), (u 12, .inr (4, [.int 0, .int 0, .int 0, .int 0, .int 0, .int 0, .int 0])), (u 13, .inr (4, [.int 0, .int 0, .int 0, .int 0, .int 0, .int 0, .int 0])), (u 14, .inr (1, [.int 0, .int 0, .ref (u 15), .ref (u 16)])), (u 15, .inl (gC G 0, 60, .inl (fun _ => 0))), (u 16, .inl (gC G 0, 60, .inl (fun _ => 0))), (u 17, .inr (1, [.int 0, .int 0, .ref (u 18), .ref (u 19)])), (u 18, .inl (gC G 0, 60, .inl (fun _ => 0))), (u 19, .inl (gC G 0, 60, .inl (fun _ => 0)))]
set_option maxRecDepth 100000 in
set_option maxHeartbeats 4000000 in
theorem c_yX4_init {l : Launch} {G : Gm} : CN l G yX4_init (Cond.code yX4_init cX4_init 1 none) 1 0 0 4 [.int 0, .int 0, .int 0, .int 0, .int 0, .int 0, .int 0] ad0 (bS) := by
  refine CN.of (by decide) rfl (by decide) (fun C A h0 ls hls K hO => ?_)
  have K : OkY G C A RX4 cX4_init 1 := K
  subst hls
  refine y_aload_n (pc := 0) (i := 0) K dX4_init_0 rfl rfl ?_
  refine y_objInit (pc := 1) K mk_X4_3 dX4_init_1 ⟨(Nat.le_of_ble_eq_true rfl), (Nat.le_of_ble_eq_true rfl)⟩ ?_
  refine y_aload_n (pc := 4) (i := 0) K dX4_init_4 rfl rfl ?_
  refine y_iconst (pc := 5) (v := 0) K dX4_init_5 (by decide) ?_
  refine y_put (pc := 6) (ty := .int) (fs' := [.int 0, .int 0, .int 0, .int 0, .int 0, .int 0, .int 0]) K tyX4 tyX4_ok nmX4 rfl inW4 0 (by decide) fk_X4_9 rfl rfl rfl rfl (Nat.le_of_ble_eq_true rfl) rfl dX4_init_6 ?_
  refine y_aload_n (pc := 9) (i := 0) K dX4_init_9 rfl rfl ?_
  refine y_iconst (pc := 10) (v := 0) K dX4_init_10 (by decide) ?_
  refine y_put (pc := 11) (ty := .int) (fs' := [.int 0, .int 0, .int 0, .int 0, .int 0, .int 0, .int 0]) K tyX4 tyX4_ok nmX4 rfl inW4 1 (by decide) fk_X4_15 rfl rfl rfl rfl (Nat.le_of_ble_eq_true rfl) rfl dX4_init_11 ?_
  refine y_aload_n (pc := 14) (i := 0) K dX4_init_14 rfl rfl ?_
  refine y_iconst (pc := 15) (v := 0) K dX4_init_15 (by decide) ?_
  refine y_put (pc := 16) (ty := .int) (fs' := [.int 0, .int 0, .int 0, .int 0, .int 0, .int 0, .int 0]) K tyX4 tyX4_ok nmX4 rfl inW4 2 (by decide) fk_X4_18 rfl rfl rfl rfl (Nat.le_of_ble_eq_true rfl) rfl dX4_init_16 ?_
  refine y_aload_n (pc := 19) (i := 0) K dX4_init_19 rfl rfl ?_
  refine y_iconst (pc := 20) (v := 0) K dX4_init_20 (by decide) ?_
  refine y_put (pc := 21) (ty := .int) (fs' := [.int 0, .int 0, .int 0, .int 0, .int 0, .int 0, .int 0]) K tyX4 tyX4_ok nmX4 rfl inW4 3 (by decide) fk_X4_21 rfl rfl rfl rfl (Nat.le_of_ble_eq_true rfl) rfl dX4_init_21 ?_
  refine y_aload_n (pc := 24) (i := 0) K dX4_init_24 rfl rfl ?_
  refine y_iconst (pc := 25) (v := 0) K dX4_init_25 (by decide) ?_
  refine y_put (pc := 26) (ty := .int) (fs' := [.int 0, .int 0, .int 0, .int 0, .int 0, .int 0, .int 0]) K tyX4 tyX4_ok nmX4 rfl inW4 4 (by decide) fk_X4_24 rfl rfl rfl rfl (Nat.le_of_ble_eq_true rfl) rfl dX4_init_26 ?_
  refine y_aload_n (pc := 29) (i := 0) K dX4_init_29 rfl rfl ?_
  refine y_iconst (pc := 30) (v := 0) K dX4_init_30 (by decide) ?_
  refine y_put (pc := 31) (ty := .int) (fs' := [.int 0, .int 0, .int 0, .int 0, .int 0, .int 0, .int 0]) K tyX4 tyX4_ok nmX4 rfl inW4 5 (by decide) fk_X4_27 rfl rfl rfl rfl (Nat.le_of_ble_eq_true rfl) rfl dX4_init_31 ?_
  refine y_aload_n (pc := 34) (i := 0) K dX4_init_34 rfl rfl ?_
  refine y_iconst (pc := 35) (v := 0) K dX4_init_35 (by decide) ?_
  refine y_put (pc := 36) (ty := .boolean) (fs' := [.int 0, .int 0, .int 0, .int 0, .int 0, .int 0, .int 0]) K tyX4 tyX4_ok nmX4 rfl inW4 6 (by decide) fk_X4_30 rfl rfl rfl rfl (Nat.le_of_ble_eq_true rfl) rfl dX4_init_36 ?_
  refine Y.norm (ws := (h0, .inr (4, [.int 0, .int 0, .int 0, .int 0, .int 0, .int 0, .int 0])) :: []) (cells := 0) (slots := 0) rfl rfl rfl ?_
  exact y_vret (pc := 39) K hO (fun i => ([h0] : List Nat).getD i 0) rfl rfl dX4_init_39
set_option maxRecDepth 100000 in
set_option maxHeartbeats 4000000 in
theorem c_yX1_init {l : Launch} {G : Gm} : CN l G yX1_init (Cond.code yX1_init cX1_init 1 none) 1 2 120 1 [.int 0, .int 0, .null, .null] ad0 (bL G) := by
  refine CN.of (by decide) rfl (by decide) (fun C A h0 ls hls K hO => ?_)
  have K : OkY G C A RX1 cX1_init 1 := K
  subst hls
  refine y_aload_n (pc := 0) (i := 0) K dX1_init_0 rfl rfl ?_
  refine y_objInit (pc := 1) K mk_X1_3 dX1_init_1 ⟨(Nat.le_of_ble_eq_true rfl), (Nat.le_of_ble_eq_true rfl)⟩ ?_
  refine y_aload_n (pc := 4) (i := 0) K dX1_init_4 rfl rfl ?_
  refine y_iconst (pc := 5) (v := 0) K dX1_init_5 (by decide) ?_
  refine y_put (pc := 6) (ty := .boolean) (fs' := [.int 0, .int 0, .null, .null]) K tyX1 tyX1_ok nmX1 rfl inW1 0 (by decide) fk_X1_9 rfl rfl rfl rfl (Nat.le_of_ble_eq_true rfl) rfl dX1_init_6 ?_
  refine y_aload_n (pc := 9) (i := 0) K dX1_init_9 rfl rfl ?_
  refine y_iconst (pc := 10) (v := 0) K dX1_init_10 (by decide) ?_
  refine y_put (pc := 11) (ty := .int) (fs' := [.int 0, .int 0, .null, .null]) K tyX1 tyX1_ok nmX1 rfl inW1 1 (by decide) fk_X1_15 rfl rfl rfl rfl (Nat.le_of_ble_eq_true rfl) rfl dX1_init_11 ?_
  refine y_aload_n (pc := 14) (i := 0) K dX1_init_14 rfl rfl ?_
  refine y_bipush (pc := 15) (v := 60) K dX1_init_15 (by decide) ?_
  refine y_newI (pc := 17) (N := 60) K (by decide) (by decide) (Nat.le_of_ble_eq_true rfl) (Nat.le_of_ble_eq_true rfl) (Nat.le_of_ble_eq_true rfl) dX1_init_17 ?_
  refine fun q1 => Y.norm (ws := (h0, .inr (1, [.int 0, .int 0, .null, .null])) :: [(q1, .inl (gC G 0, 60, .inl (fun _ => 0)))]) (cells := 1) (slots := 60) rfl rfl rfl ?_
  refine y_putF (pc := 19) (ty := (.array .int)) (fs' := [.int 0, .int 0, .ref q1, .null]) K hO tyX1 tyX1_ok nmX1 rfl inW1 2 (by decide) fk_X1_19 rfl rfl rfl rfl rfl (Nat.le_of_ble_eq_true rfl) rfl dX1_init_19 ?_
  refine y_aload_n (pc := 22) (i := 0) K dX1_init_22 rfl rfl ?_
  refine y_bipush (pc := 23) (v := 60) K dX1_init_23 (by decide) ?_
  refine y_newI (pc := 25) (N := 60) K (by decide) (by decide) (Nat.le_of_ble_eq_true rfl) (Nat.le_of_ble_eq_true rfl) (Nat.le_of_ble_eq_true rfl) dX1_init_25 ?_
  refine fun q2 => Y.norm (ws := (h0, .inr (1, [.int 0, .int 0, .ref q1, .null])) :: [(q1, .inl (gC G 0, 60, .inl (fun _ => 0))), (q2, .inl (gC G 0, 60, .inl (fun _ => 0)))]) (cells := 2) (slots := 120) rfl rfl rfl ?_
  refine y_putF (pc := 27) (ty := (.array .int)) (fs' := [.int 0, .int 0, .ref q1, .ref q2]) K hO tyX1 tyX1_ok nmX1 rfl inW1 3 (by decide) fk_X1_23 rfl rfl rfl rfl rfl (Nat.le_of_ble_eq_true rfl) rfl dX1_init_27 ?_
  refine Y.norm (ws := (h0, .inr (1, [.int 0, .int 0, .ref q1, .ref q2])) :: [(q1, .inl (gC G 0, 60, .inl (fun _ => 0))), (q2, .inl (gC G 0, 60, .inl (fun _ => 0)))]) (cells := 2) (slots := 120) rfl rfl rfl ?_
  exact y_vret (pc := 30) K hO (fun i => ([h0, q1, q2] : List Nat).getD i 0) rfl rfl dX1_init_30
set_option maxRecDepth 100000 in
set_option maxHeartbeats 4000000 in
theorem c_yX2_init {l : Launch} {G : Gm} : CN l G yX2_init (Cond.code yX2_init cX2_init 1 none) 1 2 120 2 [.null, .int 0, .int 0, .null, .int 0, .null] ad0 (bR G) := by
  refine CN.of (by decide) rfl (by decide) (fun C A h0 ls hls K hO => ?_)
  have K : OkY G C A RX2 cX2_init 1 := K
  subst hls
  refine y_aload_n (pc := 0) (i := 0) K dX2_init_0 rfl rfl ?_
  refine y_objInit (pc := 1) K mk_X2_3 dX2_init_1 ⟨(Nat.le_of_ble_eq_true rfl), (Nat.le_of_ble_eq_true rfl)⟩ ?_
  refine y_aload_n (pc := 4) (i := 0) K dX2_init_4 rfl rfl ?_
  refine y_bipush (pc := 5) (v := 60) K dX2_init_5 (by decide) ?_
  refine y_newI (pc := 7) (N := 60) K (by decide) (by decide) (Nat.le_of_ble_eq_true rfl) (Nat.le_of_ble_eq_true rfl) (Nat.le_of_ble_eq_true rfl) dX2_init_7 ?_
  refine fun q1 => Y.norm (ws := (h0, .inr (2, [.null, .int 0, .int 0, .null, .int 0, .null])) :: [(q1, .inl (gC G 0, 60, .inl (fun _ => 0)))]) (cells := 1) (slots := 60) rfl rfl rfl ?_
  refine y_putF (pc := 9) (ty := (.array .int)) (fs' := [.ref q1, .int 0, .int 0, .null, .int 0, .null]) K hO tyX2 tyX2_ok nmX2 rfl inW2 0 (by decide) fk_X2_9 rfl rfl rfl rfl rfl (Nat.le_of_ble_eq_true rfl) rfl dX2_init_9 ?_
  refine y_aload_n (pc := 12) (i := 0) K dX2_init_12 rfl rfl ?_
  refine y_iconst (pc := 13) (v := 0) K dX2_init_13 (by decide) ?_
  refine y_put (pc := 14) (ty := .int) (fs' := [.ref q1, .int 0, .int 0, .null, .int 0, .null]) K tyX2 tyX2_ok nmX2 rfl inW2 1 (by decide) fk_X2_15 rfl rfl rfl rfl (Nat.le_of_ble_eq_true rfl) rfl dX2_init_14 ?_
  refine y_aload_n (pc := 17) (i := 0) K dX2_init_17 rfl rfl ?_
  refine y_iconst (pc := 18) (v := 0) K dX2_init_18 (by decide) ?_
  refine y_put (pc := 19) (ty := .int) (fs' := [.ref q1, .int 0, .int 0, .null, .int 0, .null]) K tyX2 tyX2_ok nmX2 rfl inW2 2 (by decide) fk_X2_19 rfl rfl rfl rfl (Nat.le_of_ble_eq_true rfl) rfl dX2_init_19 ?_
  refine y_aload_n (pc := 22) (i := 0) K dX2_init_22 rfl rfl ?_
  refine y_bipush (pc := 23) (v := 60) K dX2_init_23 (by decide) ?_
  refine y_newC (pc := 25) (N := 60) K (by decide) (by decide) (Nat.le_of_ble_eq_true rfl) (Nat.le_of_ble_eq_true rfl) (Nat.le_of_ble_eq_true rfl) dX2_init_25 ?_
  refine fun q2 => Y.norm (ws := (h0, .inr (2, [.ref q1, .int 0, .int 0, .null, .int 0, .null])) :: [(q1, .inl (gC G 0, 60, .inl (fun _ => 0))), (q2, .inl (gC G 1, 60, .inl (fun _ => 0)))]) (cells := 2) (slots := 120) rfl rfl rfl ?_
  refine y_putF (pc := 27) (ty := (.array .char)) (fs' := [.ref q1, .int 0, .int 0, .ref q2, .int 0, .null]) K hO tyX2 tyX2_ok nmX2 rfl inW2 3 (by decide) fk_X2_22 rfl rfl rfl rfl rfl (Nat.le_of_ble_eq_true rfl) rfl dX2_init_27 ?_
  refine y_aload_n (pc := 30) (i := 0) K dX2_init_30 rfl rfl ?_
  refine y_iconst (pc := 31) (v := 0) K dX2_init_31 (by decide) ?_
  refine y_put (pc := 32) (ty := .int) (fs' := [.ref q1, .int 0, .int 0, .ref q2, .int 0, .null]) K tyX2 tyX2_ok nmX2 rfl inW2 4 (by decide) fk_X2_26 rfl rfl rfl rfl (Nat.le_of_ble_eq_true rfl) rfl dX2_init_32 ?_
  refine y_aload_n (pc := 35) (i := 0) K dX2_init_35 rfl rfl ?_
  refine y_ldcS (pc := 36) K dX2_init_36 ?_
  refine y_put (pc := 38) (ty := (.object "java/lang/String")) (fs' := [.ref q1, .int 0, .int 0, .ref q2, .int 0, .ref (gX G 2)]) K tyX2 tyX2_ok nmX2 rfl inW2 5 (by decide) fk_X2_31 rfl rfl rfl rfl (Nat.le_of_ble_eq_true rfl) rfl dX2_init_38 ?_
  refine Y.norm (ws := (h0, .inr (2, [.ref q1, .int 0, .int 0, .ref q2, .int 0, .ref (gX G 2)])) :: [(q1, .inl (gC G 0, 60, .inl (fun _ => 0))), (q2, .inl (gC G 1, 60, .inl (fun _ => 0)))]) (cells := 2) (slots := 120) rfl rfl rfl ?_
  exact y_vret (pc := 41) K hO (fun i => ([h0, q1, q2] : List Nat).getD i 0) rfl rfl dX2_init_41
set_option maxRecDepth 100000 in
set_option maxHeartbeats 4000000 in
theorem c_yX5_init {l : Launch} {G : Gm} : CN l G yX5_init (Cond.code yX5_init cX5_init 1 none) 1 1 30 5 [.null, .int 0, .int 0, .int 0, .int 0, .int 0] ad0 (bV G) := by
  refine CN.of (by decide) rfl (by decide) (fun C A h0 ls hls K hO => ?_)
  have K : OkY G C A RX5 cX5_init 1 := K
  subst hls
  refine y_aload_n (pc := 0) (i := 0) K dX5_init_0 rfl rfl ?_
  refine y_objInit (pc := 1) K mk_X5_3 dX5_init_1 ⟨(Nat.le_of_ble_eq_true rfl), (Nat.le_of_ble_eq_true rfl)⟩ ?_
  refine y_aload_n (pc := 4) (i := 0) K dX5_init_4 rfl rfl ?_
  refine y_bipush (pc := 5) (v := 30) K dX5_init_5 (by decide) ?_
  refine y_newI (pc := 7) (N := 30) K (by decide) (by decide) (Nat.le_of_ble_eq_true rfl) (Nat.le_of_ble_eq_true rfl) (Nat.le_of_ble_eq_true rfl) dX5_init_7 ?_
  refine fun q1 => Y.norm (ws := (h0, .inr (5, [.null, .int 0, .int 0, .int 0, .int 0, .int 0])) :: [(q1, .inl (gC G 0, 30, .inl (fun _ => 0)))]) (cells := 1) (slots := 30) rfl rfl rfl ?_
  refine y_putF (pc := 9) (ty := (.array .int)) (fs' := [.ref q1, .int 0, .int 0, .int 0, .int 0, .int 0]) K hO tyX5 tyX5_ok nmX5 rfl inW5 0 (by decide) fk_X5_9 rfl rfl rfl rfl rfl (Nat.le_of_ble_eq_true rfl) rfl dX5_init_9 ?_
  refine y_aload_n (pc := 12) (i := 0) K dX5_init_12 rfl rfl ?_
  refine y_iconst (pc := 13) (v := 0) K dX5_init_13 (by decide) ?_
  refine y_put (pc := 14) (ty := .int) (fs' := [.ref q1, .int 0, .int 0, .int 0, .int 0, .int 0]) K tyX5 tyX5_ok nmX5 rfl inW5 1 (by decide) fk_X5_15 rfl rfl rfl rfl (Nat.le_of_ble_eq_true rfl) rfl dX5_init_14 ?_
  refine y_aload_n (pc := 17) (i := 0) K dX5_init_17 rfl rfl ?_
  refine y_iconst (pc := 18) (v := 0) K dX5_init_18 (by decide) ?_
  refine y_put (pc := 19) (ty := .boolean) (fs' := [.ref q1, .int 0, .int 0, .int 0, .int 0, .int 0]) K tyX5 tyX5_ok nmX5 rfl inW5 2 (by decide) fk_X5_19 rfl rfl rfl rfl (Nat.le_of_ble_eq_true rfl) rfl dX5_init_19 ?_
  refine y_aload_n (pc := 22) (i := 0) K dX5_init_22 rfl rfl ?_
  refine y_iconst (pc := 23) (v := 0) K dX5_init_23 (by decide) ?_
  refine y_put (pc := 24) (ty := .int) (fs' := [.ref q1, .int 0, .int 0, .int 0, .int 0, .int 0]) K tyX5 tyX5_ok nmX5 rfl inW5 3 (by decide) fk_X5_23 rfl rfl rfl rfl (Nat.le_of_ble_eq_true rfl) rfl dX5_init_24 ?_
  refine y_aload_n (pc := 27) (i := 0) K dX5_init_27 rfl rfl ?_
  refine y_iconst (pc := 28) (v := 0) K dX5_init_28 (by decide) ?_
  refine y_put (pc := 29) (ty := .int) (fs' := [.ref q1, .int 0, .int 0, .int 0, .int 0, .int 0]) K tyX5 tyX5_ok nmX5 rfl inW5 4 (by decide) fk_X5_26 rfl rfl rfl rfl (Nat.le_of_ble_eq_true rfl) rfl dX5_init_29 ?_
  refine y_aload_n (pc := 32) (i := 0) K dX5_init_32 rfl rfl ?_
  refine y_iconst (pc := 33) (v := 0) K dX5_init_33 (by decide) ?_
  refine y_put (pc := 34) (ty := .int) (fs' := [.ref q1, .int 0, .int 0, .int 0, .int 0, .int 0]) K tyX5 tyX5_ok nmX5 rfl inW5 5 (by decide) fk_X5_29 rfl rfl rfl rfl (Nat.le_of_ble_eq_true rfl) rfl dX5_init_34 ?_
  refine Y.norm (ws := (h0, .inr (5, [.ref q1, .int 0, .int 0, .int 0, .int 0, .int 0])) :: [(q1, .inl (gC G 0, 30, .inl (fun _ => 0)))]) (cells := 1) (slots := 30) rfl rfl rfl ?_
  exact y_vret (pc := 37) K hO (fun i => ([h0, q1] : List Nat).getD i 0) rfl rfl dX5_init_37
set_option maxRecDepth 100000 in
set_option maxHeartbeats 4000000 in
theorem c_yX3_init {l : Launch} {G : Gm} : CN l G yX3_init (Cond.code yX3_init cX3_init 1 none) 1 1 24 3 [.int 0, .int 0, .null] ad0 (bH G) := by
  refine CN.of (by decide) rfl (by decide) (fun C A h0 ls hls K hO => ?_)
  have K : OkY G C A RX3 cX3_init 1 := K
  subst hls
  refine y_aload_n (pc := 0) (i := 0) K dX3_init_0 rfl rfl ?_
  refine y_objInit (pc := 1) K mk_X3_3 dX3_init_1 ⟨(Nat.le_of_ble_eq_true rfl), (Nat.le_of_ble_eq_true rfl)⟩ ?_
  refine y_aload_n (pc := 4) (i := 0) K dX3_init_4 rfl rfl ?_
  refine y_iconst (pc := 5) (v := 0) K dX3_init_5 (by decide) ?_
  refine y_put (pc := 6) (ty := .int) (fs' := [.int 0, .int 0, .null]) K tyX3 tyX3_ok nmX3 rfl inW3 0 (by decide) fk_X3_9 rfl rfl rfl rfl (Nat.le_of_ble_eq_true rfl) rfl dX3_init_6 ?_
  refine y_aload_n (pc := 9) (i := 0) K dX3_init_9 rfl rfl ?_
  refine y_iconst (pc := 10) (v := 0) K dX3_init_10 (by decide) ?_
  refine y_put (pc := 11) (ty := .int) (fs' := [.int 0, .int 0, .null]) K tyX3 tyX3_ok nmX3 rfl inW3 1 (by decide) fk_X3_15 rfl rfl rfl rfl (Nat.le_of_ble_eq_true rfl) rfl dX3_init_11 ?_
  refine y_aload_n (pc := 14) (i := 0) K dX3_init_14 rfl rfl ?_
  refine y_bipush (pc := 15) (v := 24) K dX3_init_15 (by decide) ?_
  refine y_newI (pc := 17) (N := 24) K (by decide) (by decide) (Nat.le_of_ble_eq_true rfl) (Nat.le_of_ble_eq_true rfl) (Nat.le_of_ble_eq_true rfl) dX3_init_17 ?_
  refine fun q1 => Y.norm (ws := (h0, .inr (3, [.int 0, .int 0, .null])) :: [(q1, .inl (gC G 0, 24, .inl (fun _ => 0)))]) (cells := 1) (slots := 24) rfl rfl rfl ?_
  refine y_putF (pc := 19) (ty := (.array .int)) (fs' := [.int 0, .int 0, .ref q1]) K hO tyX3 tyX3_ok nmX3 rfl inW3 2 (by decide) fk_X3_18 rfl rfl rfl rfl rfl (Nat.le_of_ble_eq_true rfl) rfl dX3_init_19 ?_
  refine Y.norm (ws := (h0, .inr (3, [.int 0, .int 0, .ref q1])) :: [(q1, .inl (gC G 0, 24, .inl (fun _ => 0)))]) (cells := 1) (slots := 24) rfl rfl rfl ?_
  exact y_vret (pc := 22) K hO (fun i => ([h0, q1] : List Nat).getD i 0) rfl rfl dX3_init_22
set_option maxRecDepth 100000 in
set_option maxHeartbeats 4000000 in
theorem c_yX0_init {l : Launch} {G : Gm} : CN l G yX0_init (Cond.code yX0_init cX0_init 2 none) 2 19 406 0 [.null, .int 0, .int 0, .int 0, .int 0, .int 0, .int 0, .int 0, .null, .null, .int 0, .null, .int 0] ad0 (bD G) := by
  refine CN.of (by decide) rfl (by decide) (fun C A h0 ls hls K hO => ?_)
  have K : OkY G C A RX0 cX0_init 2 := K
  subst hls
  refine y_aload_n (pc := 0) (i := 0) K dX0_init_0 rfl rfl ?_
  refine y_objInit (pc := 1) K mk_X0_3 dX0_init_1 ⟨(Nat.le_of_ble_eq_true rfl), (Nat.le_of_ble_eq_true rfl)⟩ ?_
  refine y_aload_n (pc := 4) (i := 0) K dX0_init_4 rfl rfl ?_
  refine y_bipush (pc := 5) (v := 9) K dX0_init_5 (by decide) ?_
  refine y_newq (pc := 7) (N := 9) (t := 2) K rfl ck_X0_9 K.2.2.2.2.2.1.2.2.2.1 (by decide) (by decide) (Nat.le_of_ble_eq_true rfl) (Nat.le_of_ble_eq_true rfl) (Nat.le_of_ble_eq_true rfl) dX0_init_7 ?_
  refine fun q1 => Y.norm (ws := (h0, .inr (0, [.null, .int 0, .int 0, .int 0, .int 0, .int 0, .int 0, .int 0, .null, .null, .int 0, .null, .int 0])) :: [(q1, .inl (gC G 2, 9, .inr (.inr (.inr (.inr (fun _ => none))))))]) (cells := 1) (slots := 9) rfl rfl rfl ?_
  refine y_putF (pc := 10) (ty := (.array (.object "BreadSpans$Span"))) (fs' := [.ref q1, .int 0, .int 0, .int 0, .int 0, .int 0, .int 0, .int 0, .null, .null, .int 0, .null, .int 0]) K hO tyX0 tyX0_ok nmX0 rfl inW0 0 (by decide) fk_X0_11 rfl rfl rfl rfl rfl (Nat.le_of_ble_eq_true rfl) rfl dX0_init_10 ?_
  refine y_aload_n (pc := 13) (i := 0) K dX0_init_13 rfl rfl ?_
  refine y_iconst (pc := 14) (v := 0) K dX0_init_14 (by decide) ?_
  refine y_put (pc := 15) (ty := .int) (fs' := [.ref q1, .int 0, .int 0, .int 0, .int 0, .int 0, .int 0, .int 0, .null, .null, .int 0, .null, .int 0]) K tyX0 tyX0_ok nmX0 rfl inW0 1 (by decide) fk_X0_17 rfl rfl rfl rfl (Nat.le_of_ble_eq_true rfl) rfl dX0_init_15 ?_
  refine y_aload_n (pc := 18) (i := 0) K dX0_init_18 rfl rfl ?_
  refine y_iconst (pc := 19) (v := 0) K dX0_init_19 (by decide) ?_
  refine y_put (pc := 20) (ty := .int) (fs' := [.ref q1, .int 0, .int 0, .int 0, .int 0, .int 0, .int 0, .int 0, .null, .null, .int 0, .null, .int 0]) K tyX0 tyX0_ok nmX0 rfl inW0 2 (by decide) fk_X0_21 rfl rfl rfl rfl (Nat.le_of_ble_eq_true rfl) rfl dX0_init_20 ?_
  refine y_aload_n (pc := 23) (i := 0) K dX0_init_23 rfl rfl ?_
  refine y_sipush (pc := 24) (v := 200) K dX0_init_24 (by decide) ?_
  refine y_put (pc := 27) (ty := .int) (fs' := [.ref q1, .int 0, .int 0, .int 200, .int 0, .int 0, .int 0, .int 0, .null, .null, .int 0, .null, .int 0]) K tyX0 tyX0_ok nmX0 rfl inW0 3 (by decide) fk_X0_24 rfl rfl rfl rfl (Nat.le_of_ble_eq_true rfl) rfl dX0_init_27 ?_
  refine y_aload_n (pc := 30) (i := 0) K dX0_init_30 rfl rfl ?_
  refine y_iconst (pc := 31) (v := 0) K dX0_init_31 (by decide) ?_
  refine y_put (pc := 32) (ty := .int) (fs' := [.ref q1, .int 0, .int 0, .int 200, .int 0, .int 0, .int 0, .int 0, .null, .null, .int 0, .null, .int 0]) K tyX0 tyX0_ok nmX0 rfl inW0 4 (by decide) fk_X0_27 rfl rfl rfl rfl (Nat.le_of_ble_eq_true rfl) rfl dX0_init_32 ?_
  refine y_aload_n (pc := 35) (i := 0) K dX0_init_35 rfl rfl ?_
  refine y_iconst (pc := 36) (v := 0) K dX0_init_36 (by decide) ?_
  refine y_put (pc := 37) (ty := .int) (fs' := [.ref q1, .int 0, .int 0, .int 200, .int 0, .int 0, .int 0, .int 0, .null, .null, .int 0, .null, .int 0]) K tyX0 tyX0_ok nmX0 rfl inW0 5 (by decide) fk_X0_30 rfl rfl rfl rfl (Nat.le_of_ble_eq_true rfl) rfl dX0_init_37 ?_
  refine y_aload_n (pc := 40) (i := 0) K dX0_init_40 rfl rfl ?_
  refine y_iconst (pc := 41) (v := 0) K dX0_init_41 (by decide) ?_
  refine y_put (pc := 42) (ty := .int) (fs' := [.ref q1, .int 0, .int 0, .int 200, .int 0, .int 0, .int 0, .int 0, .null, .null, .int 0, .null, .int 0]) K tyX0 tyX0_ok nmX0 rfl inW0 6 (by decide) fk_X0_33 rfl rfl rfl rfl (Nat.le_of_ble_eq_true rfl) rfl dX0_init_42 ?_
  refine y_aload_n (pc := 45) (i := 0) K dX0_init_45 rfl rfl ?_
  refine y_iconst (pc := 46) (v := 1) K dX0_init_46 (by decide) ?_
  refine y_put (pc := 47) (ty := .int) (fs' := [.ref q1, .int 0, .int 0, .int 200, .int 0, .int 0, .int 0, .int 1, .null, .null, .int 0, .null, .int 0]) K tyX0 tyX0_ok nmX0 rfl inW0 7 (by decide) fk_X0_36 rfl rfl rfl rfl (Nat.le_of_ble_eq_true rfl) rfl dX0_init_47 ?_
  refine y_aload_n (pc := 50) (i := 0) K dX0_init_50 rfl rfl ?_
  refine y_iconst (pc := 51) (v := 2) K dX0_init_51 (by decide) ?_
  refine y_newq (pc := 52) (N := 2) (t := 3) K rfl ck_X0_39 K.2.2.2.2.2.1.2.2.2.2.1 (by decide) (by decide) (Nat.le_of_ble_eq_true rfl) (Nat.le_of_ble_eq_true rfl) (Nat.le_of_ble_eq_true rfl) dX0_init_52 ?_
  refine fun q2 => Y.norm (ws := (h0, .inr (0, [.ref q1, .int 0, .int 0, .int 200, .int 0, .int 0, .int 0, .int 1, .null, .null, .int 0, .null, .int 0])) :: [(q1, .inl (gC G 2, 9, .inr (.inr (.inr (.inr (fun _ => none)))))), (q2, .inl (gC G 3, 2, .inr (.inr (.inr (.inr (fun _ => none))))))]) (cells := 2) (slots := 11) rfl rfl rfl ?_
  refine y_putF (pc := 55) (ty := (.array (.object "BreadSpans$Law"))) (fs' := [.ref q1, .int 0, .int 0, .int 200, .int 0, .int 0, .int 0, .int 1, .ref q2, .null, .int 0, .null, .int 0]) K hO tyX0 tyX0_ok nmX0 rfl inW0 8 (by decide) fk_X0_41 rfl rfl rfl rfl rfl (Nat.le_of_ble_eq_true rfl) rfl dX0_init_55 ?_
  refine y_aload_n (pc := 58) (i := 0) K dX0_init_58 rfl rfl ?_
  refine y_bipush (pc := 59) (v := 60) K dX0_init_59 (by decide) ?_
  refine y_newC (pc := 61) (N := 60) K (by decide) (by decide) (Nat.le_of_ble_eq_true rfl) (Nat.le_of_ble_eq_true rfl) (Nat.le_of_ble_eq_true rfl) dX0_init_61 ?_
  refine fun q3 => Y.norm (ws := (h0, .inr (0, [.ref q1, .int 0, .int 0, .int 200, .int 0, .int 0, .int 0, .int 1, .ref q2, .null, .int 0, .null, .int 0])) :: [(q1, .inl (gC G 2, 9, .inr (.inr (.inr (.inr (fun _ => none)))))), (q2, .inl (gC G 3, 2, .inr (.inr (.inr (.inr (fun _ => none)))))), (q3, .inl (gC G 1, 60, .inl (fun _ => 0)))]) (cells := 3) (slots := 71) rfl rfl rfl ?_
  refine y_putF (pc := 63) (ty := (.array .char)) (fs' := [.ref q1, .int 0, .int 0, .int 200, .int 0, .int 0, .int 0, .int 1, .ref q2, .ref q3, .int 0, .null, .int 0]) K hO tyX0 tyX0_ok nmX0 rfl inW0 9 (by decide) fk_X0_45 rfl rfl rfl rfl rfl (Nat.le_of_ble_eq_true rfl) rfl dX0_init_63 ?_
  refine y_aload_n (pc := 66) (i := 0) K dX0_init_66 rfl rfl ?_
  refine y_iconst (pc := 67) (v := 0) K dX0_init_67 (by decide) ?_
  refine y_put (pc := 68) (ty := .int) (fs' := [.ref q1, .int 0, .int 0, .int 200, .int 0, .int 0, .int 0, .int 1, .ref q2, .ref q3, .int 0, .null, .int 0]) K tyX0 tyX0_ok nmX0 rfl inW0 10 (by decide) fk_X0_49 rfl rfl rfl rfl (Nat.le_of_ble_eq_true rfl) rfl dX0_init_68 ?_
  refine y_aload_n (pc := 71) (i := 0) K dX0_init_71 rfl rfl ?_
  refine y_bipush (pc := 72) (v := 24) K dX0_init_72 (by decide) ?_
  refine y_newI (pc := 74) (N := 24) K (by decide) (by decide) (Nat.le_of_ble_eq_true rfl) (Nat.le_of_ble_eq_true rfl) (Nat.le_of_ble_eq_true rfl) dX0_init_74 ?_
  refine fun q4 => Y.norm (ws := (h0, .inr (0, [.ref q1, .int 0, .int 0, .int 200, .int 0, .int 0, .int 0, .int 1, .ref q2, .ref q3, .int 0, .null, .int 0])) :: [(q1, .inl (gC G 2, 9, .inr (.inr (.inr (.inr (fun _ => none)))))), (q2, .inl (gC G 3, 2, .inr (.inr (.inr (.inr (fun _ => none)))))), (q3, .inl (gC G 1, 60, .inl (fun _ => 0))), (q4, .inl (gC G 0, 24, .inl (fun _ => 0)))]) (cells := 4) (slots := 95) rfl rfl rfl ?_
  refine y_putF (pc := 76) (ty := (.array .int)) (fs' := [.ref q1, .int 0, .int 0, .int 200, .int 0, .int 0, .int 0, .int 1, .ref q2, .ref q3, .int 0, .ref q4, .int 0]) K hO tyX0 tyX0_ok nmX0 rfl inW0 11 (by decide) fk_X0_52 rfl rfl rfl rfl rfl (Nat.le_of_ble_eq_true rfl) rfl dX0_init_76 ?_
  refine y_aload_n (pc := 79) (i := 0) K dX0_init_79 rfl rfl ?_
  refine y_iconst (pc := 80) (v := 0) K dX0_init_80 (by decide) ?_
  refine y_put (pc := 81) (ty := .int) (fs' := [.ref q1, .int 0, .int 0, .int 200, .int 0, .int 0, .int 0, .int 1, .ref q2, .ref q3, .int 0, .ref q4, .int 0]) K tyX0 tyX0_ok nmX0 rfl inW0 12 (by decide) fk_X0_56 rfl rfl rfl rfl (Nat.le_of_ble_eq_true rfl) rfl dX0_init_81 ?_
  refine y_iconst (pc := 84) (v := 0) K dX0_init_84 (by decide) ?_
  refine y_istore_n (pc := 85) (i := 1) K dX0_init_85 rfl rfl (by decide) ?_
  refine y_iload_n (pc := 86) (i := 1) K dX0_init_86 rfl rfl ?_
  refine y_bipush (pc := 87) (v := 9) K dX0_init_87 (by decide) ?_
  refine y_ge_f (pc := 89) (tgt := 111) K dX0_init_89 (by decide) (by decide) ?_
  refine y_aload_n (pc := 92) (i := 0) K dX0_init_92 rfl rfl ?_
  refine y_get (pc := 93) K rfl inW0 0 (by decide) fk_X0_11 rfl dX0_init_93 ?_
  refine y_iload_n (pc := 96) (i := 1) K dX0_init_96 rfl rfl ?_
  refine y_makeO (pc := 97) (fs0 := [.int 0, .int 0, .int 0, .int 0, .int 0, .int 0, .int 0]) (ci := 4) K tyX4 tyX4_ok inW4 ck_X0_9 it_X4 in_X4 rfl (by decide) (y_callN K c_yX4_init mw_yX4_init im_yX4_init rfl (by decide +kernel) ⟨(Nat.le_of_ble_eq_true rfl), (Nat.le_of_ble_eq_true rfl)⟩ (Nat.le_of_ble_eq_true rfl)) ⟨(Nat.le_of_ble_eq_true rfl), (Nat.le_of_ble_eq_true rfl)⟩ dX0_init_97 dX0_init_100 dX0_init_101 ?_
  refine fun u5 => Y.norm (ws := (h0, .inr (0, [.ref q1, .int 0, .int 0, .int 200, .int 0, .int 0, .int 0, .int 1, .ref q2, .ref q3, .int 0, .ref q4, .int 0])) :: [(q1, .inl (gC G 2, 9, .inr (.inr (.inr (.inr (fun _ => none)))))), (q2, .inl (gC G 3, 2, .inr (.inr (.inr (.inr (fun _ => none)))))), (q3, .inl (gC G 1, 60, .inl (fun _ => 0))), (q4, .inl (gC G 0, 24, .inl (fun _ => 0))), (u5 0, .inr (4, [.int 0, .int 0, .int 0, .int 0, .int 0, .int 0, .int 0]))]) (cells := 5) (slots := 102) rfl rfl rfl ?_
  refine y_astq (pc := 104) (t := 2) (N := 9) (ci := 4) (r := (RX4, TX4, 7)) (k := 0) K 1 5 rfl rfl rfl rfl (show vp_in (nI 0) 9 from vp_in_nI (by decide) (by decide)) (by decide) dX0_init_104 (ws2 := (h0, .inr (0, [.ref q1, .int 0, .int 0, .int 200, .int 0, .int 0, .int 0, .int 1, .ref q2, .ref q3, .int 0, .ref q4, .int 0])) :: [(q1, .inl (gC G 2, 9, .inr (.inr (.inr (.inr (va_up (fun _ => none) 0 (some (u5 0)))))))), (q2, .inl (gC G 3, 2, .inr (.inr (.inr (.inr (fun _ => none)))))), (q3, .inl (gC G 1, 60, .inl (fun _ => 0))), (q4, .inl (gC G 0, 24, .inl (fun _ => 0))), (u5 0, .inr (4, [.int 0, .int 0, .int 0, .int 0, .int 0, .int 0, .int 0]))]) rfl ?_
  refine y_iinc (pc := 105) (i := 1) (v := 1) K dX0_init_105 rfl (by decide) rfl ?_
  refine y_goto (pc := 108) (tgt := 86) K dX0_init_108 (by decide) ?_
  refine y_iload_n (pc := 86) (i := 1) K dX0_init_86 rfl rfl ?_
  refine y_bipush (pc := 87) (v := 9) K dX0_init_87 (by decide) ?_
  refine y_ge_f (pc := 89) (tgt := 111) K dX0_init_89 (by decide) (by decide) ?_
  refine y_aload_n (pc := 92) (i := 0) K dX0_init_92 rfl rfl ?_
  refine y_get (pc := 93) K rfl inW0 0 (by decide) fk_X0_11 rfl dX0_init_93 ?_
  refine y_iload_n (pc := 96) (i := 1) K dX0_init_96 rfl rfl ?_
  refine y_makeO (pc := 97) (fs0 := [.int 0, .int 0, .int 0, .int 0, .int 0, .int 0, .int 0]) (ci := 4) K tyX4 tyX4_ok inW4 ck_X0_9 it_X4 in_X4 rfl (by decide) (y_callN K c_yX4_init mw_yX4_init im_yX4_init rfl (by decide +kernel) ⟨(Nat.le_of_ble_eq_true rfl), (Nat.le_of_ble_eq_true rfl)⟩ (Nat.le_of_ble_eq_true rfl)) ⟨(Nat.le_of_ble_eq_true rfl), (Nat.le_of_ble_eq_true rfl)⟩ dX0_init_97 dX0_init_100 dX0_init_101 ?_
  refine fun u6 => Y.norm (ws := (h0, .inr (0, [.ref q1, .int 0, .int 0, .int 200, .int 0, .int 0, .int 0, .int 1, .ref q2, .ref q3, .int 0, .ref q4, .int 0])) :: [(q1, .inl (gC G 2, 9, .inr (.inr (.inr (.inr (va_up (fun _ => none) 0 (some (u5 0)))))))), (q2, .inl (gC G 3, 2, .inr (.inr (.inr (.inr (fun _ => none)))))), (q3, .inl (gC G 1, 60, .inl (fun _ => 0))), (q4, .inl (gC G 0, 24, .inl (fun _ => 0))), (u5 0, .inr (4, [.int 0, .int 0, .int 0, .int 0, .int 0, .int 0, .int 0])), (u6 0, .inr (4, [.int 0, .int 0, .int 0, .int 0, .int 0, .int 0, .int 0]))]) (cells := 6) (slots := 109) rfl rfl rfl ?_
  refine y_astq (pc := 104) (t := 2) (N := 9) (ci := 4) (r := (RX4, TX4, 7)) (k := 1) K 1 6 rfl rfl rfl rfl (show vp_in (nI 1) 9 from vp_in_nI (by decide) (by decide)) (by decide) dX0_init_104 (ws2 := (h0, .inr (0, [.ref q1, .int 0, .int 0, .int 200, .int 0, .int 0, .int 0, .int 1, .ref q2, .ref q3, .int 0, .ref q4, .int 0])) :: [(q1, .inl (gC G 2, 9, .inr (.inr (.inr (.inr (va_up (va_up (fun _ => none) 0 (some (u5 0))) 1 (some (u6 0)))))))), (q2, .inl (gC G 3, 2, .inr (.inr (.inr (.inr (fun _ => none)))))), (q3, .inl (gC G 1, 60, .inl (fun _ => 0))), (q4, .inl (gC G 0, 24, .inl (fun _ => 0))), (u5 0, .inr (4, [.int 0, .int 0, .int 0, .int 0, .int 0, .int 0, .int 0])), (u6 0, .inr (4, [.int 0, .int 0, .int 0, .int 0, .int 0, .int 0, .int 0]))]) rfl ?_
  refine y_iinc (pc := 105) (i := 1) (v := 2) K dX0_init_105 rfl (by decide) rfl ?_
  refine y_goto (pc := 108) (tgt := 86) K dX0_init_108 (by decide) ?_
  refine y_iload_n (pc := 86) (i := 1) K dX0_init_86 rfl rfl ?_
  refine y_bipush (pc := 87) (v := 9) K dX0_init_87 (by decide) ?_
  refine y_ge_f (pc := 89) (tgt := 111) K dX0_init_89 (by decide) (by decide) ?_
  refine y_aload_n (pc := 92) (i := 0) K dX0_init_92 rfl rfl ?_
  refine y_get (pc := 93) K rfl inW0 0 (by decide) fk_X0_11 rfl dX0_init_93 ?_
  refine y_iload_n (pc := 96) (i := 1) K dX0_init_96 rfl rfl ?_
  refine y_makeO (pc := 97) (fs0 := [.int 0, .int 0, .int 0, .int 0, .int 0, .int 0, .int 0]) (ci := 4) K tyX4 tyX4_ok inW4 ck_X0_9 it_X4 in_X4 rfl (by decide) (y_callN K c_yX4_init mw_yX4_init im_yX4_init rfl (by decide +kernel) ⟨(Nat.le_of_ble_eq_true rfl), (Nat.le_of_ble_eq_true rfl)⟩ (Nat.le_of_ble_eq_true rfl)) ⟨(Nat.le_of_ble_eq_true rfl), (Nat.le_of_ble_eq_true rfl)⟩ dX0_init_97 dX0_init_100 dX0_init_101 ?_
  refine fun u7 => Y.norm (ws := (h0, .inr (0, [.ref q1, .int 0, .int 0, .int 200, .int 0, .int 0, .int 0, .int 1, .ref q2, .ref q3, .int 0, .ref q4, .int 0])) :: [(q1, .inl (gC G 2, 9, .inr (.inr (.inr (.inr (va_up (va_up (fun _ => none) 0 (some (u5 0))) 1 (some (u6 0)))))))), (q2, .inl (gC G 3, 2, .inr (.inr (.inr (.inr (fun _ => none)))))), (q3, .inl (gC G 1, 60, .inl (fun _ => 0))), (q4, .inl (gC G 0, 24, .inl (fun _ => 0))), (u5 0, .inr (4, [.int 0, .int 0, .int 0, .int 0, .int 0, .int 0, .int 0])), (u6 0, .inr (4, [.int 0, .int 0, .int 0, .int 0, .int 0, .int 0, .int 0])), (u7 0, .inr (4, [.int 0, .int 0, .int 0, .int 0, .int 0, .int 0, .int 0]))]) (cells := 7) (slots := 116) rfl rfl rfl ?_
  refine y_astq (pc := 104) (t := 2) (N := 9) (ci := 4) (r := (RX4, TX4, 7)) (k := 2) K 1 7 rfl rfl rfl rfl (show vp_in (nI 2) 9 from vp_in_nI (by decide) (by decide)) (by decide) dX0_init_104 (ws2 := (h0, .inr (0, [.ref q1, .int 0, .int 0, .int 200, .int 0, .int 0, .int 0, .int 1, .ref q2, .ref q3, .int 0, .ref q4, .int 0])) :: [(q1, .inl (gC G 2, 9, .inr (.inr (.inr (.inr (va_up (va_up (va_up (fun _ => none) 0 (some (u5 0))) 1 (some (u6 0))) 2 (some (u7 0)))))))), (q2, .inl (gC G 3, 2, .inr (.inr (.inr (.inr (fun _ => none)))))), (q3, .inl (gC G 1, 60, .inl (fun _ => 0))), (q4, .inl (gC G 0, 24, .inl (fun _ => 0))), (u5 0, .inr (4, [.int 0, .int 0, .int 0, .int 0, .int 0, .int 0, .int 0])), (u6 0, .inr (4, [.int 0, .int 0, .int 0, .int 0, .int 0, .int 0, .int 0])), (u7 0, .inr (4, [.int 0, .int 0, .int 0, .int 0, .int 0, .int 0, .int 0]))]) rfl ?_
  refine y_iinc (pc := 105) (i := 1) (v := 3) K dX0_init_105 rfl (by decide) rfl ?_
  refine y_goto (pc := 108) (tgt := 86) K dX0_init_108 (by decide) ?_
  refine y_iload_n (pc := 86) (i := 1) K dX0_init_86 rfl rfl ?_
  refine y_bipush (pc := 87) (v := 9) K dX0_init_87 (by decide) ?_
  refine y_ge_f (pc := 89) (tgt := 111) K dX0_init_89 (by decide) (by decide) ?_
  refine y_aload_n (pc := 92) (i := 0) K dX0_init_92 rfl rfl ?_
  refine y_get (pc := 93) K rfl inW0 0 (by decide) fk_X0_11 rfl dX0_init_93 ?_
  refine y_iload_n (pc := 96) (i := 1) K dX0_init_96 rfl rfl ?_
  refine y_makeO (pc := 97) (fs0 := [.int 0, .int 0, .int 0, .int 0, .int 0, .int 0, .int 0]) (ci := 4) K tyX4 tyX4_ok inW4 ck_X0_9 it_X4 in_X4 rfl (by decide) (y_callN K c_yX4_init mw_yX4_init im_yX4_init rfl (by decide +kernel) ⟨(Nat.le_of_ble_eq_true rfl), (Nat.le_of_ble_eq_true rfl)⟩ (Nat.le_of_ble_eq_true rfl)) ⟨(Nat.le_of_ble_eq_true rfl), (Nat.le_of_ble_eq_true rfl)⟩ dX0_init_97 dX0_init_100 dX0_init_101 ?_
  refine fun u8 => Y.norm (ws := (h0, .inr (0, [.ref q1, .int 0, .int 0, .int 200, .int 0, .int 0, .int 0, .int 1, .ref q2, .ref q3, .int 0, .ref q4, .int 0])) :: [(q1, .inl (gC G 2, 9, .inr (.inr (.inr (.inr (va_up (va_up (va_up (fun _ => none) 0 (some (u5 0))) 1 (some (u6 0))) 2 (some (u7 0)))))))), (q2, .inl (gC G 3, 2, .inr (.inr (.inr (.inr (fun _ => none)))))), (q3, .inl (gC G 1, 60, .inl (fun _ => 0))), (q4, .inl (gC G 0, 24, .inl (fun _ => 0))), (u5 0, .inr (4, [.int 0, .int 0, .int 0, .int 0, .int 0, .int 0, .int 0])), (u6 0, .inr (4, [.int 0, .int 0, .int 0, .int 0, .int 0, .int 0, .int 0])), (u7 0, .inr (4, [.int 0, .int 0, .int 0, .int 0, .int 0, .int 0, .int 0])), (u8 0, .inr (4, [.int 0, .int 0, .int 0, .int 0, .int 0, .int 0, .int 0]))]) (cells := 8) (slots := 123) rfl rfl rfl ?_
  refine y_astq (pc := 104) (t := 2) (N := 9) (ci := 4) (r := (RX4, TX4, 7)) (k := 3) K 1 8 rfl rfl rfl rfl (show vp_in (nI 3) 9 from vp_in_nI (by decide) (by decide)) (by decide) dX0_init_104 (ws2 := (h0, .inr (0, [.ref q1, .int 0, .int 0, .int 200, .int 0, .int 0, .int 0, .int 1, .ref q2, .ref q3, .int 0, .ref q4, .int 0])) :: [(q1, .inl (gC G 2, 9, .inr (.inr (.inr (.inr (va_up (va_up (va_up (va_up (fun _ => none) 0 (some (u5 0))) 1 (some (u6 0))) 2 (some (u7 0))) 3 (some (u8 0)))))))), (q2, .inl (gC G 3, 2, .inr (.inr (.inr (.inr (fun _ => none)))))), (q3, .inl (gC G 1, 60, .inl (fun _ => 0))), (q4, .inl (gC G 0, 24, .inl (fun _ => 0))), (u5 0, .inr (4, [.int 0, .int 0, .int 0, .int 0, .int 0, .int 0, .int 0])), (u6 0, .inr (4, [.int 0, .int 0, .int 0, .int 0, .int 0, .int 0, .int 0])), (u7 0, .inr (4, [.int 0, .int 0, .int 0, .int 0, .int 0, .int 0, .int 0])), (u8 0, .inr (4, [.int 0, .int 0, .int 0, .int 0, .int 0, .int 0, .int 0]))]) rfl ?_
  refine y_iinc (pc := 105) (i := 1) (v := 4) K dX0_init_105 rfl (by decide) rfl ?_
  refine y_goto (pc := 108) (tgt := 86) K dX0_init_108 (by decide) ?_
  refine y_iload_n (pc := 86) (i := 1) K dX0_init_86 rfl rfl ?_
  refine y_bipush (pc := 87) (v := 9) K dX0_init_87 (by decide) ?_
  refine y_ge_f (pc := 89) (tgt := 111) K dX0_init_89 (by decide) (by decide) ?_
  refine y_aload_n (pc := 92) (i := 0) K dX0_init_92 rfl rfl ?_
  refine y_get (pc := 93) K rfl inW0 0 (by decide) fk_X0_11 rfl dX0_init_93 ?_
  refine y_iload_n (pc := 96) (i := 1) K dX0_init_96 rfl rfl ?_
  refine y_makeO (pc := 97) (fs0 := [.int 0, .int 0, .int 0, .int 0, .int 0, .int 0, .int 0]) (ci := 4) K tyX4 tyX4_ok inW4 ck_X0_9 it_X4 in_X4 rfl (by decide) (y_callN K c_yX4_init mw_yX4_init im_yX4_init rfl (by decide +kernel) ⟨(Nat.le_of_ble_eq_true rfl), (Nat.le_of_ble_eq_true rfl)⟩ (Nat.le_of_ble_eq_true rfl)) ⟨(Nat.le_of_ble_eq_true rfl), (Nat.le_of_ble_eq_true rfl)⟩ dX0_init_97 dX0_init_100 dX0_init_101 ?_
  refine fun u9 => Y.norm (ws := (h0, .inr (0, [.ref q1, .int 0, .int 0, .int 200, .int 0, .int 0, .int 0, .int 1, .ref q2, .ref q3, .int 0, .ref q4, .int 0])) :: [(q1, .inl (gC G 2, 9, .inr (.inr (.inr (.inr (va_up (va_up (va_up (va_up (fun _ => none) 0 (some (u5 0))) 1 (some (u6 0))) 2 (some (u7 0))) 3 (some (u8 0)))))))), (q2, .inl (gC G 3, 2, .inr (.inr (.inr (.inr (fun _ => none)))))), (q3, .inl (gC G 1, 60, .inl (fun _ => 0))), (q4, .inl (gC G 0, 24, .inl (fun _ => 0))), (u5 0, .inr (4, [.int 0, .int 0, .int 0, .int 0, .int 0, .int 0, .int 0])), (u6 0, .inr (4, [.int 0, .int 0, .int 0, .int 0, .int 0, .int 0, .int 0])), (u7 0, .inr (4, [.int 0, .int 0, .int 0, .int 0, .int 0, .int 0, .int 0])), (u8 0, .inr (4, [.int 0, .int 0, .int 0, .int 0, .int 0, .int 0, .int 0])), (u9 0, .inr (4, [.int 0, .int 0, .int 0, .int 0, .int 0, .int 0, .int 0]))]) (cells := 9) (slots := 130) rfl rfl rfl ?_
  refine y_astq (pc := 104) (t := 2) (N := 9) (ci := 4) (r := (RX4, TX4, 7)) (k := 4) K 1 9 rfl rfl rfl rfl (show vp_in (nI 4) 9 from vp_in_nI (by decide) (by decide)) (by decide) dX0_init_104 (ws2 := (h0, .inr (0, [.ref q1, .int 0, .int 0, .int 200, .int 0, .int 0, .int 0, .int 1, .ref q2, .ref q3, .int 0, .ref q4, .int 0])) :: [(q1, .inl (gC G 2, 9, .inr (.inr (.inr (.inr (va_up (va_up (va_up (va_up (va_up (fun _ => none) 0 (some (u5 0))) 1 (some (u6 0))) 2 (some (u7 0))) 3 (some (u8 0))) 4 (some (u9 0)))))))), (q2, .inl (gC G 3, 2, .inr (.inr (.inr (.inr (fun _ => none)))))), (q3, .inl (gC G 1, 60, .inl (fun _ => 0))), (q4, .inl (gC G 0, 24, .inl (fun _ => 0))), (u5 0, .inr (4, [.int 0, .int 0, .int 0, .int 0, .int 0, .int 0, .int 0])), (u6 0, .inr (4, [.int 0, .int 0, .int 0, .int 0, .int 0, .int 0, .int 0])), (u7 0, .inr (4, [.int 0, .int 0, .int 0, .int 0, .int 0, .int 0, .int 0])), (u8 0, .inr (4, [.int 0, .int 0, .int 0, .int 0, .int 0, .int 0, .int 0])), (u9 0, .inr (4, [.int 0, .int 0, .int 0, .int 0, .int 0, .int 0, .int 0]))]) rfl ?_
  refine y_iinc (pc := 105) (i := 1) (v := 5) K dX0_init_105 rfl (by decide) rfl ?_
  refine y_goto (pc := 108) (tgt := 86) K dX0_init_108 (by decide) ?_
  refine y_iload_n (pc := 86) (i := 1) K dX0_init_86 rfl rfl ?_
  refine y_bipush (pc := 87) (v := 9) K dX0_init_87 (by decide) ?_
  refine y_ge_f (pc := 89) (tgt := 111) K dX0_init_89 (by decide) (by decide) ?_
  refine y_aload_n (pc := 92) (i := 0) K dX0_init_92 rfl rfl ?_
  refine y_get (pc := 93) K rfl inW0 0 (by decide) fk_X0_11 rfl dX0_init_93 ?_
  refine y_iload_n (pc := 96) (i := 1) K dX0_init_96 rfl rfl ?_
  refine y_makeO (pc := 97) (fs0 := [.int 0, .int 0, .int 0, .int 0, .int 0, .int 0, .int 0]) (ci := 4) K tyX4 tyX4_ok inW4 ck_X0_9 it_X4 in_X4 rfl (by decide) (y_callN K c_yX4_init mw_yX4_init im_yX4_init rfl (by decide +kernel) ⟨(Nat.le_of_ble_eq_true rfl), (Nat.le_of_ble_eq_true rfl)⟩ (Nat.le_of_ble_eq_true rfl)) ⟨(Nat.le_of_ble_eq_true rfl), (Nat.le_of_ble_eq_true rfl)⟩ dX0_init_97 dX0_init_100 dX0_init_101 ?_
  refine fun u10 => Y.norm (ws := (h0, .inr (0, [.ref q1, .int 0, .int 0, .int 200, .int 0, .int 0, .int 0, .int 1, .ref q2, .ref q3, .int 0, .ref q4, .int 0])) :: [(q1, .inl (gC G 2, 9, .inr (.inr (.inr (.inr (va_up (va_up (va_up (va_up (va_up (fun _ => none) 0 (some (u5 0))) 1 (some (u6 0))) 2 (some (u7 0))) 3 (some (u8 0))) 4 (some (u9 0)))))))), (q2, .inl (gC G 3, 2, .inr (.inr (.inr (.inr (fun _ => none)))))), (q3, .inl (gC G 1, 60, .inl (fun _ => 0))), (q4, .inl (gC G 0, 24, .inl (fun _ => 0))), (u5 0, .inr (4, [.int 0, .int 0, .int 0, .int 0, .int 0, .int 0, .int 0])), (u6 0, .inr (4, [.int 0, .int 0, .int 0, .int 0, .int 0, .int 0, .int 0])), (u7 0, .inr (4, [.int 0, .int 0, .int 0, .int 0, .int 0, .int 0, .int 0])), (u8 0, .inr (4, [.int 0, .int 0, .int 0, .int 0, .int 0, .int 0, .int 0])), (u9 0, .inr (4, [.int 0, .int 0, .int 0, .int 0, .int 0, .int 0, .int 0])), (u10 0, .inr (4, [.int 0, .int 0, .int 0, .int 0, .int 0, .int 0, .int 0]))]) (cells := 10) (slots := 137) rfl rfl rfl ?_
  refine y_astq (pc := 104) (t := 2) (N := 9) (ci := 4) (r := (RX4, TX4, 7)) (k := 5) K 1 10 rfl rfl rfl rfl (show vp_in (nI 5) 9 from vp_in_nI (by decide) (by decide)) (by decide) dX0_init_104 (ws2 := (h0, .inr (0, [.ref q1, .int 0, .int 0, .int 200, .int 0, .int 0, .int 0, .int 1, .ref q2, .ref q3, .int 0, .ref q4, .int 0])) :: [(q1, .inl (gC G 2, 9, .inr (.inr (.inr (.inr (va_up (va_up (va_up (va_up (va_up (va_up (fun _ => none) 0 (some (u5 0))) 1 (some (u6 0))) 2 (some (u7 0))) 3 (some (u8 0))) 4 (some (u9 0))) 5 (some (u10 0)))))))), (q2, .inl (gC G 3, 2, .inr (.inr (.inr (.inr (fun _ => none)))))), (q3, .inl (gC G 1, 60, .inl (fun _ => 0))), (q4, .inl (gC G 0, 24, .inl (fun _ => 0))), (u5 0, .inr (4, [.int 0, .int 0, .int 0, .int 0, .int 0, .int 0, .int 0])), (u6 0, .inr (4, [.int 0, .int 0, .int 0, .int 0, .int 0, .int 0, .int 0])), (u7 0, .inr (4, [.int 0, .int 0, .int 0, .int 0, .int 0, .int 0, .int 0])), (u8 0, .inr (4, [.int 0, .int 0, .int 0, .int 0, .int 0, .int 0, .int 0])), (u9 0, .inr (4, [.int 0, .int 0, .int 0, .int 0, .int 0, .int 0, .int 0])), (u10 0, .inr (4, [.int 0, .int 0, .int 0, .int 0, .int 0, .int 0, .int 0]))]) rfl ?_
  refine y_iinc (pc := 105) (i := 1) (v := 6) K dX0_init_105 rfl (by decide) rfl ?_
  refine y_goto (pc := 108) (tgt := 86) K dX0_init_108 (by decide) ?_
  refine y_iload_n (pc := 86) (i := 1) K dX0_init_86 rfl rfl ?_
  refine y_bipush (pc := 87) (v := 9) K dX0_init_87 (by decide) ?_
  refine y_ge_f (pc := 89) (tgt := 111) K dX0_init_89 (by decide) (by decide) ?_
  refine y_aload_n (pc := 92) (i := 0) K dX0_init_92 rfl rfl ?_
  refine y_get (pc := 93) K rfl inW0 0 (by decide) fk_X0_11 rfl dX0_init_93 ?_
  refine y_iload_n (pc := 96) (i := 1) K dX0_init_96 rfl rfl ?_
  refine y_makeO (pc := 97) (fs0 := [.int 0, .int 0, .int 0, .int 0, .int 0, .int 0, .int 0]) (ci := 4) K tyX4 tyX4_ok inW4 ck_X0_9 it_X4 in_X4 rfl (by decide) (y_callN K c_yX4_init mw_yX4_init im_yX4_init rfl (by decide +kernel) ⟨(Nat.le_of_ble_eq_true rfl), (Nat.le_of_ble_eq_true rfl)⟩ (Nat.le_of_ble_eq_true rfl)) ⟨(Nat.le_of_ble_eq_true rfl), (Nat.le_of_ble_eq_true rfl)⟩ dX0_init_97 dX0_init_100 dX0_init_101 ?_
  refine fun u11 => Y.norm (ws := (h0, .inr (0, [.ref q1, .int 0, .int 0, .int 200, .int 0, .int 0, .int 0, .int 1, .ref q2, .ref q3, .int 0, .ref q4, .int 0])) :: [(q1, .inl (gC G 2, 9, .inr (.inr (.inr (.inr (va_up (va_up (va_up (va_up (va_up (va_up (fun _ => none) 0 (some (u5 0))) 1 (some (u6 0))) 2 (some (u7 0))) 3 (some (u8 0))) 4 (some (u9 0))) 5 (some (u10 0)))))))), (q2, .inl (gC G 3, 2, .inr (.inr (.inr (.inr (fun _ => none)))))), (q3, .inl (gC G 1, 60, .inl (fun _ => 0))), (q4, .inl (gC G 0, 24, .inl (fun _ => 0))), (u5 0, .inr (4, [.int 0, .int 0, .int 0, .int 0, .int 0, .int 0, .int 0])), (u6 0, .inr (4, [.int 0, .int 0, .int 0, .int 0, .int 0, .int 0, .int 0])), (u7 0, .inr (4, [.int 0, .int 0, .int 0, .int 0, .int 0, .int 0, .int 0])), (u8 0, .inr (4, [.int 0, .int 0, .int 0, .int 0, .int 0, .int 0, .int 0])), (u9 0, .inr (4, [.int 0, .int 0, .int 0, .int 0, .int 0, .int 0, .int 0])), (u10 0, .inr (4, [.int 0, .int 0, .int 0, .int 0, .int 0, .int 0, .int 0])), (u11 0, .inr (4, [.int 0, .int 0, .int 0, .int 0, .int 0, .int 0, .int 0]))]) (cells := 11) (slots := 144) rfl rfl rfl ?_
  refine y_astq (pc := 104) (t := 2) (N := 9) (ci := 4) (r := (RX4, TX4, 7)) (k := 6) K 1 11 rfl rfl rfl rfl (show vp_in (nI 6) 9 from vp_in_nI (by decide) (by decide)) (by decide) dX0_init_104 (ws2 := (h0, .inr (0, [.ref q1, .int 0, .int 0, .int 200, .int 0, .int 0, .int 0, .int 1, .ref q2, .ref q3, .int 0, .ref q4, .int 0])) :: [(q1, .inl (gC G 2, 9, .inr (.inr (.inr (.inr (va_up (va_up (va_up (va_up (va_up (va_up (va_up (fun _ => none) 0 (some (u5 0))) 1 (some (u6 0))) 2 (some (u7 0))) 3 (some (u8 0))) 4 (some (u9 0))) 5 (some (u10 0))) 6 (some (u11 0)))))))), (q2, .inl (gC G 3, 2, .inr (.inr (.inr (.inr (fun _ => none)))))), (q3, .inl (gC G 1, 60, .inl (fun _ => 0))), (q4, .inl (gC G 0, 24, .inl (fun _ => 0))), (u5 0, .inr (4, [.int 0, .int 0, .int 0, .int 0, .int 0, .int 0, .int 0])), (u6 0, .inr (4, [.int 0, .int 0, .int 0, .int 0, .int 0, .int 0, .int 0])), (u7 0, .inr (4, [.int 0, .int 0, .int 0, .int 0, .int 0, .int 0, .int 0])), (u8 0, .inr (4, [.int 0, .int 0, .int 0, .int 0, .int 0, .int 0, .int 0])), (u9 0, .inr (4, [.int 0, .int 0, .int 0, .int 0, .int 0, .int 0, .int 0])), (u10 0, .inr (4, [.int 0, .int 0, .int 0, .int 0, .int 0, .int 0, .int 0])), (u11 0, .inr (4, [.int 0, .int 0, .int 0, .int 0, .int 0, .int 0, .int 0]))]) rfl ?_
  refine y_iinc (pc := 105) (i := 1) (v := 7) K dX0_init_105 rfl (by decide) rfl ?_
  refine y_goto (pc := 108) (tgt := 86) K dX0_init_108 (by decide) ?_
  refine y_iload_n (pc := 86) (i := 1) K dX0_init_86 rfl rfl ?_
  refine y_bipush (pc := 87) (v := 9) K dX0_init_87 (by decide) ?_
  refine y_ge_f (pc := 89) (tgt := 111) K dX0_init_89 (by decide) (by decide) ?_
  refine y_aload_n (pc := 92) (i := 0) K dX0_init_92 rfl rfl ?_
  refine y_get (pc := 93) K rfl inW0 0 (by decide) fk_X0_11 rfl dX0_init_93 ?_
  refine y_iload_n (pc := 96) (i := 1) K dX0_init_96 rfl rfl ?_
  refine y_makeO (pc := 97) (fs0 := [.int 0, .int 0, .int 0, .int 0, .int 0, .int 0, .int 0]) (ci := 4) K tyX4 tyX4_ok inW4 ck_X0_9 it_X4 in_X4 rfl (by decide) (y_callN K c_yX4_init mw_yX4_init im_yX4_init rfl (by decide +kernel) ⟨(Nat.le_of_ble_eq_true rfl), (Nat.le_of_ble_eq_true rfl)⟩ (Nat.le_of_ble_eq_true rfl)) ⟨(Nat.le_of_ble_eq_true rfl), (Nat.le_of_ble_eq_true rfl)⟩ dX0_init_97 dX0_init_100 dX0_init_101 ?_
  refine fun u12 => Y.norm (ws := (h0, .inr (0, [.ref q1, .int 0, .int 0, .int 200, .int 0, .int 0, .int 0, .int 1, .ref q2, .ref q3, .int 0, .ref q4, .int 0])) :: [(q1, .inl (gC G 2, 9, .inr (.inr (.inr (.inr (va_up (va_up (va_up (va_up (va_up (va_up (va_up (fun _ => none) 0 (some (u5 0))) 1 (some (u6 0))) 2 (some (u7 0))) 3 (some (u8 0))) 4 (some (u9 0))) 5 (some (u10 0))) 6 (some (u11 0)))))))), (q2, .inl (gC G 3, 2, .inr (.inr (.inr (.inr (fun _ => none)))))), (q3, .inl (gC G 1, 60, .inl (fun _ => 0))), (q4, .inl (gC G 0, 24, .inl (fun _ => 0))), (u5 0, .inr (4, [.int 0, .int 0, .int 0, .int 0, .int 0, .int 0, .int 0])), (u6 0, .inr (4, [.int 0, .int 0, .int 0, .int 0, .int 0, .int 0, .int 0])), (u7 0, .inr (4, [.int 0, .int 0, .int 0, .int 0, .int 0, .int 0, .int 0])), (u8 0, .inr (4, [.int 0, .int 0, .int 0, .int 0, .int 0, .int 0, .int 0])), (u9 0, .inr (4, [.int 0, .int 0, .int 0, .int 0, .int 0, .int 0, .int 0])), (u10 0, .inr (4, [.int 0, .int 0, .int 0, .int 0, .int 0, .int 0, .int 0])), (u11 0, .inr (4, [.int 0, .int 0, .int 0, .int 0, .int 0, .int 0, .int 0])), (u12 0, .inr (4, [.int 0, .int 0, .int 0, .int 0, .int 0, .int 0, .int 0]))]) (cells := 12) (slots := 151) rfl rfl rfl ?_
  refine y_astq (pc := 104) (t := 2) (N := 9) (ci := 4) (r := (RX4, TX4, 7)) (k := 7) K 1 12 rfl rfl rfl rfl (show vp_in (nI 7) 9 from vp_in_nI (by decide) (by decide)) (by decide) dX0_init_104 (ws2 := (h0, .inr (0, [.ref q1, .int 0, .int 0, .int 200, .int 0, .int 0, .int 0, .int 1, .ref q2, .ref q3, .int 0, .ref q4, .int 0])) :: [(q1, .inl (gC G 2, 9, .inr (.inr (.inr (.inr (va_up (va_up (va_up (va_up (va_up (va_up (va_up (va_up (fun _ => none) 0 (some (u5 0))) 1 (some (u6 0))) 2 (some (u7 0))) 3 (some (u8 0))) 4 (some (u9 0))) 5 (some (u10 0))) 6 (some (u11 0))) 7 (some (u12 0)))))))), (q2, .inl (gC G 3, 2, .inr (.inr (.inr (.inr (fun _ => none)))))), (q3, .inl (gC G 1, 60, .inl (fun _ => 0))), (q4, .inl (gC G 0, 24, .inl (fun _ => 0))), (u5 0, .inr (4, [.int 0, .int 0, .int 0, .int 0, .int 0, .int 0, .int 0])), (u6 0, .inr (4, [.int 0, .int 0, .int 0, .int 0, .int 0, .int 0, .int 0])), (u7 0, .inr (4, [.int 0, .int 0, .int 0, .int 0, .int 0, .int 0, .int 0])), (u8 0, .inr (4, [.int 0, .int 0, .int 0, .int 0, .int 0, .int 0, .int 0])), (u9 0, .inr (4, [.int 0, .int 0, .int 0, .int 0, .int 0, .int 0, .int 0])), (u10 0, .inr (4, [.int 0, .int 0, .int 0, .int 0, .int 0, .int 0, .int 0])), (u11 0, .inr (4, [.int 0, .int 0, .int 0, .int 0, .int 0, .int 0, .int 0])), (u12 0, .inr (4, [.int 0, .int 0, .int 0, .int 0, .int 0, .int 0, .int 0]))]) rfl ?_
  refine y_iinc (pc := 105) (i := 1) (v := 8) K dX0_init_105 rfl (by decide) rfl ?_
  refine y_goto (pc := 108) (tgt := 86) K dX0_init_108 (by decide) ?_
  refine y_iload_n (pc := 86) (i := 1) K dX0_init_86 rfl rfl ?_
  refine y_bipush (pc := 87) (v := 9) K dX0_init_87 (by decide) ?_
  refine y_ge_f (pc := 89) (tgt := 111) K dX0_init_89 (by decide) (by decide) ?_
  refine y_aload_n (pc := 92) (i := 0) K dX0_init_92 rfl rfl ?_
  refine y_get (pc := 93) K rfl inW0 0 (by decide) fk_X0_11 rfl dX0_init_93 ?_
  refine y_iload_n (pc := 96) (i := 1) K dX0_init_96 rfl rfl ?_
  refine y_makeO (pc := 97) (fs0 := [.int 0, .int 0, .int 0, .int 0, .int 0, .int 0, .int 0]) (ci := 4) K tyX4 tyX4_ok inW4 ck_X0_9 it_X4 in_X4 rfl (by decide) (y_callN K c_yX4_init mw_yX4_init im_yX4_init rfl (by decide +kernel) ⟨(Nat.le_of_ble_eq_true rfl), (Nat.le_of_ble_eq_true rfl)⟩ (Nat.le_of_ble_eq_true rfl)) ⟨(Nat.le_of_ble_eq_true rfl), (Nat.le_of_ble_eq_true rfl)⟩ dX0_init_97 dX0_init_100 dX0_init_101 ?_
  refine fun u13 => Y.norm (ws := (h0, .inr (0, [.ref q1, .int 0, .int 0, .int 200, .int 0, .int 0, .int 0, .int 1, .ref q2, .ref q3, .int 0, .ref q4, .int 0])) :: [(q1, .inl (gC G 2, 9, .inr (.inr (.inr (.inr (va_up (va_up (va_up (va_up (va_up (va_up (va_up (va_up (fun _ => none) 0 (some (u5 0))) 1 (some (u6 0))) 2 (some (u7 0))) 3 (some (u8 0))) 4 (some (u9 0))) 5 (some (u10 0))) 6 (some (u11 0))) 7 (some (u12 0)))))))), (q2, .inl (gC G 3, 2, .inr (.inr (.inr (.inr (fun _ => none)))))), (q3, .inl (gC G 1, 60, .inl (fun _ => 0))), (q4, .inl (gC G 0, 24, .inl (fun _ => 0))), (u5 0, .inr (4, [.int 0, .int 0, .int 0, .int 0, .int 0, .int 0, .int 0])), (u6 0, .inr (4, [.int 0, .int 0, .int 0, .int 0, .int 0, .int 0, .int 0])), (u7 0, .inr (4, [.int 0, .int 0, .int 0, .int 0, .int 0, .int 0, .int 0])), (u8 0, .inr (4, [.int 0, .int 0, .int 0, .int 0, .int 0, .int 0, .int 0])), (u9 0, .inr (4, [.int 0, .int 0, .int 0, .int 0, .int 0, .int 0, .int 0])), (u10 0, .inr (4, [.int 0, .int 0, .int 0, .int 0, .int 0, .int 0, .int 0])), (u11 0, .inr (4, [.int 0, .int 0, .int 0, .int 0, .int 0, .int 0, .int 0])), (u12 0, .inr (4, [.int 0, .int 0, .int 0, .int 0, .int 0, .int 0, .int 0])), (u13 0, .inr (4, [.int 0, .int 0, .int 0, .int 0, .int 0, .int 0, .int 0]))]) (cells := 13) (slots := 158) rfl rfl rfl ?_
  refine y_astq (pc := 104) (t := 2) (N := 9) (ci := 4) (r := (RX4, TX4, 7)) (k := 8) K 1 13 rfl rfl rfl rfl (show vp_in (nI 8) 9 from vp_in_nI (by decide) (by decide)) (by decide) dX0_init_104 (ws2 := (h0, .inr (0, [.ref q1, .int 0, .int 0, .int 200, .int 0, .int 0, .int 0, .int 1, .ref q2, .ref q3, .int 0, .ref q4, .int 0])) :: [(q1, .inl (gC G 2, 9, .inr (.inr (.inr (.inr (va_up (va_up (va_up (va_up (va_up (va_up (va_up (va_up (va_up (fun _ => none) 0 (some (u5 0))) 1 (some (u6 0))) 2 (some (u7 0))) 3 (some (u8 0))) 4 (some (u9 0))) 5 (some (u10 0))) 6 (some (u11 0))) 7 (some (u12 0))) 8 (some (u13 0)))))))), (q2, .inl (gC G 3, 2, .inr (.inr (.inr (.inr (fun _ => none)))))), (q3, .inl (gC G 1, 60, .inl (fun _ => 0))), (q4, .inl (gC G 0, 24, .inl (fun _ => 0))), (u5 0, .inr (4, [.int 0, .int 0, .int 0, .int 0, .int 0, .int 0, .int 0])), (u6 0, .inr (4, [.int 0, .int 0, .int 0, .int 0, .int 0, .int 0, .int 0])), (u7 0, .inr (4, [.int 0, .int 0, .int 0, .int 0, .int 0, .int 0, .int 0])), (u8 0, .inr (4, [.int 0, .int 0, .int 0, .int 0, .int 0, .int 0, .int 0])), (u9 0, .inr (4, [.int 0, .int 0, .int 0, .int 0, .int 0, .int 0, .int 0])), (u10 0, .inr (4, [.int 0, .int 0, .int 0, .int 0, .int 0, .int 0, .int 0])), (u11 0, .inr (4, [.int 0, .int 0, .int 0, .int 0, .int 0, .int 0, .int 0])), (u12 0, .inr (4, [.int 0, .int 0, .int 0, .int 0, .int 0, .int 0, .int 0])), (u13 0, .inr (4, [.int 0, .int 0, .int 0, .int 0, .int 0, .int 0, .int 0]))]) rfl ?_
  refine y_iinc (pc := 105) (i := 1) (v := 9) K dX0_init_105 rfl (by decide) rfl ?_
  refine y_goto (pc := 108) (tgt := 86) K dX0_init_108 (by decide) ?_
  refine y_iload_n (pc := 86) (i := 1) K dX0_init_86 rfl rfl ?_
  refine y_bipush (pc := 87) (v := 9) K dX0_init_87 (by decide) ?_
  refine y_ge_t (pc := 89) (tgt := 111) K dX0_init_89 (by decide) (by decide) ?_
  refine y_iconst (pc := 111) (v := 0) K dX0_init_111 (by decide) ?_
  refine y_istore_n (pc := 112) (i := 1) K dX0_init_112 rfl rfl (by decide) ?_
  refine y_iload_n (pc := 113) (i := 1) K dX0_init_113 rfl rfl ?_
  refine y_iconst (pc := 114) (v := 1) K dX0_init_114 (by decide) ?_
  refine y_gt_f (pc := 115) (tgt := 137) K dX0_init_115 (by decide) (by decide) ?_
  refine y_aload_n (pc := 118) (i := 0) K dX0_init_118 rfl rfl ?_
  refine y_get (pc := 119) K rfl inW0 8 (by decide) fk_X0_41 rfl dX0_init_119 ?_
  refine y_iload_n (pc := 122) (i := 1) K dX0_init_122 rfl rfl ?_
  refine y_makeO (pc := 123) (fs0 := [.int 0, .int 0, .null, .null]) (ci := 1) K tyX1 tyX1_ok inW1 ck_X0_39 it_X1 in_X1 rfl (by decide) (y_callN K c_yX1_init mw_yX1_init im_yX1_init rfl (by decide +kernel) ⟨(Nat.le_of_ble_eq_true rfl), (Nat.le_of_ble_eq_true rfl)⟩ (Nat.le_of_ble_eq_true rfl)) ⟨(Nat.le_of_ble_eq_true rfl), (Nat.le_of_ble_eq_true rfl)⟩ dX0_init_123 dX0_init_126 dX0_init_127 ?_
  refine fun u14 => Y.norm (ws := (h0, .inr (0, [.ref q1, .int 0, .int 0, .int 200, .int 0, .int 0, .int 0, .int 1, .ref q2, .ref q3, .int 0, .ref q4, .int 0])) :: [(q1, .inl (gC G 2, 9, .inr (.inr (.inr (.inr (va_up (va_up (va_up (va_up (va_up (va_up (va_up (va_up (va_up (fun _ => none) 0 (some (u5 0))) 1 (some (u6 0))) 2 (some (u7 0))) 3 (some (u8 0))) 4 (some (u9 0))) 5 (some (u10 0))) 6 (some (u11 0))) 7 (some (u12 0))) 8 (some (u13 0)))))))), (q2, .inl (gC G 3, 2, .inr (.inr (.inr (.inr (fun _ => none)))))), (q3, .inl (gC G 1, 60, .inl (fun _ => 0))), (q4, .inl (gC G 0, 24, .inl (fun _ => 0))), (u5 0, .inr (4, [.int 0, .int 0, .int 0, .int 0, .int 0, .int 0, .int 0])), (u6 0, .inr (4, [.int 0, .int 0, .int 0, .int 0, .int 0, .int 0, .int 0])), (u7 0, .inr (4, [.int 0, .int 0, .int 0, .int 0, .int 0, .int 0, .int 0])), (u8 0, .inr (4, [.int 0, .int 0, .int 0, .int 0, .int 0, .int 0, .int 0])), (u9 0, .inr (4, [.int 0, .int 0, .int 0, .int 0, .int 0, .int 0, .int 0])), (u10 0, .inr (4, [.int 0, .int 0, .int 0, .int 0, .int 0, .int 0, .int 0])), (u11 0, .inr (4, [.int 0, .int 0, .int 0, .int 0, .int 0, .int 0, .int 0])), (u12 0, .inr (4, [.int 0, .int 0, .int 0, .int 0, .int 0, .int 0, .int 0])), (u13 0, .inr (4, [.int 0, .int 0, .int 0, .int 0, .int 0, .int 0, .int 0])), (u14 0, .inr (1, [.int 0, .int 0, .ref (u14 1), .ref (u14 2)])), (u14 1, .inl (gC G 0, 60, .inl (fun _ => 0))), (u14 2, .inl (gC G 0, 60, .inl (fun _ => 0)))]) (cells := 16) (slots := 282) rfl rfl rfl ?_
  refine y_astq (pc := 130) (t := 3) (N := 2) (ci := 1) (r := (RX1, TX1, 4)) (k := 0) K 2 14 rfl rfl rfl rfl (show vp_in (nI 0) 2 from vp_in_nI (by decide) (by decide)) (by decide) dX0_init_130 (ws2 := (h0, .inr (0, [.ref q1, .int 0, .int 0, .int 200, .int 0, .int 0, .int 0, .int 1, .ref q2, .ref q3, .int 0, .ref q4, .int 0])) :: [(q1, .inl (gC G 2, 9, .inr (.inr (.inr (.inr (va_up (va_up (va_up (va_up (va_up (va_up (va_up (va_up (va_up (fun _ => none) 0 (some (u5 0))) 1 (some (u6 0))) 2 (some (u7 0))) 3 (some (u8 0))) 4 (some (u9 0))) 5 (some (u10 0))) 6 (some (u11 0))) 7 (some (u12 0))) 8 (some (u13 0)))))))), (q2, .inl (gC G 3, 2, .inr (.inr (.inr (.inr (va_up (fun _ => none) 0 (some (u14 0)))))))), (q3, .inl (gC G 1, 60, .inl (fun _ => 0))), (q4, .inl (gC G 0, 24, .inl (fun _ => 0))), (u5 0, .inr (4, [.int 0, .int 0, .int 0, .int 0, .int 0, .int 0, .int 0])), (u6 0, .inr (4, [.int 0, .int 0, .int 0, .int 0, .int 0, .int 0, .int 0])), (u7 0, .inr (4, [.int 0, .int 0, .int 0, .int 0, .int 0, .int 0, .int 0])), (u8 0, .inr (4, [.int 0, .int 0, .int 0, .int 0, .int 0, .int 0, .int 0])), (u9 0, .inr (4, [.int 0, .int 0, .int 0, .int 0, .int 0, .int 0, .int 0])), (u10 0, .inr (4, [.int 0, .int 0, .int 0, .int 0, .int 0, .int 0, .int 0])), (u11 0, .inr (4, [.int 0, .int 0, .int 0, .int 0, .int 0, .int 0, .int 0])), (u12 0, .inr (4, [.int 0, .int 0, .int 0, .int 0, .int 0, .int 0, .int 0])), (u13 0, .inr (4, [.int 0, .int 0, .int 0, .int 0, .int 0, .int 0, .int 0])), (u14 0, .inr (1, [.int 0, .int 0, .ref (u14 1), .ref (u14 2)])), (u14 1, .inl (gC G 0, 60, .inl (fun _ => 0))), (u14 2, .inl (gC G 0, 60, .inl (fun _ => 0)))]) rfl ?_
  refine y_iinc (pc := 131) (i := 1) (v := 1) K dX0_init_131 rfl (by decide) rfl ?_
  refine y_goto (pc := 134) (tgt := 113) K dX0_init_134 (by decide) ?_
  refine y_iload_n (pc := 113) (i := 1) K dX0_init_113 rfl rfl ?_
  refine y_iconst (pc := 114) (v := 1) K dX0_init_114 (by decide) ?_
  refine y_gt_f (pc := 115) (tgt := 137) K dX0_init_115 (by decide) (by decide) ?_
  refine y_aload_n (pc := 118) (i := 0) K dX0_init_118 rfl rfl ?_
  refine y_get (pc := 119) K rfl inW0 8 (by decide) fk_X0_41 rfl dX0_init_119 ?_
  refine y_iload_n (pc := 122) (i := 1) K dX0_init_122 rfl rfl ?_
  refine y_makeO (pc := 123) (fs0 := [.int 0, .int 0, .null, .null]) (ci := 1) K tyX1 tyX1_ok inW1 ck_X0_39 it_X1 in_X1 rfl (by decide) (y_callN K c_yX1_init mw_yX1_init im_yX1_init rfl (by decide +kernel) ⟨(Nat.le_of_ble_eq_true rfl), (Nat.le_of_ble_eq_true rfl)⟩ (Nat.le_of_ble_eq_true rfl)) ⟨(Nat.le_of_ble_eq_true rfl), (Nat.le_of_ble_eq_true rfl)⟩ dX0_init_123 dX0_init_126 dX0_init_127 ?_
  refine fun u15 => Y.norm (ws := (h0, .inr (0, [.ref q1, .int 0, .int 0, .int 200, .int 0, .int 0, .int 0, .int 1, .ref q2, .ref q3, .int 0, .ref q4, .int 0])) :: [(q1, .inl (gC G 2, 9, .inr (.inr (.inr (.inr (va_up (va_up (va_up (va_up (va_up (va_up (va_up (va_up (va_up (fun _ => none) 0 (some (u5 0))) 1 (some (u6 0))) 2 (some (u7 0))) 3 (some (u8 0))) 4 (some (u9 0))) 5 (some (u10 0))) 6 (some (u11 0))) 7 (some (u12 0))) 8 (some (u13 0)))))))), (q2, .inl (gC G 3, 2, .inr (.inr (.inr (.inr (va_up (fun _ => none) 0 (some (u14 0)))))))), (q3, .inl (gC G 1, 60, .inl (fun _ => 0))), (q4, .inl (gC G 0, 24, .inl (fun _ => 0))), (u5 0, .inr (4, [.int 0, .int 0, .int 0, .int 0, .int 0, .int 0, .int 0])), (u6 0, .inr (4, [.int 0, .int 0, .int 0, .int 0, .int 0, .int 0, .int 0])), (u7 0, .inr (4, [.int 0, .int 0, .int 0, .int 0, .int 0, .int 0, .int 0])), (u8 0, .inr (4, [.int 0, .int 0, .int 0, .int 0, .int 0, .int 0, .int 0])), (u9 0, .inr (4, [.int 0, .int 0, .int 0, .int 0, .int 0, .int 0, .int 0])), (u10 0, .inr (4, [.int 0, .int 0, .int 0, .int 0, .int 0, .int 0, .int 0])), (u11 0, .inr (4, [.int 0, .int 0, .int 0, .int 0, .int 0, .int 0, .int 0])), (u12 0, .inr (4, [.int 0, .int 0, .int 0, .int 0, .int 0, .int 0, .int 0])), (u13 0, .inr (4, [.int 0, .int 0, .int 0, .int 0, .int 0, .int 0, .int 0])), (u14 0, .inr (1, [.int 0, .int 0, .ref (u14 1), .ref (u14 2)])), (u14 1, .inl (gC G 0, 60, .inl (fun _ => 0))), (u14 2, .inl (gC G 0, 60, .inl (fun _ => 0))), (u15 0, .inr (1, [.int 0, .int 0, .ref (u15 1), .ref (u15 2)])), (u15 1, .inl (gC G 0, 60, .inl (fun _ => 0))), (u15 2, .inl (gC G 0, 60, .inl (fun _ => 0)))]) (cells := 19) (slots := 406) rfl rfl rfl ?_
  refine y_astq (pc := 130) (t := 3) (N := 2) (ci := 1) (r := (RX1, TX1, 4)) (k := 1) K 2 17 rfl rfl rfl rfl (show vp_in (nI 1) 2 from vp_in_nI (by decide) (by decide)) (by decide) dX0_init_130 (ws2 := (h0, .inr (0, [.ref q1, .int 0, .int 0, .int 200, .int 0, .int 0, .int 0, .int 1, .ref q2, .ref q3, .int 0, .ref q4, .int 0])) :: [(q1, .inl (gC G 2, 9, .inr (.inr (.inr (.inr (va_up (va_up (va_up (va_up (va_up (va_up (va_up (va_up (va_up (fun _ => none) 0 (some (u5 0))) 1 (some (u6 0))) 2 (some (u7 0))) 3 (some (u8 0))) 4 (some (u9 0))) 5 (some (u10 0))) 6 (some (u11 0))) 7 (some (u12 0))) 8 (some (u13 0)))))))), (q2, .inl (gC G 3, 2, .inr (.inr (.inr (.inr (va_up (va_up (fun _ => none) 0 (some (u14 0))) 1 (some (u15 0)))))))), (q3, .inl (gC G 1, 60, .inl (fun _ => 0))), (q4, .inl (gC G 0, 24, .inl (fun _ => 0))), (u5 0, .inr (4, [.int 0, .int 0, .int 0, .int 0, .int 0, .int 0, .int 0])), (u6 0, .inr (4, [.int 0, .int 0, .int 0, .int 0, .int 0, .int 0, .int 0])), (u7 0, .inr (4, [.int 0, .int 0, .int 0, .int 0, .int 0, .int 0, .int 0])), (u8 0, .inr (4, [.int 0, .int 0, .int 0, .int 0, .int 0, .int 0, .int 0])), (u9 0, .inr (4, [.int 0, .int 0, .int 0, .int 0, .int 0, .int 0, .int 0])), (u10 0, .inr (4, [.int 0, .int 0, .int 0, .int 0, .int 0, .int 0, .int 0])), (u11 0, .inr (4, [.int 0, .int 0, .int 0, .int 0, .int 0, .int 0, .int 0])), (u12 0, .inr (4, [.int 0, .int 0, .int 0, .int 0, .int 0, .int 0, .int 0])), (u13 0, .inr (4, [.int 0, .int 0, .int 0, .int 0, .int 0, .int 0, .int 0])), (u14 0, .inr (1, [.int 0, .int 0, .ref (u14 1), .ref (u14 2)])), (u14 1, .inl (gC G 0, 60, .inl (fun _ => 0))), (u14 2, .inl (gC G 0, 60, .inl (fun _ => 0))), (u15 0, .inr (1, [.int 0, .int 0, .ref (u15 1), .ref (u15 2)])), (u15 1, .inl (gC G 0, 60, .inl (fun _ => 0))), (u15 2, .inl (gC G 0, 60, .inl (fun _ => 0)))]) rfl ?_
  refine y_iinc (pc := 131) (i := 1) (v := 2) K dX0_init_131 rfl (by decide) rfl ?_
  refine y_goto (pc := 134) (tgt := 113) K dX0_init_134 (by decide) ?_
  refine y_iload_n (pc := 113) (i := 1) K dX0_init_113 rfl rfl ?_
  refine y_iconst (pc := 114) (v := 1) K dX0_init_114 (by decide) ?_
  refine y_gt_t (pc := 115) (tgt := 137) K dX0_init_115 (by decide) (by decide) ?_
  refine Y.norm (ws := (h0, .inr (0, [.ref q1, .int 0, .int 0, .int 200, .int 0, .int 0, .int 0, .int 1, .ref q2, .ref q3, .int 0, .ref q4, .int 0])) :: [(q1, .inl (gC G 2, 9, .inr (.inr (.inr (.inr (va_up (va_up (va_up (va_up (va_up (va_up (va_up (va_up (va_up (fun _ => none) 0 (some (u5 0))) 1 (some (u6 0))) 2 (some (u7 0))) 3 (some (u8 0))) 4 (some (u9 0))) 5 (some (u10 0))) 6 (some (u11 0))) 7 (some (u12 0))) 8 (some (u13 0)))))))), (q2, .inl (gC G 3, 2, .inr (.inr (.inr (.inr (va_up (va_up (fun _ => none) 0 (some (u14 0))) 1 (some (u15 0)))))))), (q3, .inl (gC G 1, 60, .inl (fun _ => 0))), (q4, .inl (gC G 0, 24, .inl (fun _ => 0))), (u5 0, .inr (4, [.int 0, .int 0, .int 0, .int 0, .int 0, .int 0, .int 0])), (u6 0, .inr (4, [.int 0, .int 0, .int 0, .int 0, .int 0, .int 0, .int 0])), (u7 0, .inr (4, [.int 0, .int 0, .int 0, .int 0, .int 0, .int 0, .int 0])), (u8 0, .inr (4, [.int 0, .int 0, .int 0, .int 0, .int 0, .int 0, .int 0])), (u9 0, .inr (4, [.int 0, .int 0, .int 0, .int 0, .int 0, .int 0, .int 0])), (u10 0, .inr (4, [.int 0, .int 0, .int 0, .int 0, .int 0, .int 0, .int 0])), (u11 0, .inr (4, [.int 0, .int 0, .int 0, .int 0, .int 0, .int 0, .int 0])), (u12 0, .inr (4, [.int 0, .int 0, .int 0, .int 0, .int 0, .int 0, .int 0])), (u13 0, .inr (4, [.int 0, .int 0, .int 0, .int 0, .int 0, .int 0, .int 0])), (u14 0, .inr (1, [.int 0, .int 0, .ref (u14 1), .ref (u14 2)])), (u14 1, .inl (gC G 0, 60, .inl (fun _ => 0))), (u14 2, .inl (gC G 0, 60, .inl (fun _ => 0))), (u15 0, .inr (1, [.int 0, .int 0, .ref (u15 1), .ref (u15 2)])), (u15 1, .inl (gC G 0, 60, .inl (fun _ => 0))), (u15 2, .inl (gC G 0, 60, .inl (fun _ => 0)))]) (cells := 19) (slots := 406) rfl rfl rfl ?_
  exact y_vret (pc := 137) K hO (fun i => ([h0, q1, q2, q3, q4, u5 0, u6 0, u7 0, u8 0, u9 0, u10 0, u11 0, u12 0, u13 0, u14 0, u14 1, u14 2, u15 0, u15 1, u15 2] : List Nat).getD i 0) rfl rfl dX0_init_137
