def strB (q j : Nat) : Int32 := (([[114, 119, 107], [108, 98, 109]] : List (List Int32)).getD q []).getD j 0
section HJ
variable {k : Nat} {l : Launch} {d : Nat} {G : Gm} {C : Cx} {P : Po} {own : String} {cc : ByteArray} {ret : Option FieldType} {nL pc : Nat} {ls : List (Option Value)} {st : List Value} {α ρ : Af}
theorem x_compact (K : Ok l d G C RJ0 cc ret nL) (hdg : decode cc pc = .ok (.getstatic 38, 3)) (kk : X k l d G C P nL (pc + 3) ls (.int 1 :: st) α ρ) : X k l d G C P nL pc ls st α ρ :=
  fun H locs la a r ha hr hP hS hL hn => va_gets K.1 K.2.1 K.2.2.2.2.2.2.2.2.1.2.2.2.2.2 hS K.2.2.2.2.1 (K.w fk_J0_38) (fun _ h => h) hdg (kk H locs la a r ha hr hP hS hL hn)
theorem x_strval {q : Nat} (hq : q < 2) (K : Ok l d G C RJ0 cc ret nL) (hdg : decode cc pc = .ok (.getfield 9, 3)) (kk : X k l d G C P nL (pc + 3) ls (.ref (gX G (4 + q)) :: st) α ρ) : X k l d G C P nL pc ls (.ref (gX G (2 + q)) :: st) α ρ :=
  fun H locs la a r ha hr hP hS hL hn => vk_getf K.1 K.2.1 (K.2.2.2.2.2.2.2.2.1.2.2.2.2.1.1 q hq).2.2.1 hS K.2.2.2.2.1 (K.w fk_J0_9) (fun _ h => h) hdg (kk H locs la a r ha hr hP hS hL hn)
theorem x_strcoder {q : Nat} (hq : q < 2) (K : Ok l d G C RJ0 cc ret nL) (hdg : decode cc pc = .ok (.getfield 15, 3)) (kk : X k l d G C P nL (pc + 3) ls (.int 0 :: st) α ρ) : X k l d G C P nL pc ls (.ref (gX G (2 + q)) :: st) α ρ :=
  fun H locs la a r ha hr hP hS hL hn => vk_getf K.1 K.2.1 (K.2.2.2.2.2.2.2.2.1.2.2.2.2.1.1 q hq).2.1 hS K.2.2.2.2.1 (K.w fk_J0_15) (fun _ h => h) hdg (kk H locs la a r ha hr hP hS hL hn)
theorem str_T {q : Nat} (hq : q < 2) (K : Ok l d G C own cc ret nL) : va_T .byte (gX G (4 + q)) 3 (fun j => .int (strB q j)) (AW G) C.2.2.1 C.2.2.1.heap := by
  have h := (K.2.2.2.2.2.2.2.2.1.2.2.2.2.1.1 q hq).2.2.2
  have e : ∀ q, q < 2 → ([3, 3] : List Nat).getD q 0 = 3 := by decide
  have h2 : va_T .byte (gX G (4 + q)) 3 (fun j => .int (strB q j)) (AW G) C.2.2.1 C.2.2.1.heap := (e q hq) ▸ h
  exact h2
theorem x_strlen {q : Nat} (hq : q < 2) (K : Ok l d G C own cc ret nL) (hdg : decode cc pc = .ok (.arraylength, 1)) (kk : X k l d G C P nL (pc + 1) ls (.int 3 :: st) α ρ) : X k l d G C P nL pc ls (.ref (gX G (4 + q)) :: st) α ρ :=
  fun H locs la a r ha hr hP hS hL hn => va_tlen K.1 K.2.1 (str_T hq K) hS rfl hdg (kk H locs la a r ha hr hP hS hL hn)
theorem x_strld {q : Nat} (hq : q < 2) (j : Nat) (hj : j < 3) (K : Ok l d G C own cc ret nL) (hdg : decode cc pc = .ok (.baload, 1)) (kk : X k l d G C P nL (pc + 1) ls (.int (strB q j) :: st) α ρ) : X k l d G C P nL pc ls (.int (nI j) :: .ref (gX G (4 + q)) :: st) α ρ :=
  fun H locs la a r ha hr hP hS hL hn => va_tb K.1 K.2.1 (str_T hq K) hS (vp_in_nI hj (by decide)) (v := .int (strB q j)) (by rw [nI_clamp (Nat.lt_trans hj (by decide))]) hdg (kk H locs la a r ha hr hP hS hL hn)
theorem x_callStr (K : Ok l d G C own cc ret nL) {y : MethodName} {bytes : ByteArray} {maxL n dy index q : Nat} {rt : Option FieldType} {As rest : List Value} {P' : Po} (hc : CI k l G y (Cond.code y bytes maxL rt) dy (.ref (gX G (2 + q)) :: As) α ρ P') (hm : MW y bytes maxL rt n) (hs : Cond.instanceMethod y ∈ WS ∧ Cond.selects "java/lang/String" y y ∈ WS) (hl : Cond.methodLink own index y ∈ WS) (hq : q < 2) (hA : As.length = n) (hd : dy + 1 ≤ d ∧ maxL ≤ 13 ∧ (rest.map fun v => v.category).sum ≤ 8) (hdg : decode cc pc = .ok (.invokevirtual index, 3)) (kk : ∀ o α1 ρ1, P' o α1 ρ1 → X k l d G C P nL (pc + 3) ls (o.toList ++ rest) α1 ρ1) : X k l d G C P nL pc ls (As.reverse ++ .ref (gX G (2 + q)) :: rest) α ρ :=
  fun H locs la a r ha hr hP hS hL hn => X.called K (va_runV (As := As) (rest := rest) (Ts := WS) (C := "java/lang/String") ⟨K.1, K.2.1, K.2.2.2.1, K.2.2.2.2.1, K.2.2.2.2.2.1⟩ hc ⟨callB_at K hm hl hd.1 hd.2.1, K.w hs.1, K.w hs.2⟩ ⟨GS.blind, vk_recv (i := q) K.2.2.2.2.2.2.2.2.1.2.2.2.2.1 hq hS, (preS_at K ha hr hP hS).2⟩ rfl hA hn rfl (lv_room hd.2.2) hdg ⟨Nat.zero_le _, Nat.zero_le _⟩) hS hL hn kk
theorem x_T0i (K : Ok l d G C own cc ret nL) {y : MethodName} {bytes : ByteArray} {maxL dy index q : Nat} {rt : Option FieldType} {rest : List Value} {v : Int32} {a1 r1 : Af} (hc : CI k l G y (Cond.code y bytes maxL rt) dy [.ref (gX G (2 + q))] α ρ (PI v a1 r1)) (hm : MW y bytes maxL rt 0) (hs : Cond.instanceMethod y ∈ WS ∧ Cond.selects "java/lang/String" y y ∈ WS) (hl : Cond.methodLink own index y ∈ WS) (hq : q < 2) (hd : dy + 1 ≤ d ∧ maxL ≤ 13 ∧ (rest.map fun v => v.category).sum ≤ 8) (hdg : decode cc pc = .ok (.invokevirtual index, 3)) (kk : X k l d G C P nL (pc + 3) ls (.int v :: rest) a1 r1) : X k l d G C P nL pc ls (.ref (gX G (2 + q)) :: rest) α ρ :=
  x_callStr (As := []) (rest := rest) K hc hm hs hl hq rfl hd hdg (fun o α1 ρ1 h => by obtain ⟨rfl, rfl, rfl⟩ := h; exact kk)
theorem x_T1i (K : Ok l d G C own cc ret nL) {y : MethodName} {bytes : ByteArray} {maxL dy index q : Nat} {rt : Option FieldType} {v0 : Value} {rest : List Value} {v : Int32} {a1 r1 : Af} (hc : CI k l G y (Cond.code y bytes maxL rt) dy [.ref (gX G (2 + q)), v0] α ρ (PI v a1 r1)) (hm : MW y bytes maxL rt 1) (hs : Cond.instanceMethod y ∈ WS ∧ Cond.selects "java/lang/String" y y ∈ WS) (hl : Cond.methodLink own index y ∈ WS) (hq : q < 2) (hd : dy + 1 ≤ d ∧ maxL ≤ 13 ∧ (rest.map fun v => v.category).sum ≤ 8) (hdg : decode cc pc = .ok (.invokevirtual index, 3)) (kk : X k l d G C P nL (pc + 3) ls (.int v :: rest) a1 r1) : X k l d G C P nL pc ls (v0 :: .ref (gX G (2 + q)) :: rest) α ρ :=
  x_callStr (As := [v0]) (rest := rest) K hc hm hs hl hq rfl hd hdg (fun o α1 ρ1 h => by obtain ⟨rfl, rfl, rfl⟩ := h; exact kk)
theorem x_T2i (K : Ok l d G C own cc ret nL) {y : MethodName} {bytes : ByteArray} {maxL dy index q : Nat} {rt : Option FieldType} {v0 v1 : Value} {rest : List Value} {v : Int32} {a1 r1 : Af} (hc : CI k l G y (Cond.code y bytes maxL rt) dy [.ref (gX G (2 + q)), v0, v1] α ρ (PI v a1 r1)) (hm : MW y bytes maxL rt 2) (hs : Cond.instanceMethod y ∈ WS ∧ Cond.selects "java/lang/String" y y ∈ WS) (hl : Cond.methodLink own index y ∈ WS) (hq : q < 2) (hd : dy + 1 ≤ d ∧ maxL ≤ 13 ∧ (rest.map fun v => v.category).sum ≤ 8) (hdg : decode cc pc = .ok (.invokevirtual index, 3)) (kk : X k l d G C P nL (pc + 3) ls (.int v :: rest) a1 r1) : X k l d G C P nL pc ls (v1 :: v0 :: .ref (gX G (2 + q)) :: rest) α ρ :=
  x_callStr (As := [v0, v1]) (rest := rest) K hc hm hs hl hq rfl hd hdg (fun o α1 ρ1 h => by obtain ⟨rfl, rfl, rfl⟩ := h; exact kk)
theorem x_ldcS0 (K : Ok l d G C RX2 cc ret nL) (hdg : decode cc pc = .ok (.ldc 29, 2)) (kk : X k l d G C P nL (pc + 2) ls (.ref (gX G 2) :: st) α ρ) : X k l d G C P nL pc ls st α ρ :=
  X.lift (fun H locs la hn hL w => va_ldcS K.1 K.2.1 K.2.2.2.2.1 K.2.2.2.2.2.2.2.2.2.1.1 hdg w) kk
theorem x_ldcS1 (K : Ok l d G C RX2 cc ret nL) (hdg : decode cc pc = .ok (.ldc 51, 2)) (kk : X k l d G C P nL (pc + 2) ls (.ref (gX G 3) :: st) α ρ) : X k l d G C P nL pc ls st α ρ :=
  X.lift (fun H locs la hn hL w => va_ldcS K.1 K.2.1 K.2.2.2.2.1 K.2.2.2.2.2.2.2.2.2.1.2.1 hdg w) kk
end HJ
/-- where the names of a use hold a byte -/
def q_ixL (q : Nat) (b : Int32) : Nat → Nat → Int32
  | 0, _ => -1
  | j + 1, i => if strB q i = b then nI i else q_ixL q b j (i + 1)
def q_canEnc (c : Int32) : Bool := if c < 0 then false else if 255 < c then false else true
def q_ix (q : Nat) (c : Int32) : Int32 := if q_canEnc c = true then q_ixL q c.toInt8.toInt32 3 0 else -1

set_option maxRecDepth 100000 in
set_option maxHeartbeats 4000000 in
theorem c_yJ0_coder_7d493 {k : Nat} {l : Launch} {G : Gm} {α ρ : Af} {q : Nat} (hq : q < 2) : CI k l G yJ0_coder_7d493 (Cond.code yJ0_coder_7d493 cJ0_coder_7d493 1 (some .byte)) 1 [.ref (gX G (2 + q))] α ρ (PI 0 α ρ) := by
  refine CI.of [some (.ref (gX G (2 + q)))] (by decide) (Nat.le_of_ble_eq_true rfl) rfl rfl (fun C K => ?_)
  have K : Ok l _ G C RJ0 cJ0_coder_7d493 (some .byte) 1 := K
  refine x_compact (pc := 0) K dJ0_coder_7d493_0 ?_
  refine x_if_eq (pc := 3) (tgt := 13) K dJ0_coder_7d493_3 (by decide) (fun c_3 => ?_) (fun c_3 => ?_)
  · exact absurd c_3 (by decide)
  · refine x_aload_n (pc := 6) (i := 0) K dJ0_coder_7d493_6 rfl rfl ?_
    refine x_strcoder (pc := 7) hq K dJ0_coder_7d493_7 ?_
    refine x_goto (pc := 10) (tgt := 14) K dJ0_coder_7d493_10 (by decide) ?_
    exact x_nretI (pc := 14) K dJ0_coder_7d493_14 rfl ⟨rfl, rfl, rfl⟩

set_option maxRecDepth 100000 in
set_option maxHeartbeats 4000000 in
theorem c_yJ0_isLatin1_aae02 {k : Nat} {l : Launch} {G : Gm} {α ρ : Af} {q : Nat} (hq : q < 2) : CI k l G yJ0_isLatin1_aae02 (Cond.code yJ0_isLatin1_aae02 cJ0_isLatin1_aae02 1 (some .boolean)) 1 [.ref (gX G (2 + q))] α ρ (PI (bI true) α ρ) := by
  refine CI.of [some (.ref (gX G (2 + q)))] (by decide) (Nat.le_of_ble_eq_true rfl) rfl rfl (fun C K => ?_)
  have K : Ok l _ G C RJ0 cJ0_isLatin1_aae02 (some .boolean) 1 := K
  refine x_compact (pc := 0) K dJ0_isLatin1_aae02_0 ?_
  refine x_if_eq (pc := 3) (tgt := 17) K dJ0_isLatin1_aae02_3 (by decide) (fun c_3 => ?_) (fun c_3 => ?_)
  · exact absurd c_3 (by decide)
  · refine x_aload_n (pc := 6) (i := 0) K dJ0_isLatin1_aae02_6 rfl rfl ?_
    refine x_strcoder (pc := 7) hq K dJ0_isLatin1_aae02_7 ?_
    refine x_if_ne (pc := 10) (tgt := 17) K dJ0_isLatin1_aae02_10 (by decide) (fun c_10 => ?_) (fun c_10 => ?_)
    · exact absurd c_10 (by decide)
    · refine x_iconst (pc := 13) (v := 1) K dJ0_isLatin1_aae02_13 (by decide) ?_
      refine x_goto (pc := 14) (tgt := 18) K dJ0_isLatin1_aae02_14 (by decide) ?_
      exact x_nretI (pc := 18) K dJ0_isLatin1_aae02_18 rfl ⟨rfl, rfl, rfl⟩

set_option maxRecDepth 100000 in
set_option maxHeartbeats 4000000 in
theorem c_yJ0_length_8abf5 {k : Nat} {l : Launch} {G : Gm} {α ρ : Af} {q : Nat} (hq : q < 2) : CI k l G yJ0_length_8abf5 (Cond.code yJ0_length_8abf5 cJ0_length_8abf5 1 (some .int)) 2 [.ref (gX G (2 + q))] α ρ (PI 3 α ρ) := by
  refine CI.of [some (.ref (gX G (2 + q)))] (by decide) (Nat.le_of_ble_eq_true rfl) rfl rfl (fun C K => ?_)
  have K : Ok l _ G C RJ0 cJ0_length_8abf5 (some .int) 1 := K
  refine x_aload_n (pc := 0) (i := 0) K dJ0_length_8abf5_0 rfl rfl ?_
  refine x_strval (pc := 1) hq K dJ0_length_8abf5_1 ?_
  refine x_strlen (pc := 4) hq K dJ0_length_8abf5_4 ?_
  refine x_aload_n (pc := 5) (i := 0) K dJ0_length_8abf5_5 rfl rfl ?_
  refine x_T0i (pc := 6) K (c_yJ0_coder_7d493 hq) mw_yJ0_coder_7d493 ⟨im_yJ0_coder_7d493, se_yJ0_coder_7d493⟩ mk_J0_335 hq ⟨Nat.le_of_ble_eq_true rfl, Nat.le_of_ble_eq_true rfl, Nat.le_of_ble_eq_true rfl⟩ dJ0_length_8abf5_6 ?_
  refine x_ishr (pc := 9) K dJ0_length_8abf5_9 ?_
  exact x_iretI (pc := 10) K dJ0_length_8abf5_10 ⟨by decide, rfl, rfl⟩

set_option maxRecDepth 100000 in
set_option maxHeartbeats 4000000 in
theorem c_yJ1_canEncode_9a6ad {k : Nat} {l : Launch} {G : Gm} {α ρ : Af} {p : Int32}  : CI k l G yJ1_canEncode_9a6ad (Cond.code yJ1_canEncode_9a6ad cJ1_canEncode_9a6ad 1 (some .boolean)) 1 [.int p] α ρ (PI (bI (q_canEnc p)) α ρ) := by
  refine CI.of [some (.int p)] (by decide) (Nat.le_of_ble_eq_true rfl) rfl rfl (fun C K => ?_)
  have K : Ok l _ G C RJ1 cJ1_canEncode_9a6ad (some .boolean) 1 := K
  refine x_iload_n (pc := 0) (i := 0) K dJ1_canEncode_9a6ad_0 rfl rfl ?_
  refine x_if_lt (pc := 1) (tgt := 15) K dJ1_canEncode_9a6ad_1 (by decide) (fun c_1 => ?_) (fun c_1 => ?_)
  · refine x_iconst (pc := 15) (v := 0) K dJ1_canEncode_9a6ad_15 (by decide) ?_
    exact x_nretI (pc := 16) K dJ1_canEncode_9a6ad_16 rfl ⟨by simp (decide := true) only [q_canEnc, if_pos c_1, ↓reduceIte, Bool.false_eq_true, bI_t, bI_f], rfl, rfl⟩
  · refine x_iload_n (pc := 4) (i := 0) K dJ1_canEncode_9a6ad_4 rfl rfl ?_
    refine x_sipush (pc := 5) (v := 255) K dJ1_canEncode_9a6ad_5 (by decide) ?_
    refine x_icmp_gt (pc := 8) (tgt := 15) K dJ1_canEncode_9a6ad_8 (by decide) (fun c_8 => ?_) (fun c_8 => ?_)
    · refine x_iconst (pc := 15) (v := 0) K dJ1_canEncode_9a6ad_15 (by decide) ?_
      exact x_nretI (pc := 16) K dJ1_canEncode_9a6ad_16 rfl ⟨by simp (decide := true) only [q_canEnc, if_neg c_1, if_pos c_8, ↓reduceIte, Bool.false_eq_true, bI_t, bI_f], rfl, rfl⟩
    · refine x_iconst (pc := 11) (v := 1) K dJ1_canEncode_9a6ad_11 (by decide) ?_
      refine x_goto (pc := 12) (tgt := 16) K dJ1_canEncode_9a6ad_12 (by decide) ?_
      exact x_nretI (pc := 16) K dJ1_canEncode_9a6ad_16 rfl ⟨by simp (decide := true) only [q_canEnc, if_neg c_1, if_neg c_8, ↓reduceIte, Bool.false_eq_true, bI_t, bI_f], rfl, rfl⟩

set_option maxRecDepth 100000 in
set_option maxHeartbeats 4000000 in
theorem l_ixL {k : Nat} {l : Launch} {G : Gm} {C : Cx} {q : Nat} {p : Int32} {z : Option Value} {α ρ : Af} (K : Ok l 1 G C RJ1 cJ1_indexOfChar_4cfef (some .int) 6) (hq : q < 2) : ∀ (j i : Nat), i + j = 3 → ∀ T, q_ixL q p.toInt8.toInt32 j i = T → X k l 1 G C (PI T α ρ) 6 7 [some (.ref (gX G (4 + q))), some (.int p), z, some (.int 3), some (.int p.toInt8.toInt32), some (.int (nI i))] [] α ρ := by
  intro j
  induction j with
  | zero =>
    intro i hi T hT
    refine x_iload (pc := 7) (i := 5) K dJ1_indexOfChar_4cfef_7 rfl ?_
    refine x_iload_n (pc := 9) (i := 3) K dJ1_indexOfChar_4cfef_9 rfl rfl ?_
    refine x_icmp_ge (pc := 10) (tgt := 31) K dJ1_indexOfChar_4cfef_10 (by decide) (fun c_10 => ?_) (fun c_10 => ?_)
    · refine x_iconst (pc := 31) (v := (-1)) K dJ1_indexOfChar_4cfef_31 (by decide) ?_
      exact x_iretI (pc := 32) K dJ1_indexOfChar_4cfef_32 ⟨by rw [← hT]; rfl, rfl, rfl⟩
    · exact absurd (by rw [show i = 3 by omega]; decide) c_10
  | succ j ih =>
    intro i hi T hT
    refine x_iload (pc := 7) (i := 5) K dJ1_indexOfChar_4cfef_7 rfl ?_
    refine x_iload_n (pc := 9) (i := 3) K dJ1_indexOfChar_4cfef_9 rfl rfl ?_
    refine x_icmp_ge (pc := 10) (tgt := 31) K dJ1_indexOfChar_4cfef_10 (by decide) (fun c_10 => ?_) (fun c_10 => ?_)
    · exact absurd ((nI_leI (a := 3) (b := i) (by decide) (by omega)).mp c_10) (by omega)
    · refine x_aload_n (pc := 13) (i := 0) K dJ1_indexOfChar_4cfef_13 rfl rfl ?_
      refine x_iload (pc := 14) (i := 5) K dJ1_indexOfChar_4cfef_14 rfl ?_
      refine x_strld (pc := 16) hq i (by omega) K dJ1_indexOfChar_4cfef_16 ?_
      refine x_iload (pc := 17) (i := 4) K dJ1_indexOfChar_4cfef_17 rfl ?_
      refine x_icmp_ne (pc := 19) (tgt := 25) K dJ1_indexOfChar_4cfef_19 (by decide) (fun c_19 => ?_) (fun c_19 => ?_)
      · refine x_iinc (pc := 25) (i := 5) (v := nI (i + 1)) K dJ1_indexOfChar_4cfef_25 rfl (nI_1 _) rfl ?_
        refine x_goto (pc := 28) (tgt := 7) K dJ1_indexOfChar_4cfef_28 (by decide) ?_
        exact ih (i + 1) (by omega) T (by rw [← hT]; simp only [q_ixL]; rw [if_neg c_19])
      · refine x_iload (pc := 22) (i := 5) K dJ1_indexOfChar_4cfef_22 rfl ?_
        exact x_iretI (pc := 24) K dJ1_indexOfChar_4cfef_24 ⟨by rw [← hT]; simp only [q_ixL]; rw [if_pos c_19], rfl, rfl⟩

set_option maxRecDepth 100000 in
set_option maxHeartbeats 4000000 in
theorem c_yJ1_indexOfChar_4cfef {k : Nat} {l : Launch} {G : Gm} {α ρ : Af} {q : Nat} {p : Int32} (hq : q < 2) : CI k l G yJ1_indexOfChar_4cfef (Cond.code yJ1_indexOfChar_4cfef cJ1_indexOfChar_4cfef 6 (some .int)) 1 [.ref (gX G (4 + q)), .int p, .int 0, .int 3] α ρ (PI (q_ixL q p.toInt8.toInt32 3 0) α ρ) := by
  refine CI.of [some (.ref (gX G (4 + q))), some (.int p), some (.int 0), some (.int 3), none, none] (by decide) (Nat.le_of_ble_eq_true rfl) rfl rfl (fun C K => ?_)
  have K : Ok l _ G C RJ1 cJ1_indexOfChar_4cfef (some .int) 6 := K
  refine x_iload_n (pc := 0) (i := 1) K dJ1_indexOfChar_4cfef_0 rfl rfl ?_
  refine x_i2b (pc := 1) K dJ1_indexOfChar_4cfef_1 ?_
  refine x_istore (pc := 2) (i := 4) K dJ1_indexOfChar_4cfef_2 rfl (by decide) ?_
  refine x_iload_n (pc := 4) (i := 2) K dJ1_indexOfChar_4cfef_4 rfl rfl ?_
  refine x_istore (pc := 5) (i := 5) K dJ1_indexOfChar_4cfef_5 rfl (by decide) ?_
  exact l_ixL (z := some (.int 0)) K hq 3 0 (by omega) _ rfl

set_option maxRecDepth 100000 in
set_option maxHeartbeats 4000000 in
theorem c_yJ1_indexOf_4cfef {k : Nat} {l : Launch} {G : Gm} {α ρ : Af} {q : Nat} {p : Int32} (hq : q < 2) : CI k l G yJ1_indexOf_4cfef (Cond.code yJ1_indexOf_4cfef cJ1_indexOf_4cfef 4 (some .int)) 2 [.ref (gX G (4 + q)), .int p, .int 0, .int 3] α ρ (PI (q_ix q p) α ρ) := by
  refine CI.of [some (.ref (gX G (4 + q))), some (.int p), some (.int 0), some (.int 3)] (by decide) (Nat.le_of_ble_eq_true rfl) rfl rfl (fun C K => ?_)
  have K : Ok l _ G C RJ1 cJ1_indexOf_4cfef (some .int) 4 := K
  refine x_iload_n (pc := 0) (i := 1) K dJ1_indexOf_4cfef_0 rfl rfl ?_
  refine x_S1i (pc := 1) K (c_yJ1_canEncode_9a6ad) mw_yJ1_canEncode_9a6ad st_yJ1_canEncode_9a6ad mk_J1_88 ⟨Nat.le_of_ble_eq_true rfl, Nat.le_of_ble_eq_true rfl, Nat.le_of_ble_eq_true rfl⟩ dJ1_indexOf_4cfef_1 ?_
  refine x_ifne_b (pc := 4) (tgt := 9) K dJ1_indexOf_4cfef_4 (by decide) (fun c_4 => ?_) (fun c_4 => ?_)
  · refine x_iload_n (pc := 9) (i := 2) K dJ1_indexOf_4cfef_9 rfl rfl ?_
    refine x_iconst (pc := 10) (v := 0) K dJ1_indexOf_4cfef_10 (by decide) ?_
    refine x_mmax (pc := 11) K mk_J1_92 ⟨Nat.le_of_ble_eq_true rfl, Nat.le_of_ble_eq_true rfl⟩ dJ1_indexOf_4cfef_11 ?_
    refine x_topi K (show _ = 0 from by decide) ?_
    refine x_istore_n (pc := 14) (i := 2) K dJ1_indexOf_4cfef_14 rfl rfl (by decide) ?_
    refine x_iload_n (pc := 15) (i := 3) K dJ1_indexOf_4cfef_15 rfl rfl ?_
    refine x_aload_n (pc := 16) (i := 0) K dJ1_indexOf_4cfef_16 rfl rfl ?_
    refine x_strlen (pc := 17) hq K dJ1_indexOf_4cfef_17 ?_
    refine x_mmin (pc := 18) K mk_J1_38 ⟨Nat.le_of_ble_eq_true rfl, Nat.le_of_ble_eq_true rfl⟩ dJ1_indexOf_4cfef_18 ?_
    refine x_topi K (show _ = 3 from by decide) ?_
    refine x_istore_n (pc := 21) (i := 3) K dJ1_indexOf_4cfef_21 rfl rfl (by decide) ?_
    refine x_iload_n (pc := 22) (i := 2) K dJ1_indexOf_4cfef_22 rfl rfl ?_
    refine x_iload_n (pc := 23) (i := 3) K dJ1_indexOf_4cfef_23 rfl rfl ?_
    refine x_icmp_lt (pc := 24) (tgt := 29) K dJ1_indexOf_4cfef_24 (by decide) (fun c_24 => ?_) (fun c_24 => ?_)
    · refine x_aload_n (pc := 29) (i := 0) K dJ1_indexOf_4cfef_29 rfl rfl ?_
      refine x_iload_n (pc := 30) (i := 1) K dJ1_indexOf_4cfef_30 rfl rfl ?_
      refine x_iload_n (pc := 31) (i := 2) K dJ1_indexOf_4cfef_31 rfl rfl ?_
      refine x_iload_n (pc := 32) (i := 3) K dJ1_indexOf_4cfef_32 rfl rfl ?_
      refine x_S4i (pc := 33) K (c_yJ1_indexOfChar_4cfef hq) mw_yJ1_indexOfChar_4cfef st_yJ1_indexOfChar_4cfef mk_J1_95 ⟨Nat.le_of_ble_eq_true rfl, Nat.le_of_ble_eq_true rfl, Nat.le_of_ble_eq_true rfl⟩ dJ1_indexOf_4cfef_33 ?_
      exact x_iretI (pc := 36) K dJ1_indexOf_4cfef_36 ⟨by simp (decide := true) only [q_ix, c_4, if_pos c_24, ↓reduceIte, Bool.false_eq_true, bI_t, bI_f], rfl, rfl⟩
    · exact absurd c_24 (by decide)
  · refine x_iconst (pc := 7) (v := (-1)) K dJ1_indexOf_4cfef_7 (by decide) ?_
    exact x_iretI (pc := 8) K dJ1_indexOf_4cfef_8 ⟨by simp (decide := true) only [q_ix, c_4, ↓reduceIte, Bool.false_eq_true, bI_t, bI_f], rfl, rfl⟩

set_option maxRecDepth 100000 in
set_option maxHeartbeats 4000000 in
theorem c_yJ0_indexOf_7cf53 {k : Nat} {l : Launch} {G : Gm} {α ρ : Af} {q : Nat} {p : Int32} (hq : q < 2) : CI k l G yJ0_indexOf_7cf53 (Cond.code yJ0_indexOf_7cf53 cJ0_indexOf_7cf53 3 (some .int)) 3 [.ref (gX G (2 + q)), .int p, .int 0] α ρ (PI (q_ix q p) α ρ) := by
  refine CI.of [some (.ref (gX G (2 + q))), some (.int p), some (.int 0)] (by decide) (Nat.le_of_ble_eq_true rfl) rfl rfl (fun C K => ?_)
  have K : Ok l _ G C RJ0 cJ0_indexOf_7cf53 (some .int) 3 := K
  refine x_aload_n (pc := 0) (i := 0) K dJ0_indexOf_7cf53_0 rfl rfl ?_
  refine x_T0i (pc := 1) K (c_yJ0_isLatin1_aae02 hq) mw_yJ0_isLatin1_aae02 ⟨im_yJ0_isLatin1_aae02, se_yJ0_isLatin1_aae02⟩ mk_J0_492 hq ⟨Nat.le_of_ble_eq_true rfl, Nat.le_of_ble_eq_true rfl, Nat.le_of_ble_eq_true rfl⟩ dJ0_indexOf_7cf53_1 ?_
  refine x_ifeq_b (pc := 4) (tgt := 23) K dJ0_indexOf_7cf53_4 (by decide) (fun c_4 => ?_) (fun c_4 => ?_)
  · exact absurd c_4 (by decide)
  · refine x_aload_n (pc := 7) (i := 0) K dJ0_indexOf_7cf53_7 rfl rfl ?_
    refine x_strval (pc := 8) hq K dJ0_indexOf_7cf53_8 ?_
    refine x_iload_n (pc := 11) (i := 1) K dJ0_indexOf_7cf53_11 rfl rfl ?_
    refine x_iload_n (pc := 12) (i := 2) K dJ0_indexOf_7cf53_12 rfl rfl ?_
    refine x_aload_n (pc := 13) (i := 0) K dJ0_indexOf_7cf53_13 rfl rfl ?_
    refine x_T0i (pc := 14) K (c_yJ0_length_8abf5 hq) mw_yJ0_length_8abf5 ⟨im_yJ0_length_8abf5, se_yJ0_length_8abf5⟩ mk_J0_505 hq ⟨Nat.le_of_ble_eq_true rfl, Nat.le_of_ble_eq_true rfl, Nat.le_of_ble_eq_true rfl⟩ dJ0_indexOf_7cf53_14 ?_
    refine x_S4i (pc := 17) K (c_yJ1_indexOf_4cfef hq) mw_yJ1_indexOf_4cfef st_yJ1_indexOf_4cfef mk_J0_637 ⟨Nat.le_of_ble_eq_true rfl, Nat.le_of_ble_eq_true rfl, Nat.le_of_ble_eq_true rfl⟩ dJ0_indexOf_7cf53_17 ?_
    refine x_goto (pc := 20) (tgt := 36) K dJ0_indexOf_7cf53_20 (by decide) ?_
    exact x_iretI (pc := 36) K dJ0_indexOf_7cf53_36 ⟨rfl, rfl, rfl⟩

set_option maxRecDepth 100000 in
set_option maxHeartbeats 4000000 in
theorem c_yJ0_indexOf_0f7a4 {k : Nat} {l : Launch} {G : Gm} {α ρ : Af} {q : Nat} {p : Int32} (hq : q < 2) : CI k l G yJ0_indexOf_0f7a4 (Cond.code yJ0_indexOf_0f7a4 cJ0_indexOf_0f7a4 2 (some .int)) 4 [.ref (gX G (2 + q)), .int p] α ρ (PI (q_ix q p) α ρ) := by
  refine CI.of [some (.ref (gX G (2 + q))), some (.int p)] (by decide) (Nat.le_of_ble_eq_true rfl) rfl rfl (fun C K => ?_)
  have K : Ok l _ G C RJ0 cJ0_indexOf_0f7a4 (some .int) 2 := K
  refine x_aload_n (pc := 0) (i := 0) K dJ0_indexOf_0f7a4_0 rfl rfl ?_
  refine x_iload_n (pc := 1) (i := 1) K dJ0_indexOf_0f7a4_1 rfl rfl ?_
  refine x_iconst (pc := 2) (v := 0) K dJ0_indexOf_0f7a4_2 (by decide) ?_
  refine x_T2i (pc := 3) K (c_yJ0_indexOf_7cf53 hq) mw_yJ0_indexOf_7cf53 ⟨im_yJ0_indexOf_7cf53, se_yJ0_indexOf_7cf53⟩ mk_J0_633 hq ⟨Nat.le_of_ble_eq_true rfl, Nat.le_of_ble_eq_true rfl, Nat.le_of_ble_eq_true rfl⟩ dJ0_indexOf_0f7a4_3 ?_
  exact x_iretI (pc := 6) K dJ0_indexOf_0f7a4_6 ⟨rfl, rfl, rfl⟩

def q_bc1 (x : Int32) : Int32 := x - (jushr x 1 &&& 1431655765)
def q_bc2 (x : Int32) : Int32 := (x &&& 858993459) + (jushr x 2 &&& 858993459)
def q_bc3 (x : Int32) : Int32 := (x + jushr x 4) &&& 252645135
def q_bc4 (x : Int32) : Int32 := x + jushr x 8
def q_bc5 (x : Int32) : Int32 := x + jushr x 16
def q_bitCount (x : Int32) : Int32 := q_bc5 (q_bc4 (q_bc3 (q_bc2 (q_bc1 x)))) &&& 63
set_option maxRecDepth 100000 in
set_option maxHeartbeats 4000000 in
theorem c_yJ6_bitCount_0f7a4 {k : Nat} {l : Launch} {G : Gm} {α ρ : Af} {p : Int32}  : CI k l G yJ6_bitCount_0f7a4 (Cond.code yJ6_bitCount_0f7a4 cJ6_bitCount_0f7a4 1 (some .int)) 1 [.int p] α ρ (PI (q_bitCount p) α ρ) := by
  refine CI.of [some (.int p)] (by decide) (Nat.le_of_ble_eq_true rfl) rfl rfl (fun C K => ?_)
  have K : Ok l _ G C RJ6 cJ6_bitCount_0f7a4 (some .int) 1 := K
  refine x_iload_n (pc := 0) (i := 0) K dJ6_bitCount_0f7a4_0 rfl rfl ?_
  refine x_iload_n (pc := 1) (i := 0) K dJ6_bitCount_0f7a4_1 rfl rfl ?_
  refine x_iconst (pc := 2) (v := 1) K dJ6_bitCount_0f7a4_2 (by decide) ?_
  refine x_iushr (pc := 3) K dJ6_bitCount_0f7a4_3 ?_
  refine x_ldcw (pc := 4) K kn_J6_265 dJ6_bitCount_0f7a4_4 ?_
  refine x_iand (pc := 7) K dJ6_bitCount_0f7a4_7 ?_
  refine x_isub (pc := 8) K dJ6_bitCount_0f7a4_8 ?_
  refine x_topi K (show _ = q_bc1 p from rfl) ?_
  refine x_istore_n (pc := 9) (i := 0) K dJ6_bitCount_0f7a4_9 rfl rfl (by decide) ?_
  refine x_iload_n (pc := 10) (i := 0) K dJ6_bitCount_0f7a4_10 rfl rfl ?_
  refine x_ldcw (pc := 11) K kn_J6_266 dJ6_bitCount_0f7a4_11 ?_
  refine x_iand (pc := 14) K dJ6_bitCount_0f7a4_14 ?_
  refine x_iload_n (pc := 15) (i := 0) K dJ6_bitCount_0f7a4_15 rfl rfl ?_
  refine x_iconst (pc := 16) (v := 2) K dJ6_bitCount_0f7a4_16 (by decide) ?_
  refine x_iushr (pc := 17) K dJ6_bitCount_0f7a4_17 ?_
  refine x_ldcw (pc := 18) K kn_J6_266 dJ6_bitCount_0f7a4_18 ?_
  refine x_iand (pc := 21) K dJ6_bitCount_0f7a4_21 ?_
  refine x_iadd (pc := 22) K dJ6_bitCount_0f7a4_22 ?_
  refine x_topi K (show _ = q_bc2 (q_bc1 p) from rfl) ?_
  refine x_istore_n (pc := 23) (i := 0) K dJ6_bitCount_0f7a4_23 rfl rfl (by decide) ?_
  refine x_iload_n (pc := 24) (i := 0) K dJ6_bitCount_0f7a4_24 rfl rfl ?_
  refine x_iload_n (pc := 25) (i := 0) K dJ6_bitCount_0f7a4_25 rfl rfl ?_
  refine x_iconst (pc := 26) (v := 4) K dJ6_bitCount_0f7a4_26 (by decide) ?_
  refine x_iushr (pc := 27) K dJ6_bitCount_0f7a4_27 ?_
  refine x_iadd (pc := 28) K dJ6_bitCount_0f7a4_28 ?_
  refine x_ldcw (pc := 29) K kn_J6_267 dJ6_bitCount_0f7a4_29 ?_
  refine x_iand (pc := 32) K dJ6_bitCount_0f7a4_32 ?_
  refine x_topi K (show _ = q_bc3 (q_bc2 (q_bc1 p)) from rfl) ?_
  refine x_istore_n (pc := 33) (i := 0) K dJ6_bitCount_0f7a4_33 rfl rfl (by decide) ?_
  refine x_iload_n (pc := 34) (i := 0) K dJ6_bitCount_0f7a4_34 rfl rfl ?_
  refine x_iload_n (pc := 35) (i := 0) K dJ6_bitCount_0f7a4_35 rfl rfl ?_
  refine x_bipush (pc := 36) (v := 8) K dJ6_bitCount_0f7a4_36 (by decide) ?_
  refine x_iushr (pc := 38) K dJ6_bitCount_0f7a4_38 ?_
  refine x_iadd (pc := 39) K dJ6_bitCount_0f7a4_39 ?_
  refine x_topi K (show _ = q_bc4 (q_bc3 (q_bc2 (q_bc1 p))) from rfl) ?_
  refine x_istore_n (pc := 40) (i := 0) K dJ6_bitCount_0f7a4_40 rfl rfl (by decide) ?_
  refine x_iload_n (pc := 41) (i := 0) K dJ6_bitCount_0f7a4_41 rfl rfl ?_
  refine x_iload_n (pc := 42) (i := 0) K dJ6_bitCount_0f7a4_42 rfl rfl ?_
  refine x_bipush (pc := 43) (v := 16) K dJ6_bitCount_0f7a4_43 (by decide) ?_
  refine x_iushr (pc := 45) K dJ6_bitCount_0f7a4_45 ?_
  refine x_iadd (pc := 46) K dJ6_bitCount_0f7a4_46 ?_
  refine x_topi K (show _ = q_bc5 (q_bc4 (q_bc3 (q_bc2 (q_bc1 p)))) from rfl) ?_
  refine x_istore_n (pc := 47) (i := 0) K dJ6_bitCount_0f7a4_47 rfl rfl (by decide) ?_
  refine x_iload_n (pc := 48) (i := 0) K dJ6_bitCount_0f7a4_48 rfl rfl ?_
  refine x_bipush (pc := 49) (v := 63) K dJ6_bitCount_0f7a4_49 (by decide) ?_
  refine x_iand (pc := 51) K dJ6_bitCount_0f7a4_51 ?_
  exact x_iretI (pc := 52) K dJ6_bitCount_0f7a4_52 ⟨rfl, rfl, rfl⟩

def q_miss (b : Int32) : Bool := if b = 0 then true else false
def q_zero (α : Af) (s : Nat) : Nat → Af
  | 0 => α
  | i + 1 => up (q_zero α s i) (idSn s) i 0
def q_renew (α : Af) (s : Nat) (b n : Int32) : Af := q_zero (up (up α (idSh s) 0 b) (idSh s) 1 n) s 24
def q_nar (b v : Int32) : Int32 := if b = 8 then v.toInt8.toInt32 else if b = 16 then v.toInt16.toInt32 else v
def q_hasRow (n i m : Int32) : Bool := if i < 0 then false else if m < 0 then false else if n < m then false else if n - m < i then false else true
set_option maxRecDepth 100000 in
set_option maxHeartbeats 4000000 in
theorem c_yX3_isMissing {k : Nat} {l : Launch} {G : Gm} {α ρ : Af} {s : Nat} (hs : s < 4) : CI k l G yX3_isMissing (Cond.code yX3_isMissing cX3_isMissing 1 (some .boolean)) 1 [.ref (gA G (idSh s))] α ρ (PI (bI (q_miss (α (idSh s) 0))) α ρ) := by
  refine CI.of [some (.ref (gA G (idSh s)))] (by decide) (Nat.le_of_ble_eq_true rfl) rfl rfl (fun C K => ?_)
  have K : Ok l _ G C RX3 cX3_isMissing (some .boolean) 1 := K
  refine x_aload_n (pc := 0) (i := 0) K dX3_isMissing_0 rfl rfl ?_
  refine gf_X3_9 (pc := 1) hs K dX3_isMissing_1 ?_
  refine x_if_ne (pc := 4) (tgt := 11) K dX3_isMissing_4 (by decide) (fun c_4 => ?_) (fun c_4 => ?_)
  · refine x_iconst (pc := 11) (v := 0) K dX3_isMissing_11 (by decide) ?_
    exact x_nretI (pc := 12) K dX3_isMissing_12 rfl ⟨by simp (decide := true) only [q_miss, if_neg c_4, ↓reduceIte, Bool.false_eq_true, bI_t, bI_f], rfl, rfl⟩
  · refine x_iconst (pc := 7) (v := 1) K dX3_isMissing_7 (by decide) ?_
    refine x_goto (pc := 8) (tgt := 12) K dX3_isMissing_8 (by decide) ?_
    exact x_nretI (pc := 12) K dX3_isMissing_12 rfl ⟨by simp (decide := true) only [q_miss, if_pos c_4, ↓reduceIte, Bool.false_eq_true, bI_t, bI_f], rfl, rfl⟩

set_option maxRecDepth 100000 in
set_option maxHeartbeats 4000000 in
theorem l_renew {k : Nat} {l : Launch} {G : Gm} {C : Cx} {P : Po} {s : Nat} {b n : Int32} {α ρ : Af} (K : Ok l 1 G C RX3 cX3_renew none 4) (hs : s < 4) : ∀ (j i : Nat), i + j = 24 → X k l 1 G C (P) 4 31 [some (.ref (gA G (idSh s))), some (.int b), some (.int n), some (.int (nI 24))] [] (q_zero α s 24) ρ → X k l 1 G C (P) 4 12 [some (.ref (gA G (idSh s))), some (.int b), some (.int n), some (.int (nI i))] [] (q_zero α s i) ρ := by
  intro j
  induction j with
  | zero =>
    intro i hi hx
    refine x_iload_n (pc := 12) (i := 3) K dX3_renew_12 rfl rfl ?_
    refine x_bipush (pc := 13) (v := 24) K dX3_renew_13 (by decide) ?_
    refine x_icmp_ge (pc := 15) (tgt := 31) K dX3_renew_15 (by decide) (fun c_15 => ?_) (fun c_15 => ?_)
    · obtain rfl : i = 24 := by omega
      exact hx
    · exact absurd (by rw [show i = 24 by omega]; decide) c_15
  | succ j ih =>
    intro i hi hx
    refine x_iload_n (pc := 12) (i := 3) K dX3_renew_12 rfl rfl ?_
    refine x_bipush (pc := 13) (v := 24) K dX3_renew_13 (by decide) ?_
    refine x_icmp_ge (pc := 15) (tgt := 31) K dX3_renew_15 (by decide) (fun c_15 => ?_) (fun c_15 => ?_)
    · exact absurd ((nI_leI (a := 24) (b := i) (by decide) (by omega)).mp c_15) (by omega)
    · refine x_aload_n (pc := 18) (i := 0) K dX3_renew_18 rfl rfl ?_
      refine gf_X3_18 (pc := 19) hs K dX3_renew_19 ?_
      refine x_iload_n (pc := 22) (i := 3) K dX3_renew_22 rfl rfl ?_
      refine x_iconst (pc := 23) (v := 0) K dX3_renew_23 (by decide) ?_
      refine is_Sn (pc := 24) hs K (vp_in_nI (by omega) (by decide)) dX3_renew_24 ?_
      refine x_st (a := q_zero α s (i + 1)) (by rw [nI_clamp (by omega)]; rfl) rfl ?_
      refine x_iinc (pc := 25) (i := 3) (v := nI (i + 1)) K dX3_renew_25 rfl (nI_1 _) rfl ?_
      refine x_goto (pc := 28) (tgt := 12) K dX3_renew_28 (by decide) ?_
      exact ih (i + 1) (by omega) hx

set_option maxRecDepth 100000 in
set_option maxHeartbeats 4000000 in
theorem c_yX3_renew {k : Nat} {l : Launch} {G : Gm} {α ρ : Af} {s : Nat} {b n : Int32} (hs : s < 4) : CI k l G yX3_renew (Cond.code yX3_renew cX3_renew 4 none) 1 [.ref (gA G (idSh s)), .int b, .int n] α ρ (PV (q_renew α s b n) ρ) := by
  refine CI.of [some (.ref (gA G (idSh s))), some (.int b), some (.int n), none] (by decide) (Nat.le_of_ble_eq_true rfl) rfl rfl (fun C K => ?_)
  have K : Ok l _ G C RX3 cX3_renew none 4 := K
  refine x_aload_n (pc := 0) (i := 0) K dX3_renew_0 rfl rfl ?_
  refine x_iload_n (pc := 1) (i := 1) K dX3_renew_1 rfl rfl ?_
  refine pf_X3_9 (pc := 2) hs K dX3_renew_2 ?_
  refine x_aload_n (pc := 5) (i := 0) K dX3_renew_5 rfl rfl ?_
  refine x_iload_n (pc := 6) (i := 2) K dX3_renew_6 rfl rfl ?_
  refine pf_X3_15 (pc := 7) hs K dX3_renew_7 ?_
  refine x_iconst (pc := 10) (v := 0) K dX3_renew_10 (by decide) ?_
  refine x_istore_n (pc := 11) (i := 3) K dX3_renew_11 rfl rfl (by decide) ?_
  refine l_renew (α := up (up α (idSh s) 0 b) (idSh s) 1 n) K hs 24 0 (by omega) ?_
  exact x_vretI (pc := 31) K dX3_renew_31 ⟨rfl, rfl⟩

set_option maxRecDepth 100000 in
set_option maxHeartbeats 4000000 in
theorem c_yX3_write {k : Nat} {l : Launch} {G : Gm} {α ρ : Af} {s i : Nat} {v : Int32} (hs : s < 4) (hi : i < 24) : CI k l G yX3_write (Cond.code yX3_write cX3_write 3 none) 1 [.ref (gA G (idSh s)), .int (nI i), .int v] α ρ (PV (up α (idSn s) i (q_nar (α (idSh s) 0) v)) ρ) := by
  refine CI.of [some (.ref (gA G (idSh s))), some (.int (nI i)), some (.int v)] (by decide) (Nat.le_of_ble_eq_true rfl) rfl rfl (fun C K => ?_)
  have K : Ok l _ G C RX3 cX3_write none 3 := K
  refine x_aload_n (pc := 0) (i := 0) K dX3_write_0 rfl rfl ?_
  refine gf_X3_18 (pc := 1) hs K dX3_write_1 ?_
  refine x_iload_n (pc := 4) (i := 1) K dX3_write_4 rfl rfl ?_
  refine x_aload_n (pc := 5) (i := 0) K dX3_write_5 rfl rfl ?_
  refine gf_X3_9 (pc := 6) hs K dX3_write_6 ?_
  refine x_bipush (pc := 9) (v := 8) K dX3_write_9 (by decide) ?_
  refine x_icmp_ne (pc := 11) (tgt := 19) K dX3_write_11 (by decide) (fun c_11 => ?_) (fun c_11 => ?_)
  · refine x_aload_n (pc := 19) (i := 0) K dX3_write_19 rfl rfl ?_
    refine gf_X3_9 (pc := 20) hs K dX3_write_20 ?_
    refine x_bipush (pc := 23) (v := 16) K dX3_write_23 (by decide) ?_
    refine x_icmp_ne (pc := 25) (tgt := 33) K dX3_write_25 (by decide) (fun c_25 => ?_) (fun c_25 => ?_)
    · refine x_iload_n (pc := 33) (i := 2) K dX3_write_33 rfl rfl ?_
      refine is_Sn (pc := 34) hs K (vp_in_nI hi (by decide)) dX3_write_34 ?_
      exact x_vretI (pc := 35) K dX3_write_35 ⟨by rw [nI_clamp (by omega)]; simp only [q_nar, if_neg c_11, if_neg c_25, ↓reduceIte], rfl⟩
    · refine x_iload_n (pc := 28) (i := 2) K dX3_write_28 rfl rfl ?_
      refine x_i2s (pc := 29) K dX3_write_29 ?_
      refine x_goto (pc := 30) (tgt := 34) K dX3_write_30 (by decide) ?_
      refine is_Sn (pc := 34) hs K (vp_in_nI hi (by decide)) dX3_write_34 ?_
      exact x_vretI (pc := 35) K dX3_write_35 ⟨by rw [nI_clamp (by omega)]; simp only [q_nar, if_neg c_11, if_pos c_25, ↓reduceIte], rfl⟩
  · refine x_iload_n (pc := 14) (i := 2) K dX3_write_14 rfl rfl ?_
    refine x_i2b (pc := 15) K dX3_write_15 ?_
    refine x_goto (pc := 16) (tgt := 34) K dX3_write_16 (by decide) ?_
    refine is_Sn (pc := 34) hs K (vp_in_nI hi (by decide)) dX3_write_34 ?_
    exact x_vretI (pc := 35) K dX3_write_35 ⟨by rw [nI_clamp (by omega)]; simp only [q_nar, if_pos c_11, ↓reduceIte], rfl⟩

set_option maxRecDepth 100000 in
set_option maxHeartbeats 4000000 in
theorem c_yX3_hasRow {k : Nat} {l : Launch} {G : Gm} {α ρ : Af} {s : Nat} {i m : Int32} (hs : s < 4) : CI k l G yX3_hasRow (Cond.code yX3_hasRow cX3_hasRow 3 (some .boolean)) 1 [.ref (gA G (idSh s)), .int i, .int m] α ρ (PI (bI (q_hasRow (α (idSh s) 1) i m)) α ρ) := by
  refine CI.of [some (.ref (gA G (idSh s))), some (.int i), some (.int m)] (by decide) (Nat.le_of_ble_eq_true rfl) rfl rfl (fun C K => ?_)
  have K : Ok l _ G C RX3 cX3_hasRow (some .boolean) 3 := K
  refine x_iload_n (pc := 0) (i := 1) K dX3_hasRow_0 rfl rfl ?_
  refine x_if_lt (pc := 1) (tgt := 30) K dX3_hasRow_1 (by decide) (fun c_1 => ?_) (fun c_1 => ?_)
  · refine x_iconst (pc := 30) (v := 0) K dX3_hasRow_30 (by decide) ?_
    exact x_nretI (pc := 31) K dX3_hasRow_31 rfl ⟨by simp (decide := true) only [q_hasRow, if_pos c_1, ↓reduceIte, Bool.false_eq_true, bI_t, bI_f], rfl, rfl⟩
  · refine x_iload_n (pc := 4) (i := 2) K dX3_hasRow_4 rfl rfl ?_
    refine x_if_lt (pc := 5) (tgt := 30) K dX3_hasRow_5 (by decide) (fun c_5 => ?_) (fun c_5 => ?_)
    · refine x_iconst (pc := 30) (v := 0) K dX3_hasRow_30 (by decide) ?_
      exact x_nretI (pc := 31) K dX3_hasRow_31 rfl ⟨by simp (decide := true) only [q_hasRow, if_neg c_1, if_pos c_5, ↓reduceIte, Bool.false_eq_true, bI_t, bI_f], rfl, rfl⟩
    · refine x_iload_n (pc := 8) (i := 2) K dX3_hasRow_8 rfl rfl ?_
      refine x_aload_n (pc := 9) (i := 0) K dX3_hasRow_9 rfl rfl ?_
      refine gf_X3_15 (pc := 10) hs K dX3_hasRow_10 ?_
      refine x_icmp_gt (pc := 13) (tgt := 30) K dX3_hasRow_13 (by decide) (fun c_13 => ?_) (fun c_13 => ?_)
      · refine x_iconst (pc := 30) (v := 0) K dX3_hasRow_30 (by decide) ?_
        exact x_nretI (pc := 31) K dX3_hasRow_31 rfl ⟨by simp (decide := true) only [q_hasRow, if_neg c_1, if_neg c_5, if_pos c_13, ↓reduceIte, Bool.false_eq_true, bI_t, bI_f], rfl, rfl⟩
      · refine x_iload_n (pc := 16) (i := 1) K dX3_hasRow_16 rfl rfl ?_
        refine x_aload_n (pc := 17) (i := 0) K dX3_hasRow_17 rfl rfl ?_
        refine gf_X3_15 (pc := 18) hs K dX3_hasRow_18 ?_
        refine x_iload_n (pc := 21) (i := 2) K dX3_hasRow_21 rfl rfl ?_
        refine x_isub (pc := 22) K dX3_hasRow_22 ?_
        refine x_icmp_gt (pc := 23) (tgt := 30) K dX3_hasRow_23 (by decide) (fun c_23 => ?_) (fun c_23 => ?_)
        · refine x_iconst (pc := 30) (v := 0) K dX3_hasRow_30 (by decide) ?_
          exact x_nretI (pc := 31) K dX3_hasRow_31 rfl ⟨by simp (decide := true) only [q_hasRow, if_neg c_1, if_neg c_5, if_neg c_13, if_pos c_23, ↓reduceIte, Bool.false_eq_true, bI_t, bI_f], rfl, rfl⟩
        · refine x_iconst (pc := 26) (v := 1) K dX3_hasRow_26 (by decide) ?_
          refine x_goto (pc := 27) (tgt := 31) K dX3_hasRow_27 (by decide) ?_
          exact x_nretI (pc := 31) K dX3_hasRow_31 rfl ⟨by simp (decide := true) only [q_hasRow, if_neg c_1, if_neg c_5, if_neg c_13, if_neg c_23, ↓reduceIte, Bool.false_eq_true, bI_t, bI_f], rfl, rfl⟩
