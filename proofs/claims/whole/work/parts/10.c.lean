/-! # the law's own walk -/
def AS (C : Cx) : Nat → Prop := fun q => C.2.2.1.heap.size ≤ q
def OkL (G : Gm) (C : Cx) (b L : Nat) (xs : Nat → Int32) : Prop :=
  C.1.tables.exec = Jvm.exec ∧ C.2.2.2.2.2.2.2.code = cL_law ∧ C.2.2.2.2.2.2.2.maxLocals = 4 ∧ C.2.2.1.vm.findClass RL = some C.2.2.2.1.cls ∧ (∀ w ∈ WS, w.before C.2.2.2.2.1 C.2.2.1 = true) ∧ va_K G.1 vwCl (tysG G) C.2.2.1 ∧ SF G C.2.2.1 C.2.2.1.heap ∧ SV G C.2.2.1 ∧ GInj G ∧ va_X b L xs C.2.2.1 C.2.2.1.heap ∧ b < C.2.2.1.heap.size ∧ (∀ q, AW G q → C.2.2.1.heap.size ≤ q) ∧ L ≤ 3072
def LX (l : Launch) (G : Gm) (C : Cx) (Z : State → Prop) (pc : Nat) (ls : List (Option Value)) (st : List Value) (α ρ : Af) : Prop :=
  ∀ (H : Heap) (locs : List Loc) (la : Array Slot) (a r : Af), Sim 1 a α → Sim 1 r ρ → va_P G.1 vwCl (wl G (wd G a r)) H → va_S (AS C) C.2.2.1.heap H locs → hasL la ls → la.size = 4 → YX room_1 l C Z H locs 90 3094 (F0 C.2.2.2.1 pc la st)
section LR
variable {l : Launch} {G : Gm} {C : Cx} {Z : State → Prop} {b L : Nat} {xs : Nat → Int32} {pc : Nat} {ls : List (Option Value)} {st : List Value} {α ρ : Af}
theorem OkL.w (K : OkL G C b L xs) {w : Cond} (h : w ∈ WS) : w.before C.2.2.2.2.1 C.2.2.1 = true := K.2.2.2.2.1 w h
theorem LX.lift {pc2 : Nat} {st2 : List Value} (h : ∀ (H : Heap) (locs : List Loc) (la : Array Slot), la.size = 4 → hasL la ls → va_S (AS C) C.2.2.1.heap H locs → YX room_1 l C Z H locs 90 3094 (F0 C.2.2.2.1 pc2 la st2) → YX room_1 l C Z H locs 90 3094 (F0 C.2.2.2.1 pc la st)) (kk : LX l G C Z pc2 ls st2 α ρ) : LX l G C Z pc ls st α ρ :=
  fun H locs la a r ha hr hP hS hL hn => h H locs la hn hL hS (kk H locs la a r ha hr hP hS hL hn)
theorem Lw_back (K : OkL G C b L xs) {H : Heap} {locs : List Loc} {a r : Af} {U : State} (ha : Sim 1 a α) (hr : Sim 1 r ρ) (hP : va_P G.1 vwCl (wl G (wd G a r)) H) (hS : va_S (AS C) C.2.2.1.heap H locs) (hU : U.heap = H) (hW : C.2.2.1.WarmedH U.vm) : GS 1 G α ρ U := by
  subst hU
  exact ⟨a, r, ha, hr, hP, va_K.moved hW.alike K.2.2.2.2.2.1, SF.moved hW.alike (SF.kept K.2.2.2.2.2.2.1 (fun q hq _ => hS.2.1 q hq (Nat.not_le.mpr hq))), SV.warm hW K.2.2.2.2.2.2.2.1, K.2.2.2.2.2.2.2.2.1⟩
theorem Lw_called (K : OkL G C b L xs) {P' : Po} {rest : List Value} {la : Array Slot} {st0 : List Value} {H : Heap} {locs : List Loc} {av : Array Value} (hr : va_Run C.1 l C.2.1 room_1 C.2.2.1 C.2.2.2.1 C.2.2.2.2.1 C.2.2.2.2.2.1 C.2.2.2.2.2.2.1 C.2.2.2.2.2.2.2 H locs 90 3094 0 0 (F0 C.2.2.2.1 pc la st0) rest (QP 1 G P' av) (AW G)) (hS : va_S (AS C) C.2.2.1.heap H locs) (hL : hasL la ls) (hn : la.size = 4) (kk : ∀ o α1 ρ1, P' o α1 ρ1 → LX l G C Z (pc + 3) ls (o.toList ++ rest) α1 ρ1) : YX room_1 l C Z H locs 90 3094 (F0 C.2.2.2.1 pc la st0) := by
  have hA := K.2.2.2.2.2.2.2.2.2.2.2.1
  intro T hT X0
  obtain ⟨v, st₀, t, T', L2, h0, X', hL2, e1, e2, ⟨⟨o, α1, ρ1, hv, hp, a1, r1, ha1, hr1, hw⟩, hz, hk⟩, st⟩ := hr T hT X0
  cases hv
  rw [h0] at hz hk
  obtain ⟨t2, b1, b2⟩ := kk v α1 ρ1 hp T'.heap (locs ++ L2) la a1 r1 ha1 hr1 (by rw [e1]; exact hw.1) ⟨Nat.le_trans hS.1 (by rw [e1]; exact hz), fun q h1 h2 => by rw [e1, hk q (Nat.lt_of_lt_of_le h1 hS.1) (fun z => h2 (hA q z))]; exact hS.2.1 q h1 h2, fun q hq => by
      rcases List.mem_append.mp hq with h | h
      · exact hS.2.2 q h
      · exact hA _ (hL2 q h)⟩ hL hn T' rfl X'
  exact ⟨t2, st t2 b1, b2⟩
theorem Lw_callB (K : OkL G C b L xs) {y : MethodName} {bytes : ByteArray} {maxL n index : Nat} {rt : Option FieldType} (hm : MW y bytes maxL rt n) (hl : Cond.methodLink RL index y ∈ WS) (hx : maxL ≤ 13) : CallB room_1 C.2.2.1 C.2.2.2.2.1 RL index y bytes maxL rt (Cond.code y bytes maxL rt :: WS) (rmD 100) 0 0 n := by
  refine ⟨rfl, rfl, Nat.le_of_ble_eq_true rfl, ?_, pay_in (K.2.2.2.2.1) (fun w hw => ?_), List.mem_cons_self, K.w hm.1, K.w hm.2.1, hm.2.2.1, fun sig h => ?_, K.w hl⟩
  · show 8 + (maxL + 11) + 32 * 100 ≤ 84000
    omega
  · rcases List.mem_cons.mp hw with h | h
    · rw [h]; exact WS_good _ hm.1
    · exact WS_good _ h
  · have h2 := hm.2.2.2
    rw [h] at h2
    exact (Option.some.inj h2).symm
theorem l_call (K : OkL G C b L xs) {y : MethodName} {bytes : ByteArray} {maxL n index i ci : Nat} {q : vw_C} {As rest : List Value} {v : Int32} {α1 ρ1 : Af} (hc : CI 1 l G y (Cond.code y bytes maxL (some .int)) 100 (.ref (gA G i) :: As) α ρ (PI v α1 ρ1)) (hm : MW y bytes maxL (some .int) n) (hs : Cond.instanceMethod y ∈ WS ∧ Cond.selects q.1 y y ∈ WS) (hl : Cond.methodLink RL index y ∈ WS) (hR : Rc G i ci) (hq : vwCl[ci]? = some q) (hA : As.length = n) (hd : maxL ≤ 13 ∧ (rest.map fun v => v.category).sum ≤ 8) (hdg : decode cL_law pc = .ok (.invokevirtual index, 3)) {sta : List Value} (hst : sta = As.reverse ++ .ref (gA G i) :: rest) (kk : LX l G C Z (pc + 3) ls (.int v :: rest) α1 ρ1) : LX l G C Z pc ls sta α ρ := by
  subst hst
  intro H locs la a r ha hr hP hS hL hn
  obtain ⟨fs, hf⟩ := hR.2 (if i < 76 then a i else r i)
  have hrc := va_recv K.2.2.2.2.2.1 hP hq (q0 := i) (fs := fs) (by rw [wl_get hR.1]; show some (gA G i, ent G i _) = _; rw [hf])
  exact Lw_called K (va_runV (As := As) (rest := rest) (Ts := WS) (C := q.1) (own := RL) ⟨K.1, K.2.1, K.2.2.1, K.2.2.2.1, K.2.2.2.2.1⟩ hc ⟨Lw_callB K hm hl hd.1, K.w hs.1, K.w hs.2⟩ ⟨GS.blind, hrc, fun U hU hW => ⟨rfl, Lw_back K ha hr hP hS hU hW⟩⟩ rfl hA hn rfl (lv_room hd.2) hdg ⟨Nat.le_of_ble_eq_true rfl, Nat.le_of_ble_eq_true rfl⟩) hS hL hn (fun o α2 ρ2 h => by obtain ⟨rfl, rfl, rfl⟩ := h; exact kk)
theorem l_aload (K : OkL G C b L xs) {j : Fin 4} {i x : Nat} (hdg : decode cL_law pc = .ok (.aload_n j, 1)) (hi : (j : Nat) = i) (hl : ls[i]? = some (some (.ref x))) (kk : LX l G C Z (pc + 1) ls (.ref x :: st) α ρ) : LX l G C Z pc ls st α ρ :=
  LX.lift (fun H locs la hn hL _ w => lv_aload_n K.1 K.2.1 hdg hi (hL.2.2 _ _ hl) w) kk
theorem l_iload (K : OkL G C b L xs) {j : Fin 4} {i : Nat} {x : Int32} (hdg : decode cL_law pc = .ok (.iload_n j, 1)) (hi : (j : Nat) = i) (hl : ls[i]? = some (some (.int x))) (kk : LX l G C Z (pc + 1) ls (.int x :: st) α ρ) : LX l G C Z pc ls st α ρ :=
  LX.lift (fun H locs la hn hL _ w => lv_iload_n K.1 K.2.1 hdg hi (hL.2.2 _ _ hl) w) kk
theorem l_iconst (K : OkL G C b L xs) {n : Int} {v : Int32} (hdg : decode cL_law pc = .ok (.iconst n, 1)) (hv : Int32.ofInt n = v) (kk : LX l G C Z (pc + 1) ls (.int v :: st) α ρ) : LX l G C Z pc ls st α ρ :=
  LX.lift (fun H locs la hn hL _ w => lv_iconst K.1 K.2.1 hdg hv w) kk
theorem l_bipush (K : OkL G C b L xs) {n : Int} {v : Int32} (hdg : decode cL_law pc = .ok (.bipush n, 2)) (hv : (Int8.ofInt n).toInt32 = v) (kk : LX l G C Z (pc + 2) ls (.int v :: st) α ρ) : LX l G C Z pc ls st α ρ :=
  LX.lift (fun H locs la hn hL _ w => lv_bipush K.1 K.2.1 hdg hv w) kk
theorem l_iadd (K : OkL G C b L xs) {x y : Int32} (hdg : decode cL_law pc = .ok (.iadd, 1)) (kk : LX l G C Z (pc + 1) ls (.int (x + y) :: st) α ρ) : LX l G C Z pc ls (.int y :: .int x :: st) α ρ :=
  LX.lift (fun H locs la hn hL _ w => lv_iadd K.1 K.2.1 hdg w) kk
theorem l_iand (K : OkL G C b L xs) {x y : Int32} (hdg : decode cL_law pc = .ok (.iand, 1)) (kk : LX l G C Z (pc + 1) ls (.int (x &&& y) :: st) α ρ) : LX l G C Z pc ls (.int y :: .int x :: st) α ρ :=
  LX.lift (fun H locs la hn hL _ w => lv_iand K.1 K.2.1 hdg w) kk
theorem l_isub (K : OkL G C b L xs) {x y : Int32} (hdg : decode cL_law pc = .ok (.isub, 1)) (kk : LX l G C Z (pc + 1) ls (.int (x - y) :: st) α ρ) : LX l G C Z pc ls (.int y :: .int x :: st) α ρ :=
  LX.lift (fun H locs la hn hL _ w => lv_isub K.1 K.2.1 hdg w) kk
theorem l_goto (K : OkL G C b L xs) {off : Int} {tgt : Nat} (hdg : decode cL_law pc = .ok (.goto off, 3)) (ht : (pc : Int) + off = (tgt : Int)) (kk : LX l G C Z tgt ls st α ρ) : LX l G C Z pc ls st α ρ :=
  LX.lift (fun H locs la hn hL _ w => lv_goto K.1 K.2.1 hdg ht w) kk
theorem l_sld (K : OkL G C b L xs) {i : Int32} (hin : vp_in i L) (hdg : decode cL_law pc = .ok (.iaload, 1)) (kk : LX l G C Z (pc + 1) ls (.int (xs i.toNatClampNeg) :: st) α ρ) : LX l G C Z pc ls (.int i :: .ref b :: st) α ρ :=
  LX.lift (fun H locs la hn hL hS w => va_sld K.1 K.2.1 K.2.2.2.2.2.2.2.2.2.1 K.2.2.2.2.2.2.2.2.2.2.1 (Nat.not_le.mpr K.2.2.2.2.2.2.2.2.2.2.1) hS hin hdg w) kk
theorem l_slen (K : OkL G C b L xs) (hdg : decode cL_law pc = .ok (.arraylength, 1)) (kk : LX l G C Z (pc + 1) ls (.int (nI L) :: st) α ρ) : LX l G C Z pc ls (.ref b :: st) α ρ :=
  LX.lift (fun H locs la hn hL hS w => va_slen K.1 K.2.1 K.2.2.2.2.2.2.2.2.2.1 K.2.2.2.2.2.2.2.2.2.2.1 (Nat.not_le.mpr K.2.2.2.2.2.2.2.2.2.2.1) hS hdg w) kk
theorem l_icmp_gt (K : OkL G C b L xs) {x y : Int32} {off : Int} {tgt : Nat} (hdg : decode cL_law pc = .ok (.if_icmp .gt off, 3)) (ht : (pc : Int) + off = (tgt : Int)) (kt : y < x → LX l G C Z tgt ls st α ρ) (kf : ¬ y < x → LX l G C Z (pc + 3) ls st α ρ) : LX l G C Z pc ls (.int y :: .int x :: st) α ρ :=
  fun H locs la a r ha hr hP hS hL hn => lv_icmp_gt K.1 K.2.1 hdg ht (fun c => kt c H locs la a r ha hr hP hS hL hn) (fun c => kf c H locs la a r ha hr hP hS hL hn)
/-- both sides gave the same -/
theorem l_same (K : OkL G C b L xs) {x y : Int32} {off : Int} {tgt : Nat} (hdg : decode cL_law pc = .ok (.if_icmp .eq off, 3)) (ht : (pc : Int) + off = (tgt : Int)) (he : x = y) (kk : LX l G C Z tgt ls st α ρ) : LX l G C Z pc ls (.int y :: .int x :: st) α ρ :=
  LX.lift (fun H locs la hn hL _ w => lv_icmp_eq K.1 K.2.1 hdg ht (fun _ => w) (fun c => absurd he c)) kk
theorem l_tabIn (K : OkL G C b L xs) {dflt lo hi : Int} {offs : Array Int} {len : Nat} {x : Int32} {off : Int} {tgt : Nat} (hdg : decode cL_law pc = .ok (.tableswitch dflt lo hi offs, len)) (h : ¬ x.toInt < lo ∧ ¬ hi < x.toInt ∧ offs[(x.toInt - lo).toNat]? = some off) (ht : (pc : Int) + off = (tgt : Int)) (kk : LX l G C Z tgt ls st α ρ) : LX l G C Z pc ls (.int x :: st) α ρ :=
  LX.lift (fun H locs la hn hL _ w => lv_tableIn K.1 K.2.1 hdg h.1 h.2.1 h.2.2 ht w) kk
theorem l_tabOut (K : OkL G C b L xs) {dflt lo hi : Int} {offs : Array Int} {len : Nat} {x : Int32} {tgt : Nat} (hdg : decode cL_law pc = .ok (.tableswitch dflt lo hi offs, len)) (h : x.toInt < lo ∨ hi < x.toInt) (ht : (pc : Int) + dflt = (tgt : Int)) (kk : LX l G C Z tgt ls st α ρ) : LX l G C Z pc ls (.int x :: st) α ρ :=
  LX.lift (fun H locs la hn hL _ w => lv_tableOut K.1 K.2.1 hdg h ht w) kk
theorem l_iinc (K : OkL G C b L xs) {i : Nat} {n : Int} {x v : Int32} (hdg : decode cL_law pc = .ok (.iinc i n, 3)) (hl : ls[i]? = some (some (.int x))) (hv : x + Int32.ofInt n = v) (ho : okst ls i = true) (kk : LX l G C Z (pc + 3) (ls.set i (some (.int v))) st α ρ) : LX l G C Z pc ls st α ρ := by
  intro H locs la a r ha hr hP hS hL hn
  obtain ⟨j, hj⟩ := List.getElem?_of_mem (toA_mem.mpr hl)
  have hlt : i < ls.length := by
    rcases Nat.lt_or_ge i ls.length with q | q
    · exact q
    · rw [List.getElem?_eq_none q] at hl; cases hl
  exact lv_iinc K.1 K.2.1 hdg hL.to (k := j) hj hv hlt rfl (fun la2 h2 => kk H locs la2 a r ha hr hP hS (hasL.set ho h2) (by rw [h2.1, ← hL.1, hn]))
/-- an argument: the script's (i + j)-th -/
theorem l_arg (K : OkL G C b L xs) {i j : Nat} {n : Int} (hi : i + j < L) (h0 : ls[0]? = some (some (.ref b))) (h3 : ls[3]? = some (some (.int (nI i)))) (d0 : decode cL_law pc = .ok (.aload_n 0, 1)) (d1 : decode cL_law (pc + 1) = .ok (.iload_n 3, 1)) (d2 : decode cL_law (pc + 2) = .ok (.iconst n, 1)) (hn : Int32.ofInt n = nI j) (d3 : decode cL_law (pc + 3) = .ok (.iadd, 1)) (d4 : decode cL_law (pc + 4) = .ok (.iaload, 1)) (kk : LX l G C Z (pc + 5) ls (.int (xs (i + j)) :: st) α ρ) : LX l G C Z pc ls st α ρ := by
  have hL := K.2.2.2.2.2.2.2.2.2.2.2.2
  refine l_aload (i := 0) K d0 rfl h0 ?_
  refine l_iload (i := 3) K d1 rfl h3 ?_
  refine l_iconst (v := nI j) K d2 hn ?_
  refine l_iadd K d3 ?_
  rw [nI_add]
  refine l_sld K (vp_in_nI hi (by omega)) d4 ?_
  rw [nI_clamp (by omega)]
  exact kk
theorem l_i2l (K : OkL G C b L xs) {x : Int32} (hdg : decode cL_law pc = .ok (.i2l, 1)) (kk : LX l G C Z (pc + 1) ls (.long x.toInt64 :: st) α ρ) : LX l G C Z pc ls (.int x :: st) α ρ :=
  LX.lift (fun H locs la hn hL _ w => lv_i2l K.1 K.2.1 hdg rfl w) kk
theorem l_lshl (K : OkL G C b L xs) {x : Int64} {y : Int32} (hdg : decode cL_law pc = .ok (.lshl, 1)) (kk : LX l G C Z (pc + 1) ls (.long (jlshl x y) :: st) α ρ) : LX l G C Z pc ls (.int y :: .long x :: st) α ρ :=
  LX.lift (fun H locs la hn hL _ w => lv_lshl K.1 K.2.1 hdg rfl w) kk
theorem l_land (K : OkL G C b L xs) {x y : Int64} (hdg : decode cL_law pc = .ok (.land, 1)) (kk : LX l G C Z (pc + 1) ls (.long (x &&& y) :: st) α ρ) : LX l G C Z pc ls (.long y :: .long x :: st) α ρ :=
  LX.lift (fun H locs la hn hL _ w => lv_land K.1 K.2.1 hdg w) kk
theorem l_lor (K : OkL G C b L xs) {x y : Int64} (hdg : decode cL_law pc = .ok (.lor, 1)) (kk : LX l G C Z (pc + 1) ls (.long (x ||| y) :: st) α ρ) : LX l G C Z pc ls (.long y :: .long x :: st) α ρ :=
  LX.lift (fun H locs la hn hL _ w => lv_lor K.1 K.2.1 hdg w) kk
theorem l_ldc2 (K : OkL G C b L xs) {index : Nat} {v : Int64} (hc : Cond.constantLong RL index v ∈ WS) (hdg : decode cL_law pc = .ok (.ldc2_w index, 3)) (kk : LX l G C Z (pc + 3) ls (.long v :: st) α ρ) : LX l G C Z pc ls st α ρ :=
  LX.lift (fun H locs la hn hL _ w => lv_ldc2 K.1 K.2.1 K.2.2.2.1 (K.w hc) hdg w) kk
end LR
