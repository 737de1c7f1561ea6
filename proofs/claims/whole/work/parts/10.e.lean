/-! # the law's loop -/
theorem and63 (w : Int32) : ∃ n, n < 64 ∧ w &&& 63 = nI n := by
  refine ⟨w.toBitVec.toNat % 64, Nat.mod_lt _ (by decide), ?_⟩
  refine Int32.toBitVec_inj.mp (BitVec.eq_of_toNat_eq ?_)
  show (w &&& 63 : Int32).toBitVec.toNat = (BitVec.ofNat 32 (w.toBitVec.toNat % 64)).toNat
  rw [Int32.toBitVec_and, BitVec.toNat_and, BitVec.toNat_ofNat]
  have e : (63 : Int32).toBitVec.toNat = 2 ^ 6 - 1 := by decide
  rw [e, Nat.and_two_pow_sub_one_eq_mod]
  exact (Nat.mod_eq_of_lt (by have := Nat.mod_lt w.toBitVec.toNat (show 2 ^ 6 > 0 by decide); omega)).symm
theorem tab_out : ∀ n, n < 64 → 36 < n → (36 : Int) < (nI n).toInt := by decide +kernel
set_option maxRecDepth 100000 in
set_option maxHeartbeats 4000000 in
theorem l_switch {l : Launch} {G : Gm} {C : Cx} {Z : State → Prop} {b L i : Nat} {xs : Nat → Int32} {α ρ : Af} (K : OkL G C b L xs) (hi : i + 6 ≤ L) (hR : R α ρ) (hg : ∀ α1 ρ1, R α1 ρ1 → LX l G C Z 1407 (lsL G b i) [] α1 ρ1) (w : Int32) : LX l G C Z 33 (lsL G b i) [.int (w &&& 63)] α ρ := by
  obtain ⟨n, hn, e⟩ := and63 w
  rw [e]
  by_cases c0 : n = 0
  · subst c0
    exact l_tabIn (pc := 33) (off := 163) (tgt := 196) K dL_law_33 ⟨by decide, by decide, by decide⟩ (by decide) (lc_span K hi hR hg)
  by_cases c1 : n = 1
  · subst c1
    exact l_tabIn (pc := 33) (off := 206) (tgt := 239) K dL_law_33 ⟨by decide, by decide, by decide⟩ (by decide) (lc_spanIs K hi hR hg)
  by_cases c2 : n = 2
  · subst c2
    exact l_tabIn (pc := 33) (off := 239) (tgt := 272) K dL_law_33 ⟨by decide, by decide, by decide⟩ (by decide) (lc_become K hi hR hg)
  by_cases c3 : n = 3
  · subst c3
    exact l_tabIn (pc := 33) (off := 272) (tgt := 305) K dL_law_33 ⟨by decide, by decide, by decide⟩ (by decide) (lc_as K hi hR hg)
  by_cases c4 : n = 4
  · subst c4
    exact l_tabIn (pc := 33) (off := 305) (tgt := 338) K dL_law_33 ⟨by decide, by decide, by decide⟩ (by decide) (lc_soak K hi hR hg)
  by_cases c5 : n = 5
  · subst c5
    exact l_tabIn (pc := 33) (off := 338) (tgt := 371) K dL_law_33 ⟨by decide, by decide, by decide⟩ (by decide) (lc_bakes K hi hR hg)
  by_cases c6 : n = 6
  · subst c6
    exact l_tabIn (pc := 33) (off := 361) (tgt := 394) K dL_law_33 ⟨by decide, by decide, by decide⟩ (by decide) (lc_eat K hi hR hg)
  by_cases c7 : n = 7
  · subst c7
    exact l_tabIn (pc := 33) (off := 384) (tgt := 417) K dL_law_33 ⟨by decide, by decide, by decide⟩ (by decide) (lc_store K hi hR hg)
  by_cases c8 : n = 8
  · subst c8
    exact l_tabIn (pc := 33) (off := 417) (tgt := 450) K dL_law_33 ⟨by decide, by decide, by decide⟩ (by decide) (lc_cross K hi hR hg)
  by_cases c9 : n = 9
  · subst c9
    exact l_tabIn (pc := 33) (off := 450) (tgt := 483) K dL_law_33 ⟨by decide, by decide, by decide⟩ (by decide) (lc_feed K hi hR hg)
  by_cases c10 : n = 10
  · subst c10
    exact l_tabIn (pc := 33) (off := 513) (tgt := 546) K dL_law_33 ⟨by decide, by decide, by decide⟩ (by decide) (lc_text K hi hR hg)
  by_cases c11 : n = 11
  · subst c11
    exact l_tabIn (pc := 33) (off := 536) (tgt := 569) K dL_law_33 ⟨by decide, by decide, by decide⟩ (by decide) (lc_untell K hi hR hg)
  by_cases c12 : n = 12
  · subst c12
    exact l_tabIn (pc := 33) (off := 559) (tgt := 592) K dL_law_33 ⟨by decide, by decide, by decide⟩ (by decide) (lc_law K hi hR hg)
  by_cases c13 : n = 13
  · subst c13
    exact l_tabIn (pc := 33) (off := 612) (tgt := 645) K dL_law_33 ⟨by decide, by decide, by decide⟩ (by decide) (lc_days K hi hR hg)
  by_cases c14 : n = 14
  · subst c14
    exact l_tabIn (pc := 33) (off := 635) (tgt := 668) K dL_law_33 ⟨by decide, by decide, by decide⟩ (by decide) (lc_loose K hi hR hg)
  by_cases c15 : n = 15
  · subst c15
    exact l_tabIn (pc := 33) (off := 658) (tgt := 691) K dL_law_33 ⟨by decide, by decide, by decide⟩ (by decide) (lc_seed K hi hR hg)
  by_cases c16 : n = 16
  · subst c16
    exact l_tabIn (pc := 33) (off := 681) (tgt := 714) K dL_law_33 ⟨by decide, by decide, by decide⟩ (by decide) (lc_joined K hi hR hg)
  by_cases c17 : n = 17
  · subst c17
    exact l_tabIn (pc := 33) (off := 714) (tgt := 747) K dL_law_33 ⟨by decide, by decide, by decide⟩ (by decide) (lc_load K hi hR hg)
  by_cases c18 : n = 18
  · subst c18
    exact l_tabIn (pc := 33) (off := 747) (tgt := 780) K dL_law_33 ⟨by decide, by decide, by decide⟩ (by decide) (lc_baking K hi hR hg)
  by_cases c19 : n = 19
  · subst c19
    exact l_tabIn (pc := 33) (off := 800) (tgt := 833) K dL_law_33 ⟨by decide, by decide, by decide⟩ (by decide) (lc_eating K hi hR hg)
  by_cases c20 : n = 20
  · subst c20
    exact l_tabIn (pc := 33) (off := 853) (tgt := 886) K dL_law_33 ⟨by decide, by decide, by decide⟩ (by decide) (lc_lasts K hi hR hg)
  by_cases c21 : n = 21
  · subst c21
    exact l_tabIn (pc := 33) (off := 896) (tgt := 929) K dL_law_33 ⟨by decide, by decide, by decide⟩ (by decide) (lc_then K hi hR hg)
  by_cases c22 : n = 22
  · subst c22
    exact l_tabIn (pc := 33) (off := 929) (tgt := 962) K dL_law_33 ⟨by decide, by decide, by decide⟩ (by decide) (lc_odds K hi hR hg)
  by_cases c23 : n = 23
  · subst c23
    exact l_tabIn (pc := 33) (off := 982) (tgt := 1015) K dL_law_33 ⟨by decide, by decide, by decide⟩ (by decide) (lc_fits K hi hR hg)
  by_cases c24 : n = 24
  · subst c24
    exact l_tabIn (pc := 33) (off := 1005) (tgt := 1038) K dL_law_33 ⟨by decide, by decide, by decide⟩ (by decide) (lc_voice K hi hR hg)
  by_cases c25 : n = 25
  · subst c25
    exact l_tabIn (pc := 33) (off := 1048) (tgt := 1081) K dL_law_33 ⟨by decide, by decide, by decide⟩ (by decide) (lc_body K hi hR hg)
  by_cases c26 : n = 26
  · subst c26
    exact l_tabIn (pc := 33) (off := 1071) (tgt := 1104) K dL_law_33 ⟨by decide, by decide, by decide⟩ (by decide) (lc_sheet K hi hR hg)
  by_cases c27 : n = 27
  · subst c27
    exact l_tabIn (pc := 33) (off := 1114) (tgt := 1147) K dL_law_33 ⟨by decide, by decide, by decide⟩ (by decide) (lc_put K hi hR hg)
  by_cases c28 : n = 28
  · subst c28
    exact l_tabIn (pc := 33) (off := 1157) (tgt := 1190) K dL_law_33 ⟨by decide, by decide, by decide⟩ (by decide) (lc_move K hi hR hg)
  by_cases c29 : n = 29
  · subst c29
    exact l_tabIn (pc := 33) (off := 1220) (tgt := 1253) K dL_law_33 ⟨by decide, by decide, by decide⟩ (by decide) (lc_soaks K hi hR hg)
  by_cases c30 : n = 30
  · subst c30
    exact l_tabIn (pc := 33) (off := 1243) (tgt := 1276) K dL_law_33 ⟨by decide, by decide, by decide⟩ (by decide) (lc_judge K hi hR hg)
  by_cases c31 : n = 31
  · subst c31
    exact l_tabIn (pc := 33) (off := 1266) (tgt := 1299) K dL_law_33 ⟨by decide, by decide, by decide⟩ (by decide) (lc_image K hi hR hg)
  by_cases c32 : n = 32
  · subst c32
    exact l_tabIn (pc := 33) (off := 1279) (tgt := 1312) K dL_law_33 ⟨by decide, by decide, by decide⟩ (by decide) (lc_restore K hi hR hg)
  by_cases c33 : n = 33
  · subst c33
    exact l_tabIn (pc := 33) (off := 1292) (tgt := 1325) K dL_law_33 ⟨by decide, by decide, by decide⟩ (by decide) (lc_tell K hi hR hg)
  by_cases c34 : n = 34
  · subst c34
    exact l_tabIn (pc := 33) (off := 1315) (tgt := 1348) K dL_law_33 ⟨by decide, by decide, by decide⟩ (by decide) (lc_check K hi hR hg)
  by_cases c35 : n = 35
  · subst c35
    exact l_tabIn (pc := 33) (off := 1328) (tgt := 1361) K dL_law_33 ⟨by decide, by decide, by decide⟩ (by decide) (lc_count K hi hR hg)
  by_cases c36 : n = 36
  · subst c36
    exact l_tabIn (pc := 33) (off := 1351) (tgt := 1384) K dL_law_33 ⟨by decide, by decide, by decide⟩ (by decide) (lc_told K hi hR hg)
  exact l_tabOut (pc := 33) (tgt := 1407) K dL_law_33 (Or.inr (tab_out n hn (by omega))) (by decide) (hg α ρ hR)
theorem l_loop {l : Launch} {G : Gm} {C : Cx} {Z : State → Prop} {b L : Nat} {xs : Nat → Int32} (K : OkL G C b L xs) (hend : ∀ (H : Heap) (la : Array Slot), YX room_1 l C Z H [] 600000 7302249 (F0 C.2.2.2.1 1414 la [.int 1])) : ∀ (j i : Nat) (α ρ : Af), L < i + j → i ≤ L → R α ρ → LX l G C Z 18 (lsL G b i) [] α ρ := by
  have hL := K.2.2.2.2.2.2.2.2.2.2.2.2
  have out : ∀ (i : Nat) (α ρ : Af), LX l G C Z 1413 (lsL G b i) [] α ρ := by
    intro i α ρ
    refine l_iconst (pc := 1413) (v := 1) K dL_law_1413 (by decide) ?_
    exact fun H locs la a r ha hr hP hS hLs hn => va_forget hS.2.2 (W.widen (k := 600000) (n := 7302249) (Nat.le_of_ble_eq_true rfl) (Nat.le_of_ble_eq_true rfl) (hend H la))
  intro j
  induction j with
  | zero => intro i α ρ h1 h2; omega
  | succ j ih =>
    intro i α ρ h1 h2 hR
    refine l_iload (pc := 18) (i := 3) K dL_law_18 rfl rfl ?_
    refine l_aload (pc := 19) (i := 0) K dL_law_19 rfl rfl ?_
    refine l_slen (pc := 20) K dL_law_20 ?_
    refine l_bipush (pc := 21) (v := 6) K dL_law_21 (by decide) ?_
    refine l_isub (pc := 23) K dL_law_23 ?_
    refine l_icmp_gt (pc := 24) (tgt := 1413) K dL_law_24 (by decide) (fun _ => out i α ρ) (fun c => ?_)
    have hi : i + 6 ≤ L := by
      have e1 : (nI L - 6).toInt = (L : Int) - 6 := pk_sub_toInt (a := L) (b := 6) (by omega) (by decide)
      have e2 : (nI i - nI 0).toInt = (i : Int) - 0 := pk_sub_toInt (a := i) (b := 0) (by omega) (by decide)
      have e3 : nI i - nI 0 = nI i := pk_sub (a := i) (b := 0) (Nat.zero_le _)
      rw [e3] at e2
      have := mt Int32.lt_iff_toInt_lt.mpr c
      omega
    refine l_aload (pc := 27) (i := 0) K dL_law_27 rfl rfl ?_
    refine l_iload (pc := 28) (i := 3) K dL_law_28 rfl rfl ?_
    refine l_sld (pc := 29) K (vp_in_nI (show i < L by omega) (by omega)) dL_law_29 ?_
    refine l_bipush (pc := 30) (v := 63) K dL_law_30 (by decide) ?_
    refine l_iand (pc := 32) K dL_law_32 ?_
    refine l_switch K hi hR (fun α1 ρ1 h => ?_) _
    refine l_iinc (pc := 1407) (i := 3) (v := nI (i + 6)) K dL_law_1407 rfl (by rw [show Int32.ofInt 6 = nI 6 from by decide, nI_add]) rfl ?_
    refine l_goto (pc := 1410) (tgt := 18) K dL_law_1410 (by decide) ?_
    exact ih (i + 6) α1 ρ1 (by omega) hi h
set_option maxRecDepth 100000 in
set_option maxHeartbeats 8000000 in
theorem law_go {l : Launch} {C : Cx} {Z : State → Prop} {b L : Nat} {xs : Nat → Int32} (hL : L ≤ 3072) (hx : C.1.tables.exec = Jvm.exec) (hb : C.2.2.2.2.2.2.2.code = cL_law) (hml : C.2.2.2.2.2.2.2.maxLocals = 4) (hown : C.2.2.1.vm.findClass RL = some C.2.2.2.1.cls) (hts : ∀ w ∈ lw_tbl, w.before C.2.2.2.2.1 C.2.2.1 = true) (hX : va_X b L xs C.2.2.1 C.2.2.1.heap) (hbl : b < C.2.2.1.heap.size) (hgv : (Jvm.Cond.and given_1 narrow_1).before C.2.2.2.2.1 C.2.2.1 = true) (hend : ∀ (H : Heap) (la : Array Slot), YX room_1 l C Z H [] 600000 7302249 (F0 C.2.2.2.1 1414 la [.int 1])) : YX room_1 l C Z C.2.2.1.heap [] 0 0 (entryFrame C.2.2.2.1 ([Value.ref b] : List Value).toArray 4) := by
  obtain ⟨D, gc, hK⟩ := k_start hts
  obtain ⟨gx, hSF, hR1, hR2, hSN⟩ := sf_start hts hgv
  obtain ⟨G, hG⟩ : ∃ G : Gm, G = (D, gc, fun _ => 0, gx) := ⟨_, rfl⟩
  have hK : va_K G.1 vwCl (tysG G) C.2.2.1 := by rw [hG]; exact hK
  have hSF : SFA (gX G) (AS C) C.2.2.1 C.2.2.1.heap := by rw [hG]; exact hSF
  have hR1 : vk_R "BreadSpans$Reader" 29 "rwk" (gX G 2) C.2.2.1 := by rw [hG]; exact hR1
  have hR2 : vk_R "BreadSpans$Reader" 51 "lbm" (gX G 3) C.2.2.1 := by rw [hG]; exact hR2
  have K : OkY G C (AS C) RL cL_law 4 := ⟨hx, hb, hml, hown, fun w hw => hts w (WS_tbl hw), ⟨hK, hR1, hSN, va_AO.of (hts _ (by decide +kernel)), va_AO.of (hts _ (by decide +kernel)), va_AO.of (hts _ (by decide +kernel))⟩, fun q h => h⟩
  have Y0 : Y room_1 l G C (AS C) Z 4 0 [some (.ref b), none, none, none] [] [] 0 0 := by
    refine y_makeO (pc := 0) (fs0 := [.null, .null, .null, .null, .null, .null, .null, .int 0]) (ci := 6) K tyX6 tyX6_ok inW6 ck_L_7 it_X6 in_X6 rfl (by decide) (y_callP K c_yX6_init mw_yX6_init im_yX6_init rfl mk_L_9 ⟨Nat.le_of_ble_eq_true rfl, Nat.le_of_ble_eq_true rfl⟩ (Nat.le_of_ble_eq_true rfl)) ⟨Nat.le_of_ble_eq_true rfl, Nat.le_of_ble_eq_true rfl⟩ dL_law_0 dL_law_3 dL_law_4 ?_
    refine fun U => Y.norm (ws := bB G U) (cells := 76) (slots := 1546) rfl rfl rfl ?_
    refine y_astore_n (pc := 7) (i := 1) K dL_law_7 rfl rfl (by decide) ?_
    refine y_makeO (pc := 8) (fs0 := [.null, .null, .null, .int 0, .null, .null, .null, .null, .null, .null, .null, .null, .int 0, .int 0, .int 0, .int 0, .int 0, .null, .null, .int 0, .int 0]) (ci := 7) K tyX7 tyX7_ok inW7 ck_L_10 it_X7 in_X7 rfl (by decide) (y_callP K c_yX7_init mw_yX7_init im_yX7_init rfl mk_L_12 ⟨Nat.le_of_ble_eq_true rfl, Nat.le_of_ble_eq_true rfl⟩ (Nat.le_of_ble_eq_true rfl)) ⟨Nat.le_of_ble_eq_true rfl, Nat.le_of_ble_eq_true rfl⟩ dL_law_8 dL_law_11 dL_law_12 ?_
    refine fun v => Y.norm (ws := bX G U v) (cells := 90) (slots := 3094) bX_eq rfl rfl ?_
    refine y_astore_n (pc := 15) (i := 2) K dL_law_15 rfl rfl (by decide) ?_
    refine y_iconst (pc := 16) (v := 0) K dL_law_16 (by decide) ?_
    refine y_istore_n (pc := 17) (i := 3) K dL_law_17 rfl rfl (by decide) ?_
    intro H locs la hP hD hS hLs hn
    obtain ⟨hI, hA⟩ := gg_inj hD
    have KL : OkL (GG G U v) C b L xs := ⟨hx, hb, hml, hown, fun w hw => hts w (WS_tbl hw), hK, SFA.narrow hSF hA, ⟨hR1, hR2, hSN⟩, hI, hX, hbl, hA, hL⟩
    exact l_loop KL hend (L + 1) 0 al0 rh0 (by omega) (Nat.zero_le L) R0 H locs la al0 rh0 Sim.rf Sim.rf (gg_P hP) hS hLs hn
  rw [lg_entry_eq]
  refine Y0 C.2.2.1.heap [] _ (fun k q h => by simp at h) ⟨fun i j p q h => by simp at h, fun k q h => by simp at h⟩ va_S.rf (hasL.entry [.ref b] _ 4 (Nat.le_of_ble_eq_true rfl) rfl (fun i v hi => ?_)) (by rw [(lv_entry [.ref b] (n := 4) (Nat.le_of_ble_eq_true rfl)).1])
  match i, hi with
  | 0, hi => cases hi; exact List.mem_cons_self
  | 1, hi => cases hi
  | 2, hi => cases hi
  | 3, hi => cases hi
  | i + 4, hi => simp at hi
