def f_feed (α : Af) (w : Int64) (n : Int32) : Int32 × Af := if q_within n 1 8 = true then (if α (idD 0) 10 ≤ 60 - n then (nI ((α (idD 0) 10).toNatClampNeg + n.toNatClampNeg), q_tape α 0 w n.toNatClampNeg) else q_errP α 4) else q_errP α 1
set_option maxRecDepth 100000 in
set_option maxHeartbeats 4000000 in
theorem c_yX6_feed {l : Launch} {G : Gm} {α ρ : Af} {wd : Int64} {v : Int32} (hI : IC α) : CI 1 l G yX6_feed (Cond.code yX6_feed cX6_feed 4 (some .int)) 100 [.ref (gA G idB), .long wd, .int v] α ρ (PI (f_feed α wd v).1 (f_feed α wd v).2 ρ) := by
  obtain ⟨⟨n, h9, hn⟩, hLk, hBk, hV, ⟨t, h60, ht⟩, ⟨w, h24, hw⟩, hSh, hRb, hTp⟩ := hI
  refine CI.of [some (.ref (gA G idB)), some (.long wd), none, some (.int v)] (by decide) (Nat.le_of_ble_eq_true rfl) rfl rfl (fun C K => ?_)
  have K : Ok l _ G C RX6 cX6_feed (some .int) 4 := K
  refine x_iload_n (pc := 0) (i := 3) K dX6_feed_0 rfl rfl ?_
  refine x_iconst (pc := 1) (v := 1) K dX6_feed_1 (by decide) ?_
  refine x_bipush (pc := 2) (v := 8) K dX6_feed_2 (by decide) ?_
  refine x_S3i (pc := 4) K (c_yX6_within) mw_yX6_within st_yX6_within mk_X6_73 ⟨Nat.le_of_ble_eq_true rfl, Nat.le_of_ble_eq_true rfl, Nat.le_of_ble_eq_true rfl⟩ dX6_feed_4 ?_
  refine x_ifne_b (pc := 7) (tgt := 16) K dX6_feed_7 (by decide) (fun c_7 => ?_) (fun c_7 => ?_)
  · obtain ⟨m, hlom, hhim, rfl⟩ := wi_of (v := v) (a := 1) (b := 8) rfl rfl (by decide) (by decide) c_7
    have hcm : (nI m).toNatClampNeg = m := nI_clamp (by omega)
    refine x_aload_n (pc := 16) (i := 0) K dX6_feed_16 rfl rfl ?_
    refine gf_X6_10 (pc := 17)  K dX6_feed_17 ?_
    refine gf_X6_134 (pc := 20) (by decide) K dX6_feed_20 ?_
    refine x_bipush (pc := 23) (v := 60) K dX6_feed_23 (by decide) ?_
    refine x_iload_n (pc := 25) (i := 3) K dX6_feed_25 rfl rfl ?_
    refine x_isub (pc := 26) K dX6_feed_26 ?_
    refine x_icmp_le (pc := 27) (tgt := 36) K dX6_feed_27 (by decide) (fun c_27 => ?_) (fun c_27 => ?_)
    · have htm : t + m ≤ 60 := by rw [ht, show (60 : Int32) - nI m = nI (60 - m) from pk_sub (a := 60) (b := m) (by omega)] at c_27; have := (nI_leI (a := t) (b := 60 - m) (by omega) (by omega)).mp c_27; omega
      have htc : (α (idD 0) 10).toNatClampNeg = t := by rw [ht]; exact nI_clamp (by omega)
      refine x_aload_n (pc := 36) (i := 0) K dX6_feed_36 rfl rfl ?_
      refine gf_X6_10 (pc := 37)  K dX6_feed_37 ?_
      refine x_lload_n (pc := 40) (i := 1) K dX6_feed_40 rfl rfl ?_
      refine x_iload_n (pc := 41) (i := 3) K dX6_feed_41 rfl rfl ?_
      refine x_V2i (pc := 42) K (c_yX0_addToTape (by decide) ht htm) mw_yX0_addToTape ⟨im_yX0_addToTape, se_yX0_addToTape⟩ mk_X6_137 (rc_D (by decide)) rfl ⟨Nat.le_of_ble_eq_true rfl, Nat.le_of_ble_eq_true rfl, Nat.le_of_ble_eq_true rfl⟩ dX6_feed_42 ?_
      exact x_iretI (pc := 45) K dX6_feed_45 ⟨by simp (decide := true) only [f_feed, q_errP, c_7, if_pos c_27, ↓reduceIte, Bool.false_eq_true, bI_t, bI_f, hcm, htc], by simp (decide := true) only [f_feed, q_errP, c_7, if_pos c_27, ↓reduceIte, Bool.false_eq_true, bI_t, bI_f, hcm, htc], rfl⟩
    · refine x_aload_n (pc := 30) (i := 0) K dX6_feed_30 rfl rfl ?_
      refine x_iconst (pc := 31) (v := 4) K dX6_feed_31 (by decide) ?_
      refine x_V1i (pc := 32) K (c_yX6_error (j := 4) (by decide)) mw_yX6_error ⟨im_yX6_error, se_yX6_error⟩ mk_X6_59 rc_B rfl ⟨Nat.le_of_ble_eq_true rfl, Nat.le_of_ble_eq_true rfl, Nat.le_of_ble_eq_true rfl⟩ dX6_feed_32 ?_
      exact x_iretI (pc := 35) K dX6_feed_35 ⟨by simp (decide := true) only [f_feed, q_errP, c_7, if_neg c_27, ↓reduceIte, Bool.false_eq_true, bI_t, bI_f], by simp (decide := true) only [f_feed, q_errP, c_7, if_neg c_27, ↓reduceIte, Bool.false_eq_true, bI_t, bI_f], rfl⟩
  · refine x_aload_n (pc := 10) (i := 0) K dX6_feed_10 rfl rfl ?_
    refine x_iconst (pc := 11) (v := 1) K dX6_feed_11 (by decide) ?_
    refine x_V1i (pc := 12) K (c_yX6_error (j := 1) (by decide)) mw_yX6_error ⟨im_yX6_error, se_yX6_error⟩ mk_X6_59 rc_B rfl ⟨Nat.le_of_ble_eq_true rfl, Nat.le_of_ble_eq_true rfl, Nat.le_of_ble_eq_true rfl⟩ dX6_feed_12 ?_
    exact x_iretI (pc := 15) K dX6_feed_15 ⟨by simp (decide := true) only [f_feed, q_errP, c_7, ↓reduceIte, Bool.false_eq_true, bI_t, bI_f], by simp (decide := true) only [f_feed, q_errP, c_7, ↓reduceIte, Bool.false_eq_true, bI_t, bI_f], rfl⟩

def f_law (α : Af) (use a b c : Int32) : Int32 × Af := if q_isUse use = true then (q_gives α 0 use a b c, α) else q_errP α 1
set_option maxRecDepth 100000 in
set_option maxHeartbeats 4000000 in
theorem c_yX6_law {l : Launch} {G : Gm} {α ρ : Af} {use a b c : Int32} (hI : IC α) : CI 1 l G yX6_law (Cond.code yX6_law cX6_law 5 (some .int)) 100 [.ref (gA G idB), .int use, .int a, .int b, .int c] α ρ (PI (f_law α use a b c).1 (f_law α use a b c).2 ρ) := by
  obtain ⟨⟨n, h9, hn⟩, hLk, hBk, hV, ⟨t, h60, ht⟩, ⟨w, h24, hw⟩, hSh, hRb, hTp⟩ := hI
  refine CI.of [some (.ref (gA G idB)), some (.int use), some (.int a), some (.int b), some (.int c)] (by decide) (Nat.le_of_ble_eq_true rfl) rfl rfl (fun C K => ?_)
  have K : Ok l _ G C RX6 cX6_law (some .int) 5 := K
  refine x_iload_n (pc := 0) (i := 1) K dX6_law_0 rfl rfl ?_
  refine x_S1i (pc := 1) K (c_yX6_isUse) mw_yX6_isUse st_yX6_isUse mk_X6_141 ⟨Nat.le_of_ble_eq_true rfl, Nat.le_of_ble_eq_true rfl, Nat.le_of_ble_eq_true rfl⟩ dX6_law_1 ?_
  refine x_ifne_b (pc := 4) (tgt := 13) K dX6_law_4 (by decide) (fun c_4 => ?_) (fun c_4 => ?_)
  · refine x_aload_n (pc := 13) (i := 0) K dX6_law_13 rfl rfl ?_
    refine gf_X6_10 (pc := 14)  K dX6_law_14 ?_
    refine x_iload_n (pc := 17) (i := 1) K dX6_law_17 rfl rfl ?_
    refine x_iload_n (pc := 18) (i := 2) K dX6_law_18 rfl rfl ?_
    refine x_iload_n (pc := 19) (i := 3) K dX6_law_19 rfl rfl ?_
    refine x_iload (pc := 20) (i := 4) K dX6_law_20 rfl ?_
    refine x_V4i (pc := 22) K (c_yX0_gives (by decide) (hLk 0 (by decide))) mw_yX0_gives ⟨im_yX0_gives, se_yX0_gives⟩ mk_X6_174 (rc_D (by decide)) rfl ⟨Nat.le_of_ble_eq_true rfl, Nat.le_of_ble_eq_true rfl, Nat.le_of_ble_eq_true rfl⟩ dX6_law_22 ?_
    exact x_iretI (pc := 25) K dX6_law_25 ⟨by simp (decide := true) only [f_law, q_errP, c_4, ↓reduceIte, Bool.false_eq_true, bI_t, bI_f], by simp (decide := true) only [f_law, q_errP, c_4, ↓reduceIte, Bool.false_eq_true, bI_t, bI_f], rfl⟩
  · refine x_aload_n (pc := 7) (i := 0) K dX6_law_7 rfl rfl ?_
    refine x_iconst (pc := 8) (v := 1) K dX6_law_8 (by decide) ?_
    refine x_V1i (pc := 9) K (c_yX6_error (j := 1) (by decide)) mw_yX6_error ⟨im_yX6_error, se_yX6_error⟩ mk_X6_59 rc_B rfl ⟨Nat.le_of_ble_eq_true rfl, Nat.le_of_ble_eq_true rfl, Nat.le_of_ble_eq_true rfl⟩ dX6_law_9 ?_
    exact x_iretI (pc := 12) K dX6_law_12 ⟨by simp (decide := true) only [f_law, q_errP, c_4, ↓reduceIte, Bool.false_eq_true, bI_t, bI_f], by simp (decide := true) only [f_law, q_errP, c_4, ↓reduceIte, Bool.false_eq_true, bI_t, bI_f], rfl⟩

def f_untell (α : Af) (use : Int32) : Int32 × Af := if q_isUse use = true then (if α (idL 0 use.toNatClampNeg) 0 = 0 then 0 else 1, up α (idL 0 use.toNatClampNeg) 0 0) else q_errP α 1
set_option maxRecDepth 100000 in
set_option maxHeartbeats 4000000 in
theorem c_yX6_untell {l : Launch} {G : Gm} {α ρ : Af} {use : Int32} (hI : IC α) : CI 1 l G yX6_untell (Cond.code yX6_untell cX6_untell 3 (some .int)) 100 [.ref (gA G idB), .int use] α ρ (PI (f_untell α use).1 (f_untell α use).2 ρ) := by
  obtain ⟨⟨n, h9, hn⟩, hLk, hBk, hV, ⟨t, h60, ht⟩, ⟨w, h24, hw⟩, hSh, hRb, hTp⟩ := hI
  refine CI.of [some (.ref (gA G idB)), some (.int use), none] (by decide) (Nat.le_of_ble_eq_true rfl) rfl rfl (fun C K => ?_)
  have K : Ok l _ G C RX6 cX6_untell (some .int) 3 := K
  refine x_iload_n (pc := 0) (i := 1) K dX6_untell_0 rfl rfl ?_
  refine x_S1i (pc := 1) K (c_yX6_isUse) mw_yX6_isUse st_yX6_isUse mk_X6_141 ⟨Nat.le_of_ble_eq_true rfl, Nat.le_of_ble_eq_true rfl, Nat.le_of_ble_eq_true rfl⟩ dX6_untell_1 ?_
  refine x_ifne_b (pc := 4) (tgt := 13) K dX6_untell_4 (by decide) (fun c_4 => ?_) (fun c_4 => ?_)
  · obtain ⟨m, hlom, hhim, rfl⟩ := wi_of (v := use) (a := 0) (b := 1) rfl rfl (by decide) (by decide) c_4
    have hcm : (nI m).toNatClampNeg = m := nI_clamp (by omega)
    refine x_aload_n (pc := 13) (i := 0) K dX6_untell_13 rfl rfl ?_
    refine gf_X6_10 (pc := 14)  K dX6_untell_14 ?_
    refine gf_X6_155 (pc := 17) (by decide) K dX6_untell_17 ?_
    refine x_iload_n (pc := 20) (i := 1) K dX6_untell_20 rfl rfl ?_
    refine ab_Lw (pc := 21) (by decide) m (by omega) K dX6_untell_21 ?_
    refine gf_X6_171 (pc := 22) (by decide) (by omega) K dX6_untell_22 ?_
    refine x_if_eq (pc := 25) (tgt := 32) K dX6_untell_25 (by decide) (fun c_25 => ?_) (fun c_25 => ?_)
    · refine x_iconst (pc := 32) (v := 0) K dX6_untell_32 (by decide) ?_
      refine x_istore_n (pc := 33) (i := 2) K dX6_untell_33 rfl rfl (by decide) ?_
      refine x_aload_n (pc := 34) (i := 0) K dX6_untell_34 rfl rfl ?_
      refine gf_X6_10 (pc := 35)  K dX6_untell_35 ?_
      refine gf_X6_155 (pc := 38) (by decide) K dX6_untell_38 ?_
      refine x_iload_n (pc := 41) (i := 1) K dX6_untell_41 rfl rfl ?_
      refine ab_Lw (pc := 42) (by decide) m (by omega) K dX6_untell_42 ?_
      refine x_iconst (pc := 43) (v := 0) K dX6_untell_43 (by decide) ?_
      refine pf_X6_171 (pc := 44) (by decide) (by omega) K ⟨rfl, rfl⟩ dX6_untell_44 ?_
      refine x_iload_n (pc := 47) (i := 2) K dX6_untell_47 rfl rfl ?_
      exact x_iretI (pc := 48) K dX6_untell_48 ⟨by simp (decide := true) only [f_untell, q_errP, c_4, if_pos c_25, ↓reduceIte, Bool.false_eq_true, bI_t, bI_f, hcm], by simp (decide := true) only [f_untell, q_errP, c_4, if_pos c_25, ↓reduceIte, Bool.false_eq_true, bI_t, bI_f, hcm], rfl⟩
    · refine x_iconst (pc := 28) (v := 1) K dX6_untell_28 (by decide) ?_
      refine x_goto (pc := 29) (tgt := 33) K dX6_untell_29 (by decide) ?_
      refine x_istore_n (pc := 33) (i := 2) K dX6_untell_33 rfl rfl (by decide) ?_
      refine x_aload_n (pc := 34) (i := 0) K dX6_untell_34 rfl rfl ?_
      refine gf_X6_10 (pc := 35)  K dX6_untell_35 ?_
      refine gf_X6_155 (pc := 38) (by decide) K dX6_untell_38 ?_
      refine x_iload_n (pc := 41) (i := 1) K dX6_untell_41 rfl rfl ?_
      refine ab_Lw (pc := 42) (by decide) m (by omega) K dX6_untell_42 ?_
      refine x_iconst (pc := 43) (v := 0) K dX6_untell_43 (by decide) ?_
      refine pf_X6_171 (pc := 44) (by decide) (by omega) K ⟨rfl, rfl⟩ dX6_untell_44 ?_
      refine x_iload_n (pc := 47) (i := 2) K dX6_untell_47 rfl rfl ?_
      exact x_iretI (pc := 48) K dX6_untell_48 ⟨by simp (decide := true) only [f_untell, q_errP, c_4, if_neg c_25, ↓reduceIte, Bool.false_eq_true, bI_t, bI_f, hcm], by simp (decide := true) only [f_untell, q_errP, c_4, if_neg c_25, ↓reduceIte, Bool.false_eq_true, bI_t, bI_f, hcm], rfl⟩
  · refine x_aload_n (pc := 7) (i := 0) K dX6_untell_7 rfl rfl ?_
    refine x_iconst (pc := 8) (v := 1) K dX6_untell_8 (by decide) ?_
    refine x_V1i (pc := 9) K (c_yX6_error (j := 1) (by decide)) mw_yX6_error ⟨im_yX6_error, se_yX6_error⟩ mk_X6_59 rc_B rfl ⟨Nat.le_of_ble_eq_true rfl, Nat.le_of_ble_eq_true rfl, Nat.le_of_ble_eq_true rfl⟩ dX6_untell_9 ?_
    exact x_iretI (pc := 12) K dX6_untell_12 ⟨by simp (decide := true) only [f_untell, q_errP, c_4, ↓reduceIte, Bool.false_eq_true, bI_t, bI_f], by simp (decide := true) only [f_untell, q_errP, c_4, ↓reduceIte, Bool.false_eq_true, bI_t, bI_f], rfl⟩

theorem pos_m {m : Nat} (h : m ≤ 60) : m < 2 ^ 31 := by omega
set_option maxRecDepth 100000 in
set_option maxHeartbeats 4000000 in
theorem l_days {l : Launch} {G : Gm} {C : Cx} {P : Po} {n m : Nat} {α ρ : Af} (K : Ok l 100 G C RX6 cX6_days (some .int) 3) (hn : α (idD 0) 1 = nI n) (h9 : n ≤ 9) (hk : Lk α 0) (hm : m ≤ 60) : ∀ (j i : Nat), i + j = m → X 1 l 100 G C (P) 3 57 [some (.ref (gA G idB)), some (.int (nI m)), some (.int (nI m))] [] (q_dayN α 0 n m) ρ → X 1 l 100 G C (P) 3 39 [some (.ref (gA G idB)), some (.int (nI m)), some (.int (nI i))] [] (q_dayN α 0 n i) ρ := by
  intro j
  induction j with
  | zero =>
    intro i hi hx
    refine x_iload_n (pc := 39) (i := 2) K dX6_days_39 rfl rfl ?_
    refine x_iload_n (pc := 40) (i := 1) K dX6_days_40 rfl rfl ?_
    refine x_icmp_ge (pc := 41) (tgt := 57) K dX6_days_41 (by decide) (fun c_41 => ?_) (fun c_41 => ?_)
    · obtain rfl : i = m := by omega
      exact hx
    · exact absurd (nI_le (by omega) (by omega)) c_41
  | succ j ih =>
    intro i hi hx
    refine x_iload_n (pc := 39) (i := 2) K dX6_days_39 rfl rfl ?_
    refine x_iload_n (pc := 40) (i := 1) K dX6_days_40 rfl rfl ?_
    refine x_icmp_ge (pc := 41) (tgt := 57) K dX6_days_41 (by decide) (fun c_41 => ?_) (fun c_41 => ?_)
    · exact (nI_ge (a := i) (b := m) (by omega) (by omega) c_41).elim
    · refine x_aload_n (pc := 44) (i := 0) K dX6_days_44 rfl rfl ?_
      refine gf_X6_10 (pc := 45)  K dX6_days_45 ?_
      refine x_V0v (pc := 48) K (c_yX0_passDay (α := q_dayN α 0 n i) (by decide) ((q_dayN_D (by decide) (by decide) i).trans hn) h9 (hk.dayN (by decide))) mw_yX0_passDay ⟨im_yX0_passDay, se_yX0_passDay⟩ mk_X6_178 (rc_D (by decide)) rfl ⟨Nat.le_of_ble_eq_true rfl, Nat.le_of_ble_eq_true rfl, Nat.le_of_ble_eq_true rfl⟩ dX6_days_48 ?_
      refine x_iinc (pc := 51) (i := 2) (v := nI (i + 1)) K dX6_days_51 rfl (nI_1 _) rfl ?_
      refine x_goto (pc := 54) (tgt := 39) K dX6_days_54 (by decide) ?_
      exact ih (i + 1) (by omega) hx

def f_days (α : Af) (v : Int32) : Int32 × Af := if q_within v 1 60 = true then (if α (idD 0) 4 ≤ 9999 - v then (q_dayN α 0 (α (idD 0) 1).toNatClampNeg v.toNatClampNeg (idD 0) 4, q_dayN α 0 (α (idD 0) 1).toNatClampNeg v.toNatClampNeg) else q_errP α 3) else q_errP α 1
set_option maxRecDepth 100000 in
set_option maxHeartbeats 4000000 in
theorem c_yX6_days {l : Launch} {G : Gm} {α ρ : Af} {v : Int32} (hI : IC α) : CI 1 l G yX6_days (Cond.code yX6_days cX6_days 3 (some .int)) 100 [.ref (gA G idB), .int v] α ρ (PI (f_days α v).1 (f_days α v).2 ρ) := by
  obtain ⟨⟨n, h9, hn⟩, hLk, hBk, hV, ⟨t, h60, ht⟩, ⟨w, h24, hw⟩, hSh, hRb, hTp⟩ := hI
  refine CI.of [some (.ref (gA G idB)), some (.int v), none] (by decide) (Nat.le_of_ble_eq_true rfl) rfl rfl (fun C K => ?_)
  have K : Ok l _ G C RX6 cX6_days (some .int) 3 := K
  refine x_iload_n (pc := 0) (i := 1) K dX6_days_0 rfl rfl ?_
  refine x_iconst (pc := 1) (v := 1) K dX6_days_1 (by decide) ?_
  refine x_bipush (pc := 2) (v := 60) K dX6_days_2 (by decide) ?_
  refine x_S3i (pc := 4) K (c_yX6_within) mw_yX6_within st_yX6_within mk_X6_73 ⟨Nat.le_of_ble_eq_true rfl, Nat.le_of_ble_eq_true rfl, Nat.le_of_ble_eq_true rfl⟩ dX6_days_4 ?_
  refine x_ifne_b (pc := 7) (tgt := 16) K dX6_days_7 (by decide) (fun c_7 => ?_) (fun c_7 => ?_)
  · obtain ⟨m, hlom, hhim, rfl⟩ := wi_of (v := v) (a := 1) (b := 60) rfl rfl (by decide) (by decide) c_7
    have hcm : (nI m).toNatClampNeg = m := nI_clamp (by omega)
    refine x_aload_n (pc := 16) (i := 0) K dX6_days_16 rfl rfl ?_
    refine gf_X6_10 (pc := 17)  K dX6_days_17 ?_
    refine gf_X6_105 (pc := 20) (by decide) K dX6_days_20 ?_
    refine x_sipush (pc := 23) (v := 9999) K dX6_days_23 (by decide) ?_
    refine x_iload_n (pc := 26) (i := 1) K dX6_days_26 rfl rfl ?_
    refine x_isub (pc := 27) K dX6_days_27 ?_
    refine x_icmp_le (pc := 28) (tgt := 37) K dX6_days_28 (by decide) (fun c_28 => ?_) (fun c_28 => ?_)
    · have hnc : (α (idD 0) 1).toNatClampNeg = n := by rw [hn]; exact nI_clamp (by omega)
      refine x_iconst (pc := 37) (v := 0) K dX6_days_37 (by decide) ?_
      refine x_istore_n (pc := 38) (i := 2) K dX6_days_38 rfl rfl (by decide) ?_
      refine l_days K hn h9 (hLk 0 (by decide)) hhim m 0 (by omega) ?_
      refine x_aload_n (pc := 57) (i := 0) K dX6_days_57 rfl rfl ?_
      refine gf_X6_10 (pc := 58)  K dX6_days_58 ?_
      refine gf_X6_105 (pc := 61) (by decide) K dX6_days_61 ?_
      exact x_iretI (pc := 64) K dX6_days_64 ⟨by simp (decide := true) only [f_days, q_errP, c_7, if_pos c_28, ↓reduceIte, Bool.false_eq_true, bI_t, bI_f, hcm, hnc], by simp (decide := true) only [f_days, q_errP, c_7, if_pos c_28, ↓reduceIte, Bool.false_eq_true, bI_t, bI_f, hcm, hnc], rfl⟩
    · refine x_aload_n (pc := 31) (i := 0) K dX6_days_31 rfl rfl ?_
      refine x_iconst (pc := 32) (v := 3) K dX6_days_32 (by decide) ?_
      refine x_V1i (pc := 33) K (c_yX6_error (j := 3) (by decide)) mw_yX6_error ⟨im_yX6_error, se_yX6_error⟩ mk_X6_59 rc_B rfl ⟨Nat.le_of_ble_eq_true rfl, Nat.le_of_ble_eq_true rfl, Nat.le_of_ble_eq_true rfl⟩ dX6_days_33 ?_
      exact x_iretI (pc := 36) K dX6_days_36 ⟨by simp (decide := true) only [f_days, q_errP, c_7, if_neg c_28, ↓reduceIte, Bool.false_eq_true, bI_t, bI_f], by simp (decide := true) only [f_days, q_errP, c_7, if_neg c_28, ↓reduceIte, Bool.false_eq_true, bI_t, bI_f], rfl⟩
  · refine x_aload_n (pc := 10) (i := 0) K dX6_days_10 rfl rfl ?_
    refine x_iconst (pc := 11) (v := 1) K dX6_days_11 (by decide) ?_
    refine x_V1i (pc := 12) K (c_yX6_error (j := 1) (by decide)) mw_yX6_error ⟨im_yX6_error, se_yX6_error⟩ mk_X6_59 rc_B rfl ⟨Nat.le_of_ble_eq_true rfl, Nat.le_of_ble_eq_true rfl, Nat.le_of_ble_eq_true rfl⟩ dX6_days_12 ?_
    exact x_iretI (pc := 15) K dX6_days_15 ⟨by simp (decide := true) only [f_days, q_errP, c_7, ↓reduceIte, Bool.false_eq_true, bI_t, bI_f], by simp (decide := true) only [f_days, q_errP, c_7, ↓reduceIte, Bool.false_eq_true, bI_t, bI_f], rfl⟩

set_option maxRecDepth 100000 in
set_option maxHeartbeats 4000000 in
theorem l_loose {l : Launch} {G : Gm} {C : Cx} {P : Po} {n m : Nat} {α ρ : Af} (K : Ok l 100 G C RX6 cX6_loose (some .int) 4) (hn : α (idD 0) 1 = nI n) (h9 : n ≤ 9) (hk : Lk α 0) (hm : m ≤ 30) : ∀ (j i : Nat), i + j = m → X 1 l 100 G C (P) 4 62 [some (.ref (gA G idB)), some (.int (nI m)), some (.int (q_lo α n m).1), some (.int (nI m))] [] (q_lo α n m).2 ρ → X 1 l 100 G C (P) 4 41 [some (.ref (gA G idB)), some (.int (nI m)), some (.int (q_lo α n i).1), some (.int (nI i))] [] (q_lo α n i).2 ρ := by
  intro j
  induction j with
  | zero =>
    intro i hi hx
    refine x_iload_n (pc := 41) (i := 3) K dX6_loose_41 rfl rfl ?_
    refine x_iload_n (pc := 42) (i := 1) K dX6_loose_42 rfl rfl ?_
    refine x_icmp_ge (pc := 43) (tgt := 62) K dX6_loose_43 (by decide) (fun c_43 => ?_) (fun c_43 => ?_)
    · obtain rfl : i = m := by omega
      exact hx
    · exact absurd (nI_le (by omega) (by omega)) c_43
  | succ j ih =>
    intro i hi hx
    refine x_iload_n (pc := 41) (i := 3) K dX6_loose_41 rfl rfl ?_
    refine x_iload_n (pc := 42) (i := 1) K dX6_loose_42 rfl rfl ?_
    refine x_icmp_ge (pc := 43) (tgt := 62) K dX6_loose_43 (by decide) (fun c_43 => ?_) (fun c_43 => ?_)
    · exact (nI_ge (a := i) (b := m) (by omega) (by omega) c_43).elim
    · refine x_iload_n (pc := 46) (i := 2) K dX6_loose_46 rfl rfl ?_
      refine x_aload_n (pc := 47) (i := 0) K dX6_loose_47 rfl rfl ?_
      refine gf_X6_10 (pc := 48)  K dX6_loose_48 ?_
      refine x_V0i (pc := 51) K (c_yX0_passDayByDraws (α := (q_lo α n i).2) (by decide) ((q_lo_1 i).trans hn) h9 (Lk.lo hk i)) mw_yX0_passDayByDraws ⟨im_yX0_passDayByDraws, se_yX0_passDayByDraws⟩ mk_X6_181 (rc_D (by decide)) rfl ⟨Nat.le_of_ble_eq_true rfl, Nat.le_of_ble_eq_true rfl, Nat.le_of_ble_eq_true rfl⟩ dX6_loose_51 ?_
      refine x_iadd (pc := 54) K dX6_loose_54 ?_
      refine x_istore_n (pc := 55) (i := 2) K dX6_loose_55 rfl rfl (by decide) ?_
      refine x_iinc (pc := 56) (i := 3) (v := nI (i + 1)) K dX6_loose_56 rfl (nI_1 _) rfl ?_
      refine x_goto (pc := 59) (tgt := 41) K dX6_loose_59 (by decide) ?_
      exact ih (i + 1) (by omega) hx

def f_loose (α : Af) (v : Int32) : Int32 × Af := if q_within v 1 30 = true then (if α (idD 0) 4 ≤ 9999 - v then q_lo α (α (idD 0) 1).toNatClampNeg v.toNatClampNeg else q_errP α 3) else q_errP α 1
set_option maxRecDepth 100000 in
set_option maxHeartbeats 4000000 in
theorem c_yX6_loose {l : Launch} {G : Gm} {α ρ : Af} {v : Int32} (hI : IC α) : CI 1 l G yX6_loose (Cond.code yX6_loose cX6_loose 4 (some .int)) 100 [.ref (gA G idB), .int v] α ρ (PI (f_loose α v).1 (f_loose α v).2 ρ) := by
  obtain ⟨⟨n, h9, hn⟩, hLk, hBk, hV, ⟨t, h60, ht⟩, ⟨w, h24, hw⟩, hSh, hRb, hTp⟩ := hI
  refine CI.of [some (.ref (gA G idB)), some (.int v), none, none] (by decide) (Nat.le_of_ble_eq_true rfl) rfl rfl (fun C K => ?_)
  have K : Ok l _ G C RX6 cX6_loose (some .int) 4 := K
  refine x_iload_n (pc := 0) (i := 1) K dX6_loose_0 rfl rfl ?_
  refine x_iconst (pc := 1) (v := 1) K dX6_loose_1 (by decide) ?_
  refine x_bipush (pc := 2) (v := 30) K dX6_loose_2 (by decide) ?_
  refine x_S3i (pc := 4) K (c_yX6_within) mw_yX6_within st_yX6_within mk_X6_73 ⟨Nat.le_of_ble_eq_true rfl, Nat.le_of_ble_eq_true rfl, Nat.le_of_ble_eq_true rfl⟩ dX6_loose_4 ?_
  refine x_ifne_b (pc := 7) (tgt := 16) K dX6_loose_7 (by decide) (fun c_7 => ?_) (fun c_7 => ?_)
  · obtain ⟨m, hlom, hhim, rfl⟩ := wi_of (v := v) (a := 1) (b := 30) rfl rfl (by decide) (by decide) c_7
    have hcm : (nI m).toNatClampNeg = m := nI_clamp (by omega)
    refine x_aload_n (pc := 16) (i := 0) K dX6_loose_16 rfl rfl ?_
    refine gf_X6_10 (pc := 17)  K dX6_loose_17 ?_
    refine gf_X6_105 (pc := 20) (by decide) K dX6_loose_20 ?_
    refine x_sipush (pc := 23) (v := 9999) K dX6_loose_23 (by decide) ?_
    refine x_iload_n (pc := 26) (i := 1) K dX6_loose_26 rfl rfl ?_
    refine x_isub (pc := 27) K dX6_loose_27 ?_
    refine x_icmp_le (pc := 28) (tgt := 37) K dX6_loose_28 (by decide) (fun c_28 => ?_) (fun c_28 => ?_)
    · have hnc : (α (idD 0) 1).toNatClampNeg = n := by rw [hn]; exact nI_clamp (by omega)
      refine x_iconst (pc := 37) (v := 0) K dX6_loose_37 (by decide) ?_
      refine x_istore_n (pc := 38) (i := 2) K dX6_loose_38 rfl rfl (by decide) ?_
      refine x_iconst (pc := 39) (v := 0) K dX6_loose_39 (by decide) ?_
      refine x_istore_n (pc := 40) (i := 3) K dX6_loose_40 rfl rfl (by decide) ?_
      refine l_loose K hn h9 (hLk 0 (by decide)) hhim m 0 (by omega) ?_
      refine x_iload_n (pc := 62) (i := 2) K dX6_loose_62 rfl rfl ?_
      exact x_iretI (pc := 63) K dX6_loose_63 ⟨by simp (decide := true) only [f_loose, q_errP, c_7, if_pos c_28, ↓reduceIte, Bool.false_eq_true, bI_t, bI_f, hcm, hnc], by simp (decide := true) only [f_loose, q_errP, c_7, if_pos c_28, ↓reduceIte, Bool.false_eq_true, bI_t, bI_f, hcm, hnc], rfl⟩
    · refine x_aload_n (pc := 31) (i := 0) K dX6_loose_31 rfl rfl ?_
      refine x_iconst (pc := 32) (v := 3) K dX6_loose_32 (by decide) ?_
      refine x_V1i (pc := 33) K (c_yX6_error (j := 3) (by decide)) mw_yX6_error ⟨im_yX6_error, se_yX6_error⟩ mk_X6_59 rc_B rfl ⟨Nat.le_of_ble_eq_true rfl, Nat.le_of_ble_eq_true rfl, Nat.le_of_ble_eq_true rfl⟩ dX6_loose_33 ?_
      exact x_iretI (pc := 36) K dX6_loose_36 ⟨by simp (decide := true) only [f_loose, q_errP, c_7, if_neg c_28, ↓reduceIte, Bool.false_eq_true, bI_t, bI_f], by simp (decide := true) only [f_loose, q_errP, c_7, if_neg c_28, ↓reduceIte, Bool.false_eq_true, bI_t, bI_f], rfl⟩
  · refine x_aload_n (pc := 10) (i := 0) K dX6_loose_10 rfl rfl ?_
    refine x_iconst (pc := 11) (v := 1) K dX6_loose_11 (by decide) ?_
    refine x_V1i (pc := 12) K (c_yX6_error (j := 1) (by decide)) mw_yX6_error ⟨im_yX6_error, se_yX6_error⟩ mk_X6_59 rc_B rfl ⟨Nat.le_of_ble_eq_true rfl, Nat.le_of_ble_eq_true rfl, Nat.le_of_ble_eq_true rfl⟩ dX6_loose_12 ?_
    exact x_iretI (pc := 15) K dX6_loose_15 ⟨by simp (decide := true) only [f_loose, q_errP, c_7, ↓reduceIte, Bool.false_eq_true, bI_t, bI_f], by simp (decide := true) only [f_loose, q_errP, c_7, ↓reduceIte, Bool.false_eq_true, bI_t, bI_f], rfl⟩

def f_seed (α : Af) (v : Int32) : Int32 × Af := (α (idD 0) 7, up α (idD 0) 7 v)
set_option maxRecDepth 100000 in
set_option maxHeartbeats 4000000 in
theorem c_yX6_seed {l : Launch} {G : Gm} {α ρ : Af} {v : Int32} (hI : IC α) : CI 1 l G yX6_seed (Cond.code yX6_seed cX6_seed 3 (some .int)) 100 [.ref (gA G idB), .int v] α ρ (PI (f_seed α v).1 (f_seed α v).2 ρ) := by
  obtain ⟨⟨n, h9, hn⟩, hLk, hBk, hV, ⟨t, h60, ht⟩, ⟨w, h24, hw⟩, hSh, hRb, hTp⟩ := hI
  refine CI.of [some (.ref (gA G idB)), some (.int v), none] (by decide) (Nat.le_of_ble_eq_true rfl) rfl rfl (fun C K => ?_)
  have K : Ok l _ G C RX6 cX6_seed (some .int) 3 := K
  refine x_aload_n (pc := 0) (i := 0) K dX6_seed_0 rfl rfl ?_
  refine gf_X6_10 (pc := 1)  K dX6_seed_1 ?_
  refine gf_X6_184 (pc := 4) (by decide) K dX6_seed_4 ?_
  refine x_istore_n (pc := 7) (i := 2) K dX6_seed_7 rfl rfl (by decide) ?_
  refine x_aload_n (pc := 8) (i := 0) K dX6_seed_8 rfl rfl ?_
  refine gf_X6_10 (pc := 9)  K dX6_seed_9 ?_
  refine x_iload_n (pc := 12) (i := 1) K dX6_seed_12 rfl rfl ?_
  refine pf_X6_184 (pc := 13) (by decide) K dX6_seed_13 ?_
  refine x_iload_n (pc := 16) (i := 2) K dX6_seed_16 rfl rfl ?_
  exact x_iretI (pc := 17) K dX6_seed_17 ⟨by simp (decide := true) only [f_seed, q_errP, ↓reduceIte, Bool.false_eq_true, bI_t, bI_f], by simp (decide := true) only [f_seed, q_errP, ↓reduceIte, Bool.false_eq_true, bI_t, bI_f], rfl⟩

def f_joined (α : Af) (p load : Int32) : Int32 × Af := if q_isPlace p = true then (if q_isLoad load = true then (q_reach (q_endsU α 0) (q_bset α 0 load (α (idD 0) 1).toNatClampNeg) (α (idD 0) 1).toNatClampNeg 8 (jshl 1 p), α) else q_errP α 1) else q_errP α 1
set_option maxRecDepth 100000 in
set_option maxHeartbeats 4000000 in
theorem c_yX6_joined {l : Launch} {G : Gm} {α ρ : Af} {p load : Int32} (hI : IC α) : CI 1 l G yX6_joined (Cond.code yX6_joined cX6_joined 3 (some .int)) 100 [.ref (gA G idB), .int p, .int load] α ρ (PI (f_joined α p load).1 (f_joined α p load).2 ρ) := by
  obtain ⟨⟨n, h9, hn⟩, hLk, hBk, hV, ⟨t, h60, ht⟩, ⟨w, h24, hw⟩, hSh, hRb, hTp⟩ := hI
  refine CI.of [some (.ref (gA G idB)), some (.int p), some (.int load)] (by decide) (Nat.le_of_ble_eq_true rfl) rfl rfl (fun C K => ?_)
  have K : Ok l _ G C RX6 cX6_joined (some .int) 3 := K
  refine x_iload_n (pc := 0) (i := 1) K dX6_joined_0 rfl rfl ?_
  refine x_S1i (pc := 1) K (c_yX6_isPlace) mw_yX6_isPlace st_yX6_isPlace mk_X6_187 ⟨Nat.le_of_ble_eq_true rfl, Nat.le_of_ble_eq_true rfl, Nat.le_of_ble_eq_true rfl⟩ dX6_joined_1 ?_
  refine x_ifeq_b (pc := 4) (tgt := 14) K dX6_joined_4 (by decide) (fun c_4 => ?_) (fun c_4 => ?_)
  · refine x_aload_n (pc := 14) (i := 0) K dX6_joined_14 rfl rfl ?_
    refine x_iconst (pc := 15) (v := 1) K dX6_joined_15 (by decide) ?_
    refine x_V1i (pc := 16) K (c_yX6_error (j := 1) (by decide)) mw_yX6_error ⟨im_yX6_error, se_yX6_error⟩ mk_X6_59 rc_B rfl ⟨Nat.le_of_ble_eq_true rfl, Nat.le_of_ble_eq_true rfl, Nat.le_of_ble_eq_true rfl⟩ dX6_joined_16 ?_
    exact x_iretI (pc := 19) K dX6_joined_19 ⟨by simp (decide := true) only [f_joined, q_errP, c_4, ↓reduceIte, Bool.false_eq_true, bI_t, bI_f], by simp (decide := true) only [f_joined, q_errP, c_4, ↓reduceIte, Bool.false_eq_true, bI_t, bI_f], rfl⟩
  · refine x_iload_n (pc := 7) (i := 2) K dX6_joined_7 rfl rfl ?_
    refine x_S1i (pc := 8) K (c_yX6_isLoad) mw_yX6_isLoad st_yX6_isLoad mk_X6_127 ⟨Nat.le_of_ble_eq_true rfl, Nat.le_of_ble_eq_true rfl, Nat.le_of_ble_eq_true rfl⟩ dX6_joined_8 ?_
    refine x_ifne_b (pc := 11) (tgt := 20) K dX6_joined_11 (by decide) (fun c_11 => ?_) (fun c_11 => ?_)
    · have hnc : (α (idD 0) 1).toNatClampNeg = n := by rw [hn]; exact nI_clamp (by omega)
      refine x_aload_n (pc := 20) (i := 0) K dX6_joined_20 rfl rfl ?_
      refine gf_X6_10 (pc := 21)  K dX6_joined_21 ?_
      refine x_iload_n (pc := 24) (i := 1) K dX6_joined_24 rfl rfl ?_
      refine x_aload_n (pc := 25) (i := 0) K dX6_joined_25 rfl rfl ?_
      refine gf_X6_10 (pc := 26)  K dX6_joined_26 ?_
      refine x_iload_n (pc := 29) (i := 2) K dX6_joined_29 rfl rfl ?_
      refine x_V1i (pc := 30) K (c_yX0_bearing (by decide) hn h9) mw_yX0_bearing ⟨im_yX0_bearing, se_yX0_bearing⟩ mk_X6_190 (rc_D (by decide)) rfl ⟨Nat.le_of_ble_eq_true rfl, Nat.le_of_ble_eq_true rfl, Nat.le_of_ble_eq_true rfl⟩ dX6_joined_30 ?_
      refine x_V2i (pc := 33) K (c_yX0_reachOver (by decide) hn h9) mw_yX0_reachOver ⟨im_yX0_reachOver, se_yX0_reachOver⟩ mk_X6_193 (rc_D (by decide)) rfl ⟨Nat.le_of_ble_eq_true rfl, Nat.le_of_ble_eq_true rfl, Nat.le_of_ble_eq_true rfl⟩ dX6_joined_33 ?_
      exact x_iretI (pc := 36) K dX6_joined_36 ⟨by simp (decide := true) only [f_joined, q_errP, c_4, c_11, ↓reduceIte, Bool.false_eq_true, bI_t, bI_f, hnc], by simp (decide := true) only [f_joined, q_errP, c_4, c_11, ↓reduceIte, Bool.false_eq_true, bI_t, bI_f, hnc], rfl⟩
    · refine x_aload_n (pc := 14) (i := 0) K dX6_joined_14 rfl rfl ?_
      refine x_iconst (pc := 15) (v := 1) K dX6_joined_15 (by decide) ?_
      refine x_V1i (pc := 16) K (c_yX6_error (j := 1) (by decide)) mw_yX6_error ⟨im_yX6_error, se_yX6_error⟩ mk_X6_59 rc_B rfl ⟨Nat.le_of_ble_eq_true rfl, Nat.le_of_ble_eq_true rfl, Nat.le_of_ble_eq_true rfl⟩ dX6_joined_16 ?_
      exact x_iretI (pc := 19) K dX6_joined_19 ⟨by simp (decide := true) only [f_joined, q_errP, c_4, c_11, ↓reduceIte, Bool.false_eq_true, bI_t, bI_f], by simp (decide := true) only [f_joined, q_errP, c_4, c_11, ↓reduceIte, Bool.false_eq_true, bI_t, bI_f], rfl⟩

set_option maxRecDepth 100000 in
set_option maxHeartbeats 4000000 in
theorem l_load {l : Launch} {G : Gm} {C : Cx} {n : Nat} {a b : Int32} {α ρ : Af} (K : Ok l 100 G C RX6 cX6_load (some .int) 4) (hn : α (idD 0) 1 = nI n) (h9 : n ≤ 9) : ∀ (m : Nat), m ≤ 100 → ∀ T, q_ld α n a b m = T → X 1 l 100 G C (PI T.1 T.2 ρ) 4 17 [some (.ref (gA G idB)), some (.int a), some (.int b), some (.int (nI m - 1))] [] α ρ := by
  intro m
  induction m with
  | zero =>
    intro hm T hT
    refine x_iload_n (pc := 17) (i := 3) K dX6_load_17 rfl rfl ?_
    refine x_if_lt (pc := 18) (tgt := 49) K dX6_load_18 (by decide) (fun c_18 => ?_) (fun c_18 => ?_)
    · refine x_aload_n (pc := 49) (i := 0) K dX6_load_49 rfl rfl ?_
      refine x_iconst (pc := 50) (v := 2) K dX6_load_50 (by decide) ?_
      refine x_V1i (pc := 51) K (c_yX6_error (j := 2) (by decide)) mw_yX6_error ⟨im_yX6_error, se_yX6_error⟩ mk_X6_59 rc_B rfl ⟨Nat.le_of_ble_eq_true rfl, Nat.le_of_ble_eq_true rfl, Nat.le_of_ble_eq_true rfl⟩ dX6_load_51 ?_
      exact x_iretI (pc := 54) K dX6_load_54 ⟨by rw [← hT]; rfl, by rw [← hT]; rfl, rfl⟩
    · exact absurd (by decide) c_18
  | succ m ih =>
    intro hm T hT
    refine x_iload_n (pc := 17) (i := 3) K dX6_load_17 rfl rfl ?_
    refine x_if_lt (pc := 18) (tgt := 49) K dX6_load_18 (by decide) (fun c_18 => ?_) (fun c_18 => ?_)
    · exact absurd c_18 (by rw [nI_pred]; exact nI_pos (by omega))
    · refine x_aload_n (pc := 21) (i := 0) K dX6_load_21 rfl rfl ?_
      refine gf_X6_10 (pc := 22)  K dX6_load_22 ?_
      refine x_iload_n (pc := 25) (i := 1) K dX6_load_25 rfl rfl ?_
      refine x_iload_n (pc := 26) (i := 2) K dX6_load_26 rfl rfl ?_
      refine x_aload_n (pc := 27) (i := 0) K dX6_load_27 rfl rfl ?_
      refine gf_X6_10 (pc := 28)  K dX6_load_28 ?_
      refine x_iload_n (pc := 31) (i := 3) K dX6_load_31 rfl rfl ?_
      refine x_topi K (nI_pred m) ?_
      refine x_V1i (pc := 32) K (c_yX0_bearing (by decide) hn h9) mw_yX0_bearing ⟨im_yX0_bearing, se_yX0_bearing⟩ mk_X6_190 (rc_D (by decide)) rfl ⟨Nat.le_of_ble_eq_true rfl, Nat.le_of_ble_eq_true rfl, Nat.le_of_ble_eq_true rfl⟩ dX6_load_32 ?_
      refine x_V3i (pc := 35) K (c_yX0_joins (by decide) hn h9) mw_yX0_joins ⟨im_yX0_joins, se_yX0_joins⟩ mk_X6_197 (rc_D (by decide)) rfl ⟨Nat.le_of_ble_eq_true rfl, Nat.le_of_ble_eq_true rfl, Nat.le_of_ble_eq_true rfl⟩ dX6_load_35 ?_
      refine x_ifeq_b (pc := 38) (tgt := 43) K dX6_load_38 (by decide) (fun c_38 => ?_) (fun c_38 => ?_)
      · refine x_iinc (pc := 43) (i := 3) (v := nI m - 1) K dX6_load_43 rfl (by rw [nI_pred, show Int32.ofInt (-1) = -1 from by decide]; exact (Int32.sub_eq_add_neg _ _).symm) rfl ?_
        refine x_goto (pc := 46) (tgt := 17) K dX6_load_46 (by decide) ?_
        exact ih (by omega) T (by rw [← hT]; simp only [q_ld, c_38, ↓reduceIte, Bool.false_eq_true])
      · refine x_iload_n (pc := 41) (i := 3) K dX6_load_41 rfl rfl ?_
        refine x_topi K (nI_pred m) ?_
        exact x_iretI (pc := 42) K dX6_load_42 ⟨by rw [← hT]; simp only [q_ld, c_38, ↓reduceIte], by rw [← hT]; simp only [q_ld, c_38, ↓reduceIte], rfl⟩

def f_load (α : Af) (a b : Int32) : Int32 × Af := if q_areTwo a b = true then q_ld α (α (idD 0) 1).toNatClampNeg a b 100 else q_errP α 1
set_option maxRecDepth 100000 in
set_option maxHeartbeats 4000000 in
theorem c_yX6_load {l : Launch} {G : Gm} {α ρ : Af} {a b : Int32} (hI : IC α) : CI 1 l G yX6_load (Cond.code yX6_load cX6_load 4 (some .int)) 100 [.ref (gA G idB), .int a, .int b] α ρ (PI (f_load α a b).1 (f_load α a b).2 ρ) := by
  obtain ⟨⟨n, h9, hn⟩, hLk, hBk, hV, ⟨t, h60, ht⟩, ⟨w, h24, hw⟩, hSh, hRb, hTp⟩ := hI
  refine CI.of [some (.ref (gA G idB)), some (.int a), some (.int b), none] (by decide) (Nat.le_of_ble_eq_true rfl) rfl rfl (fun C K => ?_)
  have K : Ok l _ G C RX6 cX6_load (some .int) 4 := K
  refine x_iload_n (pc := 0) (i := 1) K dX6_load_0 rfl rfl ?_
  refine x_iload_n (pc := 1) (i := 2) K dX6_load_1 rfl rfl ?_
  refine x_S2i (pc := 2) K (c_yX6_areTwoPlaces) mw_yX6_areTwoPlaces st_yX6_areTwoPlaces mk_X6_55 ⟨Nat.le_of_ble_eq_true rfl, Nat.le_of_ble_eq_true rfl, Nat.le_of_ble_eq_true rfl⟩ dX6_load_2 ?_
  refine x_ifne_b (pc := 5) (tgt := 14) K dX6_load_5 (by decide) (fun c_5 => ?_) (fun c_5 => ?_)
  · refine x_bipush (pc := 14) (v := 99) K dX6_load_14 (by decide) ?_
    refine x_istore_n (pc := 16) (i := 3) K dX6_load_16 rfl rfl (by decide) ?_
    have hnc : (α (idD 0) 1).toNatClampNeg = n := by rw [hn]; exact nI_clamp (by omega)
    exact l_load K hn h9 100 (by decide) _ (by simp only [f_load, c_5, hnc, ↓reduceIte])
  · refine x_aload_n (pc := 8) (i := 0) K dX6_load_8 rfl rfl ?_
    refine x_iconst (pc := 9) (v := 1) K dX6_load_9 (by decide) ?_
    refine x_V1i (pc := 10) K (c_yX6_error (j := 1) (by decide)) mw_yX6_error ⟨im_yX6_error, se_yX6_error⟩ mk_X6_59 rc_B rfl ⟨Nat.le_of_ble_eq_true rfl, Nat.le_of_ble_eq_true rfl, Nat.le_of_ble_eq_true rfl⟩ dX6_load_10 ?_
    exact x_iretI (pc := 13) K dX6_load_13 ⟨by simp (decide := true) only [f_load, q_errP, c_5, ↓reduceIte, Bool.false_eq_true, bI_t, bI_f], by simp (decide := true) only [f_load, q_errP, c_5, ↓reduceIte, Bool.false_eq_true, bI_t, bI_f], rfl⟩
