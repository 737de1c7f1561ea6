theorem q_take_1' {α : Af} : q_take α 2 0 (idD 2) 1 = α (idD 0) 1 := q_take_1
set_option maxRecDepth 100000 in
set_option maxHeartbeats 4000000 in
theorem l_fits {l : Launch} {G : Gm} {C : Cx} {n m s : Nat} {v : Int32} {ρ : Af} (K : Ok l 100 G C RX6 cX6_fits (some .int) 4) (h9 : n ≤ 9) (hs : s < 4) (h24 : m ≤ 24) : ∀ (j i : Nat) (β : Af), β (idD 2) 1 = nI n → β (idSh s) 1 = nI m → Lk β 2 → i + j = 61 → ∀ T, q_fi s n m j i β = T → X 1 l 100 G C (PI T.1 T.2 ρ) 4 46 [some (.ref (gA G idB)), some (.int v), some (.ref (gA G (idSh s))), some (.int (nI i))] [] β ρ := by
  intro j
  induction j with
  | zero =>
    intro i β hn hsn hk hi T hT
    refine x_iload_n (pc := 46) (i := 3) K dX6_fits_46 rfl rfl ?_
    refine x_bipush (pc := 47) (v := 60) K dX6_fits_47 (by decide) ?_
    refine x_icmp_gt (pc := 49) (tgt := 82) K dX6_fits_49 (by decide) (fun c_49 => ?_) (fun c_49 => ?_)
    · refine x_aload_n (pc := 82) (i := 0) K dX6_fits_82 rfl rfl ?_
      refine x_iconst (pc := 83) (v := 2) K dX6_fits_83 (by decide) ?_
      refine x_V1i (pc := 84) K (c_yX6_error (j := 2) (by decide)) mw_yX6_error ⟨im_yX6_error, se_yX6_error⟩ mk_X6_59 rc_B rfl ⟨Nat.le_of_ble_eq_true rfl, Nat.le_of_ble_eq_true rfl, Nat.le_of_ble_eq_true rfl⟩ dX6_fits_84 ?_
      exact x_iretI (pc := 87) K dX6_fits_87 ⟨by rw [← hT]; rfl, by rw [← hT]; rfl, rfl⟩
    · exact absurd (by rw [show i = 61 by omega]; decide) c_49
  | succ j ih =>
    intro i β hn hsn hk hi T hT
    refine x_iload_n (pc := 46) (i := 3) K dX6_fits_46 rfl rfl ?_
    refine x_bipush (pc := 47) (v := 60) K dX6_fits_47 (by decide) ?_
    refine x_icmp_gt (pc := 49) (tgt := 82) K dX6_fits_49 (by decide) (fun c_49 => ?_) (fun c_49 => ?_)
    · exact absurd ((nI_ltI (a := 60) (b := i) (by decide) (by omega)).mp c_49) (by omega)
    · refine x_aload_n (pc := 52) (i := 0) K dX6_fits_52 rfl rfl ?_
      refine gf_X6_19 (pc := 53)  K dX6_fits_53 ?_
      refine x_aload_n (pc := 56) (i := 2) K dX6_fits_56 rfl rfl ?_
      refine x_V1i (pc := 57) K (c_yX0_rightOnes (by decide) hn h9 hs hsn h24) mw_yX0_rightOnes ⟨im_yX0_rightOnes, se_yX0_rightOnes⟩ mk_X6_230 (rc_D (by decide)) rfl ⟨Nat.le_of_ble_eq_true rfl, Nat.le_of_ble_eq_true rfl, Nat.le_of_ble_eq_true rfl⟩ dX6_fits_57 ?_
      refine x_aload_n (pc := 60) (i := 2) K dX6_fits_60 rfl rfl ?_
      refine gf_X6_234 (pc := 61) hs K dX6_fits_61 ?_
      refine x_topi K (show _ = nI m from hsn) ?_
      refine x_icmp_ne (pc := 64) (tgt := 69) K dX6_fits_64 (by decide) (fun c_64 => ?_) (fun c_64 => ?_)
      · refine x_aload_n (pc := 69) (i := 0) K dX6_fits_69 rfl rfl ?_
        refine gf_X6_19 (pc := 70)  K dX6_fits_70 ?_
        refine x_V0v (pc := 73) K (c_yX0_passDay (by decide) hn h9 hk) mw_yX0_passDay ⟨im_yX0_passDay, se_yX0_passDay⟩ mk_X6_178 (rc_D (by decide)) rfl ⟨Nat.le_of_ble_eq_true rfl, Nat.le_of_ble_eq_true rfl, Nat.le_of_ble_eq_true rfl⟩ dX6_fits_73 ?_
        refine x_iinc (pc := 76) (i := 3) (v := nI (i + 1)) K dX6_fits_76 rfl (nI_1 _) rfl ?_
        refine x_goto (pc := 79) (tgt := 46) K dX6_fits_79 (by decide) ?_
        exact ih (i + 1) (q_day β 2 n) ((q_day_D (by decide) (by decide)).trans hn) (by rw [q_day_ne (by unfold idSh idD; omega) (fun _ _ => by unfold idSh idS; omega)]; exact hsn) (hk.day (by decide)) (by omega) T (by rw [← hT]; simp only [q_fi]; rw [if_neg c_64])
      · refine x_iload_n (pc := 67) (i := 3) K dX6_fits_67 rfl rfl ?_
        exact x_iretI (pc := 68) K dX6_fits_68 ⟨by rw [← hT]; simp only [q_fi]; rw [if_pos c_64], by rw [← hT]; simp only [q_fi]; rw [if_pos c_64], rfl⟩

def f_fits (α : Af) (v : Int32) : Int32 × Af := if q_isSheet v = true then (if q_miss (α (idSh v.toNatClampNeg) 0) = true then q_errP α 2 else q_fi v.toNatClampNeg (α (idD 0) 1).toNatClampNeg (α (idSh v.toNatClampNeg) 1).toNatClampNeg 61 0 (q_take α 2 0)) else q_errP α 1
set_option maxRecDepth 100000 in
set_option maxHeartbeats 4000000 in
theorem c_yX6_fits {l : Launch} {G : Gm} {α ρ : Af} {v : Int32} (hI : IC α) : CI 1 l G yX6_fits (Cond.code yX6_fits cX6_fits 4 (some .int)) 100 [.ref (gA G idB), .int v] α ρ (PI (f_fits α v).1 (f_fits α v).2 ρ) := by
  obtain ⟨⟨n, h9, hn⟩, hLk, hBk, hV, ⟨t, h60, ht⟩, ⟨w, h24, hw⟩, hSh, hRb, hTp⟩ := hI
  refine CI.of [some (.ref (gA G idB)), some (.int v), none, none] (by decide) (Nat.le_of_ble_eq_true rfl) rfl rfl (fun C K => ?_)
  have K : Ok l _ G C RX6 cX6_fits (some .int) 4 := K
  refine x_iload_n (pc := 0) (i := 1) K dX6_fits_0 rfl rfl ?_
  refine x_S1i (pc := 1) K (c_yX6_isSheet) mw_yX6_isSheet st_yX6_isSheet mk_X6_223 ⟨Nat.le_of_ble_eq_true rfl, Nat.le_of_ble_eq_true rfl, Nat.le_of_ble_eq_true rfl⟩ dX6_fits_1 ?_
  refine x_ifne_b (pc := 4) (tgt := 13) K dX6_fits_4 (by decide) (fun c_4 => ?_) (fun c_4 => ?_)
  · obtain ⟨s, hlos, hhis, rfl⟩ := wi_of (v := v) (a := 0) (b := 3) rfl rfl (by decide) (by decide) c_4
    have hss : s < 4 := by omega
    have hcs : (nI s).toNatClampNeg = s := nI_clamp (by omega)
    refine x_aload_n (pc := 13) (i := 0) K dX6_fits_13 rfl rfl ?_
    refine gf_X6_38 (pc := 14)  K dX6_fits_14 ?_
    refine x_iload_n (pc := 17) (i := 1) K dX6_fits_17 rfl rfl ?_
    refine ab_Shs (pc := 18)  s hss K dX6_fits_18 ?_
    refine x_astore_n (pc := 19) (i := 2) K dX6_fits_19 rfl rfl (by decide) ?_
    refine x_aload_n (pc := 20) (i := 2) K dX6_fits_20 rfl rfl ?_
    refine x_V0i (pc := 21) K (c_yX3_isMissing hss) mw_yX3_isMissing ⟨im_yX3_isMissing, se_yX3_isMissing⟩ mk_X6_226 (rc_Sh hss) rfl ⟨Nat.le_of_ble_eq_true rfl, Nat.le_of_ble_eq_true rfl, Nat.le_of_ble_eq_true rfl⟩ dX6_fits_21 ?_
    refine x_ifeq_b (pc := 24) (tgt := 33) K dX6_fits_24 (by decide) (fun c_24 => ?_) (fun c_24 => ?_)
    · refine x_aload_n (pc := 33) (i := 0) K dX6_fits_33 rfl rfl ?_
      refine gf_X6_19 (pc := 34)  K dX6_fits_34 ?_
      refine x_aload_n (pc := 37) (i := 0) K dX6_fits_37 rfl rfl ?_
      refine gf_X6_10 (pc := 38)  K dX6_fits_38 ?_
      refine x_V1v (pc := 41) K (c_yX0_takeFrom (by decide) (by decide) (by decide) (hBk 0 (by decide))) mw_yX0_takeFrom ⟨im_yX0_takeFrom, se_yX0_takeFrom⟩ mk_X6_200 (rc_D (by decide)) rfl ⟨Nat.le_of_ble_eq_true rfl, Nat.le_of_ble_eq_true rfl, Nat.le_of_ble_eq_true rfl⟩ dX6_fits_41 ?_
      refine x_iconst (pc := 44) (v := 0) K dX6_fits_44 (by decide) ?_
      refine x_istore_n (pc := 45) (i := 3) K dX6_fits_45 rfl rfl (by decide) ?_
      obtain ⟨m, h24, hsn⟩ := hSh s hss
      have hnc : (α (idD 0) 1).toNatClampNeg = n := by rw [hn]; exact nI_clamp (by omega)
      have hmc : (α (idSh s) 1).toNatClampNeg = m := by rw [hsn]; exact nI_clamp (by omega)
      exact l_fits K h9 hss h24 61 0 (q_take α 2 0) (q_take_1.trans hn) (by rw [q_take_ne (by unfold idSh idD; omega) (fun _ _ => by unfold idSh idS; omega) (fun _ _ => ⟨by unfold idSh idL; omega, by unfold idSh idLc; omega⟩) (by unfold idSh idTp; omega) (by unfold idSh idWt; omega)]; exact hsn) ((hLk 0 (by decide)).take (by decide) (by decide) (by decide)) (by omega) _ (by simp only [f_fits, c_4, hcs, hnc, hmc, c_24, ↓reduceIte, Bool.false_eq_true])
    · refine x_aload_n (pc := 27) (i := 0) K dX6_fits_27 rfl rfl ?_
      refine x_iconst (pc := 28) (v := 2) K dX6_fits_28 (by decide) ?_
      refine x_V1i (pc := 29) K (c_yX6_error (j := 2) (by decide)) mw_yX6_error ⟨im_yX6_error, se_yX6_error⟩ mk_X6_59 rc_B rfl ⟨Nat.le_of_ble_eq_true rfl, Nat.le_of_ble_eq_true rfl, Nat.le_of_ble_eq_true rfl⟩ dX6_fits_29 ?_
      exact x_iretI (pc := 32) K dX6_fits_32 ⟨by simp (decide := true) only [f_fits, q_errP, c_4, c_24, ↓reduceIte, Bool.false_eq_true, bI_t, bI_f, hcs], by simp (decide := true) only [f_fits, q_errP, c_4, c_24, ↓reduceIte, Bool.false_eq_true, bI_t, bI_f, hcs], rfl⟩
  · refine x_aload_n (pc := 7) (i := 0) K dX6_fits_7 rfl rfl ?_
    refine x_iconst (pc := 8) (v := 1) K dX6_fits_8 (by decide) ?_
    refine x_V1i (pc := 9) K (c_yX6_error (j := 1) (by decide)) mw_yX6_error ⟨im_yX6_error, se_yX6_error⟩ mk_X6_59 rc_B rfl ⟨Nat.le_of_ble_eq_true rfl, Nat.le_of_ble_eq_true rfl, Nat.le_of_ble_eq_true rfl⟩ dX6_fits_9 ?_
    exact x_iretI (pc := 12) K dX6_fits_12 ⟨by simp (decide := true) only [f_fits, q_errP, c_4, ↓reduceIte, Bool.false_eq_true, bI_t, bI_f], by simp (decide := true) only [f_fits, q_errP, c_4, ↓reduceIte, Bool.false_eq_true, bI_t, bI_f], rfl⟩

def f_voice (α : Af) (span vo x : Int32) : Int32 × Af := if q_within span 0 (α (idD 0) 1 - 1) = true then (if q_within vo 0 3 = true then (if (q_speak α (idS 0 span.toNatClampNeg) span vo x).2 idV 2 = 0 then q_speak α (idS 0 span.toNatClampNeg) span vo x else q_errP (q_speak α (idS 0 span.toNatClampNeg) span vo x).2 6) else q_errP α 1) else q_errP α 1
set_option maxRecDepth 100000 in
set_option maxHeartbeats 4000000 in
theorem c_yX6_voice {l : Launch} {G : Gm} {α ρ : Af} {span vo x : Int32} (hI : IC α) : CI 1 l G yX6_voice (Cond.code yX6_voice cX6_voice 5 (some .int)) 100 [.ref (gA G idB), .int span, .int vo, .int x] α ρ (PI (f_voice α span vo x).1 (f_voice α span vo x).2 ρ) := by
  obtain ⟨⟨n, h9, hn⟩, hLk, hBk, hV, ⟨t, h60, ht⟩, ⟨w, h24, hw⟩, hSh, hRb, hTp⟩ := hI
  refine CI.of [some (.ref (gA G idB)), some (.int span), some (.int vo), some (.int x), none] (by decide) (Nat.le_of_ble_eq_true rfl) rfl rfl (fun C K => ?_)
  have K : Ok l _ G C RX6 cX6_voice (some .int) 5 := K
  refine x_aload_n (pc := 0) (i := 0) K dX6_voice_0 rfl rfl ?_
  refine gf_X6_10 (pc := 1)  K dX6_voice_1 ?_
  refine x_iload_n (pc := 4) (i := 1) K dX6_voice_4 rfl rfl ?_
  refine x_V1i (pc := 5) K (c_yX0_hasSpan (by decide)) mw_yX0_hasSpan ⟨im_yX0_hasSpan, se_yX0_hasSpan⟩ mk_X6_70 (rc_D (by decide)) rfl ⟨Nat.le_of_ble_eq_true rfl, Nat.le_of_ble_eq_true rfl, Nat.le_of_ble_eq_true rfl⟩ dX6_voice_5 ?_
  refine x_ifeq_b (pc := 8) (tgt := 20) K dX6_voice_8 (by decide) (fun c_8 => ?_) (fun c_8 => ?_)
  · refine x_aload_n (pc := 20) (i := 0) K dX6_voice_20 rfl rfl ?_
    refine x_iconst (pc := 21) (v := 1) K dX6_voice_21 (by decide) ?_
    refine x_V1i (pc := 22) K (c_yX6_error (j := 1) (by decide)) mw_yX6_error ⟨im_yX6_error, se_yX6_error⟩ mk_X6_59 rc_B rfl ⟨Nat.le_of_ble_eq_true rfl, Nat.le_of_ble_eq_true rfl, Nat.le_of_ble_eq_true rfl⟩ dX6_voice_22 ?_
    exact x_iretI (pc := 25) K dX6_voice_25 ⟨by simp (decide := true) only [f_voice, q_errP, c_8, ↓reduceIte, Bool.false_eq_true, bI_t, bI_f], by simp (decide := true) only [f_voice, q_errP, c_8, ↓reduceIte, Bool.false_eq_true, bI_t, bI_f], rfl⟩
  · refine x_iload_n (pc := 11) (i := 2) K dX6_voice_11 rfl rfl ?_
    refine x_iconst (pc := 12) (v := 0) K dX6_voice_12 (by decide) ?_
    refine x_iconst (pc := 13) (v := 3) K dX6_voice_13 (by decide) ?_
    refine x_S3i (pc := 14) K (c_yX6_within) mw_yX6_within st_yX6_within mk_X6_73 ⟨Nat.le_of_ble_eq_true rfl, Nat.le_of_ble_eq_true rfl, Nat.le_of_ble_eq_true rfl⟩ dX6_voice_14 ?_
    refine x_ifne_b (pc := 17) (tgt := 26) K dX6_voice_17 (by decide) (fun c_17 => ?_) (fun c_17 => ?_)
    · obtain ⟨j, hj, rfl⟩ := hs_of (v := span) (n := n) (by omega) (by rw [← hn]; exact c_8)
      have hj9 : j < 9 := by omega
      have hjc : (nI j).toNatClampNeg = j := nI_clamp (by omega)
      refine x_aload_n (pc := 26) (i := 0) K dX6_voice_26 rfl rfl ?_
      refine gf_X6_32 (pc := 27)  K dX6_voice_27 ?_
      refine x_aload_n (pc := 30) (i := 0) K dX6_voice_30 rfl rfl ?_
      refine gf_X6_10 (pc := 31)  K dX6_voice_31 ?_
      refine gf_X6_77 (pc := 34) (by decide) K dX6_voice_34 ?_
      refine x_iload_n (pc := 37) (i := 1) K dX6_voice_37 rfl rfl ?_
      refine ab_Sp (pc := 38) (by decide) j hj9 K dX6_voice_38 ?_
      refine x_iload_n (pc := 39) (i := 1) K dX6_voice_39 rfl rfl ?_
      refine x_iload_n (pc := 40) (i := 2) K dX6_voice_40 rfl rfl ?_
      refine x_iload_n (pc := 41) (i := 3) K dX6_voice_41 rfl rfl ?_
      refine x_V4i (pc := 42) K (c_yX5_speak (by decide) hj9) mw_yX5_speak ⟨im_yX5_speak, se_yX5_speak⟩ mk_X6_237 rc_V rfl ⟨Nat.le_of_ble_eq_true rfl, Nat.le_of_ble_eq_true rfl, Nat.le_of_ble_eq_true rfl⟩ dX6_voice_42 ?_
      refine x_istore (pc := 45) (i := 4) K dX6_voice_45 rfl (by decide) ?_
      refine x_aload_n (pc := 47) (i := 0) K dX6_voice_47 rfl rfl ?_
      refine gf_X6_32 (pc := 48)  K dX6_voice_48 ?_
      refine gf_X6_241 (pc := 51)  K dX6_voice_51 ?_
      refine x_if_eq (pc := 54) (tgt := 66) K dX6_voice_54 (by decide) (fun c_54 => ?_) (fun c_54 => ?_)
      · refine x_iload (pc := 66) (i := 4) K dX6_voice_66 rfl ?_
        exact x_iretI (pc := 68) K dX6_voice_68 ⟨by simp (decide := true) only [f_voice, q_errP, c_8, c_17, if_pos c_54, ↓reduceIte, Bool.false_eq_true, bI_t, bI_f, hjc], by simp (decide := true) only [f_voice, q_errP, c_8, c_17, if_pos c_54, ↓reduceIte, Bool.false_eq_true, bI_t, bI_f, hjc], rfl⟩
      · refine x_aload_n (pc := 57) (i := 0) K dX6_voice_57 rfl rfl ?_
        refine x_bipush (pc := 58) (v := 6) K dX6_voice_58 (by decide) ?_
        refine x_V1i (pc := 60) K (c_yX6_error (j := 6) (by decide)) mw_yX6_error ⟨im_yX6_error, se_yX6_error⟩ mk_X6_59 rc_B rfl ⟨Nat.le_of_ble_eq_true rfl, Nat.le_of_ble_eq_true rfl, Nat.le_of_ble_eq_true rfl⟩ dX6_voice_60 ?_
        refine x_goto (pc := 63) (tgt := 68) K dX6_voice_63 (by decide) ?_
        exact x_iretI (pc := 68) K dX6_voice_68 ⟨by simp (decide := true) only [f_voice, q_errP, c_8, c_17, if_neg c_54, ↓reduceIte, Bool.false_eq_true, bI_t, bI_f, hjc], by simp (decide := true) only [f_voice, q_errP, c_8, c_17, if_neg c_54, ↓reduceIte, Bool.false_eq_true, bI_t, bI_f, hjc], rfl⟩
    · refine x_aload_n (pc := 20) (i := 0) K dX6_voice_20 rfl rfl ?_
      refine x_iconst (pc := 21) (v := 1) K dX6_voice_21 (by decide) ?_
      refine x_V1i (pc := 22) K (c_yX6_error (j := 1) (by decide)) mw_yX6_error ⟨im_yX6_error, se_yX6_error⟩ mk_X6_59 rc_B rfl ⟨Nat.le_of_ble_eq_true rfl, Nat.le_of_ble_eq_true rfl, Nat.le_of_ble_eq_true rfl⟩ dX6_voice_22 ?_
      exact x_iretI (pc := 25) K dX6_voice_25 ⟨by simp (decide := true) only [f_voice, q_errP, c_8, c_17, ↓reduceIte, Bool.false_eq_true, bI_t, bI_f], by simp (decide := true) only [f_voice, q_errP, c_8, c_17, ↓reduceIte, Bool.false_eq_true, bI_t, bI_f], rfl⟩

def f_body (α : Af) (i : Int32) : Int32 × Af := if q_within i 0 (α idV 1 - 1) = true then (α idVt i.toNatClampNeg, α) else q_errP α 2
set_option maxRecDepth 100000 in
set_option maxHeartbeats 4000000 in
theorem c_yX6_body {l : Launch} {G : Gm} {α ρ : Af} {i : Int32} (hI : IC α) : CI 1 l G yX6_body (Cond.code yX6_body cX6_body 2 (some .int)) 100 [.ref (gA G idB), .int i] α ρ (PI (f_body α i).1 (f_body α i).2 ρ) := by
  obtain ⟨⟨n, h9, hn⟩, hLk, hBk, hV, ⟨t, h60, ht⟩, ⟨w, h24, hw⟩, hSh, hRb, hTp⟩ := hI
  refine CI.of [some (.ref (gA G idB)), some (.int i)] (by decide) (Nat.le_of_ble_eq_true rfl) rfl rfl (fun C K => ?_)
  have K : Ok l _ G C RX6 cX6_body (some .int) 2 := K
  refine x_iload_n (pc := 0) (i := 1) K dX6_body_0 rfl rfl ?_
  refine x_iconst (pc := 1) (v := 0) K dX6_body_1 (by decide) ?_
  refine x_aload_n (pc := 2) (i := 0) K dX6_body_2 rfl rfl ?_
  refine gf_X6_32 (pc := 3)  K dX6_body_3 ?_
  refine gf_X6_244 (pc := 6)  K dX6_body_6 ?_
  refine x_iconst (pc := 9) (v := 1) K dX6_body_9 (by decide) ?_
  refine x_isub (pc := 10) K dX6_body_10 ?_
  refine x_S3i (pc := 11) K (c_yX6_within) mw_yX6_within st_yX6_within mk_X6_73 ⟨Nat.le_of_ble_eq_true rfl, Nat.le_of_ble_eq_true rfl, Nat.le_of_ble_eq_true rfl⟩ dX6_body_11 ?_
  refine x_ifne_b (pc := 14) (tgt := 23) K dX6_body_14 (by decide) (fun c_14 => ?_) (fun c_14 => ?_)
  · obtain ⟨vt, hvt, hve⟩ := hV
    obtain ⟨j, hj, rfl⟩ := hs_of (v := i) (n := vt) (by omega) (by rw [← hve]; exact c_14)
    refine x_aload_n (pc := 23) (i := 0) K dX6_body_23 rfl rfl ?_
    refine gf_X6_32 (pc := 24)  K dX6_body_24 ?_
    refine gf_X6_247 (pc := 27)  K dX6_body_27 ?_
    refine x_iload_n (pc := 30) (i := 1) K dX6_body_30 rfl rfl ?_
    refine ia_Vt (pc := 31)  K (vp_in_nI (show j < 30 by omega) (by decide)) dX6_body_31 ?_
    exact x_iretI (pc := 32) K dX6_body_32 ⟨by simp (decide := true) only [f_body, q_errP, c_14, ↓reduceIte, Bool.false_eq_true, bI_t, bI_f], by simp (decide := true) only [f_body, q_errP, c_14, ↓reduceIte, Bool.false_eq_true, bI_t, bI_f], rfl⟩
  · refine x_aload_n (pc := 17) (i := 0) K dX6_body_17 rfl rfl ?_
    refine x_iconst (pc := 18) (v := 2) K dX6_body_18 (by decide) ?_
    refine x_V1i (pc := 19) K (c_yX6_error (j := 2) (by decide)) mw_yX6_error ⟨im_yX6_error, se_yX6_error⟩ mk_X6_59 rc_B rfl ⟨Nat.le_of_ble_eq_true rfl, Nat.le_of_ble_eq_true rfl, Nat.le_of_ble_eq_true rfl⟩ dX6_body_19 ?_
    exact x_iretI (pc := 22) K dX6_body_22 ⟨by simp (decide := true) only [f_body, q_errP, c_14, ↓reduceIte, Bool.false_eq_true, bI_t, bI_f], by simp (decide := true) only [f_body, q_errP, c_14, ↓reduceIte, Bool.false_eq_true, bI_t, bI_f], rfl⟩

def q_okBits (b : Int32) : Bool := if b = 0 then true else if b = 8 then true else if b = 16 then true else if b = 32 then true else false
def f_sheet (α : Af) (v b n_ : Int32) : Int32 × Af := if q_isSheet v = true then (if q_okBits b = true then (if b = 0 then (1, q_renew α v.toNatClampNeg b 0) else if 0 ≤ n_ then (if n_ ≤ 24 then (1, q_renew α v.toNatClampNeg b n_) else q_errP α 1) else q_errP α 3) else q_errP α 1) else q_errP α 1
set_option maxRecDepth 100000 in
set_option maxHeartbeats 4000000 in
theorem c_yX6_sheet {l : Launch} {G : Gm} {α ρ : Af} {v b n_ : Int32} (hI : IC α) : CI 1 l G yX6_sheet (Cond.code yX6_sheet cX6_sheet 4 (some .int)) 100 [.ref (gA G idB), .int v, .int b, .int n_] α ρ (PI (f_sheet α v b n_).1 (f_sheet α v b n_).2 ρ) := by
  obtain ⟨⟨n, h9, hn⟩, hLk, hBk, hV, ⟨t, h60, ht⟩, ⟨w, h24, hw⟩, hSh, hRb, hTp⟩ := hI
  refine CI.of [some (.ref (gA G idB)), some (.int v), some (.int b), some (.int n_)] (by decide) (Nat.le_of_ble_eq_true rfl) rfl rfl (fun C K => ?_)
  have K : Ok l _ G C RX6 cX6_sheet (some .int) 4 := K
  refine x_iload_n (pc := 0) (i := 1) K dX6_sheet_0 rfl rfl ?_
  refine x_S1i (pc := 1) K (c_yX6_isSheet) mw_yX6_isSheet st_yX6_isSheet mk_X6_223 ⟨Nat.le_of_ble_eq_true rfl, Nat.le_of_ble_eq_true rfl, Nat.le_of_ble_eq_true rfl⟩ dX6_sheet_1 ?_
  refine x_ifeq_b (pc := 4) (tgt := 29) K dX6_sheet_4 (by decide) (fun c_4 => ?_) (fun c_4 => ?_)
  · refine x_aload_n (pc := 29) (i := 0) K dX6_sheet_29 rfl rfl ?_
    refine x_iconst (pc := 30) (v := 1) K dX6_sheet_30 (by decide) ?_
    refine x_V1i (pc := 31) K (c_yX6_error (j := 1) (by decide)) mw_yX6_error ⟨im_yX6_error, se_yX6_error⟩ mk_X6_59 rc_B rfl ⟨Nat.le_of_ble_eq_true rfl, Nat.le_of_ble_eq_true rfl, Nat.le_of_ble_eq_true rfl⟩ dX6_sheet_31 ?_
    exact x_iretI (pc := 34) K dX6_sheet_34 ⟨by simp only [f_sheet, q_errP, c_4, ↓reduceIte, Bool.false_eq_true, bI_t, bI_f], by simp only [f_sheet, q_errP, c_4, ↓reduceIte, Bool.false_eq_true, bI_t, bI_f], rfl⟩
  · refine x_iload_n (pc := 7) (i := 2) K dX6_sheet_7 rfl rfl ?_
    refine x_if_eq (pc := 8) (tgt := 35) K dX6_sheet_8 (by decide) (fun c_8 => ?_) (fun c_8 => ?_)
    · obtain ⟨s, hlos, hhis, rfl⟩ := wi_of (v := v) (a := 0) (b := 3) rfl rfl (by decide) (by decide) c_4
      have hss : s < 4 := by omega
      have hcs : (nI s).toNatClampNeg = s := nI_clamp (by omega)
      refine x_iload_n (pc := 35) (i := 2) K dX6_sheet_35 rfl rfl ?_
      refine x_if_eq (pc := 36) (tgt := 61) K dX6_sheet_36 (by decide) (fun c_36 => ?_) (fun c_36 => ?_)
      · refine x_aload_n (pc := 61) (i := 0) K dX6_sheet_61 rfl rfl ?_
        refine gf_X6_38 (pc := 62)  K dX6_sheet_62 ?_
        refine x_iload_n (pc := 65) (i := 1) K dX6_sheet_65 rfl rfl ?_
        refine ab_Shs (pc := 66)  s hss K dX6_sheet_66 ?_
        refine x_iload_n (pc := 67) (i := 2) K dX6_sheet_67 rfl rfl ?_
        refine x_iload_n (pc := 68) (i := 2) K dX6_sheet_68 rfl rfl ?_
        refine x_if_ne (pc := 69) (tgt := 76) K dX6_sheet_69 (by decide) (fun c_69 => ?_) (fun c_69 => ?_)
        · exact absurd c_36 c_69
        · refine x_iconst (pc := 72) (v := 0) K dX6_sheet_72 (by decide) ?_
          refine x_goto (pc := 73) (tgt := 77) K dX6_sheet_73 (by decide) ?_
          refine x_V2v (pc := 77) K (c_yX3_renew hss) mw_yX3_renew ⟨im_yX3_renew, se_yX3_renew⟩ mk_X6_250 (rc_Sh hss) rfl ⟨Nat.le_of_ble_eq_true rfl, Nat.le_of_ble_eq_true rfl, Nat.le_of_ble_eq_true rfl⟩ dX6_sheet_77 ?_
          refine x_iconst (pc := 80) (v := 1) K dX6_sheet_80 (by decide) ?_
          exact x_iretI (pc := 81) K dX6_sheet_81 ⟨by simp only [f_sheet, q_errP, c_4, show q_okBits b = true from (by unfold q_okBits; rw [if_pos c_8]), if_pos c_36, ↓reduceIte, Bool.false_eq_true, bI_t, bI_f, hcs], by simp only [f_sheet, q_errP, c_4, show q_okBits b = true from (by unfold q_okBits; rw [if_pos c_8]), if_pos c_36, ↓reduceIte, Bool.false_eq_true, bI_t, bI_f, hcs], rfl⟩
      · exact absurd c_8 c_36
    · refine x_iload_n (pc := 11) (i := 2) K dX6_sheet_11 rfl rfl ?_
      refine x_bipush (pc := 12) (v := 8) K dX6_sheet_12 (by decide) ?_
      refine x_icmp_eq (pc := 14) (tgt := 35) K dX6_sheet_14 (by decide) (fun c_14 => ?_) (fun c_14 => ?_)
      · obtain ⟨s, hlos, hhis, rfl⟩ := wi_of (v := v) (a := 0) (b := 3) rfl rfl (by decide) (by decide) c_4
        have hss : s < 4 := by omega
        have hcs : (nI s).toNatClampNeg = s := nI_clamp (by omega)
        refine x_iload_n (pc := 35) (i := 2) K dX6_sheet_35 rfl rfl ?_
        refine x_if_eq (pc := 36) (tgt := 61) K dX6_sheet_36 (by decide) (fun c_36 => ?_) (fun c_36 => ?_)
        · exact absurd c_36 c_8
        · refine x_iload_n (pc := 39) (i := 3) K dX6_sheet_39 rfl rfl ?_
          refine x_if_ge (pc := 40) (tgt := 49) K dX6_sheet_40 (by decide) (fun c_40 => ?_) (fun c_40 => ?_)
          · refine x_iload_n (pc := 49) (i := 3) K dX6_sheet_49 rfl rfl ?_
            refine x_bipush (pc := 50) (v := 24) K dX6_sheet_50 (by decide) ?_
            refine x_icmp_le (pc := 52) (tgt := 61) K dX6_sheet_52 (by decide) (fun c_52 => ?_) (fun c_52 => ?_)
            · refine x_aload_n (pc := 61) (i := 0) K dX6_sheet_61 rfl rfl ?_
              refine gf_X6_38 (pc := 62)  K dX6_sheet_62 ?_
              refine x_iload_n (pc := 65) (i := 1) K dX6_sheet_65 rfl rfl ?_
              refine ab_Shs (pc := 66)  s hss K dX6_sheet_66 ?_
              refine x_iload_n (pc := 67) (i := 2) K dX6_sheet_67 rfl rfl ?_
              refine x_iload_n (pc := 68) (i := 2) K dX6_sheet_68 rfl rfl ?_
              refine x_if_ne (pc := 69) (tgt := 76) K dX6_sheet_69 (by decide) (fun c_69 => ?_) (fun c_69 => ?_)
              · refine x_iload_n (pc := 76) (i := 3) K dX6_sheet_76 rfl rfl ?_
                refine x_V2v (pc := 77) K (c_yX3_renew hss) mw_yX3_renew ⟨im_yX3_renew, se_yX3_renew⟩ mk_X6_250 (rc_Sh hss) rfl ⟨Nat.le_of_ble_eq_true rfl, Nat.le_of_ble_eq_true rfl, Nat.le_of_ble_eq_true rfl⟩ dX6_sheet_77 ?_
                refine x_iconst (pc := 80) (v := 1) K dX6_sheet_80 (by decide) ?_
                exact x_iretI (pc := 81) K dX6_sheet_81 ⟨by simp only [f_sheet, q_errP, c_4, show q_okBits b = true from (by unfold q_okBits; rw [if_neg c_8, if_pos c_14]), if_neg c_36, if_pos c_40, if_pos c_52, ↓reduceIte, Bool.false_eq_true, bI_t, bI_f, hcs], by simp only [f_sheet, q_errP, c_4, show q_okBits b = true from (by unfold q_okBits; rw [if_neg c_8, if_pos c_14]), if_neg c_36, if_pos c_40, if_pos c_52, ↓reduceIte, Bool.false_eq_true, bI_t, bI_f, hcs], rfl⟩
              · exact absurd c_69 c_36
            · refine x_aload_n (pc := 55) (i := 0) K dX6_sheet_55 rfl rfl ?_
              refine x_iconst (pc := 56) (v := 1) K dX6_sheet_56 (by decide) ?_
              refine x_V1i (pc := 57) K (c_yX6_error (j := 1) (by decide)) mw_yX6_error ⟨im_yX6_error, se_yX6_error⟩ mk_X6_59 rc_B rfl ⟨Nat.le_of_ble_eq_true rfl, Nat.le_of_ble_eq_true rfl, Nat.le_of_ble_eq_true rfl⟩ dX6_sheet_57 ?_
              exact x_iretI (pc := 60) K dX6_sheet_60 ⟨by simp only [f_sheet, q_errP, c_4, show q_okBits b = true from (by unfold q_okBits; rw [if_neg c_8, if_pos c_14]), if_neg c_36, if_pos c_40, if_neg c_52, ↓reduceIte, Bool.false_eq_true, bI_t, bI_f], by simp only [f_sheet, q_errP, c_4, show q_okBits b = true from (by unfold q_okBits; rw [if_neg c_8, if_pos c_14]), if_neg c_36, if_pos c_40, if_neg c_52, ↓reduceIte, Bool.false_eq_true, bI_t, bI_f], rfl⟩
          · refine x_aload_n (pc := 43) (i := 0) K dX6_sheet_43 rfl rfl ?_
            refine x_iconst (pc := 44) (v := 3) K dX6_sheet_44 (by decide) ?_
            refine x_V1i (pc := 45) K (c_yX6_error (j := 3) (by decide)) mw_yX6_error ⟨im_yX6_error, se_yX6_error⟩ mk_X6_59 rc_B rfl ⟨Nat.le_of_ble_eq_true rfl, Nat.le_of_ble_eq_true rfl, Nat.le_of_ble_eq_true rfl⟩ dX6_sheet_45 ?_
            exact x_iretI (pc := 48) K dX6_sheet_48 ⟨by simp only [f_sheet, q_errP, c_4, show q_okBits b = true from (by unfold q_okBits; rw [if_neg c_8, if_pos c_14]), if_neg c_36, if_neg c_40, ↓reduceIte, Bool.false_eq_true, bI_t, bI_f], by simp only [f_sheet, q_errP, c_4, show q_okBits b = true from (by unfold q_okBits; rw [if_neg c_8, if_pos c_14]), if_neg c_36, if_neg c_40, ↓reduceIte, Bool.false_eq_true, bI_t, bI_f], rfl⟩
      · refine x_iload_n (pc := 17) (i := 2) K dX6_sheet_17 rfl rfl ?_
        refine x_bipush (pc := 18) (v := 16) K dX6_sheet_18 (by decide) ?_
        refine x_icmp_eq (pc := 20) (tgt := 35) K dX6_sheet_20 (by decide) (fun c_20 => ?_) (fun c_20 => ?_)
        · obtain ⟨s, hlos, hhis, rfl⟩ := wi_of (v := v) (a := 0) (b := 3) rfl rfl (by decide) (by decide) c_4
          have hss : s < 4 := by omega
          have hcs : (nI s).toNatClampNeg = s := nI_clamp (by omega)
          refine x_iload_n (pc := 35) (i := 2) K dX6_sheet_35 rfl rfl ?_
          refine x_if_eq (pc := 36) (tgt := 61) K dX6_sheet_36 (by decide) (fun c_36 => ?_) (fun c_36 => ?_)
          · exact absurd c_36 c_8
          · refine x_iload_n (pc := 39) (i := 3) K dX6_sheet_39 rfl rfl ?_
            refine x_if_ge (pc := 40) (tgt := 49) K dX6_sheet_40 (by decide) (fun c_40 => ?_) (fun c_40 => ?_)
            · refine x_iload_n (pc := 49) (i := 3) K dX6_sheet_49 rfl rfl ?_
              refine x_bipush (pc := 50) (v := 24) K dX6_sheet_50 (by decide) ?_
              refine x_icmp_le (pc := 52) (tgt := 61) K dX6_sheet_52 (by decide) (fun c_52 => ?_) (fun c_52 => ?_)
              · refine x_aload_n (pc := 61) (i := 0) K dX6_sheet_61 rfl rfl ?_
                refine gf_X6_38 (pc := 62)  K dX6_sheet_62 ?_
                refine x_iload_n (pc := 65) (i := 1) K dX6_sheet_65 rfl rfl ?_
                refine ab_Shs (pc := 66)  s hss K dX6_sheet_66 ?_
                refine x_iload_n (pc := 67) (i := 2) K dX6_sheet_67 rfl rfl ?_
                refine x_iload_n (pc := 68) (i := 2) K dX6_sheet_68 rfl rfl ?_
                refine x_if_ne (pc := 69) (tgt := 76) K dX6_sheet_69 (by decide) (fun c_69 => ?_) (fun c_69 => ?_)
                · refine x_iload_n (pc := 76) (i := 3) K dX6_sheet_76 rfl rfl ?_
                  refine x_V2v (pc := 77) K (c_yX3_renew hss) mw_yX3_renew ⟨im_yX3_renew, se_yX3_renew⟩ mk_X6_250 (rc_Sh hss) rfl ⟨Nat.le_of_ble_eq_true rfl, Nat.le_of_ble_eq_true rfl, Nat.le_of_ble_eq_true rfl⟩ dX6_sheet_77 ?_
                  refine x_iconst (pc := 80) (v := 1) K dX6_sheet_80 (by decide) ?_
                  exact x_iretI (pc := 81) K dX6_sheet_81 ⟨by simp only [f_sheet, q_errP, c_4, show q_okBits b = true from (by unfold q_okBits; rw [if_neg c_8, if_neg c_14, if_pos c_20]), if_neg c_36, if_pos c_40, if_pos c_52, ↓reduceIte, Bool.false_eq_true, bI_t, bI_f, hcs], by simp only [f_sheet, q_errP, c_4, show q_okBits b = true from (by unfold q_okBits; rw [if_neg c_8, if_neg c_14, if_pos c_20]), if_neg c_36, if_pos c_40, if_pos c_52, ↓reduceIte, Bool.false_eq_true, bI_t, bI_f, hcs], rfl⟩
                · exact absurd c_69 c_36
              · refine x_aload_n (pc := 55) (i := 0) K dX6_sheet_55 rfl rfl ?_
                refine x_iconst (pc := 56) (v := 1) K dX6_sheet_56 (by decide) ?_
                refine x_V1i (pc := 57) K (c_yX6_error (j := 1) (by decide)) mw_yX6_error ⟨im_yX6_error, se_yX6_error⟩ mk_X6_59 rc_B rfl ⟨Nat.le_of_ble_eq_true rfl, Nat.le_of_ble_eq_true rfl, Nat.le_of_ble_eq_true rfl⟩ dX6_sheet_57 ?_
                exact x_iretI (pc := 60) K dX6_sheet_60 ⟨by simp only [f_sheet, q_errP, c_4, show q_okBits b = true from (by unfold q_okBits; rw [if_neg c_8, if_neg c_14, if_pos c_20]), if_neg c_36, if_pos c_40, if_neg c_52, ↓reduceIte, Bool.false_eq_true, bI_t, bI_f], by simp only [f_sheet, q_errP, c_4, show q_okBits b = true from (by unfold q_okBits; rw [if_neg c_8, if_neg c_14, if_pos c_20]), if_neg c_36, if_pos c_40, if_neg c_52, ↓reduceIte, Bool.false_eq_true, bI_t, bI_f], rfl⟩
            · refine x_aload_n (pc := 43) (i := 0) K dX6_sheet_43 rfl rfl ?_
              refine x_iconst (pc := 44) (v := 3) K dX6_sheet_44 (by decide) ?_
              refine x_V1i (pc := 45) K (c_yX6_error (j := 3) (by decide)) mw_yX6_error ⟨im_yX6_error, se_yX6_error⟩ mk_X6_59 rc_B rfl ⟨Nat.le_of_ble_eq_true rfl, Nat.le_of_ble_eq_true rfl, Nat.le_of_ble_eq_true rfl⟩ dX6_sheet_45 ?_
              exact x_iretI (pc := 48) K dX6_sheet_48 ⟨by simp only [f_sheet, q_errP, c_4, show q_okBits b = true from (by unfold q_okBits; rw [if_neg c_8, if_neg c_14, if_pos c_20]), if_neg c_36, if_neg c_40, ↓reduceIte, Bool.false_eq_true, bI_t, bI_f], by simp only [f_sheet, q_errP, c_4, show q_okBits b = true from (by unfold q_okBits; rw [if_neg c_8, if_neg c_14, if_pos c_20]), if_neg c_36, if_neg c_40, ↓reduceIte, Bool.false_eq_true, bI_t, bI_f], rfl⟩
        · refine x_iload_n (pc := 23) (i := 2) K dX6_sheet_23 rfl rfl ?_
          refine x_bipush (pc := 24) (v := 32) K dX6_sheet_24 (by decide) ?_
          refine x_icmp_eq (pc := 26) (tgt := 35) K dX6_sheet_26 (by decide) (fun c_26 => ?_) (fun c_26 => ?_)
          · obtain ⟨s, hlos, hhis, rfl⟩ := wi_of (v := v) (a := 0) (b := 3) rfl rfl (by decide) (by decide) c_4
            have hss : s < 4 := by omega
            have hcs : (nI s).toNatClampNeg = s := nI_clamp (by omega)
            refine x_iload_n (pc := 35) (i := 2) K dX6_sheet_35 rfl rfl ?_
            refine x_if_eq (pc := 36) (tgt := 61) K dX6_sheet_36 (by decide) (fun c_36 => ?_) (fun c_36 => ?_)
            · exact absurd c_36 c_8
            · refine x_iload_n (pc := 39) (i := 3) K dX6_sheet_39 rfl rfl ?_
              refine x_if_ge (pc := 40) (tgt := 49) K dX6_sheet_40 (by decide) (fun c_40 => ?_) (fun c_40 => ?_)
              · refine x_iload_n (pc := 49) (i := 3) K dX6_sheet_49 rfl rfl ?_
                refine x_bipush (pc := 50) (v := 24) K dX6_sheet_50 (by decide) ?_
                refine x_icmp_le (pc := 52) (tgt := 61) K dX6_sheet_52 (by decide) (fun c_52 => ?_) (fun c_52 => ?_)
                · refine x_aload_n (pc := 61) (i := 0) K dX6_sheet_61 rfl rfl ?_
                  refine gf_X6_38 (pc := 62)  K dX6_sheet_62 ?_
                  refine x_iload_n (pc := 65) (i := 1) K dX6_sheet_65 rfl rfl ?_
                  refine ab_Shs (pc := 66)  s hss K dX6_sheet_66 ?_
                  refine x_iload_n (pc := 67) (i := 2) K dX6_sheet_67 rfl rfl ?_
                  refine x_iload_n (pc := 68) (i := 2) K dX6_sheet_68 rfl rfl ?_
                  refine x_if_ne (pc := 69) (tgt := 76) K dX6_sheet_69 (by decide) (fun c_69 => ?_) (fun c_69 => ?_)
                  · refine x_iload_n (pc := 76) (i := 3) K dX6_sheet_76 rfl rfl ?_
                    refine x_V2v (pc := 77) K (c_yX3_renew hss) mw_yX3_renew ⟨im_yX3_renew, se_yX3_renew⟩ mk_X6_250 (rc_Sh hss) rfl ⟨Nat.le_of_ble_eq_true rfl, Nat.le_of_ble_eq_true rfl, Nat.le_of_ble_eq_true rfl⟩ dX6_sheet_77 ?_
                    refine x_iconst (pc := 80) (v := 1) K dX6_sheet_80 (by decide) ?_
                    exact x_iretI (pc := 81) K dX6_sheet_81 ⟨by simp only [f_sheet, q_errP, c_4, show q_okBits b = true from (by unfold q_okBits; rw [if_neg c_8, if_neg c_14, if_neg c_20, if_pos c_26]), if_neg c_36, if_pos c_40, if_pos c_52, ↓reduceIte, Bool.false_eq_true, bI_t, bI_f, hcs], by simp only [f_sheet, q_errP, c_4, show q_okBits b = true from (by unfold q_okBits; rw [if_neg c_8, if_neg c_14, if_neg c_20, if_pos c_26]), if_neg c_36, if_pos c_40, if_pos c_52, ↓reduceIte, Bool.false_eq_true, bI_t, bI_f, hcs], rfl⟩
                  · exact absurd c_69 c_36
                · refine x_aload_n (pc := 55) (i := 0) K dX6_sheet_55 rfl rfl ?_
                  refine x_iconst (pc := 56) (v := 1) K dX6_sheet_56 (by decide) ?_
                  refine x_V1i (pc := 57) K (c_yX6_error (j := 1) (by decide)) mw_yX6_error ⟨im_yX6_error, se_yX6_error⟩ mk_X6_59 rc_B rfl ⟨Nat.le_of_ble_eq_true rfl, Nat.le_of_ble_eq_true rfl, Nat.le_of_ble_eq_true rfl⟩ dX6_sheet_57 ?_
                  exact x_iretI (pc := 60) K dX6_sheet_60 ⟨by simp only [f_sheet, q_errP, c_4, show q_okBits b = true from (by unfold q_okBits; rw [if_neg c_8, if_neg c_14, if_neg c_20, if_pos c_26]), if_neg c_36, if_pos c_40, if_neg c_52, ↓reduceIte, Bool.false_eq_true, bI_t, bI_f], by simp only [f_sheet, q_errP, c_4, show q_okBits b = true from (by unfold q_okBits; rw [if_neg c_8, if_neg c_14, if_neg c_20, if_pos c_26]), if_neg c_36, if_pos c_40, if_neg c_52, ↓reduceIte, Bool.false_eq_true, bI_t, bI_f], rfl⟩
              · refine x_aload_n (pc := 43) (i := 0) K dX6_sheet_43 rfl rfl ?_
                refine x_iconst (pc := 44) (v := 3) K dX6_sheet_44 (by decide) ?_
                refine x_V1i (pc := 45) K (c_yX6_error (j := 3) (by decide)) mw_yX6_error ⟨im_yX6_error, se_yX6_error⟩ mk_X6_59 rc_B rfl ⟨Nat.le_of_ble_eq_true rfl, Nat.le_of_ble_eq_true rfl, Nat.le_of_ble_eq_true rfl⟩ dX6_sheet_45 ?_
                exact x_iretI (pc := 48) K dX6_sheet_48 ⟨by simp only [f_sheet, q_errP, c_4, show q_okBits b = true from (by unfold q_okBits; rw [if_neg c_8, if_neg c_14, if_neg c_20, if_pos c_26]), if_neg c_36, if_neg c_40, ↓reduceIte, Bool.false_eq_true, bI_t, bI_f], by simp only [f_sheet, q_errP, c_4, show q_okBits b = true from (by unfold q_okBits; rw [if_neg c_8, if_neg c_14, if_neg c_20, if_pos c_26]), if_neg c_36, if_neg c_40, ↓reduceIte, Bool.false_eq_true, bI_t, bI_f], rfl⟩
          · refine x_aload_n (pc := 29) (i := 0) K dX6_sheet_29 rfl rfl ?_
            refine x_iconst (pc := 30) (v := 1) K dX6_sheet_30 (by decide) ?_
            refine x_V1i (pc := 31) K (c_yX6_error (j := 1) (by decide)) mw_yX6_error ⟨im_yX6_error, se_yX6_error⟩ mk_X6_59 rc_B rfl ⟨Nat.le_of_ble_eq_true rfl, Nat.le_of_ble_eq_true rfl, Nat.le_of_ble_eq_true rfl⟩ dX6_sheet_31 ?_
            exact x_iretI (pc := 34) K dX6_sheet_34 ⟨by simp only [f_sheet, q_errP, c_4, show q_okBits b = false from (by unfold q_okBits; rw [if_neg c_8, if_neg c_14, if_neg c_20, if_neg c_26]), ↓reduceIte, Bool.false_eq_true, bI_t, bI_f], by simp only [f_sheet, q_errP, c_4, show q_okBits b = false from (by unfold q_okBits; rw [if_neg c_8, if_neg c_14, if_neg c_20, if_neg c_26]), ↓reduceIte, Bool.false_eq_true, bI_t, bI_f], rfl⟩

def f_put (α : Af) (v i x : Int32) : Int32 × Af := if q_isSheet v = true then (if q_miss (α (idSh v.toNatClampNeg) 0) = true then q_errP α 2 else if q_within i 0 (α (idSh v.toNatClampNeg) 1 - 1) = true then (1, up α (idSn v.toNatClampNeg) i.toNatClampNeg (q_nar (α (idSh v.toNatClampNeg) 0) x)) else q_errP α 1) else q_errP α 1
set_option maxRecDepth 100000 in
set_option maxHeartbeats 4000000 in
theorem c_yX6_put {l : Launch} {G : Gm} {α ρ : Af} {v i x : Int32} (hI : IC α) : CI 1 l G yX6_put (Cond.code yX6_put cX6_put 5 (some .int)) 100 [.ref (gA G idB), .int v, .int i, .int x] α ρ (PI (f_put α v i x).1 (f_put α v i x).2 ρ) := by
  obtain ⟨⟨n, h9, hn⟩, hLk, hBk, hV, ⟨t, h60, ht⟩, ⟨w, h24, hw⟩, hSh, hRb, hTp⟩ := hI
  refine CI.of [some (.ref (gA G idB)), some (.int v), some (.int i), some (.int x), none] (by decide) (Nat.le_of_ble_eq_true rfl) rfl rfl (fun C K => ?_)
  have K : Ok l _ G C RX6 cX6_put (some .int) 5 := K
  refine x_iload_n (pc := 0) (i := 1) K dX6_put_0 rfl rfl ?_
  refine x_S1i (pc := 1) K (c_yX6_isSheet) mw_yX6_isSheet st_yX6_isSheet mk_X6_223 ⟨Nat.le_of_ble_eq_true rfl, Nat.le_of_ble_eq_true rfl, Nat.le_of_ble_eq_true rfl⟩ dX6_put_1 ?_
  refine x_ifne_b (pc := 4) (tgt := 13) K dX6_put_4 (by decide) (fun c_4 => ?_) (fun c_4 => ?_)
  · obtain ⟨s, hlos, hhis, rfl⟩ := wi_of (v := v) (a := 0) (b := 3) rfl rfl (by decide) (by decide) c_4
    have hss : s < 4 := by omega
    have hcs : (nI s).toNatClampNeg = s := nI_clamp (by omega)
    refine x_aload_n (pc := 13) (i := 0) K dX6_put_13 rfl rfl ?_
    refine gf_X6_38 (pc := 14)  K dX6_put_14 ?_
    refine x_iload_n (pc := 17) (i := 1) K dX6_put_17 rfl rfl ?_
    refine ab_Shs (pc := 18)  s hss K dX6_put_18 ?_
    refine x_astore (pc := 19) (i := 4) K dX6_put_19 rfl (by decide) ?_
    refine x_aload (pc := 21) (i := 4) K dX6_put_21 rfl ?_
    refine x_V0i (pc := 23) K (c_yX3_isMissing hss) mw_yX3_isMissing ⟨im_yX3_isMissing, se_yX3_isMissing⟩ mk_X6_226 (rc_Sh hss) rfl ⟨Nat.le_of_ble_eq_true rfl, Nat.le_of_ble_eq_true rfl, Nat.le_of_ble_eq_true rfl⟩ dX6_put_23 ?_
    refine x_ifeq_b (pc := 26) (tgt := 35) K dX6_put_26 (by decide) (fun c_26 => ?_) (fun c_26 => ?_)
    · refine x_iload_n (pc := 35) (i := 2) K dX6_put_35 rfl rfl ?_
      refine x_iconst (pc := 36) (v := 0) K dX6_put_36 (by decide) ?_
      refine x_aload (pc := 37) (i := 4) K dX6_put_37 rfl ?_
      refine gf_X6_234 (pc := 39) hss K dX6_put_39 ?_
      refine x_iconst (pc := 42) (v := 1) K dX6_put_42 (by decide) ?_
      refine x_isub (pc := 43) K dX6_put_43 ?_
      refine x_S3i (pc := 44) K (c_yX6_within) mw_yX6_within st_yX6_within mk_X6_73 ⟨Nat.le_of_ble_eq_true rfl, Nat.le_of_ble_eq_true rfl, Nat.le_of_ble_eq_true rfl⟩ dX6_put_44 ?_
      refine x_ifne_b (pc := 47) (tgt := 56) K dX6_put_47 (by decide) (fun c_47 => ?_) (fun c_47 => ?_)
      · obtain ⟨m, h24m, hsn⟩ := hSh s hss
        obtain ⟨j, hj, rfl⟩ := hs_of (v := i) (n := m) (by omega) (by rw [← hsn]; exact c_47)
        have hjc : (nI j).toNatClampNeg = j := nI_clamp (by omega)
        have hj24 : j < 24 := by omega
        refine x_aload (pc := 56) (i := 4) K dX6_put_56 rfl ?_
        refine x_iload_n (pc := 58) (i := 2) K dX6_put_58 rfl rfl ?_
        refine x_iload_n (pc := 59) (i := 3) K dX6_put_59 rfl rfl ?_
        refine x_V2v (pc := 60) K (c_yX3_write hss hj24) mw_yX3_write ⟨im_yX3_write, se_yX3_write⟩ mk_X6_254 (rc_Sh hss) rfl ⟨Nat.le_of_ble_eq_true rfl, Nat.le_of_ble_eq_true rfl, Nat.le_of_ble_eq_true rfl⟩ dX6_put_60 ?_
        refine x_iconst (pc := 63) (v := 1) K dX6_put_63 (by decide) ?_
        exact x_iretI (pc := 64) K dX6_put_64 ⟨by simp (decide := true) only [f_put, q_errP, c_4, c_26, c_47, ↓reduceIte, Bool.false_eq_true, bI_t, bI_f, hcs, hjc], by simp (decide := true) only [f_put, q_errP, c_4, c_26, c_47, ↓reduceIte, Bool.false_eq_true, bI_t, bI_f, hcs, hjc], rfl⟩
      · refine x_aload_n (pc := 50) (i := 0) K dX6_put_50 rfl rfl ?_
        refine x_iconst (pc := 51) (v := 1) K dX6_put_51 (by decide) ?_
        refine x_V1i (pc := 52) K (c_yX6_error (j := 1) (by decide)) mw_yX6_error ⟨im_yX6_error, se_yX6_error⟩ mk_X6_59 rc_B rfl ⟨Nat.le_of_ble_eq_true rfl, Nat.le_of_ble_eq_true rfl, Nat.le_of_ble_eq_true rfl⟩ dX6_put_52 ?_
        exact x_iretI (pc := 55) K dX6_put_55 ⟨by simp (decide := true) only [f_put, q_errP, c_4, c_26, c_47, ↓reduceIte, Bool.false_eq_true, bI_t, bI_f, hcs], by simp (decide := true) only [f_put, q_errP, c_4, c_26, c_47, ↓reduceIte, Bool.false_eq_true, bI_t, bI_f, hcs], rfl⟩
    · refine x_aload_n (pc := 29) (i := 0) K dX6_put_29 rfl rfl ?_
      refine x_iconst (pc := 30) (v := 2) K dX6_put_30 (by decide) ?_
      refine x_V1i (pc := 31) K (c_yX6_error (j := 2) (by decide)) mw_yX6_error ⟨im_yX6_error, se_yX6_error⟩ mk_X6_59 rc_B rfl ⟨Nat.le_of_ble_eq_true rfl, Nat.le_of_ble_eq_true rfl, Nat.le_of_ble_eq_true rfl⟩ dX6_put_31 ?_
      exact x_iretI (pc := 34) K dX6_put_34 ⟨by simp (decide := true) only [f_put, q_errP, c_4, c_26, ↓reduceIte, Bool.false_eq_true, bI_t, bI_f, hcs], by simp (decide := true) only [f_put, q_errP, c_4, c_26, ↓reduceIte, Bool.false_eq_true, bI_t, bI_f, hcs], rfl⟩
  · refine x_aload_n (pc := 7) (i := 0) K dX6_put_7 rfl rfl ?_
    refine x_iconst (pc := 8) (v := 1) K dX6_put_8 (by decide) ?_
    refine x_V1i (pc := 9) K (c_yX6_error (j := 1) (by decide)) mw_yX6_error ⟨im_yX6_error, se_yX6_error⟩ mk_X6_59 rc_B rfl ⟨Nat.le_of_ble_eq_true rfl, Nat.le_of_ble_eq_true rfl, Nat.le_of_ble_eq_true rfl⟩ dX6_put_9 ?_
    exact x_iretI (pc := 12) K dX6_put_12 ⟨by simp (decide := true) only [f_put, q_errP, c_4, ↓reduceIte, Bool.false_eq_true, bI_t, bI_f], by simp (decide := true) only [f_put, q_errP, c_4, ↓reduceIte, Bool.false_eq_true, bI_t, bI_f], rfl⟩

def f_judge (α : Af) (v : Int32) : Int32 × Af := if q_isSheet v = true then (if q_miss (α (idSh v.toNatClampNeg) 0) = true then q_errP α 2 else (nI (q_right α 0 v.toNatClampNeg (α (idD 0) 1).toNatClampNeg (α (idSh v.toNatClampNeg) 1).toNatClampNeg 0), α)) else q_errP α 1
set_option maxRecDepth 100000 in
set_option maxHeartbeats 4000000 in
theorem c_yX6_judge {l : Launch} {G : Gm} {α ρ : Af} {v : Int32} (hI : IC α) : CI 1 l G yX6_judge (Cond.code yX6_judge cX6_judge 3 (some .int)) 100 [.ref (gA G idB), .int v] α ρ (PI (f_judge α v).1 (f_judge α v).2 ρ) := by
  obtain ⟨⟨n, h9, hn⟩, hLk, hBk, hV, ⟨t, h60, ht⟩, ⟨w, h24, hw⟩, hSh, hRb, hTp⟩ := hI
  refine CI.of [some (.ref (gA G idB)), some (.int v), none] (by decide) (Nat.le_of_ble_eq_true rfl) rfl rfl (fun C K => ?_)
  have K : Ok l _ G C RX6 cX6_judge (some .int) 3 := K
  refine x_iload_n (pc := 0) (i := 1) K dX6_judge_0 rfl rfl ?_
  refine x_S1i (pc := 1) K (c_yX6_isSheet) mw_yX6_isSheet st_yX6_isSheet mk_X6_223 ⟨Nat.le_of_ble_eq_true rfl, Nat.le_of_ble_eq_true rfl, Nat.le_of_ble_eq_true rfl⟩ dX6_judge_1 ?_
  refine x_ifne_b (pc := 4) (tgt := 13) K dX6_judge_4 (by decide) (fun c_4 => ?_) (fun c_4 => ?_)
  · obtain ⟨s, hlos, hhis, rfl⟩ := wi_of (v := v) (a := 0) (b := 3) rfl rfl (by decide) (by decide) c_4
    have hss : s < 4 := by omega
    have hcs : (nI s).toNatClampNeg = s := nI_clamp (by omega)
    refine x_aload_n (pc := 13) (i := 0) K dX6_judge_13 rfl rfl ?_
    refine gf_X6_38 (pc := 14)  K dX6_judge_14 ?_
    refine x_iload_n (pc := 17) (i := 1) K dX6_judge_17 rfl rfl ?_
    refine ab_Shs (pc := 18)  s hss K dX6_judge_18 ?_
    refine x_astore_n (pc := 19) (i := 2) K dX6_judge_19 rfl rfl (by decide) ?_
    refine x_aload_n (pc := 20) (i := 2) K dX6_judge_20 rfl rfl ?_
    refine x_V0i (pc := 21) K (c_yX3_isMissing hss) mw_yX3_isMissing ⟨im_yX3_isMissing, se_yX3_isMissing⟩ mk_X6_226 (rc_Sh hss) rfl ⟨Nat.le_of_ble_eq_true rfl, Nat.le_of_ble_eq_true rfl, Nat.le_of_ble_eq_true rfl⟩ dX6_judge_21 ?_
    refine x_ifeq_b (pc := 24) (tgt := 35) K dX6_judge_24 (by decide) (fun c_24 => ?_) (fun c_24 => ?_)
    · obtain ⟨m, h24m, hsn⟩ := hSh s hss
      have hnc : (α (idD 0) 1).toNatClampNeg = n := by rw [hn]; exact nI_clamp (by omega)
      have hmc : (α (idSh s) 1).toNatClampNeg = m := by rw [hsn]; exact nI_clamp (by omega)
      refine x_aload_n (pc := 35) (i := 0) K dX6_judge_35 rfl rfl ?_
      refine gf_X6_10 (pc := 36)  K dX6_judge_36 ?_
      refine x_aload_n (pc := 39) (i := 2) K dX6_judge_39 rfl rfl ?_
      refine x_V1i (pc := 40) K (c_yX0_rightOnes (by decide) hn h9 hss hsn h24m) mw_yX0_rightOnes ⟨im_yX0_rightOnes, se_yX0_rightOnes⟩ mk_X6_230 (rc_D (by decide)) rfl ⟨Nat.le_of_ble_eq_true rfl, Nat.le_of_ble_eq_true rfl, Nat.le_of_ble_eq_true rfl⟩ dX6_judge_40 ?_
      exact x_iretI (pc := 43) K dX6_judge_43 ⟨by simp (decide := true) only [f_judge, q_errP, c_4, c_24, ↓reduceIte, Bool.false_eq_true, bI_t, bI_f, hcs, hnc, hmc], by simp (decide := true) only [f_judge, q_errP, c_4, c_24, ↓reduceIte, Bool.false_eq_true, bI_t, bI_f, hcs, hnc, hmc], rfl⟩
    · refine x_aload_n (pc := 27) (i := 0) K dX6_judge_27 rfl rfl ?_
      refine x_iconst (pc := 28) (v := 2) K dX6_judge_28 (by decide) ?_
      refine x_V1i (pc := 29) K (c_yX6_error (j := 2) (by decide)) mw_yX6_error ⟨im_yX6_error, se_yX6_error⟩ mk_X6_59 rc_B rfl ⟨Nat.le_of_ble_eq_true rfl, Nat.le_of_ble_eq_true rfl, Nat.le_of_ble_eq_true rfl⟩ dX6_judge_29 ?_
      refine x_goto (pc := 32) (tgt := 43) K dX6_judge_32 (by decide) ?_
      exact x_iretI (pc := 43) K dX6_judge_43 ⟨by simp (decide := true) only [f_judge, q_errP, c_4, c_24, ↓reduceIte, Bool.false_eq_true, bI_t, bI_f, hcs], by simp (decide := true) only [f_judge, q_errP, c_4, c_24, ↓reduceIte, Bool.false_eq_true, bI_t, bI_f, hcs], rfl⟩
  · refine x_aload_n (pc := 7) (i := 0) K dX6_judge_7 rfl rfl ?_
    refine x_iconst (pc := 8) (v := 1) K dX6_judge_8 (by decide) ?_
    refine x_V1i (pc := 9) K (c_yX6_error (j := 1) (by decide)) mw_yX6_error ⟨im_yX6_error, se_yX6_error⟩ mk_X6_59 rc_B rfl ⟨Nat.le_of_ble_eq_true rfl, Nat.le_of_ble_eq_true rfl, Nat.le_of_ble_eq_true rfl⟩ dX6_judge_9 ?_
    exact x_iretI (pc := 12) K dX6_judge_12 ⟨by simp (decide := true) only [f_judge, q_errP, c_4, ↓reduceIte, Bool.false_eq_true, bI_t, bI_f], by simp (decide := true) only [f_judge, q_errP, c_4, ↓reduceIte, Bool.false_eq_true, bI_t, bI_f], rfl⟩

def f_move (α : Af) (v i v2 j n_ : Int32) : Int32 × Af := if q_isSheet v = true then (if q_isSheet v2 = true then (if q_miss (α (idSh v.toNatClampNeg) 0) = true then q_errP α 2 else if q_miss (α (idSh v2.toNatClampNeg) 0) = true then q_errP α 2 else if α (idSh v.toNatClampNeg) 0 = α (idSh v2.toNatClampNeg) 0 then (if q_hasRow (α (idSh v.toNatClampNeg) 1) i n_ = true then (if q_hasRow (α (idSh v2.toNatClampNeg) 1) j n_ = true then (n_, upR α (idSn v2.toNatClampNeg) (va_cpy (α (idSn v.toNatClampNeg)) (α (idSn v2.toNatClampNeg)) i.toNatClampNeg j.toNatClampNeg n_.toNatClampNeg)) else q_errP α 1) else q_errP α 1) else q_errP α 5) else q_errP α 1) else q_errP α 1
theorem hasRow_spec {m : Nat} {i n_ : Int32} (hm : m ≤ 24) (h : q_hasRow (nI m) i n_ = true) : ¬ i < 0 ∧ ¬ n_ < 0 ∧ i.toNatClampNeg + n_.toNatClampNeg ≤ m := by
  unfold q_hasRow at h
  by_cases c1 : i < 0
  · rw [if_pos c1] at h; cases h
  rw [if_neg c1] at h
  by_cases c2 : n_ < 0
  · rw [if_pos c2] at h; cases h
  rw [if_neg c2] at h
  by_cases c3 : nI m < n_
  · rw [if_pos c3] at h; cases h
  rw [if_neg c3] at h
  by_cases c4 : nI m - n_ < i
  · rw [if_pos c4] at h; cases h
  obtain ⟨a, ha, rfl⟩ := nI_of c1
  obtain ⟨b, hb, rfl⟩ := nI_of c2
  have h3 := mt (nI_ltI (a := m) (b := b) (by omega) hb).mpr c3
  rw [pk_sub (by omega)] at c4
  have h4 := mt (nI_ltI (a := m - b) (b := a) (by omega) ha).mpr c4
  rw [nI_clamp ha, nI_clamp hb]
  exact ⟨c1, c2, by omega⟩
set_option maxRecDepth 100000 in
set_option maxHeartbeats 4000000 in
theorem c_yX6_move {l : Launch} {G : Gm} {α ρ : Af} {v i v2 j n_ : Int32} (hI : IC α) : CI 1 l G yX6_move (Cond.code yX6_move cX6_move 8 (some .int)) 100 [.ref (gA G idB), .int v, .int i, .int v2, .int j, .int n_] α ρ (PI (f_move α v i v2 j n_).1 (f_move α v i v2 j n_).2 ρ) := by
  obtain ⟨⟨n, h9, hn⟩, hLk, hBk, hV, ⟨t, h60, ht⟩, ⟨w, h24, hw⟩, hSh, hRb, hTp⟩ := hI
  refine CI.of [some (.ref (gA G idB)), some (.int v), some (.int i), some (.int v2), some (.int j), some (.int n_), none, none] (by decide) (Nat.le_of_ble_eq_true rfl) rfl rfl (fun C K => ?_)
  have K : Ok l _ G C RX6 cX6_move (some .int) 8 := K
  refine x_iload_n (pc := 0) (i := 1) K dX6_move_0 rfl rfl ?_
  refine x_S1i (pc := 1) K (c_yX6_isSheet) mw_yX6_isSheet st_yX6_isSheet mk_X6_223 ⟨Nat.le_of_ble_eq_true rfl, Nat.le_of_ble_eq_true rfl, Nat.le_of_ble_eq_true rfl⟩ dX6_move_1 ?_
  refine x_ifeq_b (pc := 4) (tgt := 14) K dX6_move_4 (by decide) (fun c_4 => ?_) (fun c_4 => ?_)
  · refine x_aload_n (pc := 14) (i := 0) K dX6_move_14 rfl rfl ?_
    refine x_iconst (pc := 15) (v := 1) K dX6_move_15 (by decide) ?_
    refine x_V1i (pc := 16) K (c_yX6_error (j := 1) (by decide)) mw_yX6_error ⟨im_yX6_error, se_yX6_error⟩ mk_X6_59 rc_B rfl ⟨Nat.le_of_ble_eq_true rfl, Nat.le_of_ble_eq_true rfl, Nat.le_of_ble_eq_true rfl⟩ dX6_move_16 ?_
    exact x_iretI (pc := 19) K dX6_move_19 ⟨by simp (decide := true) only [f_move, q_errP, c_4, ↓reduceIte, Bool.false_eq_true, bI_t, bI_f], by simp (decide := true) only [f_move, q_errP, c_4, ↓reduceIte, Bool.false_eq_true, bI_t, bI_f], rfl⟩
  · refine x_iload_n (pc := 7) (i := 3) K dX6_move_7 rfl rfl ?_
    refine x_S1i (pc := 8) K (c_yX6_isSheet) mw_yX6_isSheet st_yX6_isSheet mk_X6_223 ⟨Nat.le_of_ble_eq_true rfl, Nat.le_of_ble_eq_true rfl, Nat.le_of_ble_eq_true rfl⟩ dX6_move_8 ?_
    refine x_ifne_b (pc := 11) (tgt := 20) K dX6_move_11 (by decide) (fun c_11 => ?_) (fun c_11 => ?_)
    · obtain ⟨s, hlos, hhis, rfl⟩ := wi_of (v := v) (a := 0) (b := 3) rfl rfl (by decide) (by decide) c_4
      have hss : s < 4 := by omega
      have hcs : (nI s).toNatClampNeg = s := nI_clamp (by omega)
      obtain ⟨s2, hlos2, hhis2, rfl⟩ := wi_of (v := v2) (a := 0) (b := 3) rfl rfl (by decide) (by decide) c_11
      have hss2 : s2 < 4 := by omega
      have hcs2 : (nI s2).toNatClampNeg = s2 := nI_clamp (by omega)
      refine x_aload_n (pc := 20) (i := 0) K dX6_move_20 rfl rfl ?_
      refine gf_X6_38 (pc := 21)  K dX6_move_21 ?_
      refine x_iload_n (pc := 24) (i := 1) K dX6_move_24 rfl rfl ?_
      refine ab_Shs (pc := 25)  s hss K dX6_move_25 ?_
      refine x_astore (pc := 26) (i := 6) K dX6_move_26 rfl (by decide) ?_
      refine x_aload_n (pc := 28) (i := 0) K dX6_move_28 rfl rfl ?_
      refine gf_X6_38 (pc := 29)  K dX6_move_29 ?_
      refine x_iload_n (pc := 32) (i := 3) K dX6_move_32 rfl rfl ?_
      refine ab_Shs (pc := 33)  s2 hss2 K dX6_move_33 ?_
      refine x_astore (pc := 34) (i := 7) K dX6_move_34 rfl (by decide) ?_
      refine x_aload (pc := 36) (i := 6) K dX6_move_36 rfl ?_
      refine x_V0i (pc := 38) K (c_yX3_isMissing hss) mw_yX3_isMissing ⟨im_yX3_isMissing, se_yX3_isMissing⟩ mk_X6_226 (rc_Sh hss) rfl ⟨Nat.le_of_ble_eq_true rfl, Nat.le_of_ble_eq_true rfl, Nat.le_of_ble_eq_true rfl⟩ dX6_move_38 ?_
      refine x_ifne_b (pc := 41) (tgt := 52) K dX6_move_41 (by decide) (fun c_41 => ?_) (fun c_41 => ?_)
      · refine x_aload_n (pc := 52) (i := 0) K dX6_move_52 rfl rfl ?_
        refine x_iconst (pc := 53) (v := 2) K dX6_move_53 (by decide) ?_
        refine x_V1i (pc := 54) K (c_yX6_error (j := 2) (by decide)) mw_yX6_error ⟨im_yX6_error, se_yX6_error⟩ mk_X6_59 rc_B rfl ⟨Nat.le_of_ble_eq_true rfl, Nat.le_of_ble_eq_true rfl, Nat.le_of_ble_eq_true rfl⟩ dX6_move_54 ?_
        exact x_iretI (pc := 57) K dX6_move_57 ⟨by simp (decide := true) only [f_move, q_errP, c_4, c_11, c_41, ↓reduceIte, Bool.false_eq_true, bI_t, bI_f, hcs, hcs2], by simp (decide := true) only [f_move, q_errP, c_4, c_11, c_41, ↓reduceIte, Bool.false_eq_true, bI_t, bI_f, hcs, hcs2], rfl⟩
      · refine x_aload (pc := 44) (i := 7) K dX6_move_44 rfl ?_
        refine x_V0i (pc := 46) K (c_yX3_isMissing hss2) mw_yX3_isMissing ⟨im_yX3_isMissing, se_yX3_isMissing⟩ mk_X6_226 (rc_Sh hss2) rfl ⟨Nat.le_of_ble_eq_true rfl, Nat.le_of_ble_eq_true rfl, Nat.le_of_ble_eq_true rfl⟩ dX6_move_46 ?_
        refine x_ifeq_b (pc := 49) (tgt := 58) K dX6_move_49 (by decide) (fun c_49 => ?_) (fun c_49 => ?_)
        · refine x_aload (pc := 58) (i := 6) K dX6_move_58 rfl ?_
          refine gf_X6_256 (pc := 60) hss K dX6_move_60 ?_
          refine x_aload (pc := 63) (i := 7) K dX6_move_63 rfl ?_
          refine gf_X6_256 (pc := 65) hss2 K dX6_move_65 ?_
          refine x_icmp_eq (pc := 68) (tgt := 77) K dX6_move_68 (by decide) (fun c_68 => ?_) (fun c_68 => ?_)
          · refine x_aload (pc := 77) (i := 6) K dX6_move_77 rfl ?_
            refine x_iload_n (pc := 79) (i := 2) K dX6_move_79 rfl rfl ?_
            refine x_iload (pc := 80) (i := 5) K dX6_move_80 rfl ?_
            refine x_V2i (pc := 82) K (c_yX3_hasRow hss) mw_yX3_hasRow ⟨im_yX3_hasRow, se_yX3_hasRow⟩ mk_X6_259 (rc_Sh hss) rfl ⟨Nat.le_of_ble_eq_true rfl, Nat.le_of_ble_eq_true rfl, Nat.le_of_ble_eq_true rfl⟩ dX6_move_82 ?_
            refine x_ifeq_b (pc := 85) (tgt := 100) K dX6_move_85 (by decide) (fun c_85 => ?_) (fun c_85 => ?_)
            · refine x_aload_n (pc := 100) (i := 0) K dX6_move_100 rfl rfl ?_
              refine x_iconst (pc := 101) (v := 1) K dX6_move_101 (by decide) ?_
              refine x_V1i (pc := 102) K (c_yX6_error (j := 1) (by decide)) mw_yX6_error ⟨im_yX6_error, se_yX6_error⟩ mk_X6_59 rc_B rfl ⟨Nat.le_of_ble_eq_true rfl, Nat.le_of_ble_eq_true rfl, Nat.le_of_ble_eq_true rfl⟩ dX6_move_102 ?_
              exact x_iretI (pc := 105) K dX6_move_105 ⟨by simp (decide := true) only [f_move, q_errP, c_4, c_11, c_41, c_49, if_pos c_68, c_85, ↓reduceIte, Bool.false_eq_true, bI_t, bI_f, hcs, hcs2], by simp (decide := true) only [f_move, q_errP, c_4, c_11, c_41, c_49, if_pos c_68, c_85, ↓reduceIte, Bool.false_eq_true, bI_t, bI_f, hcs, hcs2], rfl⟩
            · refine x_aload (pc := 88) (i := 7) K dX6_move_88 rfl ?_
              refine x_iload (pc := 90) (i := 4) K dX6_move_90 rfl ?_
              refine x_iload (pc := 92) (i := 5) K dX6_move_92 rfl ?_
              refine x_V2i (pc := 94) K (c_yX3_hasRow hss2) mw_yX3_hasRow ⟨im_yX3_hasRow, se_yX3_hasRow⟩ mk_X6_259 (rc_Sh hss2) rfl ⟨Nat.le_of_ble_eq_true rfl, Nat.le_of_ble_eq_true rfl, Nat.le_of_ble_eq_true rfl⟩ dX6_move_94 ?_
              refine x_ifne_b (pc := 97) (tgt := 106) K dX6_move_97 (by decide) (fun c_97 => ?_) (fun c_97 => ?_)
              · obtain ⟨m1, h24a, hsn1⟩ := hSh s hss
                obtain ⟨m2, h24b, hsn2⟩ := hSh s2 hss2
                have q1 := hasRow_spec (m := m1) h24a (by rw [← hsn1]; exact c_85)
                have q2 := hasRow_spec (m := m2) h24b (by rw [← hsn2]; exact c_97)
                refine x_aload (pc := 106) (i := 6) K dX6_move_106 rfl ?_
                refine gf_X6_262 (pc := 108) hss K dX6_move_108 ?_
                refine x_iload_n (pc := 111) (i := 2) K dX6_move_111 rfl rfl ?_
                refine x_aload (pc := 112) (i := 7) K dX6_move_112 rfl ?_
                refine gf_X6_262 (pc := 114) hss2 K dX6_move_114 ?_
                refine x_iload (pc := 117) (i := 4) K dX6_move_117 rfl ?_
                refine x_iload (pc := 119) (i := 5) K dX6_move_119 rfl ?_
                refine x_cpy (pc := 121) (i1 := idSn s) (i2 := idSn s2) (n1 := 24) (n2 := 24) (t := 0) (ty := .int) K ⟨by unfold idSn; omega, scr_no (by unfold idSn; omega)⟩ ⟨by unfold idSn; omega, scr_no (by unfold idSn; omega)⟩ (fun f => ent_Sn hss) (fun f => ent_Sn hss2) rfl rfl ⟨q1.1, q2.1, q1.2.1, by have := q1.2.2; omega, by have := q2.2.2; omega⟩ (fun _ _ => rfl) mk_X6_265 ⟨by decide, Nat.le_of_ble_eq_true rfl⟩ dX6_move_121 ?_
                refine x_iload (pc := 124) (i := 5) K dX6_move_124 rfl ?_
                exact x_iretI (pc := 126) K dX6_move_126 ⟨by simp (decide := true) only [f_move, q_errP, c_4, c_11, c_41, c_49, if_pos c_68, c_85, c_97, ↓reduceIte, Bool.false_eq_true, bI_t, bI_f, hcs, hcs2], by simp (decide := true) only [f_move, q_errP, c_4, c_11, c_41, c_49, if_pos c_68, c_85, c_97, ↓reduceIte, Bool.false_eq_true, bI_t, bI_f, hcs, hcs2], rfl⟩
              · refine x_aload_n (pc := 100) (i := 0) K dX6_move_100 rfl rfl ?_
                refine x_iconst (pc := 101) (v := 1) K dX6_move_101 (by decide) ?_
                refine x_V1i (pc := 102) K (c_yX6_error (j := 1) (by decide)) mw_yX6_error ⟨im_yX6_error, se_yX6_error⟩ mk_X6_59 rc_B rfl ⟨Nat.le_of_ble_eq_true rfl, Nat.le_of_ble_eq_true rfl, Nat.le_of_ble_eq_true rfl⟩ dX6_move_102 ?_
                exact x_iretI (pc := 105) K dX6_move_105 ⟨by simp (decide := true) only [f_move, q_errP, c_4, c_11, c_41, c_49, if_pos c_68, c_85, c_97, ↓reduceIte, Bool.false_eq_true, bI_t, bI_f, hcs, hcs2], by simp (decide := true) only [f_move, q_errP, c_4, c_11, c_41, c_49, if_pos c_68, c_85, c_97, ↓reduceIte, Bool.false_eq_true, bI_t, bI_f, hcs, hcs2], rfl⟩
          · refine x_aload_n (pc := 71) (i := 0) K dX6_move_71 rfl rfl ?_
            refine x_iconst (pc := 72) (v := 5) K dX6_move_72 (by decide) ?_
            refine x_V1i (pc := 73) K (c_yX6_error (j := 5) (by decide)) mw_yX6_error ⟨im_yX6_error, se_yX6_error⟩ mk_X6_59 rc_B rfl ⟨Nat.le_of_ble_eq_true rfl, Nat.le_of_ble_eq_true rfl, Nat.le_of_ble_eq_true rfl⟩ dX6_move_73 ?_
            exact x_iretI (pc := 76) K dX6_move_76 ⟨by simp (decide := true) only [f_move, q_errP, c_4, c_11, c_41, c_49, if_neg c_68, ↓reduceIte, Bool.false_eq_true, bI_t, bI_f, hcs, hcs2], by simp (decide := true) only [f_move, q_errP, c_4, c_11, c_41, c_49, if_neg c_68, ↓reduceIte, Bool.false_eq_true, bI_t, bI_f, hcs, hcs2], rfl⟩
        · refine x_aload_n (pc := 52) (i := 0) K dX6_move_52 rfl rfl ?_
          refine x_iconst (pc := 53) (v := 2) K dX6_move_53 (by decide) ?_
          refine x_V1i (pc := 54) K (c_yX6_error (j := 2) (by decide)) mw_yX6_error ⟨im_yX6_error, se_yX6_error⟩ mk_X6_59 rc_B rfl ⟨Nat.le_of_ble_eq_true rfl, Nat.le_of_ble_eq_true rfl, Nat.le_of_ble_eq_true rfl⟩ dX6_move_54 ?_
          exact x_iretI (pc := 57) K dX6_move_57 ⟨by simp (decide := true) only [f_move, q_errP, c_4, c_11, c_41, c_49, ↓reduceIte, Bool.false_eq_true, bI_t, bI_f, hcs, hcs2], by simp (decide := true) only [f_move, q_errP, c_4, c_11, c_41, c_49, ↓reduceIte, Bool.false_eq_true, bI_t, bI_f, hcs, hcs2], rfl⟩
    · refine x_aload_n (pc := 14) (i := 0) K dX6_move_14 rfl rfl ?_
      refine x_iconst (pc := 15) (v := 1) K dX6_move_15 (by decide) ?_
      refine x_V1i (pc := 16) K (c_yX6_error (j := 1) (by decide)) mw_yX6_error ⟨im_yX6_error, se_yX6_error⟩ mk_X6_59 rc_B rfl ⟨Nat.le_of_ble_eq_true rfl, Nat.le_of_ble_eq_true rfl, Nat.le_of_ble_eq_true rfl⟩ dX6_move_16 ?_
      exact x_iretI (pc := 19) K dX6_move_19 ⟨by simp (decide := true) only [f_move, q_errP, c_4, c_11, ↓reduceIte, Bool.false_eq_true, bI_t, bI_f], by simp (decide := true) only [f_move, q_errP, c_4, c_11, ↓reduceIte, Bool.false_eq_true, bI_t, bI_f], rfl⟩

set_option maxRecDepth 100000 in
set_option maxHeartbeats 4000000 in
theorem l_soaks {l : Launch} {G : Gm} {C : Cx} {n m s : Nat} {v : Int32} {ρ : Af} (K : Ok l 100 G C RX6 cX6_soaks (some .int) 5)  (h9 : n ≤ 9) (hs : s < 4) (h24 : m ≤ 24) : ∀ (j i : Nat) (β : Af), β (idD 0) 1 = nI n → β (idSh s) 1 = nI m → i + j = m → ∀ T, q_sk s n j i β = T → X 1 l 100 G C (PI T.1 T.2 ρ) 5 38 [some (.ref (gA G idB)), some (.int v), some (.ref (gA G (idSh s))), some (.int (nI i)), some (.int (nI i))] [] β ρ := by
  intro j
  induction j with
  | zero =>
    intro i β hn hsn hi T hT
    refine x_iload (pc := 38) (i := 4) K dX6_soaks_38 rfl ?_
    refine x_aload_n (pc := 40) (i := 2) K dX6_soaks_40 rfl rfl ?_
    refine gf_X6_234 (pc := 41) hs K dX6_soaks_41 ?_
    refine x_icmp_ge (pc := 44) (tgt := 104) K dX6_soaks_44 (by decide) (fun c_44 => ?_) (fun c_44 => ?_)
    · refine x_iload_n (pc := 104) (i := 3) K dX6_soaks_104 rfl rfl ?_
      exact x_iretI (pc := 105) K dX6_soaks_105 ⟨by rw [← hT]; rfl, by rw [← hT]; rfl, rfl⟩
    · exact absurd (by rw [hsn]; exact nI_le (by omega) (by omega)) c_44
  | succ j ih =>
    intro i β hn hsn hi T hT
    refine x_iload (pc := 38) (i := 4) K dX6_soaks_38 rfl ?_
    refine x_aload_n (pc := 40) (i := 2) K dX6_soaks_40 rfl rfl ?_
    refine gf_X6_234 (pc := 41) hs K dX6_soaks_41 ?_
    refine x_icmp_ge (pc := 44) (tgt := 104) K dX6_soaks_44 (by decide) (fun c_44 => ?_) (fun c_44 => ?_)
    · exact (nI_ge (a := i) (b := m) (by omega) (by omega) (by rw [hsn] at c_44; exact c_44)).elim
    · refine x_aload_n (pc := 47) (i := 0) K dX6_soaks_47 rfl rfl ?_
      refine gf_X6_10 (pc := 48)  K dX6_soaks_48 ?_
      refine x_iload (pc := 51) (i := 4) K dX6_soaks_51 rfl ?_
      refine x_V1i (pc := 53) K (c_yX0_hasSpan (by decide)) mw_yX0_hasSpan ⟨im_yX0_hasSpan, se_yX0_hasSpan⟩ mk_X6_70 (rc_D (by decide)) rfl ⟨Nat.le_of_ble_eq_true rfl, Nat.le_of_ble_eq_true rfl, Nat.le_of_ble_eq_true rfl⟩ dX6_soaks_53 ?_
      refine x_top (v' := .int (bI (decide (i < n)))) (by rw [hn, hs_iff (by omega) (by omega)]) ?_
      refine x_ifeq_b (pc := 56) (tgt := 104) K dX6_soaks_56 (by decide) (fun c_56 => ?_) (fun c_56 => ?_)
      · refine x_iload_n (pc := 104) (i := 3) K dX6_soaks_104 rfl rfl ?_
        exact x_iretI (pc := 105) K dX6_soaks_105 ⟨by rw [← hT]; simp only [q_sk]; rw [if_neg (of_decide_eq_false c_56)], by rw [← hT]; simp only [q_sk]; rw [if_neg (of_decide_eq_false c_56)], rfl⟩
      · have hin : i < n := of_decide_eq_true c_56
        refine x_aload_n (pc := 59) (i := 2) K dX6_soaks_59 rfl rfl ?_
        refine gf_X6_262 (pc := 60) hs K dX6_soaks_60 ?_
        refine x_iload (pc := 63) (i := 4) K dX6_soaks_63 rfl ?_
        refine ia_Sn (pc := 65) hs K (vp_in_nI (show i < 24 by omega) (by decide)) dX6_soaks_65 ?_
        refine x_topi K (show _ = β (idSn s) i from by rw [nI_clamp (by omega)]) ?_
        refine x_iconst (pc := 66) (v := 0) K dX6_soaks_66 (by decide) ?_
        refine x_bipush (pc := 67) (v := 9) K dX6_soaks_67 (by decide) ?_
        refine x_S3i (pc := 69) K (c_yX6_within) mw_yX6_within st_yX6_within mk_X6_73 ⟨Nat.le_of_ble_eq_true rfl, Nat.le_of_ble_eq_true rfl, Nat.le_of_ble_eq_true rfl⟩ dX6_soaks_69 ?_
        refine x_ifeq_b (pc := 72) (tgt := 104) K dX6_soaks_72 (by decide) (fun c_72 => ?_) (fun c_72 => ?_)
        · refine x_iload_n (pc := 104) (i := 3) K dX6_soaks_104 rfl rfl ?_
          exact x_iretI (pc := 105) K dX6_soaks_105 ⟨by rw [← hT]; simp only [q_sk]; rw [if_pos hin]; simp only [c_72, ↓reduceIte, Bool.false_eq_true], by rw [← hT]; simp only [q_sk]; rw [if_pos hin]; simp only [c_72, ↓reduceIte, Bool.false_eq_true], rfl⟩
        · refine x_aload_n (pc := 75) (i := 0) K dX6_soaks_75 rfl rfl ?_
          refine gf_X6_10 (pc := 76)  K dX6_soaks_76 ?_
          refine gf_X6_77 (pc := 79) (by decide) K dX6_soaks_79 ?_
          refine x_iload (pc := 82) (i := 4) K dX6_soaks_82 rfl ?_
          refine ab_Sp (pc := 84) (by decide) i (by omega) K dX6_soaks_84 ?_
          refine x_aload_n (pc := 85) (i := 2) K dX6_soaks_85 rfl rfl ?_
          refine gf_X6_262 (pc := 86) hs K dX6_soaks_86 ?_
          refine x_iload (pc := 89) (i := 4) K dX6_soaks_89 rfl ?_
          refine ia_Sn (pc := 91) hs K (vp_in_nI (show i < 24 by omega) (by decide)) dX6_soaks_91 ?_
          refine x_topi K (show _ = β (idSn s) i from by rw [nI_clamp (by omega)]) ?_
          refine pf_X6_98 (pc := 92) (by decide) (by omega) K dX6_soaks_92 ?_
          refine x_iinc (pc := 95) (i := 3) (v := nI (i + 1)) K dX6_soaks_95 rfl (nI_1 _) rfl ?_
          refine x_iinc (pc := 98) (i := 4) (v := nI (i + 1)) K dX6_soaks_98 rfl (nI_1 _) rfl ?_
          refine x_goto (pc := 101) (tgt := 38) K dX6_soaks_101 (by decide) ?_
          exact ih (i + 1) (up β (idS 0 i) 5 (β (idSn s) i)) (by rw [up_ne (nS_D (by decide))]; exact hn) (by rw [up_ne (by unfold idSh idS; omega)]; exact hsn) (by omega) T (by rw [← hT]; simp only [q_sk]; rw [if_pos hin]; exact (if_pos c_72).symm)

def f_soaks (α : Af) (v : Int32) : Int32 × Af := if q_isSheet v = true then (if q_miss (α (idSh v.toNatClampNeg) 0) = true then q_errP α 2 else q_sk v.toNatClampNeg (α (idD 0) 1).toNatClampNeg (α (idSh v.toNatClampNeg) 1).toNatClampNeg 0 α) else q_errP α 1
set_option maxRecDepth 100000 in
set_option maxHeartbeats 4000000 in
theorem c_yX6_soaks {l : Launch} {G : Gm} {α ρ : Af} {v : Int32} (hI : IC α) : CI 1 l G yX6_soaks (Cond.code yX6_soaks cX6_soaks 5 (some .int)) 100 [.ref (gA G idB), .int v] α ρ (PI (f_soaks α v).1 (f_soaks α v).2 ρ) := by
  obtain ⟨⟨n, h9, hn⟩, hLk, hBk, hV, ⟨t, h60, ht⟩, ⟨w, h24, hw⟩, hSh, hRb, hTp⟩ := hI
  refine CI.of [some (.ref (gA G idB)), some (.int v), none, none, none] (by decide) (Nat.le_of_ble_eq_true rfl) rfl rfl (fun C K => ?_)
  have K : Ok l _ G C RX6 cX6_soaks (some .int) 5 := K
  refine x_iload_n (pc := 0) (i := 1) K dX6_soaks_0 rfl rfl ?_
  refine x_S1i (pc := 1) K (c_yX6_isSheet) mw_yX6_isSheet st_yX6_isSheet mk_X6_223 ⟨Nat.le_of_ble_eq_true rfl, Nat.le_of_ble_eq_true rfl, Nat.le_of_ble_eq_true rfl⟩ dX6_soaks_1 ?_
  refine x_ifne_b (pc := 4) (tgt := 13) K dX6_soaks_4 (by decide) (fun c_4 => ?_) (fun c_4 => ?_)
  · obtain ⟨s, hlos, hhis, rfl⟩ := wi_of (v := v) (a := 0) (b := 3) rfl rfl (by decide) (by decide) c_4
    have hss : s < 4 := by omega
    have hcs : (nI s).toNatClampNeg = s := nI_clamp (by omega)
    refine x_aload_n (pc := 13) (i := 0) K dX6_soaks_13 rfl rfl ?_
    refine gf_X6_38 (pc := 14)  K dX6_soaks_14 ?_
    refine x_iload_n (pc := 17) (i := 1) K dX6_soaks_17 rfl rfl ?_
    refine ab_Shs (pc := 18)  s hss K dX6_soaks_18 ?_
    refine x_astore_n (pc := 19) (i := 2) K dX6_soaks_19 rfl rfl (by decide) ?_
    refine x_aload_n (pc := 20) (i := 2) K dX6_soaks_20 rfl rfl ?_
    refine x_V0i (pc := 21) K (c_yX3_isMissing hss) mw_yX3_isMissing ⟨im_yX3_isMissing, se_yX3_isMissing⟩ mk_X6_226 (rc_Sh hss) rfl ⟨Nat.le_of_ble_eq_true rfl, Nat.le_of_ble_eq_true rfl, Nat.le_of_ble_eq_true rfl⟩ dX6_soaks_21 ?_
    refine x_ifeq_b (pc := 24) (tgt := 33) K dX6_soaks_24 (by decide) (fun c_24 => ?_) (fun c_24 => ?_)
    · refine x_iconst (pc := 33) (v := 0) K dX6_soaks_33 (by decide) ?_
      refine x_istore_n (pc := 34) (i := 3) K dX6_soaks_34 rfl rfl (by decide) ?_
      refine x_iconst (pc := 35) (v := 0) K dX6_soaks_35 (by decide) ?_
      refine x_istore (pc := 36) (i := 4) K dX6_soaks_36 rfl (by decide) ?_
      obtain ⟨m, h24m, hsn⟩ := hSh s hss
      have hnc : (α (idD 0) 1).toNatClampNeg = n := by rw [hn]; exact nI_clamp (by omega)
      have hmc : (α (idSh s) 1).toNatClampNeg = m := by rw [hsn]; exact nI_clamp (by omega)
      exact l_soaks K h9 hss h24m m 0 α hn hsn (by omega) _ (by simp only [f_soaks, c_4, hcs, hnc, hmc, c_24, ↓reduceIte, Bool.false_eq_true])
    · refine x_aload_n (pc := 27) (i := 0) K dX6_soaks_27 rfl rfl ?_
      refine x_iconst (pc := 28) (v := 2) K dX6_soaks_28 (by decide) ?_
      refine x_V1i (pc := 29) K (c_yX6_error (j := 2) (by decide)) mw_yX6_error ⟨im_yX6_error, se_yX6_error⟩ mk_X6_59 rc_B rfl ⟨Nat.le_of_ble_eq_true rfl, Nat.le_of_ble_eq_true rfl, Nat.le_of_ble_eq_true rfl⟩ dX6_soaks_29 ?_
      exact x_iretI (pc := 32) K dX6_soaks_32 ⟨by simp (decide := true) only [f_soaks, q_errP, c_4, c_24, ↓reduceIte, Bool.false_eq_true, bI_t, bI_f, hcs], by simp (decide := true) only [f_soaks, q_errP, c_4, c_24, ↓reduceIte, Bool.false_eq_true, bI_t, bI_f, hcs], rfl⟩
  · refine x_aload_n (pc := 7) (i := 0) K dX6_soaks_7 rfl rfl ?_
    refine x_iconst (pc := 8) (v := 1) K dX6_soaks_8 (by decide) ?_
    refine x_V1i (pc := 9) K (c_yX6_error (j := 1) (by decide)) mw_yX6_error ⟨im_yX6_error, se_yX6_error⟩ mk_X6_59 rc_B rfl ⟨Nat.le_of_ble_eq_true rfl, Nat.le_of_ble_eq_true rfl, Nat.le_of_ble_eq_true rfl⟩ dX6_soaks_9 ?_
    exact x_iretI (pc := 12) K dX6_soaks_12 ⟨by simp (decide := true) only [f_soaks, q_errP, c_4, ↓reduceIte, Bool.false_eq_true, bI_t, bI_f], by simp (decide := true) only [f_soaks, q_errP, c_4, ↓reduceIte, Bool.false_eq_true, bI_t, bI_f], rfl⟩

def f_image (α : Af) : Int32 × Af := (up (q_take α 1 0) idB 7 (q_take α 1 0 idB 7 + 1) idB 7, up (q_take α 1 0) idB 7 (q_take α 1 0 idB 7 + 1))
set_option maxRecDepth 100000 in
set_option maxHeartbeats 4000000 in
theorem c_yX6_image {l : Launch} {G : Gm} {α ρ : Af}  (hI : IC α) : CI 1 l G yX6_image (Cond.code yX6_image cX6_image 1 (some .int)) 100 [.ref (gA G idB)] α ρ (PI (f_image α).1 (f_image α).2 ρ) := by
  obtain ⟨⟨n, h9, hn⟩, hLk, hBk, hV, ⟨t, h60, ht⟩, ⟨w, h24, hw⟩, hSh, hRb, hTp⟩ := hI
  refine CI.of [some (.ref (gA G idB))] (by decide) (Nat.le_of_ble_eq_true rfl) rfl rfl (fun C K => ?_)
  have K : Ok l _ G C RX6 cX6_image (some .int) 1 := K
  refine x_aload_n (pc := 0) (i := 0) K dX6_image_0 rfl rfl ?_
  refine gf_X6_16 (pc := 1)  K dX6_image_1 ?_
  refine x_aload_n (pc := 4) (i := 0) K dX6_image_4 rfl rfl ?_
  refine gf_X6_10 (pc := 5)  K dX6_image_5 ?_
  refine x_V1v (pc := 8) K (c_yX0_takeFrom (by decide) (by decide) (by decide) (hBk 0 (by decide))) mw_yX0_takeFrom ⟨im_yX0_takeFrom, se_yX0_takeFrom⟩ mk_X6_200 (rc_D (by decide)) rfl ⟨Nat.le_of_ble_eq_true rfl, Nat.le_of_ble_eq_true rfl, Nat.le_of_ble_eq_true rfl⟩ dX6_image_8 ?_
  refine x_aload_n (pc := 11) (i := 0) K dX6_image_11 rfl rfl ?_
  refine x_dup (pc := 12) K dX6_image_12 rfl ?_
  refine gf_X6_46 (pc := 13)  K dX6_image_13 ?_
  refine x_iconst (pc := 16) (v := 1) K dX6_image_16 (by decide) ?_
  refine x_iadd (pc := 17) K dX6_image_17 ?_
  refine pf_X6_46 (pc := 18)  K dX6_image_18 ?_
  refine x_aload_n (pc := 21) (i := 0) K dX6_image_21 rfl rfl ?_
  refine gf_X6_46 (pc := 22)  K dX6_image_22 ?_
  exact x_iretI (pc := 25) K dX6_image_25 ⟨rfl, rfl, rfl⟩

def f_restore (α : Af) : Int32 × Af := if α idB 7 = 0 then q_errP α 2 else (q_take α 0 1 (idD 0) 4, q_take α 0 1)
set_option maxRecDepth 100000 in
set_option maxHeartbeats 4000000 in
theorem c_yX6_restore {l : Launch} {G : Gm} {α ρ : Af}  (hI : IC α) : CI 1 l G yX6_restore (Cond.code yX6_restore cX6_restore 1 (some .int)) 100 [.ref (gA G idB)] α ρ (PI (f_restore α).1 (f_restore α).2 ρ) := by
  obtain ⟨⟨n, h9, hn⟩, hLk, hBk, hV, ⟨t, h60, ht⟩, ⟨w, h24, hw⟩, hSh, hRb, hTp⟩ := hI
  refine CI.of [some (.ref (gA G idB))] (by decide) (Nat.le_of_ble_eq_true rfl) rfl rfl (fun C K => ?_)
  have K : Ok l _ G C RX6 cX6_restore (some .int) 1 := K
  refine x_aload_n (pc := 0) (i := 0) K dX6_restore_0 rfl rfl ?_
  refine gf_X6_46 (pc := 1)  K dX6_restore_1 ?_
  refine x_if_ne (pc := 4) (tgt := 13) K dX6_restore_4 (by decide) (fun c_4 => ?_) (fun c_4 => ?_)
  · refine x_aload_n (pc := 13) (i := 0) K dX6_restore_13 rfl rfl ?_
    refine gf_X6_10 (pc := 14)  K dX6_restore_14 ?_
    refine x_aload_n (pc := 17) (i := 0) K dX6_restore_17 rfl rfl ?_
    refine gf_X6_16 (pc := 18)  K dX6_restore_18 ?_
    refine x_V1v (pc := 21) K (c_yX0_takeFrom (by decide) (by decide) (by decide) (hBk 1 (by decide))) mw_yX0_takeFrom ⟨im_yX0_takeFrom, se_yX0_takeFrom⟩ mk_X6_200 (rc_D (by decide)) rfl ⟨Nat.le_of_ble_eq_true rfl, Nat.le_of_ble_eq_true rfl, Nat.le_of_ble_eq_true rfl⟩ dX6_restore_21 ?_
    refine x_aload_n (pc := 24) (i := 0) K dX6_restore_24 rfl rfl ?_
    refine gf_X6_10 (pc := 25)  K dX6_restore_25 ?_
    refine gf_X6_105 (pc := 28) (by decide) K dX6_restore_28 ?_
    exact x_iretI (pc := 31) K dX6_restore_31 ⟨by simp (decide := true) only [f_restore, q_errP, if_neg c_4, ↓reduceIte, Bool.false_eq_true, bI_t, bI_f], by simp (decide := true) only [f_restore, q_errP, if_neg c_4, ↓reduceIte, Bool.false_eq_true, bI_t, bI_f], rfl⟩
  · refine x_aload_n (pc := 7) (i := 0) K dX6_restore_7 rfl rfl ?_
    refine x_iconst (pc := 8) (v := 2) K dX6_restore_8 (by decide) ?_
    refine x_V1i (pc := 9) K (c_yX6_error (j := 2) (by decide)) mw_yX6_error ⟨im_yX6_error, se_yX6_error⟩ mk_X6_59 rc_B rfl ⟨Nat.le_of_ble_eq_true rfl, Nat.le_of_ble_eq_true rfl, Nat.le_of_ble_eq_true rfl⟩ dX6_restore_9 ?_
    exact x_iretI (pc := 12) K dX6_restore_12 ⟨by simp (decide := true) only [f_restore, q_errP, if_pos c_4, ↓reduceIte, Bool.false_eq_true, bI_t, bI_f], by simp (decide := true) only [f_restore, q_errP, if_pos c_4, ↓reduceIte, Bool.false_eq_true, bI_t, bI_f], rfl⟩

def f_tell (α : Af) (v : Int32) : Int32 × Af := if α (idD 0) 12 < 24 then (up (up α (idWt 0) (α (idD 0) 12).toNatClampNeg v) (idD 0) 12 (up α (idWt 0) (α (idD 0) 12).toNatClampNeg v (idD 0) 12 + 1) (idD 0) 12, up (up α (idWt 0) (α (idD 0) 12).toNatClampNeg v) (idD 0) 12 (up α (idWt 0) (α (idD 0) 12).toNatClampNeg v (idD 0) 12 + 1)) else q_errP α 4
set_option maxRecDepth 100000 in
set_option maxHeartbeats 4000000 in
theorem c_yX6_tell {l : Launch} {G : Gm} {α ρ : Af} {v : Int32} (hI : IC α) : CI 1 l G yX6_tell (Cond.code yX6_tell cX6_tell 2 (some .int)) 100 [.ref (gA G idB), .int v] α ρ (PI (f_tell α v).1 (f_tell α v).2 ρ) := by
  obtain ⟨⟨n, h9, hn⟩, hLk, hBk, hV, ⟨t, h60, ht⟩, ⟨w, h24, hw⟩, hSh, hRb, hTp⟩ := hI
  refine CI.of [some (.ref (gA G idB)), some (.int v)] (by decide) (Nat.le_of_ble_eq_true rfl) rfl rfl (fun C K => ?_)
  have K : Ok l _ G C RX6 cX6_tell (some .int) 2 := K
  refine x_aload_n (pc := 0) (i := 0) K dX6_tell_0 rfl rfl ?_
  refine gf_X6_10 (pc := 1)  K dX6_tell_1 ?_
  refine gf_X6_271 (pc := 4) (by decide) K dX6_tell_4 ?_
  refine x_bipush (pc := 7) (v := 24) K dX6_tell_7 (by decide) ?_
  refine x_icmp_lt (pc := 9) (tgt := 18) K dX6_tell_9 (by decide) (fun c_9 => ?_) (fun c_9 => ?_)
  · refine x_aload_n (pc := 18) (i := 0) K dX6_tell_18 rfl rfl ?_
    refine gf_X6_10 (pc := 19)  K dX6_tell_19 ?_
    refine gf_X6_274 (pc := 22) (by decide) K dX6_tell_22 ?_
    refine x_aload_n (pc := 25) (i := 0) K dX6_tell_25 rfl rfl ?_
    refine gf_X6_10 (pc := 26)  K dX6_tell_26 ?_
    refine gf_X6_271 (pc := 29) (by decide) K dX6_tell_29 ?_
    refine x_iload_n (pc := 32) (i := 1) K dX6_tell_32 rfl rfl ?_
    refine is_Wt (pc := 33) (by decide) K (by rw [hw] at c_9 ⊢; exact vp_in_nI ((nI_ltI (a := w) (b := 24) (by omega) (by decide)).mp c_9) (by decide)) dX6_tell_33 ?_
    refine x_aload_n (pc := 34) (i := 0) K dX6_tell_34 rfl rfl ?_
    refine gf_X6_10 (pc := 35)  K dX6_tell_35 ?_
    refine x_dup (pc := 38) K dX6_tell_38 rfl ?_
    refine gf_X6_271 (pc := 39) (by decide) K dX6_tell_39 ?_
    refine x_iconst (pc := 42) (v := 1) K dX6_tell_42 (by decide) ?_
    refine x_iadd (pc := 43) K dX6_tell_43 ?_
    refine pf_X6_271 (pc := 44) (by decide) K dX6_tell_44 ?_
    refine x_aload_n (pc := 47) (i := 0) K dX6_tell_47 rfl rfl ?_
    refine gf_X6_10 (pc := 48)  K dX6_tell_48 ?_
    refine gf_X6_271 (pc := 51) (by decide) K dX6_tell_51 ?_
    exact x_iretI (pc := 54) K dX6_tell_54 ⟨by simp (decide := true) only [f_tell, q_errP, if_pos c_9, ↓reduceIte, Bool.false_eq_true, bI_t, bI_f], by simp (decide := true) only [f_tell, q_errP, if_pos c_9, ↓reduceIte, Bool.false_eq_true, bI_t, bI_f], rfl⟩
  · refine x_aload_n (pc := 12) (i := 0) K dX6_tell_12 rfl rfl ?_
    refine x_iconst (pc := 13) (v := 4) K dX6_tell_13 (by decide) ?_
    refine x_V1i (pc := 14) K (c_yX6_error (j := 4) (by decide)) mw_yX6_error ⟨im_yX6_error, se_yX6_error⟩ mk_X6_59 rc_B rfl ⟨Nat.le_of_ble_eq_true rfl, Nat.le_of_ble_eq_true rfl, Nat.le_of_ble_eq_true rfl⟩ dX6_tell_14 ?_
    exact x_iretI (pc := 17) K dX6_tell_17 ⟨by simp (decide := true) only [f_tell, q_errP, if_neg c_9, ↓reduceIte, Bool.false_eq_true, bI_t, bI_f], by simp (decide := true) only [f_tell, q_errP, if_neg c_9, ↓reduceIte, Bool.false_eq_true, bI_t, bI_f], rfl⟩

set_option maxRecDepth 100000 in
set_option maxHeartbeats 4000000 in
theorem l_check {l : Launch} {G : Gm} {C : Cx} {n w : Nat} {A ρ : Af} (K : Ok l 100 G C RX6 cX6_check (some .int) 3) (hn : A (idD 0) 1 = nI n) (h9 : n ≤ 9) (h24 : w ≤ 24) : ∀ (j i : Nat), i + j = w → ∀ T, q_ck A n j i = T → X 1 l 100 G C (PI T A ρ) 3 18 [some (.ref (gA G idB)), some (.int (nI w)), some (.int (nI i))] [] A ρ := by
  intro j
  induction j with
  | zero =>
    intro i hi T hT
    refine x_iload_n (pc := 18) (i := 2) K dX6_check_18 rfl rfl ?_
    refine x_iload_n (pc := 19) (i := 1) K dX6_check_19 rfl rfl ?_
    refine x_icmp_ge (pc := 20) (tgt := 68) K dX6_check_20 (by decide) (fun c_20 => ?_) (fun c_20 => ?_)
    · refine x_iconst (pc := 68) (v := 0) K dX6_check_68 (by decide) ?_
      exact x_iretI (pc := 69) K dX6_check_69 ⟨by rw [← hT]; rfl, rfl, rfl⟩
    · exact absurd (nI_le (by omega) (by omega)) c_20
  | succ j ih =>
    intro i hi T hT
    refine x_iload_n (pc := 18) (i := 2) K dX6_check_18 rfl rfl ?_
    refine x_iload_n (pc := 19) (i := 1) K dX6_check_19 rfl rfl ?_
    refine x_icmp_ge (pc := 20) (tgt := 68) K dX6_check_20 (by decide) (fun c_20 => ?_) (fun c_20 => ?_)
    · exact (nI_ge (a := i) (b := w) (by omega) (by omega) c_20).elim
    · refine x_aload_n (pc := 23) (i := 0) K dX6_check_23 rfl rfl ?_
      refine gf_X6_10 (pc := 24)  K dX6_check_24 ?_
      refine x_iload_n (pc := 27) (i := 2) K dX6_check_27 rfl rfl ?_
      refine x_V1i (pc := 28) K (c_yX0_hasSpan (by decide)) mw_yX0_hasSpan ⟨im_yX0_hasSpan, se_yX0_hasSpan⟩ mk_X6_70 (rc_D (by decide)) rfl ⟨Nat.le_of_ble_eq_true rfl, Nat.le_of_ble_eq_true rfl, Nat.le_of_ble_eq_true rfl⟩ dX6_check_28 ?_
      refine x_top (v' := .int (bI (decide (i < n)))) (by rw [hn, hs_iff (by omega) (by omega)]) ?_
      refine x_ifeq_b (pc := 31) (tgt := 58) K dX6_check_31 (by decide) (fun c_31 => ?_) (fun c_31 => ?_)
      · refine x_iconst (pc := 58) (v := 1) K dX6_check_58 (by decide) ?_
        refine x_iload_n (pc := 59) (i := 2) K dX6_check_59 rfl rfl ?_
        refine x_iadd (pc := 60) K dX6_check_60 ?_
        exact x_iretI (pc := 61) K dX6_check_61 ⟨by rw [← hT]; simp only [q_ck]; rw [if_neg (of_decide_eq_false c_31)], rfl, rfl⟩
      · have hin : i < n := of_decide_eq_true c_31
        refine x_aload_n (pc := 34) (i := 0) K dX6_check_34 rfl rfl ?_
        refine gf_X6_10 (pc := 35)  K dX6_check_35 ?_
        refine gf_X6_77 (pc := 38) (by decide) K dX6_check_38 ?_
        refine x_iload_n (pc := 41) (i := 2) K dX6_check_41 rfl rfl ?_
        refine ab_Sp (pc := 42) (by decide) i (by omega) K dX6_check_42 ?_
        refine gf_X6_95 (pc := 43) (by decide) (by omega) K dX6_check_43 ?_
        refine x_aload_n (pc := 46) (i := 0) K dX6_check_46 rfl rfl ?_
        refine gf_X6_10 (pc := 47)  K dX6_check_47 ?_
        refine gf_X6_274 (pc := 50) (by decide) K dX6_check_50 ?_
        refine x_iload_n (pc := 53) (i := 2) K dX6_check_53 rfl rfl ?_
        refine ia_Wt (pc := 54) (by decide) K (vp_in_nI (show i < 24 by omega) (by decide)) dX6_check_54 ?_
        refine x_topi K (show _ = A (idWt 0) i from by rw [nI_clamp (by omega)]) ?_
        refine x_icmp_eq (pc := 55) (tgt := 62) K dX6_check_55 (by decide) (fun c_55 => ?_) (fun c_55 => ?_)
        · refine x_iinc (pc := 62) (i := 2) (v := nI (i + 1)) K dX6_check_62 rfl (nI_1 _) rfl ?_
          refine x_goto (pc := 65) (tgt := 18) K dX6_check_65 (by decide) ?_
          exact ih (i + 1) (by omega) T (by rw [← hT]; simp only [q_ck]; rw [if_pos hin]; exact (if_pos c_55).symm)
        · refine x_iconst (pc := 58) (v := 1) K dX6_check_58 (by decide) ?_
          refine x_iload_n (pc := 59) (i := 2) K dX6_check_59 rfl rfl ?_
          refine x_iadd (pc := 60) K dX6_check_60 ?_
          exact x_iretI (pc := 61) K dX6_check_61 ⟨by rw [← hT]; simp only [q_ck]; rw [if_pos hin, if_neg c_55], rfl, rfl⟩

def f_check (α : Af) : Int32 × Af := (q_ck (up α (idD 0) 12 0) (α (idD 0) 1).toNatClampNeg (α (idD 0) 12).toNatClampNeg 0, up α (idD 0) 12 0)
set_option maxRecDepth 100000 in
set_option maxHeartbeats 4000000 in
theorem c_yX6_check {l : Launch} {G : Gm} {α ρ : Af}  (hI : IC α) : CI 1 l G yX6_check (Cond.code yX6_check cX6_check 3 (some .int)) 100 [.ref (gA G idB)] α ρ (PI (f_check α).1 (f_check α).2 ρ) := by
  obtain ⟨⟨n, h9, hn⟩, hLk, hBk, hV, ⟨t, h60, ht⟩, ⟨w, h24, hw⟩, hSh, hRb, hTp⟩ := hI
  refine CI.of [some (.ref (gA G idB)), none, none] (by decide) (Nat.le_of_ble_eq_true rfl) rfl rfl (fun C K => ?_)
  have K : Ok l _ G C RX6 cX6_check (some .int) 3 := K
  refine x_aload_n (pc := 0) (i := 0) K dX6_check_0 rfl rfl ?_
  refine gf_X6_10 (pc := 1)  K dX6_check_1 ?_
  refine gf_X6_271 (pc := 4) (by decide) K dX6_check_4 ?_
  refine x_topi K hw ?_
  refine x_istore_n (pc := 7) (i := 1) K dX6_check_7 rfl rfl (by decide) ?_
  refine x_aload_n (pc := 8) (i := 0) K dX6_check_8 rfl rfl ?_
  refine gf_X6_10 (pc := 9)  K dX6_check_9 ?_
  refine x_iconst (pc := 12) (v := 0) K dX6_check_12 (by decide) ?_
  refine pf_X6_271 (pc := 13) (by decide) K dX6_check_13 ?_
  refine x_iconst (pc := 16) (v := 0) K dX6_check_16 (by decide) ?_
  refine x_istore_n (pc := 17) (i := 2) K dX6_check_17 rfl rfl (by decide) ?_
  have hnc : (α (idD 0) 1).toNatClampNeg = n := by rw [hn]; exact nI_clamp (by omega)
  have hwc : (α (idD 0) 12).toNatClampNeg = w := by rw [hw]; exact nI_clamp (by omega)
  exact l_check (A := up α (idD 0) 12 0) K (by rw [up_ne2 (by decide)]; exact hn) h9 h24 w 0 (by omega) _ (by simp only [f_check, hnc, hwc])

def f_count (α : Af) (what : Int32) : Int32 × Af := if what = 0 then (α (idD 0) 1, α) else if what = 1 then (α (idD 0) 4, α) else if what = 2 then (α (idD 0) 2, α) else if what = 3 then (α (idD 0) 3, α) else if what = 4 then (α (idD 0) 5, α) else if what = 5 then (α (idD 0) 6, α) else if what = 6 then (α (idD 0) 10, α) else if what = 7 then (α (idD 0) 12, α) else if what = 8 then (α idV 1, α) else if what = 9 then (α (idD 0) 7, α) else q_errP α 1
set_option maxRecDepth 100000 in
set_option maxHeartbeats 4000000 in
theorem c_yX6_count {l : Launch} {G : Gm} {α ρ : Af} {what : Int32} (hI : IC α) : CI 1 l G yX6_count (Cond.code yX6_count cX6_count 2 (some .int)) 100 [.ref (gA G idB), .int what] α ρ (PI (f_count α what).1 (f_count α what).2 ρ) := by
  obtain ⟨⟨n, h9, hn⟩, hLk, hBk, hV, ⟨t, h60, ht⟩, ⟨w, h24, hw⟩, hSh, hRb, hTp⟩ := hI
  refine CI.of [some (.ref (gA G idB)), some (.int what)] (by decide) (Nat.le_of_ble_eq_true rfl) rfl rfl (fun C K => ?_)
  have K : Ok l _ G C RX6 cX6_count (some .int) 2 := K
  refine x_iload_n (pc := 0) (i := 1) K dX6_count_0 rfl rfl ?_
  by_cases s_1_0 : what = 0
  · refine x_tableIn (pc := 1) (off := 55) (tgt := 56) K dX6_count_1 (by rw [s_1_0]; decide) (by decide) ?_
    refine x_aload_n (pc := 56) (i := 0) K dX6_count_56 rfl rfl ?_
    refine gf_X6_10 (pc := 57)  K dX6_count_57 ?_
    refine gf_X6_63 (pc := 60) (by decide) K dX6_count_60 ?_
    exact x_iretI (pc := 63) K dX6_count_63 ⟨by simp (decide := true) only [f_count, q_errP, if_pos s_1_0, ↓reduceIte, Bool.false_eq_true, bI_t, bI_f], by simp (decide := true) only [f_count, q_errP, if_pos s_1_0, ↓reduceIte, Bool.false_eq_true, bI_t, bI_f], rfl⟩
  by_cases s_1_1 : what = 1
  · refine x_tableIn (pc := 1) (off := 63) (tgt := 64) K dX6_count_1 (by rw [s_1_1]; decide) (by decide) ?_
    refine x_aload_n (pc := 64) (i := 0) K dX6_count_64 rfl rfl ?_
    refine gf_X6_10 (pc := 65)  K dX6_count_65 ?_
    refine gf_X6_105 (pc := 68) (by decide) K dX6_count_68 ?_
    exact x_iretI (pc := 71) K dX6_count_71 ⟨by simp (decide := true) only [f_count, q_errP, if_neg s_1_0, if_pos s_1_1, ↓reduceIte, Bool.false_eq_true, bI_t, bI_f], by simp (decide := true) only [f_count, q_errP, if_neg s_1_0, if_pos s_1_1, ↓reduceIte, Bool.false_eq_true, bI_t, bI_f], rfl⟩
  by_cases s_1_2 : what = 2
  · refine x_tableIn (pc := 1) (off := 71) (tgt := 72) K dX6_count_1 (by rw [s_1_2]; decide) (by decide) ?_
    refine x_aload_n (pc := 72) (i := 0) K dX6_count_72 rfl rfl ?_
    refine gf_X6_10 (pc := 73)  K dX6_count_73 ?_
    refine gf_X6_124 (pc := 76) (by decide) K dX6_count_76 ?_
    exact x_iretI (pc := 79) K dX6_count_79 ⟨by simp (decide := true) only [f_count, q_errP, if_neg s_1_0, if_neg s_1_1, if_pos s_1_2, ↓reduceIte, Bool.false_eq_true, bI_t, bI_f], by simp (decide := true) only [f_count, q_errP, if_neg s_1_0, if_neg s_1_1, if_pos s_1_2, ↓reduceIte, Bool.false_eq_true, bI_t, bI_f], rfl⟩
  by_cases s_1_3 : what = 3
  · refine x_tableIn (pc := 1) (off := 79) (tgt := 80) K dX6_count_1 (by rw [s_1_3]; decide) (by decide) ?_
    refine x_aload_n (pc := 80) (i := 0) K dX6_count_80 rfl rfl ?_
    refine gf_X6_10 (pc := 81)  K dX6_count_81 ?_
    refine gf_X6_118 (pc := 84) (by decide) K dX6_count_84 ?_
    exact x_iretI (pc := 87) K dX6_count_87 ⟨by simp (decide := true) only [f_count, q_errP, if_neg s_1_0, if_neg s_1_1, if_neg s_1_2, if_pos s_1_3, ↓reduceIte, Bool.false_eq_true, bI_t, bI_f], by simp (decide := true) only [f_count, q_errP, if_neg s_1_0, if_neg s_1_1, if_neg s_1_2, if_pos s_1_3, ↓reduceIte, Bool.false_eq_true, bI_t, bI_f], rfl⟩
  by_cases s_1_4 : what = 4
  · refine x_tableIn (pc := 1) (off := 87) (tgt := 88) K dX6_count_1 (by rw [s_1_4]; decide) (by decide) ?_
    refine x_aload_n (pc := 88) (i := 0) K dX6_count_88 rfl rfl ?_
    refine gf_X6_10 (pc := 89)  K dX6_count_89 ?_
    refine gf_X6_277 (pc := 92) (by decide) K dX6_count_92 ?_
    exact x_iretI (pc := 95) K dX6_count_95 ⟨by simp (decide := true) only [f_count, q_errP, if_neg s_1_0, if_neg s_1_1, if_neg s_1_2, if_neg s_1_3, if_pos s_1_4, ↓reduceIte, Bool.false_eq_true, bI_t, bI_f], by simp (decide := true) only [f_count, q_errP, if_neg s_1_0, if_neg s_1_1, if_neg s_1_2, if_neg s_1_3, if_pos s_1_4, ↓reduceIte, Bool.false_eq_true, bI_t, bI_f], rfl⟩
  by_cases s_1_5 : what = 5
  · refine x_tableIn (pc := 1) (off := 95) (tgt := 96) K dX6_count_1 (by rw [s_1_5]; decide) (by decide) ?_
    refine x_aload_n (pc := 96) (i := 0) K dX6_count_96 rfl rfl ?_
    refine gf_X6_10 (pc := 97)  K dX6_count_97 ?_
    refine gf_X6_280 (pc := 100) (by decide) K dX6_count_100 ?_
    exact x_iretI (pc := 103) K dX6_count_103 ⟨by simp (decide := true) only [f_count, q_errP, if_neg s_1_0, if_neg s_1_1, if_neg s_1_2, if_neg s_1_3, if_neg s_1_4, if_pos s_1_5, ↓reduceIte, Bool.false_eq_true, bI_t, bI_f], by simp (decide := true) only [f_count, q_errP, if_neg s_1_0, if_neg s_1_1, if_neg s_1_2, if_neg s_1_3, if_neg s_1_4, if_pos s_1_5, ↓reduceIte, Bool.false_eq_true, bI_t, bI_f], rfl⟩
  by_cases s_1_6 : what = 6
  · refine x_tableIn (pc := 1) (off := 103) (tgt := 104) K dX6_count_1 (by rw [s_1_6]; decide) (by decide) ?_
    refine x_aload_n (pc := 104) (i := 0) K dX6_count_104 rfl rfl ?_
    refine gf_X6_10 (pc := 105)  K dX6_count_105 ?_
    refine gf_X6_134 (pc := 108) (by decide) K dX6_count_108 ?_
    exact x_iretI (pc := 111) K dX6_count_111 ⟨by simp (decide := true) only [f_count, q_errP, if_neg s_1_0, if_neg s_1_1, if_neg s_1_2, if_neg s_1_3, if_neg s_1_4, if_neg s_1_5, if_pos s_1_6, ↓reduceIte, Bool.false_eq_true, bI_t, bI_f], by simp (decide := true) only [f_count, q_errP, if_neg s_1_0, if_neg s_1_1, if_neg s_1_2, if_neg s_1_3, if_neg s_1_4, if_neg s_1_5, if_pos s_1_6, ↓reduceIte, Bool.false_eq_true, bI_t, bI_f], rfl⟩
  by_cases s_1_7 : what = 7
  · refine x_tableIn (pc := 1) (off := 111) (tgt := 112) K dX6_count_1 (by rw [s_1_7]; decide) (by decide) ?_
    refine x_aload_n (pc := 112) (i := 0) K dX6_count_112 rfl rfl ?_
    refine gf_X6_10 (pc := 113)  K dX6_count_113 ?_
    refine gf_X6_271 (pc := 116) (by decide) K dX6_count_116 ?_
    exact x_iretI (pc := 119) K dX6_count_119 ⟨by simp (decide := true) only [f_count, q_errP, if_neg s_1_0, if_neg s_1_1, if_neg s_1_2, if_neg s_1_3, if_neg s_1_4, if_neg s_1_5, if_neg s_1_6, if_pos s_1_7, ↓reduceIte, Bool.false_eq_true, bI_t, bI_f], by simp (decide := true) only [f_count, q_errP, if_neg s_1_0, if_neg s_1_1, if_neg s_1_2, if_neg s_1_3, if_neg s_1_4, if_neg s_1_5, if_neg s_1_6, if_pos s_1_7, ↓reduceIte, Bool.false_eq_true, bI_t, bI_f], rfl⟩
  by_cases s_1_8 : what = 8
  · refine x_tableIn (pc := 1) (off := 119) (tgt := 120) K dX6_count_1 (by rw [s_1_8]; decide) (by decide) ?_
    refine x_aload_n (pc := 120) (i := 0) K dX6_count_120 rfl rfl ?_
    refine gf_X6_32 (pc := 121)  K dX6_count_121 ?_
    refine gf_X6_244 (pc := 124)  K dX6_count_124 ?_
    exact x_iretI (pc := 127) K dX6_count_127 ⟨by simp (decide := true) only [f_count, q_errP, if_neg s_1_0, if_neg s_1_1, if_neg s_1_2, if_neg s_1_3, if_neg s_1_4, if_neg s_1_5, if_neg s_1_6, if_neg s_1_7, if_pos s_1_8, ↓reduceIte, Bool.false_eq_true, bI_t, bI_f], by simp (decide := true) only [f_count, q_errP, if_neg s_1_0, if_neg s_1_1, if_neg s_1_2, if_neg s_1_3, if_neg s_1_4, if_neg s_1_5, if_neg s_1_6, if_neg s_1_7, if_pos s_1_8, ↓reduceIte, Bool.false_eq_true, bI_t, bI_f], rfl⟩
  by_cases s_1_9 : what = 9
  · refine x_tableIn (pc := 1) (off := 127) (tgt := 128) K dX6_count_1 (by rw [s_1_9]; decide) (by decide) ?_
    refine x_aload_n (pc := 128) (i := 0) K dX6_count_128 rfl rfl ?_
    refine gf_X6_10 (pc := 129)  K dX6_count_129 ?_
    refine gf_X6_184 (pc := 132) (by decide) K dX6_count_132 ?_
    exact x_iretI (pc := 135) K dX6_count_135 ⟨by simp (decide := true) only [f_count, q_errP, if_neg s_1_0, if_neg s_1_1, if_neg s_1_2, if_neg s_1_3, if_neg s_1_4, if_neg s_1_5, if_neg s_1_6, if_neg s_1_7, if_neg s_1_8, if_pos s_1_9, ↓reduceIte, Bool.false_eq_true, bI_t, bI_f], by simp (decide := true) only [f_count, q_errP, if_neg s_1_0, if_neg s_1_1, if_neg s_1_2, if_neg s_1_3, if_neg s_1_4, if_neg s_1_5, if_neg s_1_6, if_neg s_1_7, if_neg s_1_8, if_pos s_1_9, ↓reduceIte, Bool.false_eq_true, bI_t, bI_f], rfl⟩
  refine x_tableOut (pc := 1) (tgt := 136) K dX6_count_1 (by have t0 : ¬ (what).toInt = 0 := fun h => s_1_0 (Int32.toInt_inj.mp h); have t1 : ¬ (what).toInt = 1 := fun h => s_1_1 (Int32.toInt_inj.mp h); have t2 : ¬ (what).toInt = 2 := fun h => s_1_2 (Int32.toInt_inj.mp h); have t3 : ¬ (what).toInt = 3 := fun h => s_1_3 (Int32.toInt_inj.mp h); have t4 : ¬ (what).toInt = 4 := fun h => s_1_4 (Int32.toInt_inj.mp h); have t5 : ¬ (what).toInt = 5 := fun h => s_1_5 (Int32.toInt_inj.mp h); have t6 : ¬ (what).toInt = 6 := fun h => s_1_6 (Int32.toInt_inj.mp h); have t7 : ¬ (what).toInt = 7 := fun h => s_1_7 (Int32.toInt_inj.mp h); have t8 : ¬ (what).toInt = 8 := fun h => s_1_8 (Int32.toInt_inj.mp h); have t9 : ¬ (what).toInt = 9 := fun h => s_1_9 (Int32.toInt_inj.mp h); omega) (by decide) ?_
  refine x_aload_n (pc := 136) (i := 0) K dX6_count_136 rfl rfl ?_
  refine x_iconst (pc := 137) (v := 1) K dX6_count_137 (by decide) ?_
  refine x_V1i (pc := 138) K (c_yX6_error (j := 1) (by decide)) mw_yX6_error ⟨im_yX6_error, se_yX6_error⟩ mk_X6_59 rc_B rfl ⟨Nat.le_of_ble_eq_true rfl, Nat.le_of_ble_eq_true rfl, Nat.le_of_ble_eq_true rfl⟩ dX6_count_138 ?_
  exact x_iretI (pc := 141) K dX6_count_141 ⟨by simp (decide := true) only [f_count, q_errP, if_neg s_1_0, if_neg s_1_1, if_neg s_1_2, if_neg s_1_3, if_neg s_1_4, if_neg s_1_5, if_neg s_1_6, if_neg s_1_7, if_neg s_1_8, if_neg s_1_9, ↓reduceIte, Bool.false_eq_true, bI_t, bI_f], by simp (decide := true) only [f_count, q_errP, if_neg s_1_0, if_neg s_1_1, if_neg s_1_2, if_neg s_1_3, if_neg s_1_4, if_neg s_1_5, if_neg s_1_6, if_neg s_1_7, if_neg s_1_8, if_neg s_1_9, ↓reduceIte, Bool.false_eq_true, bI_t, bI_f], rfl⟩

def f_told (α : Af) (v : Int32) : Int32 × Af := if q_within v 1 6 = true then (α idEr v.toNatClampNeg, α) else q_errP α 1
theorem q_within_in1 {x : Int32} (h : q_within x 1 6 = true) : vp_in x 7 := by
  obtain ⟨m, h1, h2, rfl⟩ := wi_of (v := x) (a := 1) (b := 6) rfl rfl (by decide) (by decide) h
  exact vp_in_nI (by omega) (by decide)
set_option maxRecDepth 100000 in
set_option maxHeartbeats 4000000 in
theorem c_yX6_told {l : Launch} {G : Gm} {α ρ : Af} {v : Int32} (hI : IC α) : CI 1 l G yX6_told (Cond.code yX6_told cX6_told 2 (some .int)) 100 [.ref (gA G idB), .int v] α ρ (PI (f_told α v).1 (f_told α v).2 ρ) := by
  obtain ⟨⟨n, h9, hn⟩, hLk, hBk, hV, ⟨t, h60, ht⟩, ⟨w, h24, hw⟩, hSh, hRb, hTp⟩ := hI
  refine CI.of [some (.ref (gA G idB)), some (.int v)] (by decide) (Nat.le_of_ble_eq_true rfl) rfl rfl (fun C K => ?_)
  have K : Ok l _ G C RX6 cX6_told (some .int) 2 := K
  refine x_iload_n (pc := 0) (i := 1) K dX6_told_0 rfl rfl ?_
  refine x_iconst (pc := 1) (v := 1) K dX6_told_1 (by decide) ?_
  refine x_bipush (pc := 2) (v := 6) K dX6_told_2 (by decide) ?_
  refine x_S3i (pc := 4) K (c_yX6_within) mw_yX6_within st_yX6_within mk_X6_73 ⟨Nat.le_of_ble_eq_true rfl, Nat.le_of_ble_eq_true rfl, Nat.le_of_ble_eq_true rfl⟩ dX6_told_4 ?_
  refine x_ifne_b (pc := 7) (tgt := 16) K dX6_told_7 (by decide) (fun c_7 => ?_) (fun c_7 => ?_)
  · refine x_aload_n (pc := 16) (i := 0) K dX6_told_16 rfl rfl ?_
    refine gf_X6_42 (pc := 17)  K dX6_told_17 ?_
    refine x_iload_n (pc := 20) (i := 1) K dX6_told_20 rfl rfl ?_
    refine ia_Er (pc := 21)  K (q_within_in1 c_7) dX6_told_21 ?_
    exact x_iretI (pc := 22) K dX6_told_22 ⟨by simp (decide := true) only [f_told, q_errP, c_7, ↓reduceIte, Bool.false_eq_true, bI_t, bI_f], by simp (decide := true) only [f_told, q_errP, c_7, ↓reduceIte, Bool.false_eq_true, bI_t, bI_f], rfl⟩
  · refine x_aload_n (pc := 10) (i := 0) K dX6_told_10 rfl rfl ?_
    refine x_iconst (pc := 11) (v := 1) K dX6_told_11 (by decide) ?_
    refine x_V1i (pc := 12) K (c_yX6_error (j := 1) (by decide)) mw_yX6_error ⟨im_yX6_error, se_yX6_error⟩ mk_X6_59 rc_B rfl ⟨Nat.le_of_ble_eq_true rfl, Nat.le_of_ble_eq_true rfl, Nat.le_of_ble_eq_true rfl⟩ dX6_told_12 ?_
    exact x_iretI (pc := 15) K dX6_told_15 ⟨by simp (decide := true) only [f_told, q_errP, c_7, ↓reduceIte, Bool.false_eq_true, bI_t, bI_f], by simp (decide := true) only [f_told, q_errP, c_7, ↓reduceIte, Bool.false_eq_true, bI_t, bI_f], rfl⟩

def q_readsA (α : Af) (e : Nat) (len use : Int32) : Af :=
  let a1 := up α idR 4 (q_held len 0 60)
  let a2 := upR a1 idRb (va_cpy (a1 (idTp e)) (a1 idRb) (0 : Int32).toNatClampNeg (0 : Int32).toNatClampNeg (a1 idR 4).toNatClampNeg)
  let a3 := up a2 idR 5 (if use = 0 then 0 else 1)
  up (up a3 idR 1 0) idR 2 0
def q_readsB (r : Bool × Af) : Bool := if r.1 = true then (if r.2 idR 2 = r.2 idR 4 then true else false) else false
theorem cpy_Ch {f g : Nat → Int32} {s0 d0 c0 j : Nat} (hf : ∀ j, j < 60 → Ch (f j)) (hg : ∀ j, j < 60 → Ch (g j)) (h : s0 + c0 ≤ 60) (hj : j < 60) : Ch (va_cpy f g s0 d0 c0 j) := by
  unfold va_cpy
  split
  · exact hf _ (by omega)
  · exact hg j hj
theorem Rk.readsA {α : Af} {e : Nat} {len use : Int32} (hf : ∀ j, j < 60 → Ch (α (idTp e) j)) (he : e < 3) (hg : ∀ j, j < 60 → Ch (α idRb j)) : Rk (q_readsA α e len use) := by
  simp only [q_readsA]
  have h0 : (0 : Int32).toNatClampNeg = 0 := by decide
  refine ⟨?_, ⟨0, by decide, ?_⟩, fun j hj => ?_⟩
  · obtain ⟨h1, h2⟩ := held60 len
    obtain ⟨n, hn, e1⟩ := nI_of h1
    refine ⟨n, by rw [e1, nI_clamp hn] at h2; exact h2, ?_⟩
    rw [up_ne2 (by decide), up_ne2 (by decide), up_ne2 (by decide), upR_ne (by decide), up_eq]
    exact e1
  · rw [up_ne2 (by decide), up_eq]; rfl
  · rw [up_ne (by decide), up_ne (by decide), up_ne (by decide), upR_eq]
    refine (cpy_Ch (fun j hj => ?_) (fun j hj => ?_) ?_ hj).1
    · rw [up_ne (by unfold idTp idR; omega)]; exact hf j hj
    · rw [up_ne (by decide)]; exact hg j hj
    · rw [h0, up_eq]; have := (held60 len).2; omega
theorem c_any0 {k : Nat} {l : Launch} {G : Gm} {α ρ : Af} (hr : Rk α) : CI k l G yX2_readAny (Cond.code yX2_readAny cX2_readAny 3 (some .boolean)) 48 [.ref (gA G idR), .int 0] α ρ (PI (bI (q_anyP (q_one 5) α).1) (q_anyP (q_one 5) α).2 ρ) := c_anyOf (op := nI (5 - 5)) (ds := 43) (fun _ _ h => c_one 5 (by decide) h) (PrK.one 5) (by decide) hr
set_option maxRecDepth 100000 in
set_option maxHeartbeats 4000000 in
theorem c_yX2_reads {k : Nat} {l : Launch} {G : Gm} {α ρ : Af} {e : Nat} {len use : Int32} (he : e < 3) (hf : ∀ j, j < 60 → Ch (α (idTp e) j)) (hg : ∀ j, j < 60 → Ch (α idRb j)) : CI k l G yX2_reads (Cond.code yX2_reads cX2_reads 4 (some .boolean)) 49 [.ref (gA G idR), .ref (gA G (idTp e)), .int len, .int use] α ρ (PI (bI (q_readsB (q_anyP (q_one 5) (q_readsA α e len use)))) (q_anyP (q_one 5) (q_readsA α e len use)).2 ρ) := by
  refine CI.of [some (.ref (gA G idR)), some (.ref (gA G (idTp e))), some (.int len), some (.int use)] (by decide) (Nat.le_of_ble_eq_true rfl) rfl rfl (fun C K => ?_)
  have K : Ok l _ G C RX2 cX2_reads (some .boolean) 4 := K
  refine x_aload_n (pc := 0) (i := 0) K dX2_reads_0 rfl rfl ?_
  refine x_iload_n (pc := 1) (i := 2) K dX2_reads_1 rfl rfl ?_
  refine x_iconst (pc := 2) (v := 0) K dX2_reads_2 (by decide) ?_
  refine x_bipush (pc := 3) (v := 60) K dX2_reads_3 (by decide) ?_
  refine x_aload_n (pc := 5) (i := 1) K dX2_reads_5 rfl rfl ?_
  refine x_alen_c (pc := 6) (t := 1) (n := 60) K (by unfold idTp; omega) (scr_no (by unfold idTp; omega)) (fun f => ent_Tp he) rfl rfl dX2_reads_6 ?_
  refine x_mmin (pc := 7) K mk_X2_35 ⟨Nat.le_of_ble_eq_true rfl, Nat.le_of_ble_eq_true rfl⟩ dX2_reads_7 ?_
  refine x_topi K (show _ = 60 from by decide) ?_
  refine x_SN3i (pc := 10) K (c_yX6_held) mw_yX6_held st_yX6_held (by decide +kernel) ⟨Nat.le_of_ble_eq_true rfl, Nat.le_of_ble_eq_true rfl, Nat.le_of_ble_eq_true rfl⟩ dX2_reads_10 ?_
  refine pf_X2_26 (pc := 13)  K dX2_reads_13 ?_
  refine x_aload_n (pc := 16) (i := 1) K dX2_reads_16 rfl rfl ?_
  refine x_iconst (pc := 17) (v := 0) K dX2_reads_17 (by decide) ?_
  refine x_aload_n (pc := 18) (i := 0) K dX2_reads_18 rfl rfl ?_
  refine gf_X2_22 (pc := 19)  K dX2_reads_19 ?_
  refine x_iconst (pc := 22) (v := 0) K dX2_reads_22 (by decide) ?_
  refine x_aload_n (pc := 23) (i := 0) K dX2_reads_23 rfl rfl ?_
  refine gf_X2_26 (pc := 24)  K dX2_reads_24 ?_
  refine x_cpy (pc := 27) (i1 := idTp e) (i2 := idRb) (n1 := 60) (n2 := 60) (t := 1) (ty := .char) K ⟨by unfold idTp; omega, scr_no (by unfold idTp; omega)⟩ ⟨by decide, scr_no (by decide)⟩ (fun f => ent_Tp he) (fun f => rfl) rfl rfl ⟨by decide, by decide, by rw [up_eq]; exact (held60 len).1, by rw [up_eq]; have := (held60 len).2; have h0 : (0 : Int32).toNatClampNeg = 0 := (by decide); omega, by rw [up_eq]; have := (held60 len).2; have h0 : (0 : Int32).toNatClampNeg = 0 := (by decide); omega⟩ (fun j hj => by have h0 : (0 : Int32).toNatClampNeg = 0 := (by decide); rw [up_eq] at hj; rw [up_ne (by unfold idTp idR; omega)]; exact (hf _ (by have := (held60 len).2; omega)).2) mk_X2_45 ⟨by decide, Nat.le_of_ble_eq_true rfl⟩ dX2_reads_27 ?_
  refine x_aload_n (pc := 30) (i := 0) K dX2_reads_30 rfl rfl ?_
  refine x_iload_n (pc := 31) (i := 3) K dX2_reads_31 rfl rfl ?_
  refine x_if_ne (pc := 32) (tgt := 40) K dX2_reads_32 (by decide) (fun c_32 => ?_) (fun c_32 => ?_)
  · refine x_ldcS1 (pc := 40) K dX2_reads_40 ?_
    refine pf_X2_31_1 (pc := 42) K dX2_reads_42 ?_
    refine x_st (a := up (up α idR 4 (q_held len 0 60) |> fun a1 => upR a1 idRb (va_cpy (a1 (idTp e)) (a1 idRb) (0 : Int32).toNatClampNeg (0 : Int32).toNatClampNeg (a1 idR 4).toNatClampNeg)) idR 5 (if use = 0 then 0 else 1)) (by rw [if_neg c_32]) rfl ?_
    refine x_aload_n (pc := 45) (i := 0) K dX2_reads_45 rfl rfl ?_
    refine x_iconst (pc := 46) (v := 0) K dX2_reads_46 (by decide) ?_
    refine pf_X2_15 (pc := 47)  K dX2_reads_47 ?_
    refine x_aload_n (pc := 50) (i := 0) K dX2_reads_50 rfl rfl ?_
    refine x_iconst (pc := 51) (v := 0) K dX2_reads_51 (by decide) ?_
    refine pf_X2_19 (pc := 52)  K dX2_reads_52 ?_
    refine x_st (a := q_readsA α e len use) rfl rfl ?_
    refine x_aload_n (pc := 55) (i := 0) K dX2_reads_55 rfl rfl ?_
    refine x_iconst (pc := 56) (v := 0) K dX2_reads_56 (by decide) ?_
    refine x_V1i (pc := 57) K (c_any0 (Rk.readsA hf he hg)) mw_yX2_readAny ⟨im_yX2_readAny, se_yX2_readAny⟩ mk_X2_53 rc_R rfl ⟨Nat.le_of_ble_eq_true rfl, Nat.le_of_ble_eq_true rfl, Nat.le_of_ble_eq_true rfl⟩ dX2_reads_57 ?_
    refine x_ifeq_b (pc := 60) (tgt := 78) K dX2_reads_60 (by decide) (fun c_60 => ?_) (fun c_60 => ?_)
    · refine x_iconst (pc := 78) (v := 0) K dX2_reads_78 (by decide) ?_
      exact x_nretI (pc := 79) K dX2_reads_79 rfl ⟨by unfold q_readsB; simp only [c_60, ↓reduceIte, Bool.false_eq_true]; rfl, rfl, rfl⟩
    · refine x_aload_n (pc := 63) (i := 0) K dX2_reads_63 rfl rfl ?_
      refine gf_X2_19 (pc := 64)  K dX2_reads_64 ?_
      refine x_aload_n (pc := 67) (i := 0) K dX2_reads_67 rfl rfl ?_
      refine gf_X2_26 (pc := 68)  K dX2_reads_68 ?_
      refine x_icmp_ne (pc := 71) (tgt := 78) K dX2_reads_71 (by decide) (fun c_71 => ?_) (fun c_71 => ?_)
      · refine x_iconst (pc := 78) (v := 0) K dX2_reads_78 (by decide) ?_
        exact x_nretI (pc := 79) K dX2_reads_79 rfl ⟨by unfold q_readsB; simp only [c_60, if_neg c_71, ↓reduceIte, Bool.false_eq_true]; rfl, rfl, rfl⟩
      · refine x_iconst (pc := 74) (v := 1) K dX2_reads_74 (by decide) ?_
        refine x_goto (pc := 75) (tgt := 79) K dX2_reads_75 (by decide) ?_
        exact x_nretI (pc := 79) K dX2_reads_79 rfl ⟨by unfold q_readsB; simp only [c_60, if_pos c_71, ↓reduceIte, Bool.false_eq_true]; rfl, rfl, rfl⟩
  · refine x_ldcS0 (pc := 35) K dX2_reads_35 ?_
    refine x_goto (pc := 37) (tgt := 42) K dX2_reads_37 (by decide) ?_
    refine pf_X2_31_0 (pc := 42) K dX2_reads_42 ?_
    refine x_st (a := up (up α idR 4 (q_held len 0 60) |> fun a1 => upR a1 idRb (va_cpy (a1 (idTp e)) (a1 idRb) (0 : Int32).toNatClampNeg (0 : Int32).toNatClampNeg (a1 idR 4).toNatClampNeg)) idR 5 (if use = 0 then 0 else 1)) (by rw [if_pos c_32]) rfl ?_
    refine x_aload_n (pc := 45) (i := 0) K dX2_reads_45 rfl rfl ?_
    refine x_iconst (pc := 46) (v := 0) K dX2_reads_46 (by decide) ?_
    refine pf_X2_15 (pc := 47)  K dX2_reads_47 ?_
    refine x_aload_n (pc := 50) (i := 0) K dX2_reads_50 rfl rfl ?_
    refine x_iconst (pc := 51) (v := 0) K dX2_reads_51 (by decide) ?_
    refine pf_X2_19 (pc := 52)  K dX2_reads_52 ?_
    refine x_st (a := q_readsA α e len use) rfl rfl ?_
    refine x_aload_n (pc := 55) (i := 0) K dX2_reads_55 rfl rfl ?_
    refine x_iconst (pc := 56) (v := 0) K dX2_reads_56 (by decide) ?_
    refine x_V1i (pc := 57) K (c_any0 (Rk.readsA hf he hg)) mw_yX2_readAny ⟨im_yX2_readAny, se_yX2_readAny⟩ mk_X2_53 rc_R rfl ⟨Nat.le_of_ble_eq_true rfl, Nat.le_of_ble_eq_true rfl, Nat.le_of_ble_eq_true rfl⟩ dX2_reads_57 ?_
    refine x_ifeq_b (pc := 60) (tgt := 78) K dX2_reads_60 (by decide) (fun c_60 => ?_) (fun c_60 => ?_)
    · refine x_iconst (pc := 78) (v := 0) K dX2_reads_78 (by decide) ?_
      exact x_nretI (pc := 79) K dX2_reads_79 rfl ⟨by unfold q_readsB; simp only [c_60, ↓reduceIte, Bool.false_eq_true]; rfl, rfl, rfl⟩
    · refine x_aload_n (pc := 63) (i := 0) K dX2_reads_63 rfl rfl ?_
      refine gf_X2_19 (pc := 64)  K dX2_reads_64 ?_
      refine x_aload_n (pc := 67) (i := 0) K dX2_reads_67 rfl rfl ?_
      refine gf_X2_26 (pc := 68)  K dX2_reads_68 ?_
      refine x_icmp_ne (pc := 71) (tgt := 78) K dX2_reads_71 (by decide) (fun c_71 => ?_) (fun c_71 => ?_)
      · refine x_iconst (pc := 78) (v := 0) K dX2_reads_78 (by decide) ?_
        exact x_nretI (pc := 79) K dX2_reads_79 rfl ⟨by unfold q_readsB; simp only [c_60, if_neg c_71, ↓reduceIte, Bool.false_eq_true]; rfl, rfl, rfl⟩
      · refine x_iconst (pc := 74) (v := 1) K dX2_reads_74 (by decide) ?_
        refine x_goto (pc := 75) (tgt := 79) K dX2_reads_75 (by decide) ?_
        exact x_nretI (pc := 79) K dX2_reads_79 rfl ⟨by unfold q_readsB; simp only [c_60, if_pos c_71, ↓reduceIte, Bool.false_eq_true]; rfl, rfl, rfl⟩

def q_txR (α : Af) (use : Int32) : Bool × Af := (q_readsB (q_anyP (q_one 5) (q_readsA α 0 (α (idD 0) 10) use)), up (q_anyP (q_one 5) (q_readsA α 0 (α (idD 0) 10) use)).2 (idD 0) 10 0)
def f_text (α : Af) (use : Int32) : Int32 × Af := if q_isUse use = true then (if (q_txR α use).1 = true then (1, q_write (q_txR α use).2 0 use.toNatClampNeg idRc ((q_txR α use).2 idR 1)) else (-10 - (q_txR α use).2 idR 2, (q_txR α use).2)) else q_errP α 1
set_option maxRecDepth 100000 in
set_option maxHeartbeats 4000000 in
theorem c_yX6_text {l : Launch} {G : Gm} {α ρ : Af} {use : Int32} (hI : IC α) : CI 1 l G yX6_text (Cond.code yX6_text cX6_text 3 (some .int)) 100 [.ref (gA G idB), .int use] α ρ (PI (f_text α use).1 (f_text α use).2 ρ) := by
  obtain ⟨⟨n, h9, hn⟩, hLk, hBk, hV, ⟨t, h60, ht⟩, ⟨w, h24, hw⟩, hSh, hRb, hTp⟩ := hI
  refine CI.of [some (.ref (gA G idB)), some (.int use), none] (by decide) (Nat.le_of_ble_eq_true rfl) rfl rfl (fun C K => ?_)
  have K : Ok l _ G C RX6 cX6_text (some .int) 3 := K
  refine x_iload_n (pc := 0) (i := 1) K dX6_text_0 rfl rfl ?_
  refine x_S1i (pc := 1) K (c_yX6_isUse) mw_yX6_isUse st_yX6_isUse mk_X6_141 ⟨Nat.le_of_ble_eq_true rfl, Nat.le_of_ble_eq_true rfl, Nat.le_of_ble_eq_true rfl⟩ dX6_text_1 ?_
  refine x_ifne_b (pc := 4) (tgt := 13) K dX6_text_4 (by decide) (fun c_4 => ?_) (fun c_4 => ?_)
  · obtain ⟨m, hlom, hhim, rfl⟩ := wi_of (v := use) (a := 0) (b := 1) rfl rfl (by decide) (by decide) c_4
    have hcm : (nI m).toNatClampNeg = m := nI_clamp (by omega)
    refine x_aload_n (pc := 13) (i := 0) K dX6_text_13 rfl rfl ?_
    refine gf_X6_25 (pc := 14)  K dX6_text_14 ?_
    refine x_aload_n (pc := 17) (i := 0) K dX6_text_17 rfl rfl ?_
    refine gf_X6_10 (pc := 18)  K dX6_text_18 ?_
    refine gf_X6_144 (pc := 21) (by decide) K dX6_text_21 ?_
    refine x_aload_n (pc := 24) (i := 0) K dX6_text_24 rfl rfl ?_
    refine gf_X6_10 (pc := 25)  K dX6_text_25 ?_
    refine gf_X6_134 (pc := 28) (by decide) K dX6_text_28 ?_
    refine x_iload_n (pc := 31) (i := 1) K dX6_text_31 rfl rfl ?_
    refine x_V3i (pc := 32) K (c_yX2_reads (by decide) (hTp 0 (by decide)) hRb) mw_yX2_reads ⟨im_yX2_reads, se_yX2_reads⟩ mk_X6_148 rc_R rfl ⟨Nat.le_of_ble_eq_true rfl, Nat.le_of_ble_eq_true rfl, Nat.le_of_ble_eq_true rfl⟩ dX6_text_32 ?_
    refine x_top (v' := .int (bI (q_txR α (nI m)).1)) rfl ?_
    refine x_istore_n (pc := 35) (i := 2) K dX6_text_35 rfl rfl (by decide) ?_
    refine x_aload_n (pc := 36) (i := 0) K dX6_text_36 rfl rfl ?_
    refine gf_X6_10 (pc := 37)  K dX6_text_37 ?_
    refine x_iconst (pc := 40) (v := 0) K dX6_text_40 (by decide) ?_
    refine pf_X6_134 (pc := 41) (by decide) K dX6_text_41 ?_
    refine x_st (a := (q_txR α (nI m)).2) rfl rfl ?_
    refine x_iload_n (pc := 44) (i := 2) K dX6_text_44 rfl rfl ?_
    refine x_ifne_b (pc := 45) (tgt := 59) K dX6_text_45 (by decide) (fun c_45 => ?_) (fun c_45 => ?_)
    · refine x_aload_n (pc := 59) (i := 0) K dX6_text_59 rfl rfl ?_
      refine gf_X6_10 (pc := 60)  K dX6_text_60 ?_
      refine gf_X6_155 (pc := 63) (by decide) K dX6_text_63 ?_
      refine x_iload_n (pc := 66) (i := 1) K dX6_text_66 rfl rfl ?_
      refine ab_Lw (pc := 67) (by decide) m (by omega) K dX6_text_67 ?_
      refine x_aload_n (pc := 68) (i := 0) K dX6_text_68 rfl rfl ?_
      refine gf_X6_25 (pc := 69)  K dX6_text_69 ?_
      refine gf_X6_159 (pc := 72)  K dX6_text_72 ?_
      refine x_aload_n (pc := 75) (i := 0) K dX6_text_75 rfl rfl ?_
      refine gf_X6_25 (pc := 76)  K dX6_text_76 ?_
      refine gf_X6_162 (pc := 79)  K dX6_text_79 ?_
      refine x_V2v (pc := 82) K (c_yX1_write (by decide) (by omega) ⟨by decide, scr_no (by decide)⟩ (fun f => rfl)) mw_yX1_write ⟨im_yX1_write, se_yX1_write⟩ mk_X6_165 (rc_L (by decide) (by omega)) rfl ⟨Nat.le_of_ble_eq_true rfl, Nat.le_of_ble_eq_true rfl, Nat.le_of_ble_eq_true rfl⟩ dX6_text_82 ?_
      refine x_iconst (pc := 85) (v := 1) K dX6_text_85 (by decide) ?_
      exact x_iretI (pc := 86) K dX6_text_86 ⟨by simp (decide := true) only [f_text, q_errP, c_4, c_45, ↓reduceIte, Bool.false_eq_true, bI_t, bI_f, hcm], by simp (decide := true) only [f_text, q_errP, c_4, c_45, ↓reduceIte, Bool.false_eq_true, bI_t, bI_f, hcm], rfl⟩
    · refine x_bipush (pc := 48) (v := (-10)) K dX6_text_48 (by decide) ?_
      refine x_aload_n (pc := 50) (i := 0) K dX6_text_50 rfl rfl ?_
      refine gf_X6_25 (pc := 51)  K dX6_text_51 ?_
      refine gf_X6_152 (pc := 54)  K dX6_text_54 ?_
      refine x_isub (pc := 57) K dX6_text_57 ?_
      exact x_iretI (pc := 58) K dX6_text_58 ⟨by simp (decide := true) only [f_text, q_errP, c_4, c_45, ↓reduceIte, Bool.false_eq_true, bI_t, bI_f, hcm], by simp (decide := true) only [f_text, q_errP, c_4, c_45, ↓reduceIte, Bool.false_eq_true, bI_t, bI_f, hcm], rfl⟩
  · refine x_aload_n (pc := 7) (i := 0) K dX6_text_7 rfl rfl ?_
    refine x_iconst (pc := 8) (v := 1) K dX6_text_8 (by decide) ?_
    refine x_V1i (pc := 9) K (c_yX6_error (j := 1) (by decide)) mw_yX6_error ⟨im_yX6_error, se_yX6_error⟩ mk_X6_59 rc_B rfl ⟨Nat.le_of_ble_eq_true rfl, Nat.le_of_ble_eq_true rfl, Nat.le_of_ble_eq_true rfl⟩ dX6_text_9 ?_
    exact x_iretI (pc := 12) K dX6_text_12 ⟨by simp (decide := true) only [f_text, q_errP, c_4, ↓reduceIte, Bool.false_eq_true, bI_t, bI_f], by simp (decide := true) only [f_text, q_errP, c_4, ↓reduceIte, Bool.false_eq_true, bI_t, bI_f], rfl⟩
