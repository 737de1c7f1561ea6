/-- what the reference's calls need of its numbers -/
def IM (ρ : Af) : Prop := (∃ n, n ≤ 9 ∧ ρ mRow 2 = nI n ∧ Eb (r_endsU ρ) n) ∧ Ml ρ 0 ∧ Ml ρ 1 ∧ (∃ t, t ≤ 60 ∧ ρ mRow 7 = nI t) ∧ (∃ w, w ≤ 24 ∧ ρ mRow 8 = nI w) ∧ (∀ s, s < 4 → ∃ m, m ≤ 24 ∧ ρ mSize s = nI m) ∧ (∃ t, t ≤ 30 ∧ ρ idM 19 = nI t)
def r_errP (ρ : Af) (j : Nat) : Int32 × Af := (-1000000000 - nI j, r_err ρ j)
def r_addS (ρ : Af) (n : Nat) (km a b : Int32) : Af := up (up (up (up (up (up (up (up ρ mRow 2 (ρ mRow 2 + 1)) mRow (mS n 0) (km / 10)) mRow (mS n 1) (jrem km 10)) mRow (mS n 2) a) mRow (mS n 3) b) mRow (mS n 4) 0) mRow (mS n 5) 0) mRow (mS n 6) 0
def r_isF (ρ : Af) (j : Nat) (what : Int32) : Int32 := if 7 ≤ what then (if what = 7 then r_bearsU ρ j else r_takesU ρ j) else ρ mRow (mS j what.toNatClampNeg)
def r_as (k w : Int32) : Bool := if w = 0 then true else if w = k then true else if w = 1 then (if k = 4 then true else false) else if w = 2 then (if k = 5 then true else false) else false
def r_bake (ρ : Af) (u : Nat) : Af := up (up (up ρ mRow (mS u 4) 0) mRow (mS u 5) 0) mRow (mS u 6) 0
theorem mS_9 {u : Nat} (w : Nat) : (9 : Int32) + 7 * nI u + nI w = nI (mS u w) := mS_x
theorem mS_90 {u : Nat} : (9 : Int32) + 7 * nI u = nI (mS u 0) := by
  show nI 9 + nI 7 * nI u = _
  rw [pk_mul, nI_add]; rfl
def IM.n (ρ : Af) : Nat := (ρ mRow 2).toNatClampNeg
def g_span (ρ : Af) (km a b : Int32) : Int32 × Af := if q_isKm km = true then (if q_areTwo a b = true then (if ρ mRow 2 = 9 then r_errP ρ 4 else (ρ mRow 2, r_addS ρ (ρ mRow 2).toNatClampNeg km a b)) else r_errP ρ 1) else r_errP ρ 1
set_option maxRecDepth 100000 in
set_option maxHeartbeats 4000000 in
theorem c_yX7_span {l : Launch} {G : Gm} {α ρ : Af} {km a b : Int32} (hI : IM ρ) : CI 1 l G yX7_span (Cond.code yX7_span cX7_span 5 (some .int)) 100 [.ref (gA G idM), .int km, .int a, .int b] α ρ (PI (g_span ρ km a b).1 α (g_span ρ km a b).2) := by
  obtain ⟨⟨n, h9, hn, hE⟩, hl0, hl1, ⟨t, h60, ht⟩, ⟨w, h24, hw⟩, hSz, ⟨q, hq, hqe⟩⟩ := hI
  refine CI.of [some (.ref (gA G idM)), some (.int km), some (.int a), some (.int b), none] (by decide) (Nat.le_of_ble_eq_true rfl) rfl rfl (fun C K => ?_)
  have K : Ok l _ G C RX7 cX7_span (some .int) 5 := K
  refine x_iload_n (pc := 0) (i := 1) K dX7_span_0 rfl rfl ?_
  refine x_S1i (pc := 1) K (c_yX7_isKm) mw_yX7_isKm st_yX7_isKm mk_X7_73 ⟨Nat.le_of_ble_eq_true rfl, Nat.le_of_ble_eq_true rfl, Nat.le_of_ble_eq_true rfl⟩ dX7_span_1 ?_
  refine x_ifeq_b (pc := 4) (tgt := 15) K dX7_span_4 (by decide) (fun c_4 => ?_) (fun c_4 => ?_)
  · refine x_aload_n (pc := 15) (i := 0) K dX7_span_15 rfl rfl ?_
    refine x_ldc (pc := 16) K kn_X7_80 dX7_span_16 ?_
    refine x_V1i (pc := 18) K (c_yX7_error (j := 1) (by decide) (by decide)) mw_yX7_error ⟨im_yX7_error, se_yX7_error⟩ mk_X7_81 rc_M rfl ⟨Nat.le_of_ble_eq_true rfl, Nat.le_of_ble_eq_true rfl, Nat.le_of_ble_eq_true rfl⟩ dX7_span_18 ?_
    exact x_iretI (pc := 21) K dX7_span_21 ⟨by simp (decide := true) only [g_span, r_errP, c_4, ↓reduceIte, Bool.false_eq_true, bI_t, bI_f], rfl, by simp (decide := true) only [g_span, r_errP, c_4, ↓reduceIte, Bool.false_eq_true, bI_t, bI_f]⟩
  · refine x_iload_n (pc := 7) (i := 2) K dX7_span_7 rfl rfl ?_
    refine x_iload_n (pc := 8) (i := 3) K dX7_span_8 rfl rfl ?_
    refine x_S2i (pc := 9) K (c_yX7_areTwo) mw_yX7_areTwo st_yX7_areTwo mk_X7_76 ⟨Nat.le_of_ble_eq_true rfl, Nat.le_of_ble_eq_true rfl, Nat.le_of_ble_eq_true rfl⟩ dX7_span_9 ?_
    refine x_ifne_b (pc := 12) (tgt := 22) K dX7_span_12 (by decide) (fun c_12 => ?_) (fun c_12 => ?_)
    · refine x_aload_n (pc := 22) (i := 0) K dX7_span_22 rfl rfl ?_
      refine gf_X7_9 (pc := 23)  K dX7_span_23 ?_
      refine x_iconst (pc := 26) (v := 2) K dX7_span_26 (by decide) ?_
      refine ib_mRow (pc := 27) 2 (by decide) rfl K dX7_span_27 ?_
      refine x_topi K (show _ = nI n from hn) ?_
      have hcn : (nI n).toNatClampNeg = n := nI_clamp (by omega)
      refine x_istore (pc := 28) (i := 4) K dX7_span_28 rfl (by decide) ?_
      refine x_iload (pc := 30) (i := 4) K dX7_span_30 rfl ?_
      refine x_bipush (pc := 32) (v := 9) K dX7_span_32 (by decide) ?_
      refine x_icmp_ne (pc := 34) (tgt := 44) K dX7_span_34 (by decide) (fun c_34 => ?_) (fun c_34 => ?_)
      · have hn8 : n < 9 := by rcases Nat.lt_or_ge n 9 with z | z; exact z; exact absurd (by rw [show n = 9 by omega]; rfl) c_34
        refine x_aload_n (pc := 44) (i := 0) K dX7_span_44 rfl rfl ?_
        refine gf_X7_9 (pc := 45)  K dX7_span_45 ?_
        refine x_iconst (pc := 48) (v := 2) K dX7_span_48 (by decide) ?_
        refine x_dup2 (pc := 49) K dX7_span_49 rfl rfl ?_
        refine ib_mRow (pc := 50) 2 (by decide) rfl K dX7_span_50 ?_
        refine x_iconst (pc := 51) (v := 1) K dX7_span_51 (by decide) ?_
        refine x_iadd (pc := 52) K dX7_span_52 ?_
        refine js_mRow (pc := 53) 2 (by decide) rfl K dX7_span_53 ?_
        refine x_aload_n (pc := 54) (i := 0) K dX7_span_54 rfl rfl ?_
        refine x_iload (pc := 55) (i := 4) K dX7_span_55 rfl ?_
        refine x_iconst (pc := 57) (v := 0) K dX7_span_57 (by decide) ?_
        refine x_iload_n (pc := 58) (i := 1) K dX7_span_58 rfl rfl ?_
        refine x_bipush (pc := 59) (v := 10) K dX7_span_59 (by decide) ?_
        refine x_idiv (pc := 61) K dX7_span_61 (by decide) ?_
        refine x_V3v (pc := 62) K (c_yX7_lets (u := n) (w := 0) (Nat.lt_trans (mS_lt hn8 (by decide)) (by decide))) mw_yX7_lets ⟨im_yX7_lets, se_yX7_lets⟩ mk_X7_86 rc_M rfl ⟨Nat.le_of_ble_eq_true rfl, Nat.le_of_ble_eq_true rfl, Nat.le_of_ble_eq_true rfl⟩ dX7_span_62 ?_
        refine x_aload_n (pc := 65) (i := 0) K dX7_span_65 rfl rfl ?_
        refine x_iload (pc := 66) (i := 4) K dX7_span_66 rfl ?_
        refine x_iconst (pc := 68) (v := 1) K dX7_span_68 (by decide) ?_
        refine x_iload_n (pc := 69) (i := 1) K dX7_span_69 rfl rfl ?_
        refine x_bipush (pc := 70) (v := 10) K dX7_span_70 (by decide) ?_
        refine x_irem (pc := 72) K dX7_span_72 (by decide) ?_
        refine x_V3v (pc := 73) K (c_yX7_lets (u := n) (w := 1) (Nat.lt_trans (mS_lt hn8 (by decide)) (by decide))) mw_yX7_lets ⟨im_yX7_lets, se_yX7_lets⟩ mk_X7_86 rc_M rfl ⟨Nat.le_of_ble_eq_true rfl, Nat.le_of_ble_eq_true rfl, Nat.le_of_ble_eq_true rfl⟩ dX7_span_73 ?_
        refine x_aload_n (pc := 76) (i := 0) K dX7_span_76 rfl rfl ?_
        refine x_iload (pc := 77) (i := 4) K dX7_span_77 rfl ?_
        refine x_iconst (pc := 79) (v := 2) K dX7_span_79 (by decide) ?_
        refine x_iload_n (pc := 80) (i := 2) K dX7_span_80 rfl rfl ?_
        refine x_V3v (pc := 81) K (c_yX7_lets (u := n) (w := 2) (Nat.lt_trans (mS_lt hn8 (by decide)) (by decide))) mw_yX7_lets ⟨im_yX7_lets, se_yX7_lets⟩ mk_X7_86 rc_M rfl ⟨Nat.le_of_ble_eq_true rfl, Nat.le_of_ble_eq_true rfl, Nat.le_of_ble_eq_true rfl⟩ dX7_span_81 ?_
        refine x_aload_n (pc := 84) (i := 0) K dX7_span_84 rfl rfl ?_
        refine x_iload (pc := 85) (i := 4) K dX7_span_85 rfl ?_
        refine x_iconst (pc := 87) (v := 3) K dX7_span_87 (by decide) ?_
        refine x_iload_n (pc := 88) (i := 3) K dX7_span_88 rfl rfl ?_
        refine x_V3v (pc := 89) K (c_yX7_lets (u := n) (w := 3) (Nat.lt_trans (mS_lt hn8 (by decide)) (by decide))) mw_yX7_lets ⟨im_yX7_lets, se_yX7_lets⟩ mk_X7_86 rc_M rfl ⟨Nat.le_of_ble_eq_true rfl, Nat.le_of_ble_eq_true rfl, Nat.le_of_ble_eq_true rfl⟩ dX7_span_89 ?_
        refine x_aload_n (pc := 92) (i := 0) K dX7_span_92 rfl rfl ?_
        refine x_iload (pc := 93) (i := 4) K dX7_span_93 rfl ?_
        refine x_iconst (pc := 95) (v := 4) K dX7_span_95 (by decide) ?_
        refine x_iconst (pc := 96) (v := 0) K dX7_span_96 (by decide) ?_
        refine x_V3v (pc := 97) K (c_yX7_lets (u := n) (w := 4) (Nat.lt_trans (mS_lt hn8 (by decide)) (by decide))) mw_yX7_lets ⟨im_yX7_lets, se_yX7_lets⟩ mk_X7_86 rc_M rfl ⟨Nat.le_of_ble_eq_true rfl, Nat.le_of_ble_eq_true rfl, Nat.le_of_ble_eq_true rfl⟩ dX7_span_97 ?_
        refine x_aload_n (pc := 100) (i := 0) K dX7_span_100 rfl rfl ?_
        refine x_iload (pc := 101) (i := 4) K dX7_span_101 rfl ?_
        refine x_iconst (pc := 103) (v := 5) K dX7_span_103 (by decide) ?_
        refine x_iconst (pc := 104) (v := 0) K dX7_span_104 (by decide) ?_
        refine x_V3v (pc := 105) K (c_yX7_lets (u := n) (w := 5) (Nat.lt_trans (mS_lt hn8 (by decide)) (by decide))) mw_yX7_lets ⟨im_yX7_lets, se_yX7_lets⟩ mk_X7_86 rc_M rfl ⟨Nat.le_of_ble_eq_true rfl, Nat.le_of_ble_eq_true rfl, Nat.le_of_ble_eq_true rfl⟩ dX7_span_105 ?_
        refine x_aload_n (pc := 108) (i := 0) K dX7_span_108 rfl rfl ?_
        refine x_iload (pc := 109) (i := 4) K dX7_span_109 rfl ?_
        refine x_bipush (pc := 111) (v := 6) K dX7_span_111 (by decide) ?_
        refine x_iconst (pc := 113) (v := 0) K dX7_span_113 (by decide) ?_
        refine x_V3v (pc := 114) K (c_yX7_lets (u := n) (w := 6) (Nat.lt_trans (mS_lt hn8 (by decide)) (by decide))) mw_yX7_lets ⟨im_yX7_lets, se_yX7_lets⟩ mk_X7_86 rc_M rfl ⟨Nat.le_of_ble_eq_true rfl, Nat.le_of_ble_eq_true rfl, Nat.le_of_ble_eq_true rfl⟩ dX7_span_114 ?_
        refine x_st (r := r_addS ρ n km a b) rfl rfl ?_
        refine x_iload (pc := 117) (i := 4) K dX7_span_117 rfl ?_
        exact x_iretI (pc := 119) K dX7_span_119 ⟨by simp (decide := true) only [g_span, r_errP, c_4, c_12, if_neg c_34, ↓reduceIte, Bool.false_eq_true, bI_t, bI_f, hn, hcn], rfl, by simp (decide := true) only [g_span, r_errP, c_4, c_12, if_neg c_34, ↓reduceIte, Bool.false_eq_true, bI_t, bI_f, hn, hcn]⟩
      · refine x_aload_n (pc := 37) (i := 0) K dX7_span_37 rfl rfl ?_
        refine x_ldc (pc := 38) K kn_X7_85 dX7_span_38 ?_
        refine x_V1i (pc := 40) K (c_yX7_error (j := 4) (by decide) (by decide)) mw_yX7_error ⟨im_yX7_error, se_yX7_error⟩ mk_X7_81 rc_M rfl ⟨Nat.le_of_ble_eq_true rfl, Nat.le_of_ble_eq_true rfl, Nat.le_of_ble_eq_true rfl⟩ dX7_span_40 ?_
        exact x_iretI (pc := 43) K dX7_span_43 ⟨by simp (decide := true) only [g_span, r_errP, c_4, c_12, if_pos c_34, ↓reduceIte, Bool.false_eq_true, bI_t, bI_f, hn, hcn], rfl, by simp (decide := true) only [g_span, r_errP, c_4, c_12, if_pos c_34, ↓reduceIte, Bool.false_eq_true, bI_t, bI_f, hn, hcn]⟩
    · refine x_aload_n (pc := 15) (i := 0) K dX7_span_15 rfl rfl ?_
      refine x_ldc (pc := 16) K kn_X7_80 dX7_span_16 ?_
      refine x_V1i (pc := 18) K (c_yX7_error (j := 1) (by decide) (by decide)) mw_yX7_error ⟨im_yX7_error, se_yX7_error⟩ mk_X7_81 rc_M rfl ⟨Nat.le_of_ble_eq_true rfl, Nat.le_of_ble_eq_true rfl, Nat.le_of_ble_eq_true rfl⟩ dX7_span_18 ?_
      exact x_iretI (pc := 21) K dX7_span_21 ⟨by simp (decide := true) only [g_span, r_errP, c_4, c_12, ↓reduceIte, Bool.false_eq_true, bI_t, bI_f], rfl, by simp (decide := true) only [g_span, r_errP, c_4, c_12, ↓reduceIte, Bool.false_eq_true, bI_t, bI_f]⟩

def g_spanIs (ρ : Af) (span what : Int32) : Int32 × Af := if q_within span 0 (ρ mRow 2 - 1) = true then (if q_within what 0 8 = true then (r_isF ρ span.toNatClampNeg what, ρ) else r_errP ρ 1) else r_errP ρ 1
set_option maxRecDepth 100000 in
set_option maxHeartbeats 4000000 in
theorem c_yX7_spanIs {l : Launch} {G : Gm} {α ρ : Af} {span what : Int32} (hI : IM ρ) : CI 1 l G yX7_spanIs (Cond.code yX7_spanIs cX7_spanIs 3 (some .int)) 100 [.ref (gA G idM), .int span, .int what] α ρ (PI (g_spanIs ρ span what).1 α (g_spanIs ρ span what).2) := by
  obtain ⟨⟨n, h9, hn, hE⟩, hl0, hl1, ⟨t, h60, ht⟩, ⟨w, h24, hw⟩, hSz, ⟨q, hq, hqe⟩⟩ := hI
  refine CI.of [some (.ref (gA G idM)), some (.int span), some (.int what)] (by decide) (Nat.le_of_ble_eq_true rfl) rfl rfl (fun C K => ?_)
  have K : Ok l _ G C RX7 cX7_spanIs (some .int) 3 := K
  refine x_aload_n (pc := 0) (i := 0) K dX7_spanIs_0 rfl rfl ?_
  refine x_iload_n (pc := 1) (i := 1) K dX7_spanIs_1 rfl rfl ?_
  refine x_V1i (pc := 2) K (c_yX7_isSpan) mw_yX7_isSpan ⟨im_yX7_isSpan, se_yX7_isSpan⟩ mk_X7_90 rc_M rfl ⟨Nat.le_of_ble_eq_true rfl, Nat.le_of_ble_eq_true rfl, Nat.le_of_ble_eq_true rfl⟩ dX7_spanIs_2 ?_
  refine x_ifeq_b (pc := 5) (tgt := 18) K dX7_spanIs_5 (by decide) (fun c_5 => ?_) (fun c_5 => ?_)
  · refine x_aload_n (pc := 18) (i := 0) K dX7_spanIs_18 rfl rfl ?_
    refine x_ldc (pc := 19) K kn_X7_80 dX7_spanIs_19 ?_
    refine x_V1i (pc := 21) K (c_yX7_error (j := 1) (by decide) (by decide)) mw_yX7_error ⟨im_yX7_error, se_yX7_error⟩ mk_X7_81 rc_M rfl ⟨Nat.le_of_ble_eq_true rfl, Nat.le_of_ble_eq_true rfl, Nat.le_of_ble_eq_true rfl⟩ dX7_spanIs_21 ?_
    exact x_iretI (pc := 24) K dX7_spanIs_24 ⟨by simp (decide := true) only [g_spanIs, r_errP, c_5, ↓reduceIte, Bool.false_eq_true, bI_t, bI_f], rfl, by simp (decide := true) only [g_spanIs, r_errP, c_5, ↓reduceIte, Bool.false_eq_true, bI_t, bI_f]⟩
  · refine x_iload_n (pc := 8) (i := 2) K dX7_spanIs_8 rfl rfl ?_
    refine x_iconst (pc := 9) (v := 0) K dX7_spanIs_9 (by decide) ?_
    refine x_bipush (pc := 10) (v := 8) K dX7_spanIs_10 (by decide) ?_
    refine x_S3i (pc := 12) K (c_yX7_in) mw_yX7_in st_yX7_in mk_X7_54 ⟨Nat.le_of_ble_eq_true rfl, Nat.le_of_ble_eq_true rfl, Nat.le_of_ble_eq_true rfl⟩ dX7_spanIs_12 ?_
    refine x_ifne_b (pc := 15) (tgt := 25) K dX7_spanIs_15 (by decide) (fun c_15 => ?_) (fun c_15 => ?_)
    · obtain ⟨j, hj, rfl⟩ := hs_of (v := span) (n := n) (by omega) (by rw [← hn]; exact c_5)
      have hj9 : j < 9 := by omega
      have hjc : (nI j).toNatClampNeg = j := nI_clamp (by omega)
      obtain ⟨m, hlom, hhim, rfl⟩ := wi_of (v := what) (a := 0) (b := 8) rfl rfl (by decide) (by decide) c_15
      have hcm : (nI m).toNatClampNeg = m := nI_clamp (by omega)
      refine x_iload_n (pc := 25) (i := 2) K dX7_spanIs_25 rfl rfl ?_
      refine x_bipush (pc := 26) (v := 7) K dX7_spanIs_26 (by decide) ?_
      refine x_icmp_ge (pc := 28) (tgt := 40) K dX7_spanIs_28 (by decide) (fun c_28 => ?_) (fun c_28 => ?_)
      · refine x_iload_n (pc := 40) (i := 2) K dX7_spanIs_40 rfl rfl ?_
        refine x_bipush (pc := 41) (v := 7) K dX7_spanIs_41 (by decide) ?_
        refine x_icmp_ne (pc := 43) (tgt := 54) K dX7_spanIs_43 (by decide) (fun c_43 => ?_) (fun c_43 => ?_)
        · refine x_aload_n (pc := 54) (i := 0) K dX7_spanIs_54 rfl rfl ?_
          refine x_iload_n (pc := 55) (i := 1) K dX7_spanIs_55 rfl rfl ?_
          refine x_V1i (pc := 56) K (c_yX7_takesOf hj9) mw_yX7_takesOf ⟨im_yX7_takesOf, se_yX7_takesOf⟩ mk_X7_96 rc_M rfl ⟨Nat.le_of_ble_eq_true rfl, Nat.le_of_ble_eq_true rfl, Nat.le_of_ble_eq_true rfl⟩ dX7_spanIs_56 ?_
          exact x_iretI (pc := 59) K dX7_spanIs_59 ⟨by simp (decide := true) only [g_spanIs, r_errP, c_5, c_15, if_pos c_28, if_neg c_43, ↓reduceIte, Bool.false_eq_true, bI_t, bI_f, r_isF, hjc, hcm], rfl, by simp (decide := true) only [g_spanIs, r_errP, c_5, c_15, if_pos c_28, if_neg c_43, ↓reduceIte, Bool.false_eq_true, bI_t, bI_f, r_isF, hjc, hcm]⟩
        · refine x_aload_n (pc := 46) (i := 0) K dX7_spanIs_46 rfl rfl ?_
          refine x_iload_n (pc := 47) (i := 1) K dX7_spanIs_47 rfl rfl ?_
          refine x_V1i (pc := 48) K (c_yX7_bearsOf hj9) mw_yX7_bearsOf ⟨im_yX7_bearsOf, se_yX7_bearsOf⟩ mk_X7_93 rc_M rfl ⟨Nat.le_of_ble_eq_true rfl, Nat.le_of_ble_eq_true rfl, Nat.le_of_ble_eq_true rfl⟩ dX7_spanIs_48 ?_
          refine x_goto (pc := 51) (tgt := 59) K dX7_spanIs_51 (by decide) ?_
          exact x_iretI (pc := 59) K dX7_spanIs_59 ⟨by simp (decide := true) only [g_spanIs, r_errP, c_5, c_15, if_pos c_28, if_pos c_43, ↓reduceIte, Bool.false_eq_true, bI_t, bI_f, r_isF, hjc, hcm], rfl, by simp (decide := true) only [g_spanIs, r_errP, c_5, c_15, if_pos c_28, if_pos c_43, ↓reduceIte, Bool.false_eq_true, bI_t, bI_f, r_isF, hjc, hcm]⟩
      · have hm7 : m < 7 := Nat.lt_of_not_le fun z => c_28 (nI_le (a := 7) (b := m) z (by omega))
        refine x_aload_n (pc := 31) (i := 0) K dX7_spanIs_31 rfl rfl ?_
        refine x_iload_n (pc := 32) (i := 1) K dX7_spanIs_32 rfl rfl ?_
        refine x_iload_n (pc := 33) (i := 2) K dX7_spanIs_33 rfl rfl ?_
        refine x_V2i (pc := 34) K (c_yX7_of (u := j) (w := m) (Nat.lt_trans (mS_lt hj9 hm7) (by decide))) mw_yX7_of ⟨im_yX7_of, se_yX7_of⟩ mk_X7_62 rc_M rfl ⟨Nat.le_of_ble_eq_true rfl, Nat.le_of_ble_eq_true rfl, Nat.le_of_ble_eq_true rfl⟩ dX7_spanIs_34 ?_
        refine x_goto (pc := 37) (tgt := 59) K dX7_spanIs_37 (by decide) ?_
        exact x_iretI (pc := 59) K dX7_spanIs_59 ⟨by simp (decide := true) only [g_spanIs, r_errP, c_5, c_15, if_neg c_28, ↓reduceIte, Bool.false_eq_true, bI_t, bI_f, r_isF, hjc, hcm], rfl, by simp (decide := true) only [g_spanIs, r_errP, c_5, c_15, if_neg c_28, ↓reduceIte, Bool.false_eq_true, bI_t, bI_f, r_isF, hjc, hcm]⟩
    · refine x_aload_n (pc := 18) (i := 0) K dX7_spanIs_18 rfl rfl ?_
      refine x_ldc (pc := 19) K kn_X7_80 dX7_spanIs_19 ?_
      refine x_V1i (pc := 21) K (c_yX7_error (j := 1) (by decide) (by decide)) mw_yX7_error ⟨im_yX7_error, se_yX7_error⟩ mk_X7_81 rc_M rfl ⟨Nat.le_of_ble_eq_true rfl, Nat.le_of_ble_eq_true rfl, Nat.le_of_ble_eq_true rfl⟩ dX7_spanIs_21 ?_
      exact x_iretI (pc := 24) K dX7_spanIs_24 ⟨by simp (decide := true) only [g_spanIs, r_errP, c_5, c_15, ↓reduceIte, Bool.false_eq_true, bI_t, bI_f], rfl, by simp (decide := true) only [g_spanIs, r_errP, c_5, c_15, ↓reduceIte, Bool.false_eq_true, bI_t, bI_f]⟩

def g_become (ρ : Af) (span km : Int32) : Int32 × Af := if q_within span 0 (ρ mRow 2 - 1) = true then (if q_isKm km = true then (up ρ mRow (mS span.toNatClampNeg 1) (jrem km 10) mRow (mS span.toNatClampNeg 0), up (up ρ mRow (mS span.toNatClampNeg 1) (jrem km 10)) mRow (mS span.toNatClampNeg 0) (km / 10)) else r_errP ρ 1) else r_errP ρ 1
set_option maxRecDepth 100000 in
set_option maxHeartbeats 4000000 in
theorem c_yX7_become {l : Launch} {G : Gm} {α ρ : Af} {span km : Int32} (hI : IM ρ) : CI 1 l G yX7_become (Cond.code yX7_become cX7_become 3 (some .int)) 100 [.ref (gA G idM), .int span, .int km] α ρ (PI (g_become ρ span km).1 α (g_become ρ span km).2) := by
  obtain ⟨⟨n, h9, hn, hE⟩, hl0, hl1, ⟨t, h60, ht⟩, ⟨w, h24, hw⟩, hSz, ⟨q, hq, hqe⟩⟩ := hI
  refine CI.of [some (.ref (gA G idM)), some (.int span), some (.int km)] (by decide) (Nat.le_of_ble_eq_true rfl) rfl rfl (fun C K => ?_)
  have K : Ok l _ G C RX7 cX7_become (some .int) 3 := K
  refine x_aload_n (pc := 0) (i := 0) K dX7_become_0 rfl rfl ?_
  refine x_iload_n (pc := 1) (i := 1) K dX7_become_1 rfl rfl ?_
  refine x_V1i (pc := 2) K (c_yX7_isSpan) mw_yX7_isSpan ⟨im_yX7_isSpan, se_yX7_isSpan⟩ mk_X7_90 rc_M rfl ⟨Nat.le_of_ble_eq_true rfl, Nat.le_of_ble_eq_true rfl, Nat.le_of_ble_eq_true rfl⟩ dX7_become_2 ?_
  refine x_ifeq_b (pc := 5) (tgt := 15) K dX7_become_5 (by decide) (fun c_5 => ?_) (fun c_5 => ?_)
  · refine x_aload_n (pc := 15) (i := 0) K dX7_become_15 rfl rfl ?_
    refine x_ldc (pc := 16) K kn_X7_80 dX7_become_16 ?_
    refine x_V1i (pc := 18) K (c_yX7_error (j := 1) (by decide) (by decide)) mw_yX7_error ⟨im_yX7_error, se_yX7_error⟩ mk_X7_81 rc_M rfl ⟨Nat.le_of_ble_eq_true rfl, Nat.le_of_ble_eq_true rfl, Nat.le_of_ble_eq_true rfl⟩ dX7_become_18 ?_
    exact x_iretI (pc := 21) K dX7_become_21 ⟨by simp (decide := true) only [g_become, r_errP, c_5, ↓reduceIte, Bool.false_eq_true, bI_t, bI_f], rfl, by simp (decide := true) only [g_become, r_errP, c_5, ↓reduceIte, Bool.false_eq_true, bI_t, bI_f]⟩
  · refine x_iload_n (pc := 8) (i := 2) K dX7_become_8 rfl rfl ?_
    refine x_S1i (pc := 9) K (c_yX7_isKm) mw_yX7_isKm st_yX7_isKm mk_X7_73 ⟨Nat.le_of_ble_eq_true rfl, Nat.le_of_ble_eq_true rfl, Nat.le_of_ble_eq_true rfl⟩ dX7_become_9 ?_
    refine x_ifne_b (pc := 12) (tgt := 22) K dX7_become_12 (by decide) (fun c_12 => ?_) (fun c_12 => ?_)
    · obtain ⟨j, hj, rfl⟩ := hs_of (v := span) (n := n) (by omega) (by rw [← hn]; exact c_5)
      have hj9 : j < 9 := by omega
      have hjc : (nI j).toNatClampNeg = j := nI_clamp (by omega)
      refine x_aload_n (pc := 22) (i := 0) K dX7_become_22 rfl rfl ?_
      refine x_iload_n (pc := 23) (i := 1) K dX7_become_23 rfl rfl ?_
      refine x_iconst (pc := 24) (v := 1) K dX7_become_24 (by decide) ?_
      refine x_iload_n (pc := 25) (i := 2) K dX7_become_25 rfl rfl ?_
      refine x_bipush (pc := 26) (v := 10) K dX7_become_26 (by decide) ?_
      refine x_irem (pc := 28) K dX7_become_28 (by decide) ?_
      refine x_V3v (pc := 29) K (c_yX7_lets (u := j) (w := 1) (Nat.lt_trans (mS_lt hj9 (by decide)) (by decide))) mw_yX7_lets ⟨im_yX7_lets, se_yX7_lets⟩ mk_X7_86 rc_M rfl ⟨Nat.le_of_ble_eq_true rfl, Nat.le_of_ble_eq_true rfl, Nat.le_of_ble_eq_true rfl⟩ dX7_become_29 ?_
      refine x_aload_n (pc := 32) (i := 0) K dX7_become_32 rfl rfl ?_
      refine x_bipush (pc := 33) (v := 9) K dX7_become_33 (by decide) ?_
      refine x_bipush (pc := 35) (v := 7) K dX7_become_35 (by decide) ?_
      refine x_iload_n (pc := 37) (i := 1) K dX7_become_37 rfl rfl ?_
      refine x_imul (pc := 38) K dX7_become_38 ?_
      refine x_iadd (pc := 39) K dX7_become_39 ?_
      refine x_iload_n (pc := 40) (i := 2) K dX7_become_40 rfl rfl ?_
      refine x_bipush (pc := 41) (v := 10) K dX7_become_41 (by decide) ?_
      refine x_idiv (pc := 43) K dX7_become_43 (by decide) ?_
      refine x_V2i (pc := 44) K (c_yX7_becomes (j := mS j 0) (Nat.lt_trans (mS_lt hj9 (by decide)) (by decide)) mS_90) mw_yX7_becomes ⟨im_yX7_becomes, se_yX7_becomes⟩ mk_X7_99 rc_M rfl ⟨Nat.le_of_ble_eq_true rfl, Nat.le_of_ble_eq_true rfl, Nat.le_of_ble_eq_true rfl⟩ dX7_become_44 ?_
      exact x_iretI (pc := 47) K dX7_become_47 ⟨by simp (decide := true) only [g_become, r_errP, c_5, c_12, ↓reduceIte, Bool.false_eq_true, bI_t, bI_f, hjc], rfl, by simp (decide := true) only [g_become, r_errP, c_5, c_12, ↓reduceIte, Bool.false_eq_true, bI_t, bI_f, hjc]⟩
    · refine x_aload_n (pc := 15) (i := 0) K dX7_become_15 rfl rfl ?_
      refine x_ldc (pc := 16) K kn_X7_80 dX7_become_16 ?_
      refine x_V1i (pc := 18) K (c_yX7_error (j := 1) (by decide) (by decide)) mw_yX7_error ⟨im_yX7_error, se_yX7_error⟩ mk_X7_81 rc_M rfl ⟨Nat.le_of_ble_eq_true rfl, Nat.le_of_ble_eq_true rfl, Nat.le_of_ble_eq_true rfl⟩ dX7_become_18 ?_
      exact x_iretI (pc := 21) K dX7_become_21 ⟨by simp (decide := true) only [g_become, r_errP, c_5, c_12, ↓reduceIte, Bool.false_eq_true, bI_t, bI_f], rfl, by simp (decide := true) only [g_become, r_errP, c_5, c_12, ↓reduceIte, Bool.false_eq_true, bI_t, bI_f]⟩

def g_as (ρ : Af) (span kind : Int32) : Int32 × Af := if q_within span 0 (ρ mRow 2 - 1) = true then (if q_within kind 0 6 = true then (if r_as (ρ mRow (mS span.toNatClampNeg 0)) kind = true then (ρ mRow (mS span.toNatClampNeg 1), ρ) else r_errP ρ 5) else r_errP ρ 1) else r_errP ρ 1
set_option maxRecDepth 100000 in
set_option maxHeartbeats 4000000 in
theorem c_yX7_as {l : Launch} {G : Gm} {α ρ : Af} {span kind : Int32} (hI : IM ρ) : CI 1 l G yX7_as (Cond.code yX7_as cX7_as 5 (some .int)) 100 [.ref (gA G idM), .int span, .int kind] α ρ (PI (g_as ρ span kind).1 α (g_as ρ span kind).2) := by
  obtain ⟨⟨n, h9, hn, hE⟩, hl0, hl1, ⟨t, h60, ht⟩, ⟨w, h24, hw⟩, hSz, ⟨q, hq, hqe⟩⟩ := hI
  refine CI.of [some (.ref (gA G idM)), some (.int span), some (.int kind), none, none] (by decide) (Nat.le_of_ble_eq_true rfl) rfl rfl (fun C K => ?_)
  have K : Ok l _ G C RX7 cX7_as (some .int) 5 := K
  refine x_aload_n (pc := 0) (i := 0) K dX7_as_0 rfl rfl ?_
  refine x_iload_n (pc := 1) (i := 1) K dX7_as_1 rfl rfl ?_
  refine x_V1i (pc := 2) K (c_yX7_isSpan) mw_yX7_isSpan ⟨im_yX7_isSpan, se_yX7_isSpan⟩ mk_X7_90 rc_M rfl ⟨Nat.le_of_ble_eq_true rfl, Nat.le_of_ble_eq_true rfl, Nat.le_of_ble_eq_true rfl⟩ dX7_as_2 ?_
  refine x_ifeq_b (pc := 5) (tgt := 18) K dX7_as_5 (by decide) (fun c_5 => ?_) (fun c_5 => ?_)
  · refine x_aload_n (pc := 18) (i := 0) K dX7_as_18 rfl rfl ?_
    refine x_ldc (pc := 19) K kn_X7_80 dX7_as_19 ?_
    refine x_V1i (pc := 21) K (c_yX7_error (j := 1) (by decide) (by decide)) mw_yX7_error ⟨im_yX7_error, se_yX7_error⟩ mk_X7_81 rc_M rfl ⟨Nat.le_of_ble_eq_true rfl, Nat.le_of_ble_eq_true rfl, Nat.le_of_ble_eq_true rfl⟩ dX7_as_21 ?_
    exact x_iretI (pc := 24) K dX7_as_24 ⟨by simp (decide := true) only [g_as, r_errP, c_5, ↓reduceIte, Bool.false_eq_true, bI_t, bI_f], rfl, by simp (decide := true) only [g_as, r_errP, c_5, ↓reduceIte, Bool.false_eq_true, bI_t, bI_f]⟩
  · refine x_iload_n (pc := 8) (i := 2) K dX7_as_8 rfl rfl ?_
    refine x_iconst (pc := 9) (v := 0) K dX7_as_9 (by decide) ?_
    refine x_bipush (pc := 10) (v := 6) K dX7_as_10 (by decide) ?_
    refine x_S3i (pc := 12) K (c_yX7_in) mw_yX7_in st_yX7_in mk_X7_54 ⟨Nat.le_of_ble_eq_true rfl, Nat.le_of_ble_eq_true rfl, Nat.le_of_ble_eq_true rfl⟩ dX7_as_12 ?_
    refine x_ifne_b (pc := 15) (tgt := 25) K dX7_as_15 (by decide) (fun c_15 => ?_) (fun c_15 => ?_)
    · obtain ⟨j, hj, rfl⟩ := hs_of (v := span) (n := n) (by omega) (by rw [← hn]; exact c_5)
      have hj9 : j < 9 := by omega
      have hjc : (nI j).toNatClampNeg = j := nI_clamp (by omega)
      refine x_aload_n (pc := 25) (i := 0) K dX7_as_25 rfl rfl ?_
      refine x_iload_n (pc := 26) (i := 1) K dX7_as_26 rfl rfl ?_
      refine x_iconst (pc := 27) (v := 0) K dX7_as_27 (by decide) ?_
      refine x_V2i (pc := 28) K (c_yX7_of (u := j) (w := 0) (Nat.lt_trans (mS_lt hj9 (by decide)) (by decide))) mw_yX7_of ⟨im_yX7_of, se_yX7_of⟩ mk_X7_62 rc_M rfl ⟨Nat.le_of_ble_eq_true rfl, Nat.le_of_ble_eq_true rfl, Nat.le_of_ble_eq_true rfl⟩ dX7_as_28 ?_
      refine x_istore_n (pc := 31) (i := 3) K dX7_as_31 rfl rfl (by decide) ?_
      refine x_iload_n (pc := 32) (i := 2) K dX7_as_32 rfl rfl ?_
      refine x_if_eq (pc := 33) (tgt := 61) K dX7_as_33 (by decide) (fun c_33 => ?_) (fun c_33 => ?_)
      · refine x_iconst (pc := 61) (v := 1) K dX7_as_61 (by decide) ?_
        refine x_goto (pc := 62) (tgt := 66) K dX7_as_62 (by decide) ?_
        refine x_istore (pc := 66) (i := 4) K dX7_as_66 rfl (by decide) ?_
        refine x_iload (pc := 68) (i := 4) K dX7_as_68 rfl ?_
        refine x_if_eq (pc := 70) (tgt := 82) K dX7_as_70 (by decide) (fun c_70 => ?_) (fun c_70 => ?_)
        · exact absurd c_70 (by decide)
        · refine x_aload_n (pc := 73) (i := 0) K dX7_as_73 rfl rfl ?_
          refine x_iload_n (pc := 74) (i := 1) K dX7_as_74 rfl rfl ?_
          refine x_iconst (pc := 75) (v := 1) K dX7_as_75 (by decide) ?_
          refine x_V2i (pc := 76) K (c_yX7_of (u := j) (w := 1) (Nat.lt_trans (mS_lt hj9 (by decide)) (by decide))) mw_yX7_of ⟨im_yX7_of, se_yX7_of⟩ mk_X7_62 rc_M rfl ⟨Nat.le_of_ble_eq_true rfl, Nat.le_of_ble_eq_true rfl, Nat.le_of_ble_eq_true rfl⟩ dX7_as_76 ?_
          refine x_goto (pc := 79) (tgt := 88) K dX7_as_79 (by decide) ?_
          exact x_iretI (pc := 88) K dX7_as_88 ⟨by simp (decide := true) only [g_as, r_errP, c_5, c_15, if_pos c_33, if_neg c_70, ↓reduceIte, Bool.false_eq_true, bI_t, bI_f, hjc, r_as], rfl, by simp (decide := true) only [g_as, r_errP, c_5, c_15, if_pos c_33, if_neg c_70, ↓reduceIte, Bool.false_eq_true, bI_t, bI_f, hjc, r_as]⟩
      · refine x_iload_n (pc := 36) (i := 2) K dX7_as_36 rfl rfl ?_
        refine x_iload_n (pc := 37) (i := 3) K dX7_as_37 rfl rfl ?_
        refine x_icmp_eq (pc := 38) (tgt := 61) K dX7_as_38 (by decide) (fun c_38 => ?_) (fun c_38 => ?_)
        · refine x_iconst (pc := 61) (v := 1) K dX7_as_61 (by decide) ?_
          refine x_goto (pc := 62) (tgt := 66) K dX7_as_62 (by decide) ?_
          refine x_istore (pc := 66) (i := 4) K dX7_as_66 rfl (by decide) ?_
          refine x_iload (pc := 68) (i := 4) K dX7_as_68 rfl ?_
          refine x_if_eq (pc := 70) (tgt := 82) K dX7_as_70 (by decide) (fun c_70 => ?_) (fun c_70 => ?_)
          · exact absurd c_70 (by decide)
          · refine x_aload_n (pc := 73) (i := 0) K dX7_as_73 rfl rfl ?_
            refine x_iload_n (pc := 74) (i := 1) K dX7_as_74 rfl rfl ?_
            refine x_iconst (pc := 75) (v := 1) K dX7_as_75 (by decide) ?_
            refine x_V2i (pc := 76) K (c_yX7_of (u := j) (w := 1) (Nat.lt_trans (mS_lt hj9 (by decide)) (by decide))) mw_yX7_of ⟨im_yX7_of, se_yX7_of⟩ mk_X7_62 rc_M rfl ⟨Nat.le_of_ble_eq_true rfl, Nat.le_of_ble_eq_true rfl, Nat.le_of_ble_eq_true rfl⟩ dX7_as_76 ?_
            refine x_goto (pc := 79) (tgt := 88) K dX7_as_79 (by decide) ?_
            exact x_iretI (pc := 88) K dX7_as_88 ⟨by simp (decide := true) only [g_as, r_errP, c_5, c_15, if_neg c_33, if_pos c_38, if_neg c_70, ↓reduceIte, Bool.false_eq_true, bI_t, bI_f, hjc, r_as], rfl, by simp (decide := true) only [g_as, r_errP, c_5, c_15, if_neg c_33, if_pos c_38, if_neg c_70, ↓reduceIte, Bool.false_eq_true, bI_t, bI_f, hjc, r_as]⟩
        · refine x_iload_n (pc := 41) (i := 2) K dX7_as_41 rfl rfl ?_
          refine x_iconst (pc := 42) (v := 1) K dX7_as_42 (by decide) ?_
          refine x_icmp_ne (pc := 43) (tgt := 51) K dX7_as_43 (by decide) (fun c_43 => ?_) (fun c_43 => ?_)
          · refine x_iload_n (pc := 51) (i := 2) K dX7_as_51 rfl rfl ?_
            refine x_iconst (pc := 52) (v := 2) K dX7_as_52 (by decide) ?_
            refine x_icmp_ne (pc := 53) (tgt := 65) K dX7_as_53 (by decide) (fun c_53 => ?_) (fun c_53 => ?_)
            · refine x_iconst (pc := 65) (v := 0) K dX7_as_65 (by decide) ?_
              refine x_istore (pc := 66) (i := 4) K dX7_as_66 rfl (by decide) ?_
              refine x_iload (pc := 68) (i := 4) K dX7_as_68 rfl ?_
              refine x_if_eq (pc := 70) (tgt := 82) K dX7_as_70 (by decide) (fun c_70 => ?_) (fun c_70 => ?_)
              · refine x_aload_n (pc := 82) (i := 0) K dX7_as_82 rfl rfl ?_
                refine x_ldc (pc := 83) K kn_X7_102 dX7_as_83 ?_
                refine x_V1i (pc := 85) K (c_yX7_error (j := 5) (by decide) (by decide)) mw_yX7_error ⟨im_yX7_error, se_yX7_error⟩ mk_X7_81 rc_M rfl ⟨Nat.le_of_ble_eq_true rfl, Nat.le_of_ble_eq_true rfl, Nat.le_of_ble_eq_true rfl⟩ dX7_as_85 ?_
                exact x_iretI (pc := 88) K dX7_as_88 ⟨by simp (decide := true) only [g_as, r_errP, c_5, c_15, if_neg c_33, if_neg c_38, if_neg c_43, if_neg c_53, if_pos c_70, ↓reduceIte, Bool.false_eq_true, bI_t, bI_f, hjc, r_as], rfl, by simp (decide := true) only [g_as, r_errP, c_5, c_15, if_neg c_33, if_neg c_38, if_neg c_43, if_neg c_53, if_pos c_70, ↓reduceIte, Bool.false_eq_true, bI_t, bI_f, hjc, r_as]⟩
              · exact absurd c_70 (by decide)
            · refine x_iload_n (pc := 56) (i := 3) K dX7_as_56 rfl rfl ?_
              refine x_iconst (pc := 57) (v := 5) K dX7_as_57 (by decide) ?_
              refine x_icmp_ne (pc := 58) (tgt := 65) K dX7_as_58 (by decide) (fun c_58 => ?_) (fun c_58 => ?_)
              · refine x_iconst (pc := 65) (v := 0) K dX7_as_65 (by decide) ?_
                refine x_istore (pc := 66) (i := 4) K dX7_as_66 rfl (by decide) ?_
                refine x_iload (pc := 68) (i := 4) K dX7_as_68 rfl ?_
                refine x_if_eq (pc := 70) (tgt := 82) K dX7_as_70 (by decide) (fun c_70 => ?_) (fun c_70 => ?_)
                · refine x_aload_n (pc := 82) (i := 0) K dX7_as_82 rfl rfl ?_
                  refine x_ldc (pc := 83) K kn_X7_102 dX7_as_83 ?_
                  refine x_V1i (pc := 85) K (c_yX7_error (j := 5) (by decide) (by decide)) mw_yX7_error ⟨im_yX7_error, se_yX7_error⟩ mk_X7_81 rc_M rfl ⟨Nat.le_of_ble_eq_true rfl, Nat.le_of_ble_eq_true rfl, Nat.le_of_ble_eq_true rfl⟩ dX7_as_85 ?_
                  exact x_iretI (pc := 88) K dX7_as_88 ⟨by simp (decide := true) only [g_as, r_errP, c_5, c_15, if_neg c_33, if_neg c_38, if_neg c_43, if_pos c_53, if_neg c_58, if_pos c_70, ↓reduceIte, Bool.false_eq_true, bI_t, bI_f, hjc, r_as], rfl, by simp (decide := true) only [g_as, r_errP, c_5, c_15, if_neg c_33, if_neg c_38, if_neg c_43, if_pos c_53, if_neg c_58, if_pos c_70, ↓reduceIte, Bool.false_eq_true, bI_t, bI_f, hjc, r_as]⟩
                · exact absurd c_70 (by decide)
              · refine x_iconst (pc := 61) (v := 1) K dX7_as_61 (by decide) ?_
                refine x_goto (pc := 62) (tgt := 66) K dX7_as_62 (by decide) ?_
                refine x_istore (pc := 66) (i := 4) K dX7_as_66 rfl (by decide) ?_
                refine x_iload (pc := 68) (i := 4) K dX7_as_68 rfl ?_
                refine x_if_eq (pc := 70) (tgt := 82) K dX7_as_70 (by decide) (fun c_70 => ?_) (fun c_70 => ?_)
                · exact absurd c_70 (by decide)
                · refine x_aload_n (pc := 73) (i := 0) K dX7_as_73 rfl rfl ?_
                  refine x_iload_n (pc := 74) (i := 1) K dX7_as_74 rfl rfl ?_
                  refine x_iconst (pc := 75) (v := 1) K dX7_as_75 (by decide) ?_
                  refine x_V2i (pc := 76) K (c_yX7_of (u := j) (w := 1) (Nat.lt_trans (mS_lt hj9 (by decide)) (by decide))) mw_yX7_of ⟨im_yX7_of, se_yX7_of⟩ mk_X7_62 rc_M rfl ⟨Nat.le_of_ble_eq_true rfl, Nat.le_of_ble_eq_true rfl, Nat.le_of_ble_eq_true rfl⟩ dX7_as_76 ?_
                  refine x_goto (pc := 79) (tgt := 88) K dX7_as_79 (by decide) ?_
                  exact x_iretI (pc := 88) K dX7_as_88 ⟨by simp (decide := true) only [g_as, r_errP, c_5, c_15, if_neg c_33, if_neg c_38, if_neg c_43, if_pos c_53, if_pos c_58, if_neg c_70, ↓reduceIte, Bool.false_eq_true, bI_t, bI_f, hjc, r_as], rfl, by simp (decide := true) only [g_as, r_errP, c_5, c_15, if_neg c_33, if_neg c_38, if_neg c_43, if_pos c_53, if_pos c_58, if_neg c_70, ↓reduceIte, Bool.false_eq_true, bI_t, bI_f, hjc, r_as]⟩
          · refine x_iload_n (pc := 46) (i := 3) K dX7_as_46 rfl rfl ?_
            refine x_iconst (pc := 47) (v := 4) K dX7_as_47 (by decide) ?_
            refine x_icmp_eq (pc := 48) (tgt := 61) K dX7_as_48 (by decide) (fun c_48 => ?_) (fun c_48 => ?_)
            · refine x_iconst (pc := 61) (v := 1) K dX7_as_61 (by decide) ?_
              refine x_goto (pc := 62) (tgt := 66) K dX7_as_62 (by decide) ?_
              refine x_istore (pc := 66) (i := 4) K dX7_as_66 rfl (by decide) ?_
              refine x_iload (pc := 68) (i := 4) K dX7_as_68 rfl ?_
              refine x_if_eq (pc := 70) (tgt := 82) K dX7_as_70 (by decide) (fun c_70 => ?_) (fun c_70 => ?_)
              · exact absurd c_70 (by decide)
              · refine x_aload_n (pc := 73) (i := 0) K dX7_as_73 rfl rfl ?_
                refine x_iload_n (pc := 74) (i := 1) K dX7_as_74 rfl rfl ?_
                refine x_iconst (pc := 75) (v := 1) K dX7_as_75 (by decide) ?_
                refine x_V2i (pc := 76) K (c_yX7_of (u := j) (w := 1) (Nat.lt_trans (mS_lt hj9 (by decide)) (by decide))) mw_yX7_of ⟨im_yX7_of, se_yX7_of⟩ mk_X7_62 rc_M rfl ⟨Nat.le_of_ble_eq_true rfl, Nat.le_of_ble_eq_true rfl, Nat.le_of_ble_eq_true rfl⟩ dX7_as_76 ?_
                refine x_goto (pc := 79) (tgt := 88) K dX7_as_79 (by decide) ?_
                exact x_iretI (pc := 88) K dX7_as_88 ⟨by simp (decide := true) only [g_as, r_errP, c_5, c_15, if_neg c_33, if_neg c_38, if_pos c_43, if_pos c_48, if_neg c_70, ↓reduceIte, Bool.false_eq_true, bI_t, bI_f, hjc, r_as], rfl, by simp (decide := true) only [g_as, r_errP, c_5, c_15, if_neg c_33, if_neg c_38, if_pos c_43, if_pos c_48, if_neg c_70, ↓reduceIte, Bool.false_eq_true, bI_t, bI_f, hjc, r_as]⟩
            · refine x_iload_n (pc := 51) (i := 2) K dX7_as_51 rfl rfl ?_
              refine x_iconst (pc := 52) (v := 2) K dX7_as_52 (by decide) ?_
              refine x_icmp_ne (pc := 53) (tgt := 65) K dX7_as_53 (by decide) (fun c_53 => ?_) (fun c_53 => ?_)
              · refine x_iconst (pc := 65) (v := 0) K dX7_as_65 (by decide) ?_
                refine x_istore (pc := 66) (i := 4) K dX7_as_66 rfl (by decide) ?_
                refine x_iload (pc := 68) (i := 4) K dX7_as_68 rfl ?_
                refine x_if_eq (pc := 70) (tgt := 82) K dX7_as_70 (by decide) (fun c_70 => ?_) (fun c_70 => ?_)
                · refine x_aload_n (pc := 82) (i := 0) K dX7_as_82 rfl rfl ?_
                  refine x_ldc (pc := 83) K kn_X7_102 dX7_as_83 ?_
                  refine x_V1i (pc := 85) K (c_yX7_error (j := 5) (by decide) (by decide)) mw_yX7_error ⟨im_yX7_error, se_yX7_error⟩ mk_X7_81 rc_M rfl ⟨Nat.le_of_ble_eq_true rfl, Nat.le_of_ble_eq_true rfl, Nat.le_of_ble_eq_true rfl⟩ dX7_as_85 ?_
                  exact x_iretI (pc := 88) K dX7_as_88 ⟨by simp (decide := true) only [g_as, r_errP, c_5, c_15, if_neg c_33, if_neg c_38, if_pos c_43, if_neg c_48, if_neg c_53, if_pos c_70, ↓reduceIte, Bool.false_eq_true, bI_t, bI_f, hjc, r_as], rfl, by simp (decide := true) only [g_as, r_errP, c_5, c_15, if_neg c_33, if_neg c_38, if_pos c_43, if_neg c_48, if_neg c_53, if_pos c_70, ↓reduceIte, Bool.false_eq_true, bI_t, bI_f, hjc, r_as]⟩
                · exact absurd c_70 (by decide)
              · exact absurd (c_43.symm.trans c_53) (by decide)
    · refine x_aload_n (pc := 18) (i := 0) K dX7_as_18 rfl rfl ?_
      refine x_ldc (pc := 19) K kn_X7_80 dX7_as_19 ?_
      refine x_V1i (pc := 21) K (c_yX7_error (j := 1) (by decide) (by decide)) mw_yX7_error ⟨im_yX7_error, se_yX7_error⟩ mk_X7_81 rc_M rfl ⟨Nat.le_of_ble_eq_true rfl, Nat.le_of_ble_eq_true rfl, Nat.le_of_ble_eq_true rfl⟩ dX7_as_21 ?_
      exact x_iretI (pc := 24) K dX7_as_24 ⟨by simp (decide := true) only [g_as, r_errP, c_5, c_15, ↓reduceIte, Bool.false_eq_true, bI_t, bI_f], rfl, by simp (decide := true) only [g_as, r_errP, c_5, c_15, ↓reduceIte, Bool.false_eq_true, bI_t, bI_f]⟩

def g_soak (ρ : Af) (span wet : Int32) : Int32 × Af := if q_within span 0 (ρ mRow 2 - 1) = true then (if q_within wet 0 9 = true then (ρ mRow (mS span.toNatClampNeg 5), up ρ mRow (mS span.toNatClampNeg 5) wet) else r_errP ρ 1) else r_errP ρ 1
set_option maxRecDepth 100000 in
set_option maxHeartbeats 4000000 in
theorem c_yX7_soak {l : Launch} {G : Gm} {α ρ : Af} {span wet : Int32} (hI : IM ρ) : CI 1 l G yX7_soak (Cond.code yX7_soak cX7_soak 3 (some .int)) 100 [.ref (gA G idM), .int span, .int wet] α ρ (PI (g_soak ρ span wet).1 α (g_soak ρ span wet).2) := by
  obtain ⟨⟨n, h9, hn, hE⟩, hl0, hl1, ⟨t, h60, ht⟩, ⟨w, h24, hw⟩, hSz, ⟨q, hq, hqe⟩⟩ := hI
  refine CI.of [some (.ref (gA G idM)), some (.int span), some (.int wet)] (by decide) (Nat.le_of_ble_eq_true rfl) rfl rfl (fun C K => ?_)
  have K : Ok l _ G C RX7 cX7_soak (some .int) 3 := K
  refine x_aload_n (pc := 0) (i := 0) K dX7_soak_0 rfl rfl ?_
  refine x_iload_n (pc := 1) (i := 1) K dX7_soak_1 rfl rfl ?_
  refine x_V1i (pc := 2) K (c_yX7_isSpan) mw_yX7_isSpan ⟨im_yX7_isSpan, se_yX7_isSpan⟩ mk_X7_90 rc_M rfl ⟨Nat.le_of_ble_eq_true rfl, Nat.le_of_ble_eq_true rfl, Nat.le_of_ble_eq_true rfl⟩ dX7_soak_2 ?_
  refine x_ifeq_b (pc := 5) (tgt := 35) K dX7_soak_5 (by decide) (fun c_5 => ?_) (fun c_5 => ?_)
  · refine x_aload_n (pc := 35) (i := 0) K dX7_soak_35 rfl rfl ?_
    refine x_ldc (pc := 36) K kn_X7_80 dX7_soak_36 ?_
    refine x_V1i (pc := 38) K (c_yX7_error (j := 1) (by decide) (by decide)) mw_yX7_error ⟨im_yX7_error, se_yX7_error⟩ mk_X7_81 rc_M rfl ⟨Nat.le_of_ble_eq_true rfl, Nat.le_of_ble_eq_true rfl, Nat.le_of_ble_eq_true rfl⟩ dX7_soak_38 ?_
    exact x_iretI (pc := 41) K dX7_soak_41 ⟨by simp (decide := true) only [g_soak, r_errP, c_5, ↓reduceIte, Bool.false_eq_true, bI_t, bI_f], rfl, by simp (decide := true) only [g_soak, r_errP, c_5, ↓reduceIte, Bool.false_eq_true, bI_t, bI_f]⟩
  · refine x_iload_n (pc := 8) (i := 2) K dX7_soak_8 rfl rfl ?_
    refine x_iconst (pc := 9) (v := 0) K dX7_soak_9 (by decide) ?_
    refine x_bipush (pc := 10) (v := 9) K dX7_soak_10 (by decide) ?_
    refine x_S3i (pc := 12) K (c_yX7_in) mw_yX7_in st_yX7_in mk_X7_54 ⟨Nat.le_of_ble_eq_true rfl, Nat.le_of_ble_eq_true rfl, Nat.le_of_ble_eq_true rfl⟩ dX7_soak_12 ?_
    refine x_ifeq_b (pc := 15) (tgt := 35) K dX7_soak_15 (by decide) (fun c_15 => ?_) (fun c_15 => ?_)
    · refine x_aload_n (pc := 35) (i := 0) K dX7_soak_35 rfl rfl ?_
      refine x_ldc (pc := 36) K kn_X7_80 dX7_soak_36 ?_
      refine x_V1i (pc := 38) K (c_yX7_error (j := 1) (by decide) (by decide)) mw_yX7_error ⟨im_yX7_error, se_yX7_error⟩ mk_X7_81 rc_M rfl ⟨Nat.le_of_ble_eq_true rfl, Nat.le_of_ble_eq_true rfl, Nat.le_of_ble_eq_true rfl⟩ dX7_soak_38 ?_
      exact x_iretI (pc := 41) K dX7_soak_41 ⟨by simp (decide := true) only [g_soak, r_errP, c_5, c_15, ↓reduceIte, Bool.false_eq_true, bI_t, bI_f], rfl, by simp (decide := true) only [g_soak, r_errP, c_5, c_15, ↓reduceIte, Bool.false_eq_true, bI_t, bI_f]⟩
    · obtain ⟨j, hj, rfl⟩ := hs_of (v := span) (n := n) (by omega) (by rw [← hn]; exact c_5)
      have hj9 : j < 9 := by omega
      have hjc : (nI j).toNatClampNeg = j := nI_clamp (by omega)
      refine x_aload_n (pc := 18) (i := 0) K dX7_soak_18 rfl rfl ?_
      refine x_bipush (pc := 19) (v := 9) K dX7_soak_19 (by decide) ?_
      refine x_bipush (pc := 21) (v := 7) K dX7_soak_21 (by decide) ?_
      refine x_iload_n (pc := 23) (i := 1) K dX7_soak_23 rfl rfl ?_
      refine x_imul (pc := 24) K dX7_soak_24 ?_
      refine x_iadd (pc := 25) K dX7_soak_25 ?_
      refine x_iconst (pc := 26) (v := 5) K dX7_soak_26 (by decide) ?_
      refine x_iadd (pc := 27) K dX7_soak_27 ?_
      refine x_iload_n (pc := 28) (i := 2) K dX7_soak_28 rfl rfl ?_
      refine x_V2i (pc := 29) K (c_yX7_becomes (j := mS j 5) (Nat.lt_trans (mS_lt hj9 (by decide)) (by decide)) mS_x) mw_yX7_becomes ⟨im_yX7_becomes, se_yX7_becomes⟩ mk_X7_99 rc_M rfl ⟨Nat.le_of_ble_eq_true rfl, Nat.le_of_ble_eq_true rfl, Nat.le_of_ble_eq_true rfl⟩ dX7_soak_29 ?_
      refine x_goto (pc := 32) (tgt := 41) K dX7_soak_32 (by decide) ?_
      exact x_iretI (pc := 41) K dX7_soak_41 ⟨by simp (decide := true) only [g_soak, r_errP, c_5, c_15, ↓reduceIte, Bool.false_eq_true, bI_t, bI_f, hjc], rfl, by simp (decide := true) only [g_soak, r_errP, c_5, c_15, ↓reduceIte, Bool.false_eq_true, bI_t, bI_f, hjc]⟩

def g_bakes (ρ : Af) (span : Int32) : Int32 × Af := if q_within span 0 (ρ mRow 2 - 1) = true then (if r_takesU ρ span.toNatClampNeg ≤ ρ mRow 3 then (r_takesU ρ span.toNatClampNeg, r_bake (up ρ mRow 3 (ρ mRow 3 - r_takesU ρ span.toNatClampNeg)) span.toNatClampNeg) else r_errP ρ 3) else r_errP ρ 1
set_option maxRecDepth 100000 in
set_option maxHeartbeats 4000000 in
theorem c_yX7_bakes {l : Launch} {G : Gm} {α ρ : Af} {span : Int32} (hI : IM ρ) : CI 1 l G yX7_bakes (Cond.code yX7_bakes cX7_bakes 3 (some .int)) 100 [.ref (gA G idM), .int span] α ρ (PI (g_bakes ρ span).1 α (g_bakes ρ span).2) := by
  obtain ⟨⟨n, h9, hn, hE⟩, hl0, hl1, ⟨t, h60, ht⟩, ⟨w, h24, hw⟩, hSz, ⟨q, hq, hqe⟩⟩ := hI
  refine CI.of [some (.ref (gA G idM)), some (.int span), none] (by decide) (Nat.le_of_ble_eq_true rfl) rfl rfl (fun C K => ?_)
  have K : Ok l _ G C RX7 cX7_bakes (some .int) 3 := K
  refine x_aload_n (pc := 0) (i := 0) K dX7_bakes_0 rfl rfl ?_
  refine x_iload_n (pc := 1) (i := 1) K dX7_bakes_1 rfl rfl ?_
  refine x_V1i (pc := 2) K (c_yX7_isSpan) mw_yX7_isSpan ⟨im_yX7_isSpan, se_yX7_isSpan⟩ mk_X7_90 rc_M rfl ⟨Nat.le_of_ble_eq_true rfl, Nat.le_of_ble_eq_true rfl, Nat.le_of_ble_eq_true rfl⟩ dX7_bakes_2 ?_
  refine x_ifne_b (pc := 5) (tgt := 15) K dX7_bakes_5 (by decide) (fun c_5 => ?_) (fun c_5 => ?_)
  · obtain ⟨j, hj, rfl⟩ := hs_of (v := span) (n := n) (by omega) (by rw [← hn]; exact c_5)
    have hj9 : j < 9 := by omega
    have hjc : (nI j).toNatClampNeg = j := nI_clamp (by omega)
    refine x_aload_n (pc := 15) (i := 0) K dX7_bakes_15 rfl rfl ?_
    refine x_iload_n (pc := 16) (i := 1) K dX7_bakes_16 rfl rfl ?_
    refine x_V1i (pc := 17) K (c_yX7_takesOf hj9) mw_yX7_takesOf ⟨im_yX7_takesOf, se_yX7_takesOf⟩ mk_X7_96 rc_M rfl ⟨Nat.le_of_ble_eq_true rfl, Nat.le_of_ble_eq_true rfl, Nat.le_of_ble_eq_true rfl⟩ dX7_bakes_17 ?_
    refine x_istore_n (pc := 20) (i := 2) K dX7_bakes_20 rfl rfl (by decide) ?_
    refine x_aload_n (pc := 21) (i := 0) K dX7_bakes_21 rfl rfl ?_
    refine gf_X7_9 (pc := 22)  K dX7_bakes_22 ?_
    refine x_iconst (pc := 25) (v := 3) K dX7_bakes_25 (by decide) ?_
    refine ib_mRow (pc := 26) 3 (by decide) rfl K dX7_bakes_26 ?_
    refine x_iload_n (pc := 27) (i := 2) K dX7_bakes_27 rfl rfl ?_
    refine x_icmp_ge (pc := 28) (tgt := 38) K dX7_bakes_28 (by decide) (fun c_28 => ?_) (fun c_28 => ?_)
    · refine x_aload_n (pc := 38) (i := 0) K dX7_bakes_38 rfl rfl ?_
      refine gf_X7_9 (pc := 39)  K dX7_bakes_39 ?_
      refine x_iconst (pc := 42) (v := 3) K dX7_bakes_42 (by decide) ?_
      refine x_dup2 (pc := 43) K dX7_bakes_43 rfl rfl ?_
      refine ib_mRow (pc := 44) 3 (by decide) rfl K dX7_bakes_44 ?_
      refine x_iload_n (pc := 45) (i := 2) K dX7_bakes_45 rfl rfl ?_
      refine x_isub (pc := 46) K dX7_bakes_46 ?_
      refine js_mRow (pc := 47) 3 (by decide) rfl K dX7_bakes_47 ?_
      refine x_aload_n (pc := 48) (i := 0) K dX7_bakes_48 rfl rfl ?_
      refine x_iload_n (pc := 49) (i := 1) K dX7_bakes_49 rfl rfl ?_
      refine x_iconst (pc := 50) (v := 4) K dX7_bakes_50 (by decide) ?_
      refine x_iconst (pc := 51) (v := 0) K dX7_bakes_51 (by decide) ?_
      refine x_V3v (pc := 52) K (c_yX7_lets (u := j) (w := 4) (Nat.lt_trans (mS_lt hj9 (by decide)) (by decide))) mw_yX7_lets ⟨im_yX7_lets, se_yX7_lets⟩ mk_X7_86 rc_M rfl ⟨Nat.le_of_ble_eq_true rfl, Nat.le_of_ble_eq_true rfl, Nat.le_of_ble_eq_true rfl⟩ dX7_bakes_52 ?_
      refine x_aload_n (pc := 55) (i := 0) K dX7_bakes_55 rfl rfl ?_
      refine x_iload_n (pc := 56) (i := 1) K dX7_bakes_56 rfl rfl ?_
      refine x_iconst (pc := 57) (v := 5) K dX7_bakes_57 (by decide) ?_
      refine x_iconst (pc := 58) (v := 0) K dX7_bakes_58 (by decide) ?_
      refine x_V3v (pc := 59) K (c_yX7_lets (u := j) (w := 5) (Nat.lt_trans (mS_lt hj9 (by decide)) (by decide))) mw_yX7_lets ⟨im_yX7_lets, se_yX7_lets⟩ mk_X7_86 rc_M rfl ⟨Nat.le_of_ble_eq_true rfl, Nat.le_of_ble_eq_true rfl, Nat.le_of_ble_eq_true rfl⟩ dX7_bakes_59 ?_
      refine x_aload_n (pc := 62) (i := 0) K dX7_bakes_62 rfl rfl ?_
      refine x_iload_n (pc := 63) (i := 1) K dX7_bakes_63 rfl rfl ?_
      refine x_bipush (pc := 64) (v := 6) K dX7_bakes_64 (by decide) ?_
      refine x_iconst (pc := 66) (v := 0) K dX7_bakes_66 (by decide) ?_
      refine x_V3v (pc := 67) K (c_yX7_lets (u := j) (w := 6) (Nat.lt_trans (mS_lt hj9 (by decide)) (by decide))) mw_yX7_lets ⟨im_yX7_lets, se_yX7_lets⟩ mk_X7_86 rc_M rfl ⟨Nat.le_of_ble_eq_true rfl, Nat.le_of_ble_eq_true rfl, Nat.le_of_ble_eq_true rfl⟩ dX7_bakes_67 ?_
      refine x_st (r := r_bake (up ρ mRow 3 (ρ mRow 3 - r_takesU ρ j)) j) rfl rfl ?_
      refine x_iload_n (pc := 70) (i := 2) K dX7_bakes_70 rfl rfl ?_
      exact x_iretI (pc := 71) K dX7_bakes_71 ⟨by simp (decide := true) only [g_bakes, r_errP, c_5, if_pos c_28, ↓reduceIte, Bool.false_eq_true, bI_t, bI_f, hjc], rfl, by simp (decide := true) only [g_bakes, r_errP, c_5, if_pos c_28, ↓reduceIte, Bool.false_eq_true, bI_t, bI_f, hjc]⟩
    · refine x_aload_n (pc := 31) (i := 0) K dX7_bakes_31 rfl rfl ?_
      refine x_ldc (pc := 32) K kn_X7_103 dX7_bakes_32 ?_
      refine x_V1i (pc := 34) K (c_yX7_error (j := 3) (by decide) (by decide)) mw_yX7_error ⟨im_yX7_error, se_yX7_error⟩ mk_X7_81 rc_M rfl ⟨Nat.le_of_ble_eq_true rfl, Nat.le_of_ble_eq_true rfl, Nat.le_of_ble_eq_true rfl⟩ dX7_bakes_34 ?_
      exact x_iretI (pc := 37) K dX7_bakes_37 ⟨by simp (decide := true) only [g_bakes, r_errP, c_5, if_neg c_28, ↓reduceIte, Bool.false_eq_true, bI_t, bI_f, hjc], rfl, by simp (decide := true) only [g_bakes, r_errP, c_5, if_neg c_28, ↓reduceIte, Bool.false_eq_true, bI_t, bI_f, hjc]⟩
  · refine x_aload_n (pc := 8) (i := 0) K dX7_bakes_8 rfl rfl ?_
    refine x_ldc (pc := 9) K kn_X7_80 dX7_bakes_9 ?_
    refine x_V1i (pc := 11) K (c_yX7_error (j := 1) (by decide) (by decide)) mw_yX7_error ⟨im_yX7_error, se_yX7_error⟩ mk_X7_81 rc_M rfl ⟨Nat.le_of_ble_eq_true rfl, Nat.le_of_ble_eq_true rfl, Nat.le_of_ble_eq_true rfl⟩ dX7_bakes_11 ?_
    exact x_iretI (pc := 14) K dX7_bakes_14 ⟨by simp (decide := true) only [g_bakes, r_errP, c_5, ↓reduceIte, Bool.false_eq_true, bI_t, bI_f], rfl, by simp (decide := true) only [g_bakes, r_errP, c_5, ↓reduceIte, Bool.false_eq_true, bI_t, bI_f]⟩

def g_eat (ρ : Af) (span : Int32) : Int32 × Af := if q_within span 0 (ρ mRow 2 - 1) = true then (ρ mRow (mS span.toNatClampNeg 6), up ρ mRow (mS span.toNatClampNeg 6) 1) else r_errP ρ 1
set_option maxRecDepth 100000 in
set_option maxHeartbeats 4000000 in
theorem c_yX7_eat {l : Launch} {G : Gm} {α ρ : Af} {span : Int32} (hI : IM ρ) : CI 1 l G yX7_eat (Cond.code yX7_eat cX7_eat 2 (some .int)) 100 [.ref (gA G idM), .int span] α ρ (PI (g_eat ρ span).1 α (g_eat ρ span).2) := by
  obtain ⟨⟨n, h9, hn, hE⟩, hl0, hl1, ⟨t, h60, ht⟩, ⟨w, h24, hw⟩, hSz, ⟨q, hq, hqe⟩⟩ := hI
  refine CI.of [some (.ref (gA G idM)), some (.int span)] (by decide) (Nat.le_of_ble_eq_true rfl) rfl rfl (fun C K => ?_)
  have K : Ok l _ G C RX7 cX7_eat (some .int) 2 := K
  refine x_aload_n (pc := 0) (i := 0) K dX7_eat_0 rfl rfl ?_
  refine x_iload_n (pc := 1) (i := 1) K dX7_eat_1 rfl rfl ?_
  refine x_V1i (pc := 2) K (c_yX7_isSpan) mw_yX7_isSpan ⟨im_yX7_isSpan, se_yX7_isSpan⟩ mk_X7_90 rc_M rfl ⟨Nat.le_of_ble_eq_true rfl, Nat.le_of_ble_eq_true rfl, Nat.le_of_ble_eq_true rfl⟩ dX7_eat_2 ?_
  refine x_ifeq_b (pc := 5) (tgt := 26) K dX7_eat_5 (by decide) (fun c_5 => ?_) (fun c_5 => ?_)
  · refine x_aload_n (pc := 26) (i := 0) K dX7_eat_26 rfl rfl ?_
    refine x_ldc (pc := 27) K kn_X7_80 dX7_eat_27 ?_
    refine x_V1i (pc := 29) K (c_yX7_error (j := 1) (by decide) (by decide)) mw_yX7_error ⟨im_yX7_error, se_yX7_error⟩ mk_X7_81 rc_M rfl ⟨Nat.le_of_ble_eq_true rfl, Nat.le_of_ble_eq_true rfl, Nat.le_of_ble_eq_true rfl⟩ dX7_eat_29 ?_
    exact x_iretI (pc := 32) K dX7_eat_32 ⟨by simp (decide := true) only [g_eat, r_errP, c_5, ↓reduceIte, Bool.false_eq_true, bI_t, bI_f], rfl, by simp (decide := true) only [g_eat, r_errP, c_5, ↓reduceIte, Bool.false_eq_true, bI_t, bI_f]⟩
  · obtain ⟨j, hj, rfl⟩ := hs_of (v := span) (n := n) (by omega) (by rw [← hn]; exact c_5)
    have hj9 : j < 9 := by omega
    have hjc : (nI j).toNatClampNeg = j := nI_clamp (by omega)
    refine x_aload_n (pc := 8) (i := 0) K dX7_eat_8 rfl rfl ?_
    refine x_bipush (pc := 9) (v := 9) K dX7_eat_9 (by decide) ?_
    refine x_bipush (pc := 11) (v := 7) K dX7_eat_11 (by decide) ?_
    refine x_iload_n (pc := 13) (i := 1) K dX7_eat_13 rfl rfl ?_
    refine x_imul (pc := 14) K dX7_eat_14 ?_
    refine x_iadd (pc := 15) K dX7_eat_15 ?_
    refine x_bipush (pc := 16) (v := 6) K dX7_eat_16 (by decide) ?_
    refine x_iadd (pc := 18) K dX7_eat_18 ?_
    refine x_iconst (pc := 19) (v := 1) K dX7_eat_19 (by decide) ?_
    refine x_V2i (pc := 20) K (c_yX7_becomes (j := mS j 6) (Nat.lt_trans (mS_lt hj9 (by decide)) (by decide)) mS_x) mw_yX7_becomes ⟨im_yX7_becomes, se_yX7_becomes⟩ mk_X7_99 rc_M rfl ⟨Nat.le_of_ble_eq_true rfl, Nat.le_of_ble_eq_true rfl, Nat.le_of_ble_eq_true rfl⟩ dX7_eat_20 ?_
    refine x_goto (pc := 23) (tgt := 32) K dX7_eat_23 (by decide) ?_
    exact x_iretI (pc := 32) K dX7_eat_32 ⟨by simp (decide := true) only [g_eat, r_errP, c_5, ↓reduceIte, Bool.false_eq_true, bI_t, bI_f, hjc], rfl, by simp (decide := true) only [g_eat, r_errP, c_5, ↓reduceIte, Bool.false_eq_true, bI_t, bI_f, hjc]⟩

def g_store (ρ : Af) (what v : Int32) : Int32 × Af := if q_within what 0 1 = true then (if q_within v 0 (if what = 0 then 9999 else 9) = true then (ρ mRow (3 + what.toNatClampNeg), up ρ mRow (3 + what.toNatClampNeg) v) else r_errP ρ 1) else r_errP ρ 1
set_option maxRecDepth 100000 in
set_option maxHeartbeats 4000000 in
theorem c_yX7_store {l : Launch} {G : Gm} {α ρ : Af} {what v : Int32} (hI : IM ρ) : CI 1 l G yX7_store (Cond.code yX7_store cX7_store 4 (some .int)) 100 [.ref (gA G idM), .int what, .int v] α ρ (PI (g_store ρ what v).1 α (g_store ρ what v).2) := by
  obtain ⟨⟨n, h9, hn, hE⟩, hl0, hl1, ⟨t, h60, ht⟩, ⟨w, h24, hw⟩, hSz, ⟨q, hq, hqe⟩⟩ := hI
  refine CI.of [some (.ref (gA G idM)), some (.int what), some (.int v), none] (by decide) (Nat.le_of_ble_eq_true rfl) rfl rfl (fun C K => ?_)
  have K : Ok l _ G C RX7 cX7_store (some .int) 4 := K
  refine x_iload_n (pc := 0) (i := 1) K dX7_store_0 rfl rfl ?_
  refine x_iconst (pc := 1) (v := 0) K dX7_store_1 (by decide) ?_
  refine x_iconst (pc := 2) (v := 1) K dX7_store_2 (by decide) ?_
  refine x_S3i (pc := 3) K (c_yX7_in) mw_yX7_in st_yX7_in mk_X7_54 ⟨Nat.le_of_ble_eq_true rfl, Nat.le_of_ble_eq_true rfl, Nat.le_of_ble_eq_true rfl⟩ dX7_store_3 ?_
  refine x_ifeq_b (pc := 6) (tgt := 33) K dX7_store_6 (by decide) (fun c_6 => ?_) (fun c_6 => ?_)
  · refine x_iconst (pc := 33) (v := 0) K dX7_store_33 (by decide) ?_
    refine x_istore_n (pc := 34) (i := 3) K dX7_store_34 rfl rfl (by decide) ?_
    refine x_iload_n (pc := 35) (i := 3) K dX7_store_35 rfl rfl ?_
    refine x_if_eq (pc := 36) (tgt := 50) K dX7_store_36 (by decide) (fun c_36 => ?_) (fun c_36 => ?_)
    · refine x_aload_n (pc := 50) (i := 0) K dX7_store_50 rfl rfl ?_
      refine x_ldc (pc := 51) K kn_X7_80 dX7_store_51 ?_
      refine x_V1i (pc := 53) K (c_yX7_error (j := 1) (by decide) (by decide)) mw_yX7_error ⟨im_yX7_error, se_yX7_error⟩ mk_X7_81 rc_M rfl ⟨Nat.le_of_ble_eq_true rfl, Nat.le_of_ble_eq_true rfl, Nat.le_of_ble_eq_true rfl⟩ dX7_store_53 ?_
      exact x_iretI (pc := 56) K dX7_store_56 ⟨by simp (decide := true) only [g_store, r_errP, c_6, if_pos c_36, ↓reduceIte, Bool.false_eq_true, bI_t, bI_f], rfl, by simp (decide := true) only [g_store, r_errP, c_6, if_pos c_36, ↓reduceIte, Bool.false_eq_true, bI_t, bI_f]⟩
    · exact absurd c_36 (by decide)
  · obtain ⟨m, hlom, hhim, rfl⟩ := wi_of (v := what) (a := 0) (b := 1) rfl rfl (by decide) (by decide) c_6
    have hcm : (nI m).toNatClampNeg = m := nI_clamp (by omega)
    refine x_iload_n (pc := 9) (i := 2) K dX7_store_9 rfl rfl ?_
    refine x_iconst (pc := 10) (v := 0) K dX7_store_10 (by decide) ?_
    refine x_iload_n (pc := 11) (i := 1) K dX7_store_11 rfl rfl ?_
    refine x_if_ne (pc := 12) (tgt := 21) K dX7_store_12 (by decide) (fun c_12 => ?_) (fun c_12 => ?_)
    · refine x_bipush (pc := 21) (v := 9) K dX7_store_21 (by decide) ?_
      refine x_S3i (pc := 23) K (c_yX7_in) mw_yX7_in st_yX7_in mk_X7_54 ⟨Nat.le_of_ble_eq_true rfl, Nat.le_of_ble_eq_true rfl, Nat.le_of_ble_eq_true rfl⟩ dX7_store_23 ?_
      refine x_ifeq_b (pc := 26) (tgt := 33) K dX7_store_26 (by decide) (fun c_26 => ?_) (fun c_26 => ?_)
      · refine x_iconst (pc := 33) (v := 0) K dX7_store_33 (by decide) ?_
        refine x_istore_n (pc := 34) (i := 3) K dX7_store_34 rfl rfl (by decide) ?_
        refine x_iload_n (pc := 35) (i := 3) K dX7_store_35 rfl rfl ?_
        refine x_if_eq (pc := 36) (tgt := 50) K dX7_store_36 (by decide) (fun c_36 => ?_) (fun c_36 => ?_)
        · refine x_aload_n (pc := 50) (i := 0) K dX7_store_50 rfl rfl ?_
          refine x_ldc (pc := 51) K kn_X7_80 dX7_store_51 ?_
          refine x_V1i (pc := 53) K (c_yX7_error (j := 1) (by decide) (by decide)) mw_yX7_error ⟨im_yX7_error, se_yX7_error⟩ mk_X7_81 rc_M rfl ⟨Nat.le_of_ble_eq_true rfl, Nat.le_of_ble_eq_true rfl, Nat.le_of_ble_eq_true rfl⟩ dX7_store_53 ?_
          exact x_iretI (pc := 56) K dX7_store_56 ⟨by simp (decide := true) only [g_store, r_errP, c_6, if_neg c_12, c_26, if_pos c_36, ↓reduceIte, Bool.false_eq_true, bI_t, bI_f], rfl, by simp (decide := true) only [g_store, r_errP, c_6, if_neg c_12, c_26, if_pos c_36, ↓reduceIte, Bool.false_eq_true, bI_t, bI_f]⟩
        · exact absurd c_36 (by decide)
      · refine x_iconst (pc := 29) (v := 1) K dX7_store_29 (by decide) ?_
        refine x_goto (pc := 30) (tgt := 34) K dX7_store_30 (by decide) ?_
        refine x_istore_n (pc := 34) (i := 3) K dX7_store_34 rfl rfl (by decide) ?_
        refine x_iload_n (pc := 35) (i := 3) K dX7_store_35 rfl rfl ?_
        refine x_if_eq (pc := 36) (tgt := 50) K dX7_store_36 (by decide) (fun c_36 => ?_) (fun c_36 => ?_)
        · exact absurd c_36 (by decide)
        · refine x_aload_n (pc := 39) (i := 0) K dX7_store_39 rfl rfl ?_
          refine x_iconst (pc := 40) (v := 3) K dX7_store_40 (by decide) ?_
          refine x_iload_n (pc := 41) (i := 1) K dX7_store_41 rfl rfl ?_
          refine x_iadd (pc := 42) K dX7_store_42 ?_
          refine x_iload_n (pc := 43) (i := 2) K dX7_store_43 rfl rfl ?_
          refine x_V2i (pc := 44) K (c_yX7_becomes (j := 3 + m) (by omega) (by show nI 3 + nI m = _; rw [nI_add])) mw_yX7_becomes ⟨im_yX7_becomes, se_yX7_becomes⟩ mk_X7_99 rc_M rfl ⟨Nat.le_of_ble_eq_true rfl, Nat.le_of_ble_eq_true rfl, Nat.le_of_ble_eq_true rfl⟩ dX7_store_44 ?_
          refine x_goto (pc := 47) (tgt := 56) K dX7_store_47 (by decide) ?_
          exact x_iretI (pc := 56) K dX7_store_56 ⟨by simp (decide := true) only [g_store, r_errP, c_6, if_neg c_12, c_26, if_neg c_36, ↓reduceIte, Bool.false_eq_true, bI_t, bI_f, hcm], rfl, by simp (decide := true) only [g_store, r_errP, c_6, if_neg c_12, c_26, if_neg c_36, ↓reduceIte, Bool.false_eq_true, bI_t, bI_f, hcm]⟩
    · refine x_sipush (pc := 15) (v := 9999) K dX7_store_15 (by decide) ?_
      refine x_goto (pc := 18) (tgt := 23) K dX7_store_18 (by decide) ?_
      refine x_S3i (pc := 23) K (c_yX7_in) mw_yX7_in st_yX7_in mk_X7_54 ⟨Nat.le_of_ble_eq_true rfl, Nat.le_of_ble_eq_true rfl, Nat.le_of_ble_eq_true rfl⟩ dX7_store_23 ?_
      refine x_ifeq_b (pc := 26) (tgt := 33) K dX7_store_26 (by decide) (fun c_26 => ?_) (fun c_26 => ?_)
      · refine x_iconst (pc := 33) (v := 0) K dX7_store_33 (by decide) ?_
        refine x_istore_n (pc := 34) (i := 3) K dX7_store_34 rfl rfl (by decide) ?_
        refine x_iload_n (pc := 35) (i := 3) K dX7_store_35 rfl rfl ?_
        refine x_if_eq (pc := 36) (tgt := 50) K dX7_store_36 (by decide) (fun c_36 => ?_) (fun c_36 => ?_)
        · refine x_aload_n (pc := 50) (i := 0) K dX7_store_50 rfl rfl ?_
          refine x_ldc (pc := 51) K kn_X7_80 dX7_store_51 ?_
          refine x_V1i (pc := 53) K (c_yX7_error (j := 1) (by decide) (by decide)) mw_yX7_error ⟨im_yX7_error, se_yX7_error⟩ mk_X7_81 rc_M rfl ⟨Nat.le_of_ble_eq_true rfl, Nat.le_of_ble_eq_true rfl, Nat.le_of_ble_eq_true rfl⟩ dX7_store_53 ?_
          exact x_iretI (pc := 56) K dX7_store_56 ⟨by simp (decide := true) only [g_store, r_errP, c_6, if_pos c_12, c_26, if_pos c_36, ↓reduceIte, Bool.false_eq_true, bI_t, bI_f], rfl, by simp (decide := true) only [g_store, r_errP, c_6, if_pos c_12, c_26, if_pos c_36, ↓reduceIte, Bool.false_eq_true, bI_t, bI_f]⟩
        · exact absurd c_36 (by decide)
      · refine x_iconst (pc := 29) (v := 1) K dX7_store_29 (by decide) ?_
        refine x_goto (pc := 30) (tgt := 34) K dX7_store_30 (by decide) ?_
        refine x_istore_n (pc := 34) (i := 3) K dX7_store_34 rfl rfl (by decide) ?_
        refine x_iload_n (pc := 35) (i := 3) K dX7_store_35 rfl rfl ?_
        refine x_if_eq (pc := 36) (tgt := 50) K dX7_store_36 (by decide) (fun c_36 => ?_) (fun c_36 => ?_)
        · exact absurd c_36 (by decide)
        · refine x_aload_n (pc := 39) (i := 0) K dX7_store_39 rfl rfl ?_
          refine x_iconst (pc := 40) (v := 3) K dX7_store_40 (by decide) ?_
          refine x_iload_n (pc := 41) (i := 1) K dX7_store_41 rfl rfl ?_
          refine x_iadd (pc := 42) K dX7_store_42 ?_
          refine x_iload_n (pc := 43) (i := 2) K dX7_store_43 rfl rfl ?_
          refine x_V2i (pc := 44) K (c_yX7_becomes (j := 3 + m) (by omega) (by show nI 3 + nI m = _; rw [nI_add])) mw_yX7_becomes ⟨im_yX7_becomes, se_yX7_becomes⟩ mk_X7_99 rc_M rfl ⟨Nat.le_of_ble_eq_true rfl, Nat.le_of_ble_eq_true rfl, Nat.le_of_ble_eq_true rfl⟩ dX7_store_44 ?_
          refine x_goto (pc := 47) (tgt := 56) K dX7_store_47 (by decide) ?_
          exact x_iretI (pc := 56) K dX7_store_56 ⟨by simp (decide := true) only [g_store, r_errP, c_6, if_pos c_12, c_26, if_neg c_36, ↓reduceIte, Bool.false_eq_true, bI_t, bI_f, hcm], rfl, by simp (decide := true) only [g_store, r_errP, c_6, if_pos c_12, c_26, if_neg c_36, ↓reduceIte, Bool.false_eq_true, bI_t, bI_f, hcm]⟩

def g_cross (ρ : Af) (span load : Int32) : Int32 × Af := if q_within span 0 (ρ mRow 2 - 1) = true then (if q_isLoad load = true then (if ρ mRow (mS span.toNatClampNeg 6) = 1 then r_errP ρ 3 else (r_carryV ρ span.toNatClampNeg load, r_carryS ρ span.toNatClampNeg load)) else r_errP ρ 1) else r_errP ρ 1
set_option maxRecDepth 100000 in
set_option maxHeartbeats 4000000 in
theorem c_yX7_cross {l : Launch} {G : Gm} {α ρ : Af} {span load : Int32} (hI : IM ρ) : CI 1 l G yX7_cross (Cond.code yX7_cross cX7_cross 3 (some .int)) 100 [.ref (gA G idM), .int span, .int load] α ρ (PI (g_cross ρ span load).1 α (g_cross ρ span load).2) := by
  obtain ⟨⟨n, h9, hn, hE⟩, hl0, hl1, ⟨t, h60, ht⟩, ⟨w, h24, hw⟩, hSz, ⟨q, hq, hqe⟩⟩ := hI
  refine CI.of [some (.ref (gA G idM)), some (.int span), some (.int load)] (by decide) (Nat.le_of_ble_eq_true rfl) rfl rfl (fun C K => ?_)
  have K : Ok l _ G C RX7 cX7_cross (some .int) 3 := K
  refine x_aload_n (pc := 0) (i := 0) K dX7_cross_0 rfl rfl ?_
  refine x_iload_n (pc := 1) (i := 1) K dX7_cross_1 rfl rfl ?_
  refine x_V1i (pc := 2) K (c_yX7_isSpan) mw_yX7_isSpan ⟨im_yX7_isSpan, se_yX7_isSpan⟩ mk_X7_90 rc_M rfl ⟨Nat.le_of_ble_eq_true rfl, Nat.le_of_ble_eq_true rfl, Nat.le_of_ble_eq_true rfl⟩ dX7_cross_2 ?_
  refine x_ifeq_b (pc := 5) (tgt := 15) K dX7_cross_5 (by decide) (fun c_5 => ?_) (fun c_5 => ?_)
  · refine x_aload_n (pc := 15) (i := 0) K dX7_cross_15 rfl rfl ?_
    refine x_ldc (pc := 16) K kn_X7_80 dX7_cross_16 ?_
    refine x_V1i (pc := 18) K (c_yX7_error (j := 1) (by decide) (by decide)) mw_yX7_error ⟨im_yX7_error, se_yX7_error⟩ mk_X7_81 rc_M rfl ⟨Nat.le_of_ble_eq_true rfl, Nat.le_of_ble_eq_true rfl, Nat.le_of_ble_eq_true rfl⟩ dX7_cross_18 ?_
    exact x_iretI (pc := 21) K dX7_cross_21 ⟨by simp (decide := true) only [g_cross, r_errP, c_5, ↓reduceIte, Bool.false_eq_true, bI_t, bI_f], rfl, by simp (decide := true) only [g_cross, r_errP, c_5, ↓reduceIte, Bool.false_eq_true, bI_t, bI_f]⟩
  · refine x_iload_n (pc := 8) (i := 2) K dX7_cross_8 rfl rfl ?_
    refine x_S1i (pc := 9) K (c_yX7_isLoad) mw_yX7_isLoad st_yX7_isLoad mk_X7_109 ⟨Nat.le_of_ble_eq_true rfl, Nat.le_of_ble_eq_true rfl, Nat.le_of_ble_eq_true rfl⟩ dX7_cross_9 ?_
    refine x_ifne_b (pc := 12) (tgt := 22) K dX7_cross_12 (by decide) (fun c_12 => ?_) (fun c_12 => ?_)
    · obtain ⟨j, hj, rfl⟩ := hs_of (v := span) (n := n) (by omega) (by rw [← hn]; exact c_5)
      have hj9 : j < 9 := by omega
      have hjc : (nI j).toNatClampNeg = j := nI_clamp (by omega)
      refine x_aload_n (pc := 22) (i := 0) K dX7_cross_22 rfl rfl ?_
      refine x_iload_n (pc := 23) (i := 1) K dX7_cross_23 rfl rfl ?_
      refine x_bipush (pc := 24) (v := 6) K dX7_cross_24 (by decide) ?_
      refine x_V2i (pc := 26) K (c_yX7_of (u := j) (w := 6) (Nat.lt_trans (mS_lt hj9 (by decide)) (by decide))) mw_yX7_of ⟨im_yX7_of, se_yX7_of⟩ mk_X7_62 rc_M rfl ⟨Nat.le_of_ble_eq_true rfl, Nat.le_of_ble_eq_true rfl, Nat.le_of_ble_eq_true rfl⟩ dX7_cross_26 ?_
      refine x_iconst (pc := 29) (v := 1) K dX7_cross_29 (by decide) ?_
      refine x_icmp_ne (pc := 30) (tgt := 42) K dX7_cross_30 (by decide) (fun c_30 => ?_) (fun c_30 => ?_)
      · refine x_aload_n (pc := 42) (i := 0) K dX7_cross_42 rfl rfl ?_
        refine x_iload_n (pc := 43) (i := 1) K dX7_cross_43 rfl rfl ?_
        refine x_iload_n (pc := 44) (i := 2) K dX7_cross_44 rfl rfl ?_
        refine x_V2i (pc := 45) K (c_yX7_crosses hj9 hl1) mw_yX7_crosses ⟨im_yX7_crosses, se_yX7_crosses⟩ mk_X7_112 rc_M rfl ⟨Nat.le_of_ble_eq_true rfl, Nat.le_of_ble_eq_true rfl, Nat.le_of_ble_eq_true rfl⟩ dX7_cross_45 ?_
        exact x_iretI (pc := 48) K dX7_cross_48 ⟨by simp (decide := true) only [g_cross, r_errP, c_5, c_12, if_neg c_30, ↓reduceIte, Bool.false_eq_true, bI_t, bI_f, hjc], rfl, by simp (decide := true) only [g_cross, r_errP, c_5, c_12, if_neg c_30, ↓reduceIte, Bool.false_eq_true, bI_t, bI_f, hjc]⟩
      · refine x_aload_n (pc := 33) (i := 0) K dX7_cross_33 rfl rfl ?_
        refine x_ldc (pc := 34) K kn_X7_103 dX7_cross_34 ?_
        refine x_V1i (pc := 36) K (c_yX7_error (j := 3) (by decide) (by decide)) mw_yX7_error ⟨im_yX7_error, se_yX7_error⟩ mk_X7_81 rc_M rfl ⟨Nat.le_of_ble_eq_true rfl, Nat.le_of_ble_eq_true rfl, Nat.le_of_ble_eq_true rfl⟩ dX7_cross_36 ?_
        refine x_goto (pc := 39) (tgt := 48) K dX7_cross_39 (by decide) ?_
        exact x_iretI (pc := 48) K dX7_cross_48 ⟨by simp (decide := true) only [g_cross, r_errP, c_5, c_12, if_pos c_30, ↓reduceIte, Bool.false_eq_true, bI_t, bI_f, hjc], rfl, by simp (decide := true) only [g_cross, r_errP, c_5, c_12, if_pos c_30, ↓reduceIte, Bool.false_eq_true, bI_t, bI_f, hjc]⟩
    · refine x_aload_n (pc := 15) (i := 0) K dX7_cross_15 rfl rfl ?_
      refine x_ldc (pc := 16) K kn_X7_80 dX7_cross_16 ?_
      refine x_V1i (pc := 18) K (c_yX7_error (j := 1) (by decide) (by decide)) mw_yX7_error ⟨im_yX7_error, se_yX7_error⟩ mk_X7_81 rc_M rfl ⟨Nat.le_of_ble_eq_true rfl, Nat.le_of_ble_eq_true rfl, Nat.le_of_ble_eq_true rfl⟩ dX7_cross_18 ?_
      exact x_iretI (pc := 21) K dX7_cross_21 ⟨by simp (decide := true) only [g_cross, r_errP, c_5, c_12, ↓reduceIte, Bool.false_eq_true, bI_t, bI_f], rfl, by simp (decide := true) only [g_cross, r_errP, c_5, c_12, ↓reduceIte, Bool.false_eq_true, bI_t, bI_f]⟩

def g_seed (ρ : Af) (v : Int32) : Int32 × Af := (ρ mRow 1, up ρ mRow 1 v)
set_option maxRecDepth 100000 in
set_option maxHeartbeats 4000000 in
theorem c_yX7_seed {l : Launch} {G : Gm} {α ρ : Af} {v : Int32} (hI : IM ρ) : CI 1 l G yX7_seed (Cond.code yX7_seed cX7_seed 2 (some .int)) 100 [.ref (gA G idM), .int v] α ρ (PI (g_seed ρ v).1 α (g_seed ρ v).2) := by
  obtain ⟨⟨n, h9, hn, hE⟩, hl0, hl1, ⟨t, h60, ht⟩, ⟨w, h24, hw⟩, hSz, ⟨q, hq, hqe⟩⟩ := hI
  refine CI.of [some (.ref (gA G idM)), some (.int v)] (by decide) (Nat.le_of_ble_eq_true rfl) rfl rfl (fun C K => ?_)
  have K : Ok l _ G C RX7 cX7_seed (some .int) 2 := K
  refine x_aload_n (pc := 0) (i := 0) K dX7_seed_0 rfl rfl ?_
  refine x_iconst (pc := 1) (v := 1) K dX7_seed_1 (by decide) ?_
  refine x_iload_n (pc := 2) (i := 1) K dX7_seed_2 rfl rfl ?_
  refine x_V2i (pc := 3) K (c_yX7_becomes (j := 1) (by decide) rfl) mw_yX7_becomes ⟨im_yX7_becomes, se_yX7_becomes⟩ mk_X7_99 rc_M rfl ⟨Nat.le_of_ble_eq_true rfl, Nat.le_of_ble_eq_true rfl, Nat.le_of_ble_eq_true rfl⟩ dX7_seed_3 ?_
  exact x_iretI (pc := 6) K dX7_seed_6 ⟨rfl, rfl, rfl⟩

def g_law (ρ : Af) (use a b c : Int32) : Int32 × Af := if q_within use 0 1 = true then (r_gives ρ use.toNatClampNeg a b c, ρ) else r_errP ρ 1
set_option maxRecDepth 100000 in
set_option maxHeartbeats 4000000 in
theorem c_yX7_law {l : Launch} {G : Gm} {α ρ : Af} {use a b c : Int32} (hI : IM ρ) : CI 1 l G yX7_law (Cond.code yX7_law cX7_law 5 (some .int)) 100 [.ref (gA G idM), .int use, .int a, .int b, .int c] α ρ (PI (g_law ρ use a b c).1 α (g_law ρ use a b c).2) := by
  obtain ⟨⟨n, h9, hn, hE⟩, hl0, hl1, ⟨t, h60, ht⟩, ⟨w, h24, hw⟩, hSz, ⟨q, hq, hqe⟩⟩ := hI
  refine CI.of [some (.ref (gA G idM)), some (.int use), some (.int a), some (.int b), some (.int c)] (by decide) (Nat.le_of_ble_eq_true rfl) rfl rfl (fun C K => ?_)
  have K : Ok l _ G C RX7 cX7_law (some .int) 5 := K
  refine x_iload_n (pc := 0) (i := 1) K dX7_law_0 rfl rfl ?_
  refine x_iconst (pc := 1) (v := 0) K dX7_law_1 (by decide) ?_
  refine x_iconst (pc := 2) (v := 1) K dX7_law_2 (by decide) ?_
  refine x_S3i (pc := 3) K (c_yX7_in) mw_yX7_in st_yX7_in mk_X7_54 ⟨Nat.le_of_ble_eq_true rfl, Nat.le_of_ble_eq_true rfl, Nat.le_of_ble_eq_true rfl⟩ dX7_law_3 ?_
  refine x_ifeq_b (pc := 6) (tgt := 21) K dX7_law_6 (by decide) (fun c_6 => ?_) (fun c_6 => ?_)
  · refine x_aload_n (pc := 21) (i := 0) K dX7_law_21 rfl rfl ?_
    refine x_ldc (pc := 22) K kn_X7_80 dX7_law_22 ?_
    refine x_V1i (pc := 24) K (c_yX7_error (j := 1) (by decide) (by decide)) mw_yX7_error ⟨im_yX7_error, se_yX7_error⟩ mk_X7_81 rc_M rfl ⟨Nat.le_of_ble_eq_true rfl, Nat.le_of_ble_eq_true rfl, Nat.le_of_ble_eq_true rfl⟩ dX7_law_24 ?_
    exact x_iretI (pc := 27) K dX7_law_27 ⟨by simp (decide := true) only [g_law, r_errP, c_6, ↓reduceIte, Bool.false_eq_true, bI_t, bI_f], rfl, by simp (decide := true) only [g_law, r_errP, c_6, ↓reduceIte, Bool.false_eq_true, bI_t, bI_f]⟩
  · obtain ⟨m, hlom, hhim, rfl⟩ := wi_of (v := use) (a := 0) (b := 1) rfl rfl (by decide) (by decide) c_6
    have hcm : (nI m).toNatClampNeg = m := nI_clamp (by omega)
    have hl : Ml ρ m := by rcases (show m = 0 ∨ m = 1 by omega) with rfl | rfl <;> assumption
    refine x_aload_n (pc := 9) (i := 0) K dX7_law_9 rfl rfl ?_
    refine x_iload_n (pc := 10) (i := 1) K dX7_law_10 rfl rfl ?_
    refine x_iload_n (pc := 11) (i := 2) K dX7_law_11 rfl rfl ?_
    refine x_iload_n (pc := 12) (i := 3) K dX7_law_12 rfl rfl ?_
    refine x_iload (pc := 13) (i := 4) K dX7_law_13 rfl ?_
    refine x_V4i (pc := 15) K (c_gives (u := m) (by omega) hl) mw_yX7_gives ⟨im_yX7_gives, se_yX7_gives⟩ mk_X7_105 rc_M rfl ⟨Nat.le_of_ble_eq_true rfl, Nat.le_of_ble_eq_true rfl, Nat.le_of_ble_eq_true rfl⟩ dX7_law_15 ?_
    refine x_goto (pc := 18) (tgt := 27) K dX7_law_18 (by decide) ?_
    exact x_iretI (pc := 27) K dX7_law_27 ⟨by simp (decide := true) only [g_law, r_errP, c_6, ↓reduceIte, Bool.false_eq_true, bI_t, bI_f, hcm], rfl, by simp (decide := true) only [g_law, r_errP, c_6, ↓reduceIte, Bool.false_eq_true, bI_t, bI_f, hcm]⟩

def g_untell (ρ : Af) (use : Int32) : Int32 × Af := if q_within use 0 1 = true then (if ρ mRow (aU use.toNatClampNeg) ≤ 0 then 0 else 1, up ρ mRow (aU use.toNatClampNeg) 0) else r_errP ρ 1
set_option maxRecDepth 100000 in
set_option maxHeartbeats 4000000 in
theorem c_yX7_untell {l : Launch} {G : Gm} {α ρ : Af} {use : Int32} (hI : IM ρ) : CI 1 l G yX7_untell (Cond.code yX7_untell cX7_untell 2 (some .int)) 100 [.ref (gA G idM), .int use] α ρ (PI (g_untell ρ use).1 α (g_untell ρ use).2) := by
  obtain ⟨⟨n, h9, hn, hE⟩, hl0, hl1, ⟨t, h60, ht⟩, ⟨w, h24, hw⟩, hSz, ⟨q, hq, hqe⟩⟩ := hI
  refine CI.of [some (.ref (gA G idM)), some (.int use)] (by decide) (Nat.le_of_ble_eq_true rfl) rfl rfl (fun C K => ?_)
  have K : Ok l _ G C RX7 cX7_untell (some .int) 2 := K
  refine x_iload_n (pc := 0) (i := 1) K dX7_untell_0 rfl rfl ?_
  refine x_iconst (pc := 1) (v := 0) K dX7_untell_1 (by decide) ?_
  refine x_iconst (pc := 2) (v := 1) K dX7_untell_2 (by decide) ?_
  refine x_S3i (pc := 3) K (c_yX7_in) mw_yX7_in st_yX7_in mk_X7_54 ⟨Nat.le_of_ble_eq_true rfl, Nat.le_of_ble_eq_true rfl, Nat.le_of_ble_eq_true rfl⟩ dX7_untell_3 ?_
  refine x_ifne_b (pc := 6) (tgt := 16) K dX7_untell_6 (by decide) (fun c_6 => ?_) (fun c_6 => ?_)
  · obtain ⟨m, hlom, hhim, rfl⟩ := wi_of (v := use) (a := 0) (b := 1) rfl rfl (by decide) (by decide) c_6
    have hcm : (nI m).toNatClampNeg = m := nI_clamp (by omega)
    refine x_aload_n (pc := 16) (i := 0) K dX7_untell_16 rfl rfl ?_
    refine x_sipush (pc := 17) (v := 156) K dX7_untell_17 (by decide) ?_
    refine x_bipush (pc := 20) (v := 121) K dX7_untell_20 (by decide) ?_
    refine x_iload_n (pc := 22) (i := 1) K dX7_untell_22 rfl rfl ?_
    refine x_imul (pc := 23) K dX7_untell_23 ?_
    refine x_iadd (pc := 24) K dX7_untell_24 ?_
    refine x_iconst (pc := 25) (v := 0) K dX7_untell_25 (by decide) ?_
    refine x_V2i (pc := 26) K (c_yX7_becomes (j := aU m) (by unfold aU; omega) (by show nI 156 + nI 121 * nI m = _; rw [pk_mul, nI_add]; rfl)) mw_yX7_becomes ⟨im_yX7_becomes, se_yX7_becomes⟩ mk_X7_99 rc_M rfl ⟨Nat.le_of_ble_eq_true rfl, Nat.le_of_ble_eq_true rfl, Nat.le_of_ble_eq_true rfl⟩ dX7_untell_26 ?_
    refine x_if_le (pc := 29) (tgt := 36) K dX7_untell_29 (by decide) (fun c_29 => ?_) (fun c_29 => ?_)
    · refine x_iconst (pc := 36) (v := 0) K dX7_untell_36 (by decide) ?_
      exact x_iretI (pc := 37) K dX7_untell_37 ⟨by simp (decide := true) only [g_untell, r_errP, c_6, if_pos c_29, ↓reduceIte, Bool.false_eq_true, bI_t, bI_f, hcm], rfl, by simp (decide := true) only [g_untell, r_errP, c_6, if_pos c_29, ↓reduceIte, Bool.false_eq_true, bI_t, bI_f, hcm]⟩
    · refine x_iconst (pc := 32) (v := 1) K dX7_untell_32 (by decide) ?_
      refine x_goto (pc := 33) (tgt := 37) K dX7_untell_33 (by decide) ?_
      exact x_iretI (pc := 37) K dX7_untell_37 ⟨by simp (decide := true) only [g_untell, r_errP, c_6, if_neg c_29, ↓reduceIte, Bool.false_eq_true, bI_t, bI_f, hcm], rfl, by simp (decide := true) only [g_untell, r_errP, c_6, if_neg c_29, ↓reduceIte, Bool.false_eq_true, bI_t, bI_f, hcm]⟩
  · refine x_aload_n (pc := 9) (i := 0) K dX7_untell_9 rfl rfl ?_
    refine x_ldc (pc := 10) K kn_X7_80 dX7_untell_10 ?_
    refine x_V1i (pc := 12) K (c_yX7_error (j := 1) (by decide) (by decide)) mw_yX7_error ⟨im_yX7_error, se_yX7_error⟩ mk_X7_81 rc_M rfl ⟨Nat.le_of_ble_eq_true rfl, Nat.le_of_ble_eq_true rfl, Nat.le_of_ble_eq_true rfl⟩ dX7_untell_12 ?_
    exact x_iretI (pc := 15) K dX7_untell_15 ⟨by simp (decide := true) only [g_untell, r_errP, c_6, ↓reduceIte, Bool.false_eq_true, bI_t, bI_f], rfl, by simp (decide := true) only [g_untell, r_errP, c_6, ↓reduceIte, Bool.false_eq_true, bI_t, bI_f]⟩

def r_byte (wd : Int64) (i : Nat) : Int32 := ((jlshr wd (8 * nI i)) &&& 255).toInt32
def r_tape (ρ : Af) (wd : Int64) (t : Nat) : Nat → Af
  | 0 => ρ
  | i + 1 => up (up (r_tape ρ wd t i) mRow (72 + (t + i)) (r_byte wd i)) mRow 7 (up (r_tape ρ wd t i) mRow (72 + (t + i)) (r_byte wd i) mRow 7 + 1)
theorem r_tape_7 {ρ : Af} {wd : Int64} {t : Nat} (ht : ρ mRow 7 = nI t) : ∀ i, r_tape ρ wd t i mRow 7 = nI (t + i)
  | 0 => ht
  | i + 1 => by
    simp only [r_tape]
    rw [up_eq, up_ne2 (by omega), r_tape_7 ht i]
    exact nI_1 _
def g_feed (ρ : Af) (w : Int64) (n : Int32) : Int32 × Af := if q_within n 1 8 = true then (if ρ mRow 7 + n ≤ 60 then (r_tape ρ w (ρ mRow 7).toNatClampNeg n.toNatClampNeg mRow 7, r_tape ρ w (ρ mRow 7).toNatClampNeg n.toNatClampNeg) else r_errP ρ 4) else r_errP ρ 1
set_option maxRecDepth 100000 in
set_option maxHeartbeats 4000000 in
theorem l_mfeed {l : Launch} {G : Gm} {C : Cx} {P : Po} {t m : Nat} {wd : Int64} {α ρ : Af} (K : Ok l 100 G C RX7 cX7_feed (some .int) 5) (ht : ρ mRow 7 = nI t) (h60 : t + m ≤ 60) (hm : m ≤ 8) : ∀ (j i : Nat), i + j = m → X 1 l 100 G C (P) 5 91 [some (.ref (gA G idM)), some (.long wd), none, some (.int (nI m)), some (.int (nI m))] [] α (r_tape ρ wd t m) → X 1 l 100 G C (P) 5 41 [some (.ref (gA G idM)), some (.long wd), none, some (.int (nI m)), some (.int (nI i))] [] α (r_tape ρ wd t i) := by
  intro j
  induction j with
  | zero =>
    intro i hi hx
    refine x_iload (pc := 41) (i := 4) K dX7_feed_41 rfl ?_
    refine x_iload_n (pc := 43) (i := 3) K dX7_feed_43 rfl rfl ?_
    refine x_icmp_ge (pc := 44) (tgt := 91) K dX7_feed_44 (by decide) (fun c_44 => ?_) (fun c_44 => ?_)
    · obtain rfl : i = m := by omega
      exact hx
    · exact absurd (nI_le (by omega) (by omega)) c_44
  | succ j ih =>
    intro i hi hx
    refine x_iload (pc := 41) (i := 4) K dX7_feed_41 rfl ?_
    refine x_iload_n (pc := 43) (i := 3) K dX7_feed_43 rfl rfl ?_
    refine x_icmp_ge (pc := 44) (tgt := 91) K dX7_feed_44 (by decide) (fun c_44 => ?_) (fun c_44 => ?_)
    · exact (nI_ge (a := i) (b := m) (by omega) (by omega) c_44).elim
    · refine x_aload_n (pc := 47) (i := 0) K dX7_feed_47 rfl rfl ?_
      refine gf_X7_9 (pc := 48)  K dX7_feed_48 ?_
      refine x_bipush (pc := 51) (v := 72) K dX7_feed_51 (by decide) ?_
      refine x_aload_n (pc := 53) (i := 0) K dX7_feed_53 rfl rfl ?_
      refine gf_X7_9 (pc := 54)  K dX7_feed_54 ?_
      refine x_bipush (pc := 57) (v := 7) K dX7_feed_57 (by decide) ?_
      refine ib_mRow (pc := 59) 7 (by decide) rfl K dX7_feed_59 ?_
      refine x_topi K (show _ = nI (t + i) from r_tape_7 ht i) ?_
      refine x_iadd (pc := 60) K dX7_feed_60 ?_
      refine x_lload_n (pc := 61) (i := 1) K dX7_feed_61 rfl rfl ?_
      refine x_bipush (pc := 62) (v := 8) K dX7_feed_62 (by decide) ?_
      refine x_iload (pc := 64) (i := 4) K dX7_feed_64 rfl ?_
      refine x_imul (pc := 66) K dX7_feed_66 ?_
      refine x_lshr (pc := 67) K dX7_feed_67 ?_
      refine x_ldc2 (pc := 68) K kn_X7_115 dX7_feed_68 ?_
      refine x_land (pc := 71) K dX7_feed_71 ?_
      refine x_l2i (pc := 72) K dX7_feed_72 ?_
      refine js_mRow (pc := 73) (72 + (t + i)) (by omega) (by show nI 72 + nI (t + i) = _; rw [nI_add]) K dX7_feed_73 ?_
      refine x_aload_n (pc := 74) (i := 0) K dX7_feed_74 rfl rfl ?_
      refine gf_X7_9 (pc := 75)  K dX7_feed_75 ?_
      refine x_bipush (pc := 78) (v := 7) K dX7_feed_78 (by decide) ?_
      refine x_dup2 (pc := 80) K dX7_feed_80 rfl rfl ?_
      refine ib_mRow (pc := 81) 7 (by decide) rfl K dX7_feed_81 ?_
      refine x_iconst (pc := 82) (v := 1) K dX7_feed_82 (by decide) ?_
      refine x_iadd (pc := 83) K dX7_feed_83 ?_
      refine js_mRow (pc := 84) 7 (by decide) rfl K dX7_feed_84 ?_
      refine x_iinc (pc := 85) (i := 4) (v := nI (i + 1)) K dX7_feed_85 rfl (nI_1 _) rfl ?_
      refine x_goto (pc := 88) (tgt := 41) K dX7_feed_88 (by decide) ?_
      exact ih (i + 1) (by omega) hx

set_option maxRecDepth 100000 in
set_option maxHeartbeats 4000000 in
theorem c_yX7_feed {l : Launch} {G : Gm} {α ρ : Af} {wd : Int64} {v : Int32} (hI : IM ρ) : CI 1 l G yX7_feed (Cond.code yX7_feed cX7_feed 5 (some .int)) 100 [.ref (gA G idM), .long wd, .int v] α ρ (PI (g_feed ρ wd v).1 α (g_feed ρ wd v).2) := by
  obtain ⟨⟨n, h9, hn, hE⟩, hl0, hl1, ⟨t, h60, ht⟩, ⟨w, h24, hw⟩, hSz, ⟨q, hq, hqe⟩⟩ := hI
  refine CI.of [some (.ref (gA G idM)), some (.long wd), none, some (.int v), none] (by decide) (Nat.le_of_ble_eq_true rfl) rfl rfl (fun C K => ?_)
  have K : Ok l _ G C RX7 cX7_feed (some .int) 5 := K
  refine x_iload_n (pc := 0) (i := 3) K dX7_feed_0 rfl rfl ?_
  refine x_iconst (pc := 1) (v := 1) K dX7_feed_1 (by decide) ?_
  refine x_bipush (pc := 2) (v := 8) K dX7_feed_2 (by decide) ?_
  refine x_S3i (pc := 4) K (c_yX7_in) mw_yX7_in st_yX7_in mk_X7_54 ⟨Nat.le_of_ble_eq_true rfl, Nat.le_of_ble_eq_true rfl, Nat.le_of_ble_eq_true rfl⟩ dX7_feed_4 ?_
  refine x_ifne_b (pc := 7) (tgt := 17) K dX7_feed_7 (by decide) (fun c_7 => ?_) (fun c_7 => ?_)
  · obtain ⟨m, hlom, hhim, rfl⟩ := wi_of (v := v) (a := 1) (b := 8) rfl rfl (by decide) (by decide) c_7
    have hcm : (nI m).toNatClampNeg = m := nI_clamp (by omega)
    refine x_aload_n (pc := 17) (i := 0) K dX7_feed_17 rfl rfl ?_
    refine gf_X7_9 (pc := 18)  K dX7_feed_18 ?_
    refine x_bipush (pc := 21) (v := 7) K dX7_feed_21 (by decide) ?_
    refine ib_mRow (pc := 23) 7 (by decide) rfl K dX7_feed_23 ?_
    refine x_iload_n (pc := 24) (i := 3) K dX7_feed_24 rfl rfl ?_
    refine x_iadd (pc := 25) K dX7_feed_25 ?_
    refine x_bipush (pc := 26) (v := 60) K dX7_feed_26 (by decide) ?_
    refine x_icmp_le (pc := 28) (tgt := 38) K dX7_feed_28 (by decide) (fun c_28 => ?_) (fun c_28 => ?_)
    · have htm : t + m ≤ 60 := by rw [ht, nI_add] at c_28; exact (nI_leI (a := t + m) (b := 60) (by omega) (by decide)).mp c_28
      have hct : (ρ mRow 7).toNatClampNeg = t := by rw [ht]; exact nI_clamp (by omega)
      refine x_iconst (pc := 38) (v := 0) K dX7_feed_38 (by decide) ?_
      refine x_istore (pc := 39) (i := 4) K dX7_feed_39 rfl (by decide) ?_
      refine l_mfeed K ht htm hhim m 0 (by omega) ?_
      refine x_aload_n (pc := 91) (i := 0) K dX7_feed_91 rfl rfl ?_
      refine gf_X7_9 (pc := 92)  K dX7_feed_92 ?_
      refine x_bipush (pc := 95) (v := 7) K dX7_feed_95 (by decide) ?_
      refine ib_mRow (pc := 97) 7 (by decide) rfl K dX7_feed_97 ?_
      exact x_iretI (pc := 98) K dX7_feed_98 ⟨by simp (decide := true) only [g_feed, r_errP, c_7, if_pos c_28, ↓reduceIte, Bool.false_eq_true, bI_t, bI_f, hcm, hct], rfl, by simp (decide := true) only [g_feed, r_errP, c_7, if_pos c_28, ↓reduceIte, Bool.false_eq_true, bI_t, bI_f, hcm, hct]⟩
    · refine x_aload_n (pc := 31) (i := 0) K dX7_feed_31 rfl rfl ?_
      refine x_ldc (pc := 32) K kn_X7_85 dX7_feed_32 ?_
      refine x_V1i (pc := 34) K (c_yX7_error (j := 4) (by decide) (by decide)) mw_yX7_error ⟨im_yX7_error, se_yX7_error⟩ mk_X7_81 rc_M rfl ⟨Nat.le_of_ble_eq_true rfl, Nat.le_of_ble_eq_true rfl, Nat.le_of_ble_eq_true rfl⟩ dX7_feed_34 ?_
      exact x_iretI (pc := 37) K dX7_feed_37 ⟨by simp (decide := true) only [g_feed, r_errP, c_7, if_neg c_28, ↓reduceIte, Bool.false_eq_true, bI_t, bI_f], rfl, by simp (decide := true) only [g_feed, r_errP, c_7, if_neg c_28, ↓reduceIte, Bool.false_eq_true, bI_t, bI_f]⟩
  · refine x_aload_n (pc := 10) (i := 0) K dX7_feed_10 rfl rfl ?_
    refine x_ldc (pc := 11) K kn_X7_80 dX7_feed_11 ?_
    refine x_V1i (pc := 13) K (c_yX7_error (j := 1) (by decide) (by decide)) mw_yX7_error ⟨im_yX7_error, se_yX7_error⟩ mk_X7_81 rc_M rfl ⟨Nat.le_of_ble_eq_true rfl, Nat.le_of_ble_eq_true rfl, Nat.le_of_ble_eq_true rfl⟩ dX7_feed_13 ?_
    exact x_iretI (pc := 16) K dX7_feed_16 ⟨by simp (decide := true) only [g_feed, r_errP, c_7, ↓reduceIte, Bool.false_eq_true, bI_t, bI_f], rfl, by simp (decide := true) only [g_feed, r_errP, c_7, ↓reduceIte, Bool.false_eq_true, bI_t, bI_f]⟩

def r_goN (ρ : Af) (n : Nat) : Nat → Af
  | 0 => ρ
  | i + 1 => r_go (r_goN ρ n i) n
theorem r_goN_lo {ρ : Af} {k n : Nat} (h : k < 9) (h0 : k ≠ 0) : ∀ i, r_goN ρ n i mRow k = ρ mRow k
  | 0 => rfl
  | i + 1 => by simp only [r_goN]; rw [r_go_lo h h0, r_goN_lo h h0 i]
theorem Ml.goN {ρ : Af} {u n : Nat} (h9 : n ≤ 9) (h : Ml ρ u) : ∀ i, Ml (r_goN ρ n i) u
  | 0 => h
  | i + 1 => (Ml.goN h9 h i).go h9
set_option maxRecDepth 100000 in
set_option maxHeartbeats 4000000 in
theorem l_mdays {l : Launch} {G : Gm} {C : Cx} {P : Po} {n m : Nat} {α ρ : Af} (K : Ok l 100 G C RX7 cX7_days (some .int) 3) (hn : ρ mRow 2 = nI n) (h9 : n ≤ 9) (hl : Ml ρ 0) (hm : m ≤ 60) : ∀ (j i : Nat), i + j = m → X 1 l 100 G C (P) 3 55 [some (.ref (gA G idM)), some (.int (nI m)), some (.int (nI m))] [] α (r_goN ρ n m) → X 1 l 100 G C (P) 3 40 [some (.ref (gA G idM)), some (.int (nI m)), some (.int (nI i))] [] α (r_goN ρ n i) := by
  intro j
  induction j with
  | zero =>
    intro i hi hx
    refine x_iload_n (pc := 40) (i := 2) K dX7_days_40 rfl rfl ?_
    refine x_iload_n (pc := 41) (i := 1) K dX7_days_41 rfl rfl ?_
    refine x_icmp_ge (pc := 42) (tgt := 55) K dX7_days_42 (by decide) (fun c_42 => ?_) (fun c_42 => ?_)
    · obtain rfl : i = m := by omega
      exact hx
    · exact absurd (nI_le (by omega) (by omega)) c_42
  | succ j ih =>
    intro i hi hx
    refine x_iload_n (pc := 40) (i := 2) K dX7_days_40 rfl rfl ?_
    refine x_iload_n (pc := 41) (i := 1) K dX7_days_41 rfl rfl ?_
    refine x_icmp_ge (pc := 42) (tgt := 55) K dX7_days_42 (by decide) (fun c_42 => ?_) (fun c_42 => ?_)
    · exact (nI_ge (a := i) (b := m) (by omega) (by omega) c_42).elim
    · refine x_aload_n (pc := 45) (i := 0) K dX7_days_45 rfl rfl ?_
      refine x_V0v (pc := 46) K (c_yX7_goes (ρ := r_goN ρ n i) ((r_goN_lo (by decide) (by decide) i).trans hn) h9 (hl.goN h9 i)) mw_yX7_goes ⟨im_yX7_goes, se_yX7_goes⟩ mk_X7_176 rc_M rfl ⟨Nat.le_of_ble_eq_true rfl, Nat.le_of_ble_eq_true rfl, Nat.le_of_ble_eq_true rfl⟩ dX7_days_46 ?_
      refine x_iinc (pc := 49) (i := 2) (v := nI (i + 1)) K dX7_days_49 rfl (nI_1 _) rfl ?_
      refine x_goto (pc := 52) (tgt := 40) K dX7_days_52 (by decide) ?_
      exact ih (i + 1) (by omega) hx

def g_days (ρ : Af) (v : Int32) : Int32 × Af := if q_within v 1 60 = true then (if ρ mRow 0 + v ≤ 9999 then (r_goN ρ (ρ mRow 2).toNatClampNeg v.toNatClampNeg mRow 0, r_goN ρ (ρ mRow 2).toNatClampNeg v.toNatClampNeg) else r_errP ρ 3) else r_errP ρ 1
set_option maxRecDepth 100000 in
set_option maxHeartbeats 4000000 in
theorem c_yX7_days {l : Launch} {G : Gm} {α ρ : Af} {v : Int32} (hI : IM ρ) : CI 1 l G yX7_days (Cond.code yX7_days cX7_days 3 (some .int)) 100 [.ref (gA G idM), .int v] α ρ (PI (g_days ρ v).1 α (g_days ρ v).2) := by
  obtain ⟨⟨n, h9, hn, hE⟩, hl0, hl1, ⟨t, h60, ht⟩, ⟨w, h24, hw⟩, hSz, ⟨q, hq, hqe⟩⟩ := hI
  refine CI.of [some (.ref (gA G idM)), some (.int v), none] (by decide) (Nat.le_of_ble_eq_true rfl) rfl rfl (fun C K => ?_)
  have K : Ok l _ G C RX7 cX7_days (some .int) 3 := K
  refine x_iload_n (pc := 0) (i := 1) K dX7_days_0 rfl rfl ?_
  refine x_iconst (pc := 1) (v := 1) K dX7_days_1 (by decide) ?_
  refine x_bipush (pc := 2) (v := 60) K dX7_days_2 (by decide) ?_
  refine x_S3i (pc := 4) K (c_yX7_in) mw_yX7_in st_yX7_in mk_X7_54 ⟨Nat.le_of_ble_eq_true rfl, Nat.le_of_ble_eq_true rfl, Nat.le_of_ble_eq_true rfl⟩ dX7_days_4 ?_
  refine x_ifne_b (pc := 7) (tgt := 17) K dX7_days_7 (by decide) (fun c_7 => ?_) (fun c_7 => ?_)
  · obtain ⟨m, hlom, hhim, rfl⟩ := wi_of (v := v) (a := 1) (b := 60) rfl rfl (by decide) (by decide) c_7
    have hcm : (nI m).toNatClampNeg = m := nI_clamp (by omega)
    refine x_aload_n (pc := 17) (i := 0) K dX7_days_17 rfl rfl ?_
    refine gf_X7_9 (pc := 18)  K dX7_days_18 ?_
    refine x_iconst (pc := 21) (v := 0) K dX7_days_21 (by decide) ?_
    refine ib_mRow (pc := 22) 0 (by decide) rfl K dX7_days_22 ?_
    refine x_iload_n (pc := 23) (i := 1) K dX7_days_23 rfl rfl ?_
    refine x_iadd (pc := 24) K dX7_days_24 ?_
    refine x_sipush (pc := 25) (v := 9999) K dX7_days_25 (by decide) ?_
    refine x_icmp_le (pc := 28) (tgt := 38) K dX7_days_28 (by decide) (fun c_28 => ?_) (fun c_28 => ?_)
    · have hcn : (ρ mRow 2).toNatClampNeg = n := by rw [hn]; exact nI_clamp (by omega)
      refine x_iconst (pc := 38) (v := 0) K dX7_days_38 (by decide) ?_
      refine x_istore_n (pc := 39) (i := 2) K dX7_days_39 rfl rfl (by decide) ?_
      refine l_mdays K hn h9 hl0 hhim m 0 (by omega) ?_
      refine x_aload_n (pc := 55) (i := 0) K dX7_days_55 rfl rfl ?_
      refine gf_X7_9 (pc := 56)  K dX7_days_56 ?_
      refine x_iconst (pc := 59) (v := 0) K dX7_days_59 (by decide) ?_
      refine ib_mRow (pc := 60) 0 (by decide) rfl K dX7_days_60 ?_
      exact x_iretI (pc := 61) K dX7_days_61 ⟨by simp (decide := true) only [g_days, r_errP, c_7, if_pos c_28, ↓reduceIte, Bool.false_eq_true, bI_t, bI_f, hcm, hcn], rfl, by simp (decide := true) only [g_days, r_errP, c_7, if_pos c_28, ↓reduceIte, Bool.false_eq_true, bI_t, bI_f, hcm, hcn]⟩
    · refine x_aload_n (pc := 31) (i := 0) K dX7_days_31 rfl rfl ?_
      refine x_ldc (pc := 32) K kn_X7_103 dX7_days_32 ?_
      refine x_V1i (pc := 34) K (c_yX7_error (j := 3) (by decide) (by decide)) mw_yX7_error ⟨im_yX7_error, se_yX7_error⟩ mk_X7_81 rc_M rfl ⟨Nat.le_of_ble_eq_true rfl, Nat.le_of_ble_eq_true rfl, Nat.le_of_ble_eq_true rfl⟩ dX7_days_34 ?_
      exact x_iretI (pc := 37) K dX7_days_37 ⟨by simp (decide := true) only [g_days, r_errP, c_7, if_neg c_28, ↓reduceIte, Bool.false_eq_true, bI_t, bI_f], rfl, by simp (decide := true) only [g_days, r_errP, c_7, if_neg c_28, ↓reduceIte, Bool.false_eq_true, bI_t, bI_f]⟩
  · refine x_aload_n (pc := 10) (i := 0) K dX7_days_10 rfl rfl ?_
    refine x_ldc (pc := 11) K kn_X7_80 dX7_days_11 ?_
    refine x_V1i (pc := 13) K (c_yX7_error (j := 1) (by decide) (by decide)) mw_yX7_error ⟨im_yX7_error, se_yX7_error⟩ mk_X7_81 rc_M rfl ⟨Nat.le_of_ble_eq_true rfl, Nat.le_of_ble_eq_true rfl, Nat.le_of_ble_eq_true rfl⟩ dX7_days_13 ?_
    exact x_iretI (pc := 16) K dX7_days_16 ⟨by simp (decide := true) only [g_days, r_errP, c_7, ↓reduceIte, Bool.false_eq_true, bI_t, bI_f], rfl, by simp (decide := true) only [g_days, r_errP, c_7, ↓reduceIte, Bool.false_eq_true, bI_t, bI_f]⟩

def r_lo (ρ : Af) (n : Nat) : Nat → Int32 × Af
  | 0 => (0, ρ)
  | i + 1 => ((r_lo ρ n i).1 + r_ddB (r_lo ρ n i).2 n, r_dd (r_lo ρ n i).2 n)
theorem r_dd_2 {ρ : Af} {n : Nat} : r_dd ρ n mRow 2 = ρ mRow 2 := by unfold r_dd; rw [r_go_lo (by decide) (by decide), r_ddS_2]
theorem Ml.dd {ρ : Af} {u n : Nat} (h9 : n ≤ 9) (h : Ml ρ u) : Ml (r_dd ρ n) u := (h.ddS h9).go h9
theorem r_lo_2 {ρ : Af} {n : Nat} : ∀ i, (r_lo ρ n i).2 mRow 2 = ρ mRow 2
  | 0 => rfl
  | i + 1 => by simp only [r_lo]; rw [r_dd_2, r_lo_2 i]
theorem Ml.lo {ρ : Af} {u n : Nat} (h9 : n ≤ 9) (h : Ml ρ u) : ∀ i, Ml (r_lo ρ n i).2 u
  | 0 => h
  | i + 1 => by simp only [r_lo]; exact (Ml.lo h9 h i).dd h9
set_option maxRecDepth 100000 in
set_option maxHeartbeats 4000000 in
theorem l_mloose {l : Launch} {G : Gm} {C : Cx} {P : Po} {n m : Nat} {α ρ : Af} (K : Ok l 100 G C RX7 cX7_loose (some .int) 4) (hn : ρ mRow 2 = nI n) (h9 : n ≤ 9) (hl0 : Ml ρ 0) (hl1 : Ml ρ 1) (hm : m ≤ 30) : ∀ (j i : Nat), i + j = m → X 1 l 100 G C (P) 4 60 [some (.ref (gA G idM)), some (.int (nI m)), some (.int (r_lo ρ n m).1), some (.int (nI m))] [] α (r_lo ρ n m).2 → X 1 l 100 G C (P) 4 42 [some (.ref (gA G idM)), some (.int (nI m)), some (.int (r_lo ρ n i).1), some (.int (nI i))] [] α (r_lo ρ n i).2 := by
  intro j
  induction j with
  | zero =>
    intro i hi hx
    refine x_iload_n (pc := 42) (i := 3) K dX7_loose_42 rfl rfl ?_
    refine x_iload_n (pc := 43) (i := 1) K dX7_loose_43 rfl rfl ?_
    refine x_icmp_ge (pc := 44) (tgt := 60) K dX7_loose_44 (by decide) (fun c_44 => ?_) (fun c_44 => ?_)
    · obtain rfl : i = m := by omega
      exact hx
    · exact absurd (nI_le (by omega) (by omega)) c_44
  | succ j ih =>
    intro i hi hx
    refine x_iload_n (pc := 42) (i := 3) K dX7_loose_42 rfl rfl ?_
    refine x_iload_n (pc := 43) (i := 1) K dX7_loose_43 rfl rfl ?_
    refine x_icmp_ge (pc := 44) (tgt := 60) K dX7_loose_44 (by decide) (fun c_44 => ?_) (fun c_44 => ?_)
    · exact (nI_ge (a := i) (b := m) (by omega) (by omega) c_44).elim
    · refine x_iload_n (pc := 47) (i := 2) K dX7_loose_47 rfl rfl ?_
      refine x_aload_n (pc := 48) (i := 0) K dX7_loose_48 rfl rfl ?_
      refine x_V0i (pc := 49) K (c_yX7_drawn (ρ := (r_lo ρ n i).2) ((r_lo_2 i).trans hn) h9 (hl0.lo h9 i) (hl1.lo h9 i)) mw_yX7_drawn ⟨im_yX7_drawn, se_yX7_drawn⟩ mk_X7_183 rc_M rfl ⟨Nat.le_of_ble_eq_true rfl, Nat.le_of_ble_eq_true rfl, Nat.le_of_ble_eq_true rfl⟩ dX7_loose_49 ?_
      refine x_iadd (pc := 52) K dX7_loose_52 ?_
      refine x_istore_n (pc := 53) (i := 2) K dX7_loose_53 rfl rfl (by decide) ?_
      refine x_iinc (pc := 54) (i := 3) (v := nI (i + 1)) K dX7_loose_54 rfl (nI_1 _) rfl ?_
      refine x_goto (pc := 57) (tgt := 42) K dX7_loose_57 (by decide) ?_
      exact ih (i + 1) (by omega) hx

def g_loose (ρ : Af) (v : Int32) : Int32 × Af := if q_within v 1 30 = true then (if ρ mRow 0 + v ≤ 9999 then r_lo ρ (ρ mRow 2).toNatClampNeg v.toNatClampNeg else r_errP ρ 3) else r_errP ρ 1
set_option maxRecDepth 100000 in
set_option maxHeartbeats 4000000 in
theorem c_yX7_loose {l : Launch} {G : Gm} {α ρ : Af} {v : Int32} (hI : IM ρ) : CI 1 l G yX7_loose (Cond.code yX7_loose cX7_loose 4 (some .int)) 100 [.ref (gA G idM), .int v] α ρ (PI (g_loose ρ v).1 α (g_loose ρ v).2) := by
  obtain ⟨⟨n, h9, hn, hE⟩, hl0, hl1, ⟨t, h60, ht⟩, ⟨w, h24, hw⟩, hSz, ⟨q, hq, hqe⟩⟩ := hI
  refine CI.of [some (.ref (gA G idM)), some (.int v), none, none] (by decide) (Nat.le_of_ble_eq_true rfl) rfl rfl (fun C K => ?_)
  have K : Ok l _ G C RX7 cX7_loose (some .int) 4 := K
  refine x_iload_n (pc := 0) (i := 1) K dX7_loose_0 rfl rfl ?_
  refine x_iconst (pc := 1) (v := 1) K dX7_loose_1 (by decide) ?_
  refine x_bipush (pc := 2) (v := 30) K dX7_loose_2 (by decide) ?_
  refine x_S3i (pc := 4) K (c_yX7_in) mw_yX7_in st_yX7_in mk_X7_54 ⟨Nat.le_of_ble_eq_true rfl, Nat.le_of_ble_eq_true rfl, Nat.le_of_ble_eq_true rfl⟩ dX7_loose_4 ?_
  refine x_ifne_b (pc := 7) (tgt := 17) K dX7_loose_7 (by decide) (fun c_7 => ?_) (fun c_7 => ?_)
  · obtain ⟨m, hlom, hhim, rfl⟩ := wi_of (v := v) (a := 1) (b := 30) rfl rfl (by decide) (by decide) c_7
    have hcm : (nI m).toNatClampNeg = m := nI_clamp (by omega)
    refine x_aload_n (pc := 17) (i := 0) K dX7_loose_17 rfl rfl ?_
    refine gf_X7_9 (pc := 18)  K dX7_loose_18 ?_
    refine x_iconst (pc := 21) (v := 0) K dX7_loose_21 (by decide) ?_
    refine ib_mRow (pc := 22) 0 (by decide) rfl K dX7_loose_22 ?_
    refine x_iload_n (pc := 23) (i := 1) K dX7_loose_23 rfl rfl ?_
    refine x_iadd (pc := 24) K dX7_loose_24 ?_
    refine x_sipush (pc := 25) (v := 9999) K dX7_loose_25 (by decide) ?_
    refine x_icmp_le (pc := 28) (tgt := 38) K dX7_loose_28 (by decide) (fun c_28 => ?_) (fun c_28 => ?_)
    · have hcn : (ρ mRow 2).toNatClampNeg = n := by rw [hn]; exact nI_clamp (by omega)
      refine x_iconst (pc := 38) (v := 0) K dX7_loose_38 (by decide) ?_
      refine x_istore_n (pc := 39) (i := 2) K dX7_loose_39 rfl rfl (by decide) ?_
      refine x_iconst (pc := 40) (v := 0) K dX7_loose_40 (by decide) ?_
      refine x_istore_n (pc := 41) (i := 3) K dX7_loose_41 rfl rfl (by decide) ?_
      refine l_mloose K hn h9 hl0 hl1 hhim m 0 (by omega) ?_
      refine x_iload_n (pc := 60) (i := 2) K dX7_loose_60 rfl rfl ?_
      exact x_iretI (pc := 61) K dX7_loose_61 ⟨by simp (decide := true) only [g_loose, r_errP, c_7, if_pos c_28, ↓reduceIte, Bool.false_eq_true, bI_t, bI_f, hcm, hcn], rfl, by simp (decide := true) only [g_loose, r_errP, c_7, if_pos c_28, ↓reduceIte, Bool.false_eq_true, bI_t, bI_f, hcm, hcn]⟩
    · refine x_aload_n (pc := 31) (i := 0) K dX7_loose_31 rfl rfl ?_
      refine x_ldc (pc := 32) K kn_X7_103 dX7_loose_32 ?_
      refine x_V1i (pc := 34) K (c_yX7_error (j := 3) (by decide) (by decide)) mw_yX7_error ⟨im_yX7_error, se_yX7_error⟩ mk_X7_81 rc_M rfl ⟨Nat.le_of_ble_eq_true rfl, Nat.le_of_ble_eq_true rfl, Nat.le_of_ble_eq_true rfl⟩ dX7_loose_34 ?_
      exact x_iretI (pc := 37) K dX7_loose_37 ⟨by simp (decide := true) only [g_loose, r_errP, c_7, if_neg c_28, ↓reduceIte, Bool.false_eq_true, bI_t, bI_f], rfl, by simp (decide := true) only [g_loose, r_errP, c_7, if_neg c_28, ↓reduceIte, Bool.false_eq_true, bI_t, bI_f]⟩
  · refine x_aload_n (pc := 10) (i := 0) K dX7_loose_10 rfl rfl ?_
    refine x_ldc (pc := 11) K kn_X7_80 dX7_loose_11 ?_
    refine x_V1i (pc := 13) K (c_yX7_error (j := 1) (by decide) (by decide)) mw_yX7_error ⟨im_yX7_error, se_yX7_error⟩ mk_X7_81 rc_M rfl ⟨Nat.le_of_ble_eq_true rfl, Nat.le_of_ble_eq_true rfl, Nat.le_of_ble_eq_true rfl⟩ dX7_loose_13 ?_
    exact x_iretI (pc := 16) K dX7_loose_16 ⟨by simp (decide := true) only [g_loose, r_errP, c_7, ↓reduceIte, Bool.false_eq_true, bI_t, bI_f], rfl, by simp (decide := true) only [g_loose, r_errP, c_7, ↓reduceIte, Bool.false_eq_true, bI_t, bI_f]⟩

theorem pl_of {p : Int32} (h : q_isPlace p = true) : ∃ a, a < 8 ∧ p = nI a := by
  obtain ⟨m, -, h2, h3⟩ := wi_of (v := p) (a := 0) (b := 7) rfl rfl (by decide) (by decide) h
  exact ⟨m, by omega, h3⟩
theorem two_of {a b : Int32} (h : q_areTwo a b = true) : ∃ m, m < 8 ∧ a = nI m := by
  unfold q_areTwo at h
  split at h
  · rename_i c; exact pl_of c
  · cases h
def g_joined (ρ : Af) (p load : Int32) : Int32 × Af := if q_isPlace p = true then (if q_isLoad load = true then (r_reach (r_endsU ρ) (r_fb ρ (ρ mRow 2).toNatClampNeg mBear) load (ρ mRow 2).toNatClampNeg 8 (jshl 1 p), r_fb ρ (ρ mRow 2).toNatClampNeg) else r_errP ρ 1) else r_errP ρ 1
set_option maxRecDepth 100000 in
set_option maxHeartbeats 4000000 in
theorem c_yX7_joined {l : Launch} {G : Gm} {α ρ : Af} {p load : Int32} (hI : IM ρ) : CI 1 l G yX7_joined (Cond.code yX7_joined cX7_joined 3 (some .int)) 100 [.ref (gA G idM), .int p, .int load] α ρ (PI (g_joined ρ p load).1 α (g_joined ρ p load).2) := by
  obtain ⟨⟨n, h9, hn, hE⟩, hl0, hl1, ⟨t, h60, ht⟩, ⟨w, h24, hw⟩, hSz, ⟨q, hq, hqe⟩⟩ := hI
  refine CI.of [some (.ref (gA G idM)), some (.int p), some (.int load)] (by decide) (Nat.le_of_ble_eq_true rfl) rfl rfl (fun C K => ?_)
  have K : Ok l _ G C RX7 cX7_joined (some .int) 3 := K
  refine x_iload_n (pc := 0) (i := 1) K dX7_joined_0 rfl rfl ?_
  refine x_S1i (pc := 1) K (c_yX7_isPlace) mw_yX7_isPlace st_yX7_isPlace mk_X7_58 ⟨Nat.le_of_ble_eq_true rfl, Nat.le_of_ble_eq_true rfl, Nat.le_of_ble_eq_true rfl⟩ dX7_joined_1 ?_
  refine x_ifeq_b (pc := 4) (tgt := 14) K dX7_joined_4 (by decide) (fun c_4 => ?_) (fun c_4 => ?_)
  · refine x_aload_n (pc := 14) (i := 0) K dX7_joined_14 rfl rfl ?_
    refine x_ldc (pc := 15) K kn_X7_80 dX7_joined_15 ?_
    refine x_V1i (pc := 17) K (c_yX7_error (j := 1) (by decide) (by decide)) mw_yX7_error ⟨im_yX7_error, se_yX7_error⟩ mk_X7_81 rc_M rfl ⟨Nat.le_of_ble_eq_true rfl, Nat.le_of_ble_eq_true rfl, Nat.le_of_ble_eq_true rfl⟩ dX7_joined_17 ?_
    exact x_iretI (pc := 20) K dX7_joined_20 ⟨by simp (decide := true) only [g_joined, r_errP, c_4, ↓reduceIte, Bool.false_eq_true, bI_t, bI_f], rfl, by simp (decide := true) only [g_joined, r_errP, c_4, ↓reduceIte, Bool.false_eq_true, bI_t, bI_f]⟩
  · refine x_iload_n (pc := 7) (i := 2) K dX7_joined_7 rfl rfl ?_
    refine x_S1i (pc := 8) K (c_yX7_isLoad) mw_yX7_isLoad st_yX7_isLoad mk_X7_109 ⟨Nat.le_of_ble_eq_true rfl, Nat.le_of_ble_eq_true rfl, Nat.le_of_ble_eq_true rfl⟩ dX7_joined_8 ?_
    refine x_ifne_b (pc := 11) (tgt := 21) K dX7_joined_11 (by decide) (fun c_11 => ?_) (fun c_11 => ?_)
    · obtain ⟨a, ha, rfl⟩ := pl_of c_4
      have hcn : (ρ mRow 2).toNatClampNeg = n := by rw [hn]; exact nI_clamp (by omega)
      refine x_aload_n (pc := 21) (i := 0) K dX7_joined_21 rfl rfl ?_
      refine x_V0v (pc := 22) K (c_yX7_findBearing hn h9) mw_yX7_findBearing ⟨im_yX7_findBearing, se_yX7_findBearing⟩ mk_X7_189 rc_M rfl ⟨Nat.le_of_ble_eq_true rfl, Nat.le_of_ble_eq_true rfl, Nat.le_of_ble_eq_true rfl⟩ dX7_joined_22 ?_
      refine x_aload_n (pc := 25) (i := 0) K dX7_joined_25 rfl rfl ?_
      refine x_iload_n (pc := 26) (i := 1) K dX7_joined_26 rfl rfl ?_
      refine x_iload_n (pc := 27) (i := 2) K dX7_joined_27 rfl rfl ?_
      refine x_V2i (pc := 28) K (c_yX7_joinedBy (ρ := r_fb ρ n) (by rw [r_fb_ne (by decide)]; exact hn) h9 ha (by rw [r_fb_ends]; exact hE)) mw_yX7_joinedBy ⟨im_yX7_joinedBy, se_yX7_joinedBy⟩ mk_X7_186 rc_M rfl ⟨Nat.le_of_ble_eq_true rfl, Nat.le_of_ble_eq_true rfl, Nat.le_of_ble_eq_true rfl⟩ dX7_joined_28 ?_
      exact x_iretI (pc := 31) K dX7_joined_31 ⟨by simp (decide := true) only [g_joined, r_errP, c_4, c_11, ↓reduceIte, Bool.false_eq_true, bI_t, bI_f, hcn, r_fb_ends], rfl, by simp (decide := true) only [g_joined, r_errP, c_4, c_11, ↓reduceIte, Bool.false_eq_true, bI_t, bI_f, hcn, r_fb_ends]⟩
    · refine x_aload_n (pc := 14) (i := 0) K dX7_joined_14 rfl rfl ?_
      refine x_ldc (pc := 15) K kn_X7_80 dX7_joined_15 ?_
      refine x_V1i (pc := 17) K (c_yX7_error (j := 1) (by decide) (by decide)) mw_yX7_error ⟨im_yX7_error, se_yX7_error⟩ mk_X7_81 rc_M rfl ⟨Nat.le_of_ble_eq_true rfl, Nat.le_of_ble_eq_true rfl, Nat.le_of_ble_eq_true rfl⟩ dX7_joined_17 ?_
      exact x_iretI (pc := 20) K dX7_joined_20 ⟨by simp (decide := true) only [g_joined, r_errP, c_4, c_11, ↓reduceIte, Bool.false_eq_true, bI_t, bI_f], rfl, by simp (decide := true) only [g_joined, r_errP, c_4, c_11, ↓reduceIte, Bool.false_eq_true, bI_t, bI_f]⟩

def r_ld (ρ : Af) (n : Nat) (a b : Int32) : Nat → Int32 × Af
  | 0 => r_errP (r_fb ρ n) 2
  | m + 1 => if r_joins (r_endsU ρ) (r_fb ρ n mBear) (nI m) n a b = true then (nI m, r_fb ρ n) else r_ld ρ n a b m
set_option maxRecDepth 100000 in
set_option maxHeartbeats 4000000 in
theorem l_mload {l : Launch} {G : Gm} {C : Cx} {n a : Nat} {b : Int32} {α ρ : Af} (K : Ok l 100 G C RX7 cX7_load (some .int) 4) (hn : ρ mRow 2 = nI n) (h9 : n ≤ 9) (ha : a < 8) (hE : Eb (r_endsU ρ) n) : ∀ (m : Nat), m ≤ 100 → ∀ T, r_ld ρ n (nI a) b m = T → X 1 l 100 G C (PI T.1 α T.2) 4 22 [some (.ref (gA G idM)), some (.int (nI a)), some (.int b), some (.int (nI m - 1))] [] α (r_fb ρ n) := by
  intro m
  induction m with
  | zero =>
    intro hm T hT
    refine x_iload_n (pc := 22) (i := 3) K dX7_load_22 rfl rfl ?_
    refine x_if_lt (pc := 23) (tgt := 42) K dX7_load_23 (by decide) (fun c_23 => ?_) (fun c_23 => ?_)
    · refine x_iload_n (pc := 42) (i := 3) K dX7_load_42 rfl rfl ?_
      refine x_if_ge (pc := 43) (tgt := 55) K dX7_load_43 (by decide) (fun c_43 => ?_) (fun c_43 => ?_)
      · exact absurd c_43 (by decide)
      · refine x_aload_n (pc := 46) (i := 0) K dX7_load_46 rfl rfl ?_
        refine x_ldc (pc := 47) K kn_X7_195 dX7_load_47 ?_
        refine x_V1i (pc := 49) K (c_yX7_error (j := 2) (by decide) (by decide)) mw_yX7_error ⟨im_yX7_error, se_yX7_error⟩ mk_X7_81 rc_M rfl ⟨Nat.le_of_ble_eq_true rfl, Nat.le_of_ble_eq_true rfl, Nat.le_of_ble_eq_true rfl⟩ dX7_load_49 ?_
        refine x_goto (pc := 52) (tgt := 56) K dX7_load_52 (by decide) ?_
        exact x_iretI (pc := 56) K dX7_load_56 ⟨by rw [← hT]; rfl, rfl, by rw [← hT]; rfl⟩
    · exact absurd (by decide) c_23
  | succ m ih =>
    intro hm T hT
    refine x_iload_n (pc := 22) (i := 3) K dX7_load_22 rfl rfl ?_
    refine x_if_lt (pc := 23) (tgt := 42) K dX7_load_23 (by decide) (fun c_23 => ?_) (fun c_23 => ?_)
    · exact absurd c_23 (by rw [nI_pred]; exact nI_pos (by omega))
    · refine x_aload_n (pc := 26) (i := 0) K dX7_load_26 rfl rfl ?_
      refine x_iload_n (pc := 27) (i := 1) K dX7_load_27 rfl rfl ?_
      refine x_iload_n (pc := 28) (i := 2) K dX7_load_28 rfl rfl ?_
      refine x_iload_n (pc := 29) (i := 3) K dX7_load_29 rfl rfl ?_
      refine x_topi K (nI_pred m) ?_
      refine x_V3i (pc := 30) K (c_yX7_areJoinedBy (ρ := r_fb ρ n) (by rw [r_fb_ne (by decide)]; exact hn) h9 ha (by rw [r_fb_ends]; exact hE)) mw_yX7_areJoinedBy ⟨im_yX7_areJoinedBy, se_yX7_areJoinedBy⟩ mk_X7_192 rc_M rfl ⟨Nat.le_of_ble_eq_true rfl, Nat.le_of_ble_eq_true rfl, Nat.le_of_ble_eq_true rfl⟩ dX7_load_30 ?_
      refine x_ifne_b (pc := 33) (tgt := 42) K dX7_load_33 (by decide) (fun c_33 => ?_) (fun c_33 => ?_)
      · refine x_iload_n (pc := 42) (i := 3) K dX7_load_42 rfl rfl ?_
        refine x_if_ge (pc := 43) (tgt := 55) K dX7_load_43 (by decide) (fun c_43 => ?_) (fun c_43 => ?_)
        · refine x_iload_n (pc := 55) (i := 3) K dX7_load_55 rfl rfl ?_
          refine x_topi K (nI_pred m) ?_
          exact x_iretI (pc := 56) K dX7_load_56 ⟨by rw [← hT]; simp only [r_ld]; rw [if_pos (by rw [← r_fb_ends (n := n)]; exact c_33)], rfl, by rw [← hT]; simp only [r_ld]; rw [if_pos (by rw [← r_fb_ends (n := n)]; exact c_33)]⟩
        · exact absurd (by rw [nI_pred]; exact nI_pos' (by omega)) c_43
      · refine x_iinc (pc := 36) (i := 3) (v := nI m - 1) K dX7_load_36 rfl (by rw [nI_pred, show Int32.ofInt (-1) = -1 from by decide]; exact (Int32.sub_eq_add_neg _ _).symm) rfl ?_
        refine x_goto (pc := 39) (tgt := 22) K dX7_load_39 (by decide) ?_
        exact ih (by omega) T (by rw [← hT]; simp only [r_ld]; rw [if_neg (by rw [← r_fb_ends (n := n), c_33]; decide)])

def g_load (ρ : Af) (a b : Int32) : Int32 × Af := if q_areTwo a b = true then r_ld ρ (ρ mRow 2).toNatClampNeg a b 100 else r_errP ρ 1
set_option maxRecDepth 100000 in
set_option maxHeartbeats 4000000 in
theorem c_yX7_load {l : Launch} {G : Gm} {α ρ : Af} {a b : Int32} (hI : IM ρ) : CI 1 l G yX7_load (Cond.code yX7_load cX7_load 4 (some .int)) 100 [.ref (gA G idM), .int a, .int b] α ρ (PI (g_load ρ a b).1 α (g_load ρ a b).2) := by
  obtain ⟨⟨n, h9, hn, hE⟩, hl0, hl1, ⟨t, h60, ht⟩, ⟨w, h24, hw⟩, hSz, ⟨q, hq, hqe⟩⟩ := hI
  refine CI.of [some (.ref (gA G idM)), some (.int a), some (.int b), none] (by decide) (Nat.le_of_ble_eq_true rfl) rfl rfl (fun C K => ?_)
  have K : Ok l _ G C RX7 cX7_load (some .int) 4 := K
  refine x_iload_n (pc := 0) (i := 1) K dX7_load_0 rfl rfl ?_
  refine x_iload_n (pc := 1) (i := 2) K dX7_load_1 rfl rfl ?_
  refine x_S2i (pc := 2) K (c_yX7_areTwo) mw_yX7_areTwo st_yX7_areTwo mk_X7_76 ⟨Nat.le_of_ble_eq_true rfl, Nat.le_of_ble_eq_true rfl, Nat.le_of_ble_eq_true rfl⟩ dX7_load_2 ?_
  refine x_ifne_b (pc := 5) (tgt := 15) K dX7_load_5 (by decide) (fun c_5 => ?_) (fun c_5 => ?_)
  · obtain ⟨m, hm, rfl⟩ := two_of c_5
    have hcn : (ρ mRow 2).toNatClampNeg = n := by rw [hn]; exact nI_clamp (by omega)
    refine x_aload_n (pc := 15) (i := 0) K dX7_load_15 rfl rfl ?_
    refine x_V0v (pc := 16) K (c_yX7_findBearing hn h9) mw_yX7_findBearing ⟨im_yX7_findBearing, se_yX7_findBearing⟩ mk_X7_189 rc_M rfl ⟨Nat.le_of_ble_eq_true rfl, Nat.le_of_ble_eq_true rfl, Nat.le_of_ble_eq_true rfl⟩ dX7_load_16 ?_
    refine x_bipush (pc := 19) (v := 99) K dX7_load_19 (by decide) ?_
    refine x_istore_n (pc := 21) (i := 3) K dX7_load_21 rfl rfl (by decide) ?_
    exact l_mload K hn h9 hm hE 100 (by decide) _ (by simp only [g_load, c_5, hcn, ↓reduceIte])
  · refine x_aload_n (pc := 8) (i := 0) K dX7_load_8 rfl rfl ?_
    refine x_ldc (pc := 9) K kn_X7_80 dX7_load_9 ?_
    refine x_V1i (pc := 11) K (c_yX7_error (j := 1) (by decide) (by decide)) mw_yX7_error ⟨im_yX7_error, se_yX7_error⟩ mk_X7_81 rc_M rfl ⟨Nat.le_of_ble_eq_true rfl, Nat.le_of_ble_eq_true rfl, Nat.le_of_ble_eq_true rfl⟩ dX7_load_11 ?_
    exact x_iretI (pc := 14) K dX7_load_14 ⟨by simp (decide := true) only [g_load, r_errP, c_5, ↓reduceIte, Bool.false_eq_true, bI_t, bI_f], rfl, by simp (decide := true) only [g_load, r_errP, c_5, ↓reduceIte, Bool.false_eq_true, bI_t, bI_f]⟩
