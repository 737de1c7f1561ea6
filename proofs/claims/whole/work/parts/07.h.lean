def r_sk (s n : Nat) : Nat → Nat → Af → Int32 × Af
  | 0, i, r => (nI i, r)
  | j + 1, i, r => if i < n then (if q_within (r mCells (24 * s + i)) 0 9 = true then r_sk s n j (i + 1) (up r mRow (mS i 5) (r mCells (24 * s + i))) else (nI i, r)) else (nI i, r)
set_option maxRecDepth 100000 in
set_option maxHeartbeats 4000000 in
theorem l_msk {l : Launch} {G : Gm} {C : Cx} {n m s : Nat} {z : Int32} {α : Af} (K : Ok l 100 G C RX7 cX7_soaks (some .int) 4) (h9 : n ≤ 9) (hs : s < 4) (hm : m ≤ 24) : ∀ (j i : Nat) (ρ : Af), ρ mRow 2 = nI n → ρ mSize s = nI m → i + j = m → ∀ T, r_sk s n j i ρ = T → X 1 l 100 G C (PI T.1 α T.2) 4 18 [some (.ref (gA G idM)), some (.int (nI s)), some (.int z), some (.int (nI i))] [] α ρ := by
  intro j
  induction j with
  | zero =>
    intro i ρ hn hme hi T hT
    refine x_iload_n (pc := 18) (i := 3) K dX7_soaks_18 rfl rfl ?_
    refine x_aload_n (pc := 19) (i := 0) K dX7_soaks_19 rfl rfl ?_
    refine gf_X7_25 (pc := 20)  K dX7_soaks_20 ?_
    refine x_iload_n (pc := 23) (i := 1) K dX7_soaks_23 rfl rfl ?_
    refine ib_mSize (pc := 24) (s) hs rfl K dX7_soaks_24 ?_
    refine x_icmp_ge (pc := 25) (tgt := 81) K dX7_soaks_25 (by decide) (fun c_25 => ?_) (fun c_25 => ?_)
    · refine x_iload_n (pc := 81) (i := 3) K dX7_soaks_81 rfl rfl ?_
      exact x_iretI (pc := 82) K dX7_soaks_82 ⟨by rw [← hT]; simp only [r_sk], rfl, by rw [← hT]; simp only [r_sk]⟩
    · exact absurd (by rw [hme]; exact nI_le (by omega) (by omega)) c_25
  | succ j ih =>
    intro i ρ hn hme hi T hT
    refine x_iload_n (pc := 18) (i := 3) K dX7_soaks_18 rfl rfl ?_
    refine x_aload_n (pc := 19) (i := 0) K dX7_soaks_19 rfl rfl ?_
    refine gf_X7_25 (pc := 20)  K dX7_soaks_20 ?_
    refine x_iload_n (pc := 23) (i := 1) K dX7_soaks_23 rfl rfl ?_
    refine ib_mSize (pc := 24) (s) hs rfl K dX7_soaks_24 ?_
    refine x_icmp_ge (pc := 25) (tgt := 81) K dX7_soaks_25 (by decide) (fun c_25 => ?_) (fun c_25 => ?_)
    · exact (nI_ge (a := i) (b := m) (by omega) (by omega) (by rw [hme] at c_25; exact c_25)).elim
    · refine x_iload_n (pc := 28) (i := 3) K dX7_soaks_28 rfl rfl ?_
      refine x_aload_n (pc := 29) (i := 0) K dX7_soaks_29 rfl rfl ?_
      refine gf_X7_9 (pc := 30)  K dX7_soaks_30 ?_
      refine x_iconst (pc := 33) (v := 2) K dX7_soaks_33 (by decide) ?_
      refine ib_mRow (pc := 34) 2 (by decide) rfl K dX7_soaks_34 ?_
      refine x_icmp_ge (pc := 35) (tgt := 81) K dX7_soaks_35 (by decide) (fun c_35 => ?_) (fun c_35 => ?_)
      · refine x_iload_n (pc := 81) (i := 3) K dX7_soaks_81 rfl rfl ?_
        exact x_iretI (pc := 82) K dX7_soaks_82 ⟨by rw [← hT]; simp only [r_sk]; rw [if_neg (fun h => absurd (by rw [hn] at c_35; exact (nI_leI (a := n) (b := i) (by omega) (by omega)).mp c_35) (by omega))], rfl, by rw [← hT]; simp only [r_sk]; rw [if_neg (fun h => absurd (by rw [hn] at c_35; exact (nI_leI (a := n) (b := i) (by omega) (by omega)).mp c_35) (by omega))]⟩
      · have hin : i < n := Nat.lt_of_not_le fun z => c_35 (by rw [hn]; exact nI_le z (by omega))
        refine x_aload_n (pc := 38) (i := 0) K dX7_soaks_38 rfl rfl ?_
        refine gf_X7_28 (pc := 39)  K dX7_soaks_39 ?_
        refine x_bipush (pc := 42) (v := 24) K dX7_soaks_42 (by decide) ?_
        refine x_iload_n (pc := 44) (i := 1) K dX7_soaks_44 rfl rfl ?_
        refine x_imul (pc := 45) K dX7_soaks_45 ?_
        refine x_iload_n (pc := 46) (i := 3) K dX7_soaks_46 rfl rfl ?_
        refine x_iadd (pc := 47) K dX7_soaks_47 ?_
        refine ib_mCells (pc := 48) (24 * s + i) (by omega) (by show nI 24 * nI s + nI i = _; rw [pk_mul, nI_add]) K dX7_soaks_48 ?_
        refine x_iconst (pc := 49) (v := 0) K dX7_soaks_49 (by decide) ?_
        refine x_bipush (pc := 50) (v := 9) K dX7_soaks_50 (by decide) ?_
        refine x_S3i (pc := 52) K (c_yX7_in) mw_yX7_in st_yX7_in mk_X7_54 ⟨Nat.le_of_ble_eq_true rfl, Nat.le_of_ble_eq_true rfl, Nat.le_of_ble_eq_true rfl⟩ dX7_soaks_52 ?_
        refine x_ifeq_b (pc := 55) (tgt := 81) K dX7_soaks_55 (by decide) (fun c_55 => ?_) (fun c_55 => ?_)
        · refine x_iload_n (pc := 81) (i := 3) K dX7_soaks_81 rfl rfl ?_
          exact x_iretI (pc := 82) K dX7_soaks_82 ⟨by rw [← hT]; simp only [r_sk]; rw [if_pos hin, if_neg (by rw [c_55]; decide)], rfl, by rw [← hT]; simp only [r_sk]; rw [if_pos hin, if_neg (by rw [c_55]; decide)]⟩
        · refine x_aload_n (pc := 58) (i := 0) K dX7_soaks_58 rfl rfl ?_
          refine x_iload_n (pc := 59) (i := 3) K dX7_soaks_59 rfl rfl ?_
          refine x_iconst (pc := 60) (v := 5) K dX7_soaks_60 (by decide) ?_
          refine x_aload_n (pc := 61) (i := 0) K dX7_soaks_61 rfl rfl ?_
          refine gf_X7_28 (pc := 62)  K dX7_soaks_62 ?_
          refine x_bipush (pc := 65) (v := 24) K dX7_soaks_65 (by decide) ?_
          refine x_iload_n (pc := 67) (i := 1) K dX7_soaks_67 rfl rfl ?_
          refine x_imul (pc := 68) K dX7_soaks_68 ?_
          refine x_iload_n (pc := 69) (i := 3) K dX7_soaks_69 rfl rfl ?_
          refine x_iadd (pc := 70) K dX7_soaks_70 ?_
          refine ib_mCells (pc := 71) (24 * s + i) (by omega) (by show nI 24 * nI s + nI i = _; rw [pk_mul, nI_add]) K dX7_soaks_71 ?_
          refine x_V3v (pc := 72) K (c_yX7_lets (u := i) (w := 5) (Nat.lt_trans (mS_lt (by omega) (by decide)) (by decide))) mw_yX7_lets ⟨im_yX7_lets, se_yX7_lets⟩ mk_X7_86 rc_M rfl ⟨Nat.le_of_ble_eq_true rfl, Nat.le_of_ble_eq_true rfl, Nat.le_of_ble_eq_true rfl⟩ dX7_soaks_72 ?_
          refine x_iinc (pc := 75) (i := 3) (v := nI (i + 1)) K dX7_soaks_75 rfl (nI_1 _) rfl ?_
          refine x_goto (pc := 78) (tgt := 18) K dX7_soaks_78 (by decide) ?_
          exact ih (i + 1) _ ((up_ne2 (by have := mS_ge (u := i) (w := 5); omega)).trans hn) ((congrFun (up_ne (by decide)) s).trans hme) (by omega) T (by rw [← hT]; simp only [r_sk]; rw [if_pos hin, if_pos c_55])

def g_soaks (ρ : Af) (v : Int32) : Int32 × Af := if r_nt ρ v = 0 then r_sk v.toNatClampNeg (ρ mRow 2).toNatClampNeg (ρ mSize v.toNatClampNeg).toNatClampNeg 0 ρ else r_ntP ρ v
set_option maxRecDepth 100000 in
set_option maxHeartbeats 4000000 in
theorem c_yX7_soaks {l : Launch} {G : Gm} {α ρ : Af} {v : Int32} (hI : IM ρ) : CI 1 l G yX7_soaks (Cond.code yX7_soaks cX7_soaks 4 (some .int)) 100 [.ref (gA G idM), .int v] α ρ (PI (g_soaks ρ v).1 α (g_soaks ρ v).2) := by
  obtain ⟨⟨n, h9, hn, hE⟩, hl0, hl1, ⟨t, h60, ht⟩, ⟨w, h24, hw⟩, hSz, ⟨q, hq, hqe⟩⟩ := hI
  refine CI.of [some (.ref (gA G idM)), some (.int v), none, none] (by decide) (Nat.le_of_ble_eq_true rfl) rfl rfl (fun C K => ?_)
  have K : Ok l _ G C RX7 cX7_soaks (some .int) 4 := K
  refine x_aload_n (pc := 0) (i := 0) K dX7_soaks_0 rfl rfl ?_
  refine x_iload_n (pc := 1) (i := 1) K dX7_soaks_1 rfl rfl ?_
  refine x_V1i (pc := 2) K (c_yX7_notThere) mw_yX7_notThere ⟨im_yX7_notThere, se_yX7_notThere⟩ mk_X7_211 rc_M rfl ⟨Nat.le_of_ble_eq_true rfl, Nat.le_of_ble_eq_true rfl, Nat.le_of_ble_eq_true rfl⟩ dX7_soaks_2 ?_
  refine x_istore_n (pc := 5) (i := 2) K dX7_soaks_5 rfl rfl (by decide) ?_
  refine x_iload_n (pc := 6) (i := 2) K dX7_soaks_6 rfl rfl ?_
  refine x_if_eq (pc := 7) (tgt := 16) K dX7_soaks_7 (by decide) (fun c_7 => ?_) (fun c_7 => ?_)
  · obtain ⟨s, hs4, rfl⟩ := sh_of (nt_ok c_7).1
    have hcs : (nI s).toNatClampNeg = s := nI_clamp (by omega)
    obtain ⟨ms, hms, hmes⟩ := hSz s hs4
    have hcn : (ρ mRow 2).toNatClampNeg = n := by rw [hn]; exact nI_clamp (by omega)
    have hcz : (ρ mSize s).toNatClampNeg = ms := by rw [hmes]; exact nI_clamp (by omega)
    refine x_iconst (pc := 16) (v := 0) K dX7_soaks_16 (by decide) ?_
    refine x_istore_n (pc := 17) (i := 3) K dX7_soaks_17 rfl rfl (by decide) ?_
    exact l_msk K h9 hs4 hms ms 0 ρ hn hmes (by omega) _ (by simp only [g_soaks, if_pos c_7, hcs, hcn, hcz])
  · refine x_aload_n (pc := 10) (i := 0) K dX7_soaks_10 rfl rfl ?_
    refine x_iload_n (pc := 11) (i := 2) K dX7_soaks_11 rfl rfl ?_
    refine x_V1i (pc := 12) K (c_yX7_error (nt_err c_7).1 (nt_err c_7).2) mw_yX7_error ⟨im_yX7_error, se_yX7_error⟩ mk_X7_81 rc_M rfl ⟨Nat.le_of_ble_eq_true rfl, Nat.le_of_ble_eq_true rfl, Nat.le_of_ble_eq_true rfl⟩ dX7_soaks_12 ?_
    exact x_iretI (pc := 15) K dX7_soaks_15 ⟨by simp (decide := true) only [g_soaks, r_ntP, r_errP, if_neg c_7, ↓reduceIte, Bool.false_eq_true, bI_t, bI_f], rfl, by simp (decide := true) only [g_soaks, r_ntP, r_errP, if_neg c_7, ↓reduceIte, Bool.false_eq_true, bI_t, bI_f]⟩

def g_image (ρ : Af) : Int32 × Af := (up (r_copy ρ mRow mKept 398) idM 3 (r_copy ρ mRow mKept 398 idM 3 + 1) idM 3, up (r_copy ρ mRow mKept 398) idM 3 (r_copy ρ mRow mKept 398 idM 3 + 1))
set_option maxRecDepth 100000 in
set_option maxHeartbeats 4000000 in
theorem c_yX7_image {l : Launch} {G : Gm} {α ρ : Af}  (hI : IM ρ) : CI 1 l G yX7_image (Cond.code yX7_image cX7_image 1 (some .int)) 100 [.ref (gA G idM)] α ρ (PI (g_image ρ).1 α (g_image ρ).2) := by
  obtain ⟨⟨n, h9, hn, hE⟩, hl0, hl1, ⟨t, h60, ht⟩, ⟨w, h24, hw⟩, hSz, ⟨q, hq, hqe⟩⟩ := hI
  refine CI.of [some (.ref (gA G idM))] (by decide) (Nat.le_of_ble_eq_true rfl) rfl rfl (fun C K => ?_)
  have K : Ok l _ G C RX7 cX7_image (some .int) 1 := K
  refine x_aload_n (pc := 0) (i := 0) K dX7_image_0 rfl rfl ?_
  refine gf_X7_9 (pc := 1)  K dX7_image_1 ?_
  refine x_aload_n (pc := 4) (i := 0) K dX7_image_4 rfl rfl ?_
  refine gf_X7_13 (pc := 5)  K dX7_image_5 ?_
  refine x_S2v (pc := 8) K (c_copy_rk) mw_yX7_copyAll st_yX7_copyAll mk_X7_50 ⟨Nat.le_of_ble_eq_true rfl, Nat.le_of_ble_eq_true rfl, Nat.le_of_ble_eq_true rfl⟩ dX7_image_8 ?_
  refine x_aload_n (pc := 11) (i := 0) K dX7_image_11 rfl rfl ?_
  refine x_dup (pc := 12) K dX7_image_12 rfl ?_
  refine gf_X7_264 (pc := 13)  K dX7_image_13 ?_
  refine x_iconst (pc := 16) (v := 1) K dX7_image_16 (by decide) ?_
  refine x_iadd (pc := 17) K dX7_image_17 ?_
  refine pf_X7_264 (pc := 18)  K dX7_image_18 ?_
  refine x_aload_n (pc := 21) (i := 0) K dX7_image_21 rfl rfl ?_
  refine gf_X7_264 (pc := 22)  K dX7_image_22 ?_
  exact x_iretI (pc := 25) K dX7_image_25 ⟨rfl, rfl, rfl⟩

def g_restore (ρ : Af) : Int32 × Af := if ρ idM 3 = 0 then r_errP ρ 2 else (r_copy ρ mKept mRow 398 mRow 0, r_copy ρ mKept mRow 398)
set_option maxRecDepth 100000 in
set_option maxHeartbeats 4000000 in
theorem c_yX7_restore {l : Launch} {G : Gm} {α ρ : Af}  (hI : IM ρ) : CI 1 l G yX7_restore (Cond.code yX7_restore cX7_restore 1 (some .int)) 100 [.ref (gA G idM)] α ρ (PI (g_restore ρ).1 α (g_restore ρ).2) := by
  obtain ⟨⟨n, h9, hn, hE⟩, hl0, hl1, ⟨t, h60, ht⟩, ⟨w, h24, hw⟩, hSz, ⟨q, hq, hqe⟩⟩ := hI
  refine CI.of [some (.ref (gA G idM))] (by decide) (Nat.le_of_ble_eq_true rfl) rfl rfl (fun C K => ?_)
  have K : Ok l _ G C RX7 cX7_restore (some .int) 1 := K
  refine x_aload_n (pc := 0) (i := 0) K dX7_restore_0 rfl rfl ?_
  refine gf_X7_264 (pc := 1)  K dX7_restore_1 ?_
  refine x_if_ne (pc := 4) (tgt := 14) K dX7_restore_4 (by decide) (fun c_4 => ?_) (fun c_4 => ?_)
  · refine x_aload_n (pc := 14) (i := 0) K dX7_restore_14 rfl rfl ?_
    refine gf_X7_13 (pc := 15)  K dX7_restore_15 ?_
    refine x_aload_n (pc := 18) (i := 0) K dX7_restore_18 rfl rfl ?_
    refine gf_X7_9 (pc := 19)  K dX7_restore_19 ?_
    refine x_S2v (pc := 22) K (c_copy_kr) mw_yX7_copyAll st_yX7_copyAll mk_X7_50 ⟨Nat.le_of_ble_eq_true rfl, Nat.le_of_ble_eq_true rfl, Nat.le_of_ble_eq_true rfl⟩ dX7_restore_22 ?_
    refine x_aload_n (pc := 25) (i := 0) K dX7_restore_25 rfl rfl ?_
    refine gf_X7_9 (pc := 26)  K dX7_restore_26 ?_
    refine x_iconst (pc := 29) (v := 0) K dX7_restore_29 (by decide) ?_
    refine ib_mRow (pc := 30) 0 (by decide) rfl K dX7_restore_30 ?_
    exact x_iretI (pc := 31) K dX7_restore_31 ⟨by simp (decide := true) only [g_restore, r_errP, if_neg c_4, ↓reduceIte, Bool.false_eq_true, bI_t, bI_f], rfl, by simp (decide := true) only [g_restore, r_errP, if_neg c_4, ↓reduceIte, Bool.false_eq_true, bI_t, bI_f]⟩
  · refine x_aload_n (pc := 7) (i := 0) K dX7_restore_7 rfl rfl ?_
    refine x_ldc (pc := 8) K kn_X7_195 dX7_restore_8 ?_
    refine x_V1i (pc := 10) K (c_yX7_error (j := 2) (by decide) (by decide)) mw_yX7_error ⟨im_yX7_error, se_yX7_error⟩ mk_X7_81 rc_M rfl ⟨Nat.le_of_ble_eq_true rfl, Nat.le_of_ble_eq_true rfl, Nat.le_of_ble_eq_true rfl⟩ dX7_restore_10 ?_
    exact x_iretI (pc := 13) K dX7_restore_13 ⟨by simp (decide := true) only [g_restore, r_errP, if_pos c_4, ↓reduceIte, Bool.false_eq_true, bI_t, bI_f], rfl, by simp (decide := true) only [g_restore, r_errP, if_pos c_4, ↓reduceIte, Bool.false_eq_true, bI_t, bI_f]⟩

def r_tellS (ρ : Af) (v : Int32) : Af := up (up ρ mRow (132 + (ρ mRow 8).toNatClampNeg) v) mRow 8 (up ρ mRow (132 + (ρ mRow 8).toNatClampNeg) v mRow 8 + 1)
def g_tell (ρ : Af) (v : Int32) : Int32 × Af := if ρ mRow 8 = 24 then r_errP ρ 4 else (r_tellS ρ v mRow 8, r_tellS ρ v)
set_option maxRecDepth 100000 in
set_option maxHeartbeats 4000000 in
theorem c_yX7_tell {l : Launch} {G : Gm} {α ρ : Af} {v : Int32} (hI : IM ρ) : CI 1 l G yX7_tell (Cond.code yX7_tell cX7_tell 2 (some .int)) 100 [.ref (gA G idM), .int v] α ρ (PI (g_tell ρ v).1 α (g_tell ρ v).2) := by
  obtain ⟨⟨n, h9, hn, hE⟩, hl0, hl1, ⟨t, h60, ht⟩, ⟨w, h24, hw⟩, hSz, ⟨q, hq, hqe⟩⟩ := hI
  refine CI.of [some (.ref (gA G idM)), some (.int v)] (by decide) (Nat.le_of_ble_eq_true rfl) rfl rfl (fun C K => ?_)
  have K : Ok l _ G C RX7 cX7_tell (some .int) 2 := K
  refine x_aload_n (pc := 0) (i := 0) K dX7_tell_0 rfl rfl ?_
  refine gf_X7_9 (pc := 1)  K dX7_tell_1 ?_
  refine x_bipush (pc := 4) (v := 8) K dX7_tell_4 (by decide) ?_
  refine ib_mRow (pc := 6) 8 (by decide) rfl K dX7_tell_6 ?_
  refine x_bipush (pc := 7) (v := 24) K dX7_tell_7 (by decide) ?_
  refine x_icmp_ne (pc := 9) (tgt := 19) K dX7_tell_9 (by decide) (fun c_9 => ?_) (fun c_9 => ?_)
  · have hw24 : w < 24 := by rcases Nat.lt_or_ge w 24 with z | z; exact z; exact absurd (by rw [hw, show w = 24 by omega]; rfl) c_9
    have hcw : (ρ mRow 8).toNatClampNeg = w := by rw [hw]; exact nI_clamp (by omega)
    refine x_aload_n (pc := 19) (i := 0) K dX7_tell_19 rfl rfl ?_
    refine gf_X7_9 (pc := 20)  K dX7_tell_20 ?_
    refine x_sipush (pc := 23) (v := 132) K dX7_tell_23 (by decide) ?_
    refine x_aload_n (pc := 26) (i := 0) K dX7_tell_26 rfl rfl ?_
    refine gf_X7_9 (pc := 27)  K dX7_tell_27 ?_
    refine x_bipush (pc := 30) (v := 8) K dX7_tell_30 (by decide) ?_
    refine ib_mRow (pc := 32) 8 (by decide) rfl K dX7_tell_32 ?_
    refine x_iadd (pc := 33) K dX7_tell_33 ?_
    refine x_iload_n (pc := 34) (i := 1) K dX7_tell_34 rfl rfl ?_
    refine js_mRow (pc := 35) (132 + w) (by omega) (by rw [hw]; show nI 132 + nI w = _; rw [nI_add]) K dX7_tell_35 ?_
    refine x_aload_n (pc := 36) (i := 0) K dX7_tell_36 rfl rfl ?_
    refine gf_X7_9 (pc := 37)  K dX7_tell_37 ?_
    refine x_bipush (pc := 40) (v := 8) K dX7_tell_40 (by decide) ?_
    refine x_dup2 (pc := 42) K dX7_tell_42 rfl rfl ?_
    refine ib_mRow (pc := 43) 8 (by decide) rfl K dX7_tell_43 ?_
    refine x_iconst (pc := 44) (v := 1) K dX7_tell_44 (by decide) ?_
    refine x_iadd (pc := 45) K dX7_tell_45 ?_
    refine js_mRow (pc := 46) 8 (by decide) rfl K dX7_tell_46 ?_
    refine x_st (r := r_tellS ρ v) rfl (by unfold r_tellS; rw [hcw]) ?_
    refine x_aload_n (pc := 47) (i := 0) K dX7_tell_47 rfl rfl ?_
    refine gf_X7_9 (pc := 48)  K dX7_tell_48 ?_
    refine x_bipush (pc := 51) (v := 8) K dX7_tell_51 (by decide) ?_
    refine ib_mRow (pc := 53) 8 (by decide) rfl K dX7_tell_53 ?_
    exact x_iretI (pc := 54) K dX7_tell_54 ⟨by simp (decide := true) only [g_tell, r_errP, if_neg c_9, ↓reduceIte, Bool.false_eq_true, bI_t, bI_f], rfl, by simp (decide := true) only [g_tell, r_errP, if_neg c_9, ↓reduceIte, Bool.false_eq_true, bI_t, bI_f]⟩
  · refine x_aload_n (pc := 12) (i := 0) K dX7_tell_12 rfl rfl ?_
    refine x_ldc (pc := 13) K kn_X7_85 dX7_tell_13 ?_
    refine x_V1i (pc := 15) K (c_yX7_error (j := 4) (by decide) (by decide)) mw_yX7_error ⟨im_yX7_error, se_yX7_error⟩ mk_X7_81 rc_M rfl ⟨Nat.le_of_ble_eq_true rfl, Nat.le_of_ble_eq_true rfl, Nat.le_of_ble_eq_true rfl⟩ dX7_tell_15 ?_
    exact x_iretI (pc := 18) K dX7_tell_18 ⟨by simp (decide := true) only [g_tell, r_errP, if_pos c_9, ↓reduceIte, Bool.false_eq_true, bI_t, bI_f], rfl, by simp (decide := true) only [g_tell, r_errP, if_pos c_9, ↓reduceIte, Bool.false_eq_true, bI_t, bI_f]⟩

def r_ck (ρ : Af) (n : Nat) : Nat → Nat → Int32
  | 0, _ => 0
  | j + 1, i => if i < n then (if ρ mRow (132 + i) = ρ mRow (mS i 4) then r_ck ρ n j (i + 1) else 1 + nI i) else 1 + nI i
set_option maxRecDepth 100000 in
set_option maxHeartbeats 4000000 in
theorem l_mck {l : Launch} {G : Gm} {C : Cx} {n w : Nat} {α ρ : Af} (K : Ok l 100 G C RX7 cX7_check (some .int) 3) (hn : ρ mRow 2 = nI n) (h9 : n ≤ 9) (hw : w ≤ 24) : ∀ (j i : Nat), i + j = w → ∀ T, r_ck ρ n j i = T → X 1 l 100 G C (PI T α ρ) 3 18 [some (.ref (gA G idM)), some (.int (nI w)), some (.int (nI i))] [] α ρ := by
  intro j
  induction j with
  | zero =>
    intro i hi T hT
    refine x_iload_n (pc := 18) (i := 2) K dX7_check_18 rfl rfl ?_
    refine x_iload_n (pc := 19) (i := 1) K dX7_check_19 rfl rfl ?_
    refine x_icmp_ge (pc := 20) (tgt := 60) K dX7_check_20 (by decide) (fun c_20 => ?_) (fun c_20 => ?_)
    · refine x_iconst (pc := 60) (v := 0) K dX7_check_60 (by decide) ?_
      exact x_iretI (pc := 61) K dX7_check_61 ⟨by rw [← hT]; rfl, rfl, rfl⟩
    · exact absurd (nI_le (by omega) (by omega)) c_20
  | succ j ih =>
    intro i hi T hT
    refine x_iload_n (pc := 18) (i := 2) K dX7_check_18 rfl rfl ?_
    refine x_iload_n (pc := 19) (i := 1) K dX7_check_19 rfl rfl ?_
    refine x_icmp_ge (pc := 20) (tgt := 60) K dX7_check_20 (by decide) (fun c_20 => ?_) (fun c_20 => ?_)
    · exact (nI_ge (a := i) (b := w) (by omega) (by omega) c_20).elim
    · refine x_aload_n (pc := 23) (i := 0) K dX7_check_23 rfl rfl ?_
      refine x_iload_n (pc := 24) (i := 2) K dX7_check_24 rfl rfl ?_
      refine x_V1i (pc := 25) K (c_yX7_isSpan) mw_yX7_isSpan ⟨im_yX7_isSpan, se_yX7_isSpan⟩ mk_X7_90 rc_M rfl ⟨Nat.le_of_ble_eq_true rfl, Nat.le_of_ble_eq_true rfl, Nat.le_of_ble_eq_true rfl⟩ dX7_check_25 ?_
      refine x_ifeq_b (pc := 28) (tgt := 50) K dX7_check_28 (by decide) (fun c_28 => ?_) (fun c_28 => ?_)
      · refine x_iconst (pc := 50) (v := 1) K dX7_check_50 (by decide) ?_
        refine x_iload_n (pc := 51) (i := 2) K dX7_check_51 rfl rfl ?_
        refine x_iadd (pc := 52) K dX7_check_52 ?_
        exact x_iretI (pc := 53) K dX7_check_53 ⟨by rw [← hT]; simp only [r_ck]; rw [if_neg (fun h => by rw [hn, hs_iff (by omega) (by omega), decide_eq_true h] at c_28; cases c_28)], rfl, rfl⟩
      · have hin : i < n := by rw [hn, hs_iff (by omega) (by omega)] at c_28; exact of_decide_eq_true c_28
        refine x_aload_n (pc := 31) (i := 0) K dX7_check_31 rfl rfl ?_
        refine gf_X7_9 (pc := 32)  K dX7_check_32 ?_
        refine x_sipush (pc := 35) (v := 132) K dX7_check_35 (by decide) ?_
        refine x_iload_n (pc := 38) (i := 2) K dX7_check_38 rfl rfl ?_
        refine x_iadd (pc := 39) K dX7_check_39 ?_
        refine ib_mRow (pc := 40) (132 + i) (by omega) (by show nI 132 + nI i = _; rw [nI_add]) K dX7_check_40 ?_
        refine x_aload_n (pc := 41) (i := 0) K dX7_check_41 rfl rfl ?_
        refine x_iload_n (pc := 42) (i := 2) K dX7_check_42 rfl rfl ?_
        refine x_iconst (pc := 43) (v := 4) K dX7_check_43 (by decide) ?_
        refine x_V2i (pc := 44) K (c_yX7_of (u := i) (w := 4) (Nat.lt_trans (mS_lt (by omega) (by decide)) (by decide))) mw_yX7_of ⟨im_yX7_of, se_yX7_of⟩ mk_X7_62 rc_M rfl ⟨Nat.le_of_ble_eq_true rfl, Nat.le_of_ble_eq_true rfl, Nat.le_of_ble_eq_true rfl⟩ dX7_check_44 ?_
        refine x_icmp_eq (pc := 47) (tgt := 54) K dX7_check_47 (by decide) (fun c_47 => ?_) (fun c_47 => ?_)
        · refine x_iinc (pc := 54) (i := 2) (v := nI (i + 1)) K dX7_check_54 rfl (nI_1 _) rfl ?_
          refine x_goto (pc := 57) (tgt := 18) K dX7_check_57 (by decide) ?_
          exact ih (i + 1) (by omega) T (by rw [← hT]; simp only [r_ck]; rw [if_pos hin, if_pos c_47])
        · refine x_iconst (pc := 50) (v := 1) K dX7_check_50 (by decide) ?_
          refine x_iload_n (pc := 51) (i := 2) K dX7_check_51 rfl rfl ?_
          refine x_iadd (pc := 52) K dX7_check_52 ?_
          exact x_iretI (pc := 53) K dX7_check_53 ⟨by rw [← hT]; simp only [r_ck]; rw [if_pos hin, if_neg c_47], rfl, rfl⟩

def g_check (ρ : Af) : Int32 × Af := (r_ck (up ρ mRow 8 0) (ρ mRow 2).toNatClampNeg (ρ mRow 8).toNatClampNeg 0, up ρ mRow 8 0)
set_option maxRecDepth 100000 in
set_option maxHeartbeats 4000000 in
theorem c_yX7_check {l : Launch} {G : Gm} {α ρ : Af}  (hI : IM ρ) : CI 1 l G yX7_check (Cond.code yX7_check cX7_check 3 (some .int)) 100 [.ref (gA G idM)] α ρ (PI (g_check ρ).1 α (g_check ρ).2) := by
  obtain ⟨⟨n, h9, hn, hE⟩, hl0, hl1, ⟨t, h60, ht⟩, ⟨w, h24, hw⟩, hSz, ⟨q, hq, hqe⟩⟩ := hI
  refine CI.of [some (.ref (gA G idM)), none, none] (by decide) (Nat.le_of_ble_eq_true rfl) rfl rfl (fun C K => ?_)
  have K : Ok l _ G C RX7 cX7_check (some .int) 3 := K
  refine x_aload_n (pc := 0) (i := 0) K dX7_check_0 rfl rfl ?_
  refine gf_X7_9 (pc := 1)  K dX7_check_1 ?_
  refine x_bipush (pc := 4) (v := 8) K dX7_check_4 (by decide) ?_
  refine ib_mRow (pc := 6) 8 (by decide) rfl K dX7_check_6 ?_
  refine x_topi K (show _ = nI w from hw) ?_
  refine x_istore_n (pc := 7) (i := 1) K dX7_check_7 rfl rfl (by decide) ?_
  refine x_aload_n (pc := 8) (i := 0) K dX7_check_8 rfl rfl ?_
  refine gf_X7_9 (pc := 9)  K dX7_check_9 ?_
  refine x_bipush (pc := 12) (v := 8) K dX7_check_12 (by decide) ?_
  refine x_iconst (pc := 14) (v := 0) K dX7_check_14 (by decide) ?_
  refine js_mRow (pc := 15) 8 (by decide) rfl K dX7_check_15 ?_
  refine x_iconst (pc := 16) (v := 0) K dX7_check_16 (by decide) ?_
  refine x_istore_n (pc := 17) (i := 2) K dX7_check_17 rfl rfl (by decide) ?_
  have hcn : (ρ mRow 2).toNatClampNeg = n := by rw [hn]; exact nI_clamp (by omega)
  have hcw : (ρ mRow 8).toNatClampNeg = w := by rw [hw]; exact nI_clamp (by omega)
  exact l_mck (ρ := up ρ mRow 8 0) K ((up_ne2 (by decide)).trans hn) h9 h24 w 0 (by omega) _ (by simp only [g_check, hcn, hcw])

def g_count (ρ : Af) (what : Int32) : Int32 × Af := if what = 0 then (ρ mRow 2, ρ) else if what = 1 then (ρ mRow 0, ρ) else if what = 2 then (ρ mRow 4, ρ) else if what = 3 then (ρ mRow 3, ρ) else if what = 4 then (ρ mRow 5, ρ) else if what = 5 then (ρ mRow 6, ρ) else if what = 6 then (ρ mRow 7, ρ) else if what = 7 then (ρ mRow 8, ρ) else if what = 8 then (ρ idM 19, ρ) else if what = 9 then (ρ mRow 1, ρ) else r_errP ρ 1
set_option maxRecDepth 100000 in
set_option maxHeartbeats 4000000 in
theorem c_yX7_count {l : Launch} {G : Gm} {α ρ : Af} {what : Int32} (hI : IM ρ) : CI 1 l G yX7_count (Cond.code yX7_count cX7_count 2 (some .int)) 100 [.ref (gA G idM), .int what] α ρ (PI (g_count ρ what).1 α (g_count ρ what).2) := by
  obtain ⟨⟨n, h9, hn, hE⟩, hl0, hl1, ⟨t, h60, ht⟩, ⟨w, h24, hw⟩, hSz, ⟨q, hq, hqe⟩⟩ := hI
  refine CI.of [some (.ref (gA G idM)), some (.int what)] (by decide) (Nat.le_of_ble_eq_true rfl) rfl rfl (fun C K => ?_)
  have K : Ok l _ G C RX7 cX7_count (some .int) 2 := K
  refine x_iload_n (pc := 0) (i := 1) K dX7_count_0 rfl rfl ?_
  by_cases s_1_0 : what = 0
  · refine x_tableIn (pc := 1) (off := 55) (tgt := 56) K dX7_count_1 (by rw [s_1_0]; decide) (by decide) ?_
    refine x_aload_n (pc := 56) (i := 0) K dX7_count_56 rfl rfl ?_
    refine gf_X7_9 (pc := 57)  K dX7_count_57 ?_
    refine x_iconst (pc := 60) (v := 2) K dX7_count_60 (by decide) ?_
    refine ib_mRow (pc := 61) 2 (by decide) rfl K dX7_count_61 ?_
    exact x_iretI (pc := 62) K dX7_count_62 ⟨by simp (decide := true) only [g_count, r_errP, if_pos s_1_0, ↓reduceIte, Bool.false_eq_true, bI_t, bI_f], rfl, by simp (decide := true) only [g_count, r_errP, if_pos s_1_0, ↓reduceIte, Bool.false_eq_true, bI_t, bI_f]⟩
  by_cases s_1_1 : what = 1
  · refine x_tableIn (pc := 1) (off := 62) (tgt := 63) K dX7_count_1 (by rw [s_1_1]; decide) (by decide) ?_
    refine x_aload_n (pc := 63) (i := 0) K dX7_count_63 rfl rfl ?_
    refine gf_X7_9 (pc := 64)  K dX7_count_64 ?_
    refine x_iconst (pc := 67) (v := 0) K dX7_count_67 (by decide) ?_
    refine ib_mRow (pc := 68) 0 (by decide) rfl K dX7_count_68 ?_
    exact x_iretI (pc := 69) K dX7_count_69 ⟨by simp (decide := true) only [g_count, r_errP, if_neg s_1_0, if_pos s_1_1, ↓reduceIte, Bool.false_eq_true, bI_t, bI_f], rfl, by simp (decide := true) only [g_count, r_errP, if_neg s_1_0, if_pos s_1_1, ↓reduceIte, Bool.false_eq_true, bI_t, bI_f]⟩
  by_cases s_1_2 : what = 2
  · refine x_tableIn (pc := 1) (off := 69) (tgt := 70) K dX7_count_1 (by rw [s_1_2]; decide) (by decide) ?_
    refine x_aload_n (pc := 70) (i := 0) K dX7_count_70 rfl rfl ?_
    refine gf_X7_9 (pc := 71)  K dX7_count_71 ?_
    refine x_iconst (pc := 74) (v := 4) K dX7_count_74 (by decide) ?_
    refine ib_mRow (pc := 75) 4 (by decide) rfl K dX7_count_75 ?_
    exact x_iretI (pc := 76) K dX7_count_76 ⟨by simp (decide := true) only [g_count, r_errP, if_neg s_1_0, if_neg s_1_1, if_pos s_1_2, ↓reduceIte, Bool.false_eq_true, bI_t, bI_f], rfl, by simp (decide := true) only [g_count, r_errP, if_neg s_1_0, if_neg s_1_1, if_pos s_1_2, ↓reduceIte, Bool.false_eq_true, bI_t, bI_f]⟩
  by_cases s_1_3 : what = 3
  · refine x_tableIn (pc := 1) (off := 76) (tgt := 77) K dX7_count_1 (by rw [s_1_3]; decide) (by decide) ?_
    refine x_aload_n (pc := 77) (i := 0) K dX7_count_77 rfl rfl ?_
    refine gf_X7_9 (pc := 78)  K dX7_count_78 ?_
    refine x_iconst (pc := 81) (v := 3) K dX7_count_81 (by decide) ?_
    refine ib_mRow (pc := 82) 3 (by decide) rfl K dX7_count_82 ?_
    exact x_iretI (pc := 83) K dX7_count_83 ⟨by simp (decide := true) only [g_count, r_errP, if_neg s_1_0, if_neg s_1_1, if_neg s_1_2, if_pos s_1_3, ↓reduceIte, Bool.false_eq_true, bI_t, bI_f], rfl, by simp (decide := true) only [g_count, r_errP, if_neg s_1_0, if_neg s_1_1, if_neg s_1_2, if_pos s_1_3, ↓reduceIte, Bool.false_eq_true, bI_t, bI_f]⟩
  by_cases s_1_4 : what = 4
  · refine x_tableIn (pc := 1) (off := 83) (tgt := 84) K dX7_count_1 (by rw [s_1_4]; decide) (by decide) ?_
    refine x_aload_n (pc := 84) (i := 0) K dX7_count_84 rfl rfl ?_
    refine gf_X7_9 (pc := 85)  K dX7_count_85 ?_
    refine x_iconst (pc := 88) (v := 5) K dX7_count_88 (by decide) ?_
    refine ib_mRow (pc := 89) 5 (by decide) rfl K dX7_count_89 ?_
    exact x_iretI (pc := 90) K dX7_count_90 ⟨by simp (decide := true) only [g_count, r_errP, if_neg s_1_0, if_neg s_1_1, if_neg s_1_2, if_neg s_1_3, if_pos s_1_4, ↓reduceIte, Bool.false_eq_true, bI_t, bI_f], rfl, by simp (decide := true) only [g_count, r_errP, if_neg s_1_0, if_neg s_1_1, if_neg s_1_2, if_neg s_1_3, if_pos s_1_4, ↓reduceIte, Bool.false_eq_true, bI_t, bI_f]⟩
  by_cases s_1_5 : what = 5
  · refine x_tableIn (pc := 1) (off := 90) (tgt := 91) K dX7_count_1 (by rw [s_1_5]; decide) (by decide) ?_
    refine x_aload_n (pc := 91) (i := 0) K dX7_count_91 rfl rfl ?_
    refine gf_X7_9 (pc := 92)  K dX7_count_92 ?_
    refine x_bipush (pc := 95) (v := 6) K dX7_count_95 (by decide) ?_
    refine ib_mRow (pc := 97) 6 (by decide) rfl K dX7_count_97 ?_
    exact x_iretI (pc := 98) K dX7_count_98 ⟨by simp (decide := true) only [g_count, r_errP, if_neg s_1_0, if_neg s_1_1, if_neg s_1_2, if_neg s_1_3, if_neg s_1_4, if_pos s_1_5, ↓reduceIte, Bool.false_eq_true, bI_t, bI_f], rfl, by simp (decide := true) only [g_count, r_errP, if_neg s_1_0, if_neg s_1_1, if_neg s_1_2, if_neg s_1_3, if_neg s_1_4, if_pos s_1_5, ↓reduceIte, Bool.false_eq_true, bI_t, bI_f]⟩
  by_cases s_1_6 : what = 6
  · refine x_tableIn (pc := 1) (off := 98) (tgt := 99) K dX7_count_1 (by rw [s_1_6]; decide) (by decide) ?_
    refine x_aload_n (pc := 99) (i := 0) K dX7_count_99 rfl rfl ?_
    refine gf_X7_9 (pc := 100)  K dX7_count_100 ?_
    refine x_bipush (pc := 103) (v := 7) K dX7_count_103 (by decide) ?_
    refine ib_mRow (pc := 105) 7 (by decide) rfl K dX7_count_105 ?_
    exact x_iretI (pc := 106) K dX7_count_106 ⟨by simp (decide := true) only [g_count, r_errP, if_neg s_1_0, if_neg s_1_1, if_neg s_1_2, if_neg s_1_3, if_neg s_1_4, if_neg s_1_5, if_pos s_1_6, ↓reduceIte, Bool.false_eq_true, bI_t, bI_f], rfl, by simp (decide := true) only [g_count, r_errP, if_neg s_1_0, if_neg s_1_1, if_neg s_1_2, if_neg s_1_3, if_neg s_1_4, if_neg s_1_5, if_pos s_1_6, ↓reduceIte, Bool.false_eq_true, bI_t, bI_f]⟩
  by_cases s_1_7 : what = 7
  · refine x_tableIn (pc := 1) (off := 106) (tgt := 107) K dX7_count_1 (by rw [s_1_7]; decide) (by decide) ?_
    refine x_aload_n (pc := 107) (i := 0) K dX7_count_107 rfl rfl ?_
    refine gf_X7_9 (pc := 108)  K dX7_count_108 ?_
    refine x_bipush (pc := 111) (v := 8) K dX7_count_111 (by decide) ?_
    refine ib_mRow (pc := 113) 8 (by decide) rfl K dX7_count_113 ?_
    exact x_iretI (pc := 114) K dX7_count_114 ⟨by simp (decide := true) only [g_count, r_errP, if_neg s_1_0, if_neg s_1_1, if_neg s_1_2, if_neg s_1_3, if_neg s_1_4, if_neg s_1_5, if_neg s_1_6, if_pos s_1_7, ↓reduceIte, Bool.false_eq_true, bI_t, bI_f], rfl, by simp (decide := true) only [g_count, r_errP, if_neg s_1_0, if_neg s_1_1, if_neg s_1_2, if_neg s_1_3, if_neg s_1_4, if_neg s_1_5, if_neg s_1_6, if_pos s_1_7, ↓reduceIte, Bool.false_eq_true, bI_t, bI_f]⟩
  by_cases s_1_8 : what = 8
  · refine x_tableIn (pc := 1) (off := 114) (tgt := 115) K dX7_count_1 (by rw [s_1_8]; decide) (by decide) ?_
    refine x_aload_n (pc := 115) (i := 0) K dX7_count_115 rfl rfl ?_
    refine gf_X7_217 (pc := 116)  K dX7_count_116 ?_
    exact x_iretI (pc := 119) K dX7_count_119 ⟨by simp (decide := true) only [g_count, r_errP, if_neg s_1_0, if_neg s_1_1, if_neg s_1_2, if_neg s_1_3, if_neg s_1_4, if_neg s_1_5, if_neg s_1_6, if_neg s_1_7, if_pos s_1_8, ↓reduceIte, Bool.false_eq_true, bI_t, bI_f], rfl, by simp (decide := true) only [g_count, r_errP, if_neg s_1_0, if_neg s_1_1, if_neg s_1_2, if_neg s_1_3, if_neg s_1_4, if_neg s_1_5, if_neg s_1_6, if_neg s_1_7, if_pos s_1_8, ↓reduceIte, Bool.false_eq_true, bI_t, bI_f]⟩
  by_cases s_1_9 : what = 9
  · refine x_tableIn (pc := 1) (off := 119) (tgt := 120) K dX7_count_1 (by rw [s_1_9]; decide) (by decide) ?_
    refine x_aload_n (pc := 120) (i := 0) K dX7_count_120 rfl rfl ?_
    refine gf_X7_9 (pc := 121)  K dX7_count_121 ?_
    refine x_iconst (pc := 124) (v := 1) K dX7_count_124 (by decide) ?_
    refine ib_mRow (pc := 125) 1 (by decide) rfl K dX7_count_125 ?_
    exact x_iretI (pc := 126) K dX7_count_126 ⟨by simp (decide := true) only [g_count, r_errP, if_neg s_1_0, if_neg s_1_1, if_neg s_1_2, if_neg s_1_3, if_neg s_1_4, if_neg s_1_5, if_neg s_1_6, if_neg s_1_7, if_neg s_1_8, if_pos s_1_9, ↓reduceIte, Bool.false_eq_true, bI_t, bI_f], rfl, by simp (decide := true) only [g_count, r_errP, if_neg s_1_0, if_neg s_1_1, if_neg s_1_2, if_neg s_1_3, if_neg s_1_4, if_neg s_1_5, if_neg s_1_6, if_neg s_1_7, if_neg s_1_8, if_pos s_1_9, ↓reduceIte, Bool.false_eq_true, bI_t, bI_f]⟩
  refine x_tableOut (pc := 1) (tgt := 127) K dX7_count_1 (by have t0 : ¬ (what).toInt = 0 := fun h => s_1_0 (Int32.toInt_inj.mp h); have t1 : ¬ (what).toInt = 1 := fun h => s_1_1 (Int32.toInt_inj.mp h); have t2 : ¬ (what).toInt = 2 := fun h => s_1_2 (Int32.toInt_inj.mp h); have t3 : ¬ (what).toInt = 3 := fun h => s_1_3 (Int32.toInt_inj.mp h); have t4 : ¬ (what).toInt = 4 := fun h => s_1_4 (Int32.toInt_inj.mp h); have t5 : ¬ (what).toInt = 5 := fun h => s_1_5 (Int32.toInt_inj.mp h); have t6 : ¬ (what).toInt = 6 := fun h => s_1_6 (Int32.toInt_inj.mp h); have t7 : ¬ (what).toInt = 7 := fun h => s_1_7 (Int32.toInt_inj.mp h); have t8 : ¬ (what).toInt = 8 := fun h => s_1_8 (Int32.toInt_inj.mp h); have t9 : ¬ (what).toInt = 9 := fun h => s_1_9 (Int32.toInt_inj.mp h); omega) (by decide) ?_
  refine x_aload_n (pc := 127) (i := 0) K dX7_count_127 rfl rfl ?_
  refine x_ldc (pc := 128) K kn_X7_80 dX7_count_128 ?_
  refine x_V1i (pc := 130) K (c_yX7_error (j := 1) (by decide) (by decide)) mw_yX7_error ⟨im_yX7_error, se_yX7_error⟩ mk_X7_81 rc_M rfl ⟨Nat.le_of_ble_eq_true rfl, Nat.le_of_ble_eq_true rfl, Nat.le_of_ble_eq_true rfl⟩ dX7_count_130 ?_
  exact x_iretI (pc := 133) K dX7_count_133 ⟨by simp (decide := true) only [g_count, r_errP, if_neg s_1_0, if_neg s_1_1, if_neg s_1_2, if_neg s_1_3, if_neg s_1_4, if_neg s_1_5, if_neg s_1_6, if_neg s_1_7, if_neg s_1_8, if_neg s_1_9, ↓reduceIte, Bool.false_eq_true, bI_t, bI_f], rfl, by simp (decide := true) only [g_count, r_errP, if_neg s_1_0, if_neg s_1_1, if_neg s_1_2, if_neg s_1_3, if_neg s_1_4, if_neg s_1_5, if_neg s_1_6, if_neg s_1_7, if_neg s_1_8, if_neg s_1_9, ↓reduceIte, Bool.false_eq_true, bI_t, bI_f]⟩

def g_told (ρ : Af) (v : Int32) : Int32 × Af := if q_within v 1 6 = true then (ρ mErr v.toNatClampNeg, ρ) else r_errP ρ 1
set_option maxRecDepth 100000 in
set_option maxHeartbeats 4000000 in
theorem c_yX7_told {l : Launch} {G : Gm} {α ρ : Af} {v : Int32} (hI : IM ρ) : CI 1 l G yX7_told (Cond.code yX7_told cX7_told 2 (some .int)) 100 [.ref (gA G idM), .int v] α ρ (PI (g_told ρ v).1 α (g_told ρ v).2) := by
  obtain ⟨⟨n, h9, hn, hE⟩, hl0, hl1, ⟨t, h60, ht⟩, ⟨w, h24, hw⟩, hSz, ⟨q, hq, hqe⟩⟩ := hI
  refine CI.of [some (.ref (gA G idM)), some (.int v)] (by decide) (Nat.le_of_ble_eq_true rfl) rfl rfl (fun C K => ?_)
  have K : Ok l _ G C RX7 cX7_told (some .int) 2 := K
  refine x_iload_n (pc := 0) (i := 1) K dX7_told_0 rfl rfl ?_
  refine x_iconst (pc := 1) (v := 1) K dX7_told_1 (by decide) ?_
  refine x_bipush (pc := 2) (v := 6) K dX7_told_2 (by decide) ?_
  refine x_S3i (pc := 4) K (c_yX7_in) mw_yX7_in st_yX7_in mk_X7_54 ⟨Nat.le_of_ble_eq_true rfl, Nat.le_of_ble_eq_true rfl, Nat.le_of_ble_eq_true rfl⟩ dX7_told_4 ?_
  refine x_ifeq_b (pc := 7) (tgt := 19) K dX7_told_7 (by decide) (fun c_7 => ?_) (fun c_7 => ?_)
  · refine x_aload_n (pc := 19) (i := 0) K dX7_told_19 rfl rfl ?_
    refine x_ldc (pc := 20) K kn_X7_80 dX7_told_20 ?_
    refine x_V1i (pc := 22) K (c_yX7_error (j := 1) (by decide) (by decide)) mw_yX7_error ⟨im_yX7_error, se_yX7_error⟩ mk_X7_81 rc_M rfl ⟨Nat.le_of_ble_eq_true rfl, Nat.le_of_ble_eq_true rfl, Nat.le_of_ble_eq_true rfl⟩ dX7_told_22 ?_
    exact x_iretI (pc := 25) K dX7_told_25 ⟨by simp (decide := true) only [g_told, r_errP, c_7, ↓reduceIte, Bool.false_eq_true, bI_t, bI_f], rfl, by simp (decide := true) only [g_told, r_errP, c_7, ↓reduceIte, Bool.false_eq_true, bI_t, bI_f]⟩
  · obtain ⟨m, hlom, hhim, rfl⟩ := wi_of (v := v) (a := 1) (b := 6) rfl rfl (by decide) (by decide) c_7
    have hcm : (nI m).toNatClampNeg = m := nI_clamp (by omega)
    refine x_aload_n (pc := 10) (i := 0) K dX7_told_10 rfl rfl ?_
    refine gf_X7_19 (pc := 11)  K dX7_told_11 ?_
    refine x_iload_n (pc := 14) (i := 1) K dX7_told_14 rfl rfl ?_
    refine ib_mErr (pc := 15) (m) (by omega) rfl K dX7_told_15 ?_
    refine x_goto (pc := 16) (tgt := 25) K dX7_told_16 (by decide) ?_
    exact x_iretI (pc := 25) K dX7_told_25 ⟨by simp (decide := true) only [g_told, r_errP, c_7 , ↓reduceIte, Bool.false_eq_true, bI_t, bI_f, hcm], rfl, by simp (decide := true) only [g_told, r_errP, c_7 , ↓reduceIte, Bool.false_eq_true, bI_t, bI_f, hcm]⟩

def g_body (ρ : Af) (i : Int32) : Int32 × Af := if q_within i 0 (ρ idM 19 - 1) = true then (ρ mTrace i.toNatClampNeg, ρ) else r_errP ρ 2
set_option maxRecDepth 100000 in
set_option maxHeartbeats 4000000 in
theorem c_yX7_body {l : Launch} {G : Gm} {α ρ : Af} {i : Int32} (hI : IM ρ) : CI 1 l G yX7_body (Cond.code yX7_body cX7_body 2 (some .int)) 100 [.ref (gA G idM), .int i] α ρ (PI (g_body ρ i).1 α (g_body ρ i).2) := by
  obtain ⟨⟨n, h9, hn, hE⟩, hl0, hl1, ⟨t, h60, ht⟩, ⟨w, h24, hw⟩, hSz, ⟨q, hq, hqe⟩⟩ := hI
  refine CI.of [some (.ref (gA G idM)), some (.int i)] (by decide) (Nat.le_of_ble_eq_true rfl) rfl rfl (fun C K => ?_)
  have K : Ok l _ G C RX7 cX7_body (some .int) 2 := K
  refine x_iload_n (pc := 0) (i := 1) K dX7_body_0 rfl rfl ?_
  refine x_iconst (pc := 1) (v := 0) K dX7_body_1 (by decide) ?_
  refine x_aload_n (pc := 2) (i := 0) K dX7_body_2 rfl rfl ?_
  refine gf_X7_217 (pc := 3)  K dX7_body_3 ?_
  refine x_iconst (pc := 6) (v := 1) K dX7_body_6 (by decide) ?_
  refine x_isub (pc := 7) K dX7_body_7 ?_
  refine x_S3i (pc := 8) K (c_yX7_in) mw_yX7_in st_yX7_in mk_X7_54 ⟨Nat.le_of_ble_eq_true rfl, Nat.le_of_ble_eq_true rfl, Nat.le_of_ble_eq_true rfl⟩ dX7_body_8 ?_
  refine x_ifeq_b (pc := 11) (tgt := 23) K dX7_body_11 (by decide) (fun c_11 => ?_) (fun c_11 => ?_)
  · refine x_aload_n (pc := 23) (i := 0) K dX7_body_23 rfl rfl ?_
    refine x_ldc (pc := 24) K kn_X7_195 dX7_body_24 ?_
    refine x_V1i (pc := 26) K (c_yX7_error (j := 2) (by decide) (by decide)) mw_yX7_error ⟨im_yX7_error, se_yX7_error⟩ mk_X7_81 rc_M rfl ⟨Nat.le_of_ble_eq_true rfl, Nat.le_of_ble_eq_true rfl, Nat.le_of_ble_eq_true rfl⟩ dX7_body_26 ?_
    exact x_iretI (pc := 29) K dX7_body_29 ⟨by simp (decide := true) only [g_body, r_errP, c_11, ↓reduceIte, Bool.false_eq_true, bI_t, bI_f], rfl, by simp (decide := true) only [g_body, r_errP, c_11, ↓reduceIte, Bool.false_eq_true, bI_t, bI_f]⟩
  · obtain ⟨j, hj, rfl⟩ := hs_of (v := i) (n := q) (by omega) (by rw [← hqe]; exact c_11)
    have hcj : (nI j).toNatClampNeg = j := nI_clamp (by omega)
    refine x_aload_n (pc := 14) (i := 0) K dX7_body_14 rfl rfl ?_
    refine gf_X7_46 (pc := 15)  K dX7_body_15 ?_
    refine x_iload_n (pc := 18) (i := 1) K dX7_body_18 rfl rfl ?_
    refine ib_mTrace (pc := 19) (j) (by omega) rfl K dX7_body_19 ?_
    refine x_goto (pc := 20) (tgt := 29) K dX7_body_20 (by decide) ?_
    exact x_iretI (pc := 29) K dX7_body_29 ⟨by simp (decide := true) only [g_body, r_errP, c_11 , ↓reduceIte, Bool.false_eq_true, bI_t, bI_f, hcj], rfl, by simp (decide := true) only [g_body, r_errP, c_11 , ↓reduceIte, Bool.false_eq_true, bI_t, bI_f, hcj]⟩

/-- the trace's length -/
def Tr (ρ : Af) : Prop := ∃ t, t ≤ 30 ∧ ρ idM 19 = nI t
def r_bgA (ρ : Af) (x : Int32) : Af := up ρ mTrace (ρ idM 19).toNatClampNeg x
def r_bg (ρ : Af) (x : Int32) : Af := if 30 ≤ ρ idM 19 then ρ else up (r_bgA ρ x) idM 19 (r_bgA ρ x idM 19 + 1)
theorem r_bg_ne {ρ : Af} {x : Int32} {i : Nat} (h1 : i ≠ mTrace) (h2 : i ≠ idM) : r_bg ρ x i = ρ i := by
  unfold r_bg
  split
  · rfl
  · rw [up_ne h2]; unfold r_bgA; rw [up_ne h1]
theorem Tr.bg {ρ : Af} {x : Int32} (h : Tr ρ) : Tr (r_bg ρ x) := by
  obtain ⟨t, h1, h2⟩ := h
  unfold r_bg
  by_cases c : (30 : Int32) ≤ ρ idM 19
  · rw [if_pos c]; exact ⟨t, h1, h2⟩
  · rw [if_neg c]
    rw [h2] at c
    have hm := mt (nI_leI (a := 30) (b := t) (by decide) (by omega)).mpr c
    refine ⟨t + 1, by omega, ?_⟩
    rw [up_eq]
    have : r_bgA ρ x idM 19 = nI t := by unfold r_bgA; rw [up_ne (by decide)]; exact h2
    rw [this]; exact nI_1 t
set_option maxRecDepth 100000 in
set_option maxHeartbeats 4000000 in
theorem c_yX7_begins {k : Nat} {l : Launch} {G : Gm} {α ρ : Af} {x : Int32} (ht : Tr ρ) : CI k l G yX7_begins (Cond.code yX7_begins cX7_begins 2 none) 1 [.ref (gA G idM), .int x] α ρ (PV α (r_bg ρ x)) := by
  refine CI.of [some (.ref (gA G idM)), some (.int x)] (by decide) (Nat.le_of_ble_eq_true rfl) rfl rfl (fun C K => ?_)
  have K : Ok l _ G C RX7 cX7_begins none 2 := K
  refine x_aload_n (pc := 0) (i := 0) K dX7_begins_0 rfl rfl ?_
  refine gf_X7_217 (pc := 1)  K dX7_begins_1 ?_
  refine x_bipush (pc := 4) (v := 30) K dX7_begins_4 (by decide) ?_
  refine x_icmp_ge (pc := 6) (tgt := 29) K dX7_begins_6 (by decide) (fun c_6 => ?_) (fun c_6 => ?_)
  · exact x_vretI (pc := 29) K dX7_begins_29 ⟨rfl, by unfold r_bg; rw [if_pos (show  (30 : Int32) ≤ ρ idM 19 from c_6)]⟩
  · refine x_aload_n (pc := 9) (i := 0) K dX7_begins_9 rfl rfl ?_
    refine gf_X7_46 (pc := 10)  K dX7_begins_10 ?_
    refine x_aload_n (pc := 13) (i := 0) K dX7_begins_13 rfl rfl ?_
    refine gf_X7_217 (pc := 14)  K dX7_begins_14 ?_
    refine x_iload_n (pc := 17) (i := 1) K dX7_begins_17 rfl rfl ?_
    refine js_mTrace (pc := 18) (ρ idM 19).toNatClampNeg (by obtain ⟨t, h1, h2⟩ := ht; rw [h2] at c_6 ⊢; rw [nI_clamp (by omega)]; have := mt (nI_leI (a := 30) (b := t) (by decide) (by omega)).mpr c_6; omega) (by obtain ⟨t, h1, h2⟩ := ht; rw [h2, nI_clamp (by omega)]) K dX7_begins_18 ?_
    refine x_st (r := r_bgA ρ x) rfl rfl ?_
    refine x_aload_n (pc := 19) (i := 0) K dX7_begins_19 rfl rfl ?_
    refine x_dup (pc := 20) K dX7_begins_20 rfl ?_
    refine gf_X7_217 (pc := 21)  K dX7_begins_21 ?_
    refine x_iconst (pc := 24) (v := 1) K dX7_begins_24 (by decide) ?_
    refine x_iadd (pc := 25) K dX7_begins_25 ?_
    refine pf_X7_217 (pc := 26)  K dX7_begins_26 ?_
    exact x_vretI (pc := 29) K dX7_begins_29 ⟨rfl, by unfold r_bg; rw [if_neg (show ¬ (30 : Int32) ≤ ρ idM 19 from c_6)]⟩
