def r_sk (s n : Nat) : Nat → Nat → Af → Int32 × Af
  | 0, i, r => (nI i, r)
  | j + 1, i, r => if i < n then (if q_within (r mCells (24 * s + i)) 0 9 = true then r_sk s n j (i + 1) (up r mRow (mS i 5) (r mCells (24 * s + i))) else (nI i, r)) else (nI i, r)
set_option maxRecDepth 100000 in
set_option maxHeartbeats 4000000 in
theorem l_msk {l : Launch} {G : Gm} {C : Cx} {n m s : Nat} {z : Int32} {α : Af} (K : Ok l 100 G C RX7 cX7_soaks (some .int) 4) (h9 : n ≤ 9) (hs : s < 4) (hm : m ≤ 24) : ∀ (j i : Nat) (ρ : Af), ρ mRow 2 = nI n → ρ mSize s = nI m → i + j = m → ∀ T, r_sk s n j i ρ = T → X 1 l 100 G C (PI T.1 α T.2) 4 18 [some (.ref (gA G idM)), some (.int (nI s)), some (.int z), some (.int (nI i))] [] α ρ := by
  intro j
  induction j with
  | zero =>
    intro i ρ hn hme hi T hT
    refine x_iload_n (pc := 18) (i := 3) K dX7_soaks_18 rfl rfl ?_
    refine x_aload_n (pc := 19) (i := 0) K dX7_soaks_19 rfl rfl ?_
    refine gf_X7_25 (pc := 20)  K dX7_soaks_20 ?_
    refine x_iload_n (pc := 23) (i := 1) K dX7_soaks_23 rfl rfl ?_
    refine ib_mSize (pc := 24) (s) hs rfl K dX7_soaks_24 ?_
    refine x_icmp_ge (pc := 25) (tgt := 81) K dX7_soaks_25 (by decide) (fun c_25 => ?_) (fun c_25 => ?_)
    · refine x_iload_n (pc := 81) (i := 3) K dX7_soaks_81 rfl rfl ?_
      exact x_iretI (pc := 82) K dX7_soaks_82 ⟨by rw [← hT]; simp only [r_sk], rfl, by rw [← hT]; simp only [r_sk]⟩
    · exact absurd (by rw [hme]; exact nI_le (by omega) (by omega)) c_25
  | succ j ih =>
    intro i ρ hn hme hi T hT
    refine x_iload_n (pc := 18) (i := 3) K dX7_soaks_18 rfl rfl ?_
    refine x_aload_n (pc := 19) (i := 0) K dX7_soaks_19 rfl rfl ?_
    refine gf_X7_25 (pc := 20)  K dX7_soaks_20 ?_
    refine x_iload_n (pc := 23) (i := 1) K dX7_soaks_23 rfl rfl ?_
    refine ib_mSize (pc := 24) (s) hs rfl K dX7_soaks_24 ?_
    refine x_icmp_ge (pc := 25) (tgt := 81) K dX7_soaks_25 (by decide) (fun c_25 => ?_) (fun c_25 => ?_)
    · exact (nI_ge (a := i) (b := m) (by omega) (by omega) (by rw [hme] at c_25; exact c_25)).elim
    · refine x_iload_n (pc := 28) (i := 3) K dX7_soaks_28 rfl rfl ?_
      refine x_aload_n (pc := 29) (i := 0) K dX7_soaks_29 rfl rfl ?_
      refine gf_X7_9 (pc := 30)  K dX7_soaks_30 ?_
      refine x_iconst (pc := 33) (v := 2) K dX7_soaks_33 (by decide) ?_
      refine ib_mRow (pc := 34) 2 (by decide) rfl K dX7_soaks_34 ?_
      refine x_icmp_ge (pc := 35) (tgt := 81) K dX7_soaks_35 (by decide) (fun c_35 => ?_) (fun c_35 => ?_)
      · refine x_iload_n (pc := 81) (i := 3) K dX7_soaks_81 rfl rfl ?_
        exact x_iretI (pc := 82) K dX7_soaks_82 ⟨by rw [← hT]; simp only [r_sk]; rw [if_neg (fun h => absurd (by rw [hn] at c_35; exact (nI_leI (a := n) (b := i) (by omega) (by omega)).mp c_35) (by omega))], rfl, by rw [← hT]; simp only [r_sk]; rw [if_neg (fun h => absurd (by rw [hn] at c_35; exact (nI_leI (a := n) (b := i) (by omega) (by omega)).mp c_35) (by omega))]⟩
      · have hin : i < n := Nat.lt_of_not_le fun z => c_35 (by rw [hn]; exact nI_le z (by omega))
        refine x_aload_n (pc := 38) (i := 0) K dX7_soaks_38 rfl rfl ?_
        refine gf_X7_28 (pc := 39)  K dX7_soaks_39 ?_
        refine x_bipush (pc := 42) (v := 24) K dX7_soaks_42 (by decide) ?_
        refine x_iload_n (pc := 44) (i := 1) K dX7_soaks_44 rfl rfl ?_
        refine x_imul (pc := 45) K dX7_soaks_45 ?_
        refine x_iload_n (pc := 46) (i := 3) K dX7_soaks_46 rfl rfl ?_
        refine x_iadd (pc := 47) K dX7_soaks_47 ?_
        refine ib_mCells (pc := 48) (24 * s + i) (by omega) (by show nI 24 * nI s + nI i = _; rw [pk_mul, nI_add]) K dX7_soaks_48 ?_
        refine x_iconst (pc := 49) (v := 0) K dX7_soaks_49 (by decide) ?_
        refine x_bipush (pc := 50) (v := 9) K dX7_soaks_50 (by decide) ?_
        refine x_S3i (pc := 52) K (c_yX7_in) mw_yX7_in st_yX7_in mk_X7_54 ⟨Nat.le_of_ble_eq_true rfl, Nat.le_of_ble_eq_true rfl, Nat.le_of_ble_eq_true rfl⟩ dX7_soaks_52 ?_
        refine x_ifeq_b (pc := 55) (tgt := 81) K dX7_soaks_55 (by decide) (fun c_55 => ?_) (fun c_55 => ?_)
        · refine x_iload_n (pc := 81) (i := 3) K dX7_soaks_81 rfl rfl ?_
          exact x_iretI (pc := 82) K dX7_soaks_82 ⟨by rw [← hT]; simp only [r_sk]; rw [if_pos hin, if_neg (by rw [c_55]; decide)], rfl, by rw [← hT]; simp only [r_sk]; rw [if_pos hin, if_neg (by rw [c_55]; decide)]⟩
        · refine x_aload_n (pc := 58) (i := 0) K dX7_soaks_58 rfl rfl ?_
          refine x_iload_n (pc := 59) (i := 3) K dX7_soaks_59 rfl rfl ?_
          refine x_iconst (pc := 60) (v := 5) K dX7_soaks_60 (by decide) ?_
          refine x_aload_n (pc := 61) (i := 0) K dX7_soaks_61 rfl rfl ?_
          refine gf_X7_28 (pc := 62)  K dX7_soaks_62 ?_
          refine x_bipush (pc := 65) (v := 24) K dX7_soaks_65 (by decide) ?_
          refine x_iload_n (pc := 67) (i := 1) K dX7_soaks_67 rfl rfl ?_
          refine x_imul (pc := 68) K dX7_soaks_68 ?_
          refine x_iload_n (pc := 69) (i := 3) K dX7_soaks_69 rfl rfl ?_
          refine x_iadd (pc := 70) K dX7_soaks_70 ?_
          refine ib_mCells (pc := 71) (24 * s + i) (by omega) (by show nI 24 * nI s + nI i = _; rw [pk_mul, nI_add]) K dX7_soaks_71 ?_
          refine x_V3v (pc := 72) K (c_yX7_lets (u := i) (w := 5) (Nat.lt_trans (mS_lt (by omega) (by decide)) (by decide))) mw_yX7_lets ⟨im_yX7_lets, se_yX7_lets⟩ mk_X7_86 rc_M rfl ⟨Nat.le_of_ble_eq_true rfl, Nat.le_of_ble_eq_true rfl, Nat.le_of_ble_eq_true rfl⟩ dX7_soaks_72 ?_
          refine x_iinc (pc := 75) (i := 3) (v := nI (i + 1)) K dX7_soaks_75 rfl (nI_1 _) rfl ?_
          refine x_goto (pc := 78) (tgt := 18) K dX7_soaks_78 (by decide) ?_
          exact ih (i + 1) _ ((up_ne2 (by have := mS_ge (u := i) (w := 5); omega)).trans hn) ((congrFun (up_ne (by decide)) s).trans hme) (by omega) T (by rw [← hT]; simp only [r_sk]; rw [if_pos hin, if_pos c_55])

def g_soaks (ρ : Af) (v : Int32) : Int32 × Af := if r_nt ρ v = 0 then r_sk v.toNatClampNeg (ρ mRow 2).toNatClampNeg (ρ mSize v.toNatClampNeg).toNatClampNeg 0 ρ else r_ntP ρ v
set_option maxRecDepth 100000 in
set_option maxHeartbeats 4000000 in
theorem c_yX7_soaks {l : Launch} {G : Gm} {α ρ : Af} {v : Int32} (hI : IM ρ) : CI 1 l G yX7_soaks (Cond.code yX7_soaks cX7_soaks 4 (some .int)) 100 [.ref (gA G idM), .int v] α ρ (PI (g_soaks ρ v).1 α (g_soaks ρ v).2) := by
  obtain ⟨⟨n, h9, hn, hE⟩, hl0, hl1, ⟨t, h60, ht⟩, ⟨w, h24, hw⟩, hSz, ⟨q, hq, hqe⟩⟩ := hI
  refine CI.of [some (.ref (gA G idM)), some (.int v), none, none] (by decide) (Nat.le_of_ble_eq_true rfl) rfl rfl (fun C K => ?_)
  have K : Ok l _ G C RX7 cX7_soaks (some .int) 4 := K
  refine x_aload_n (pc := 0) (i := 0) K dX7_soaks_0 rfl rfl ?_
  refine x_iload_n (pc := 1) (i := 1) K dX7_soaks_1 rfl rfl ?_
  refine x_V1i (pc := 2) K (c_yX7_notThere) mw_yX7_notThere ⟨im_yX7_notThere, se_yX7_notThere⟩ mk_X7_211 rc_M rfl ⟨Nat.le_of_ble_eq_true rfl, Nat.le_of_ble_eq_true rfl, Nat.le_of_ble_eq_true rfl⟩ dX7_soaks_2 ?_
  refine x_istore_n (pc := 5) (i := 2) K dX7_soaks_5 rfl rfl (by decide) ?_
  refine x_iload_n (pc := 6) (i := 2) K dX7_soaks_6 rfl rfl ?_
  refine x_if_eq (pc := 7) (tgt := 16) K dX7_soaks_7 (by decide) (fun c_7 => ?_) (fun c_7 => ?_)
  · obtain ⟨s, hs4, rfl⟩ := sh_of (nt_ok c_7).1
    have hcs : (nI s).toNatClampNeg = s := nI_clamp (by omega)
    obtain ⟨ms, hms, hmes⟩ := hSz s hs4
    have hcn : (ρ mRow 2).toNatClampNeg = n := by rw [hn]; exact nI_clamp (by omega)
    have hcz : (ρ mSize s).toNatClampNeg = ms := by rw [hmes]; exact nI_clamp (by omega)
    refine x_iconst (pc := 16) (v := 0) K dX7_soaks_16 (by decide) ?_
    refine x_istore_n (pc := 17) (i := 3) K dX7_soaks_17 rfl rfl (by decide) ?_
    exact l_msk K h9 hs4 hms ms 0 ρ hn hmes (by omega) _ (by simp only [g_soaks, if_pos c_7, hcs, hcn, hcz])
  · refine x_aload_n (pc := 10) (i := 0) K dX7_soaks_10 rfl rfl ?_
    refine x_iload_n (pc := 11) (i := 2) K dX7_soaks_11 rfl rfl ?_
    refine x_V1i (pc := 12) K (c_yX7_error (nt_err c_7).1 (nt_err c_7).2) mw_yX7_error ⟨im_yX7_error, se_yX7_error⟩ mk_X7_81 rc_M rfl ⟨Nat.le_of_ble_eq_true rfl, Nat.le_of_ble_eq_true rfl, Nat.le_of_ble_eq_true rfl⟩ dX7_soaks_12 ?_
    exact x_iretI (pc := 15) K dX7_soaks_15 ⟨by simp (decide := true) only [g_soaks, r_ntP, r_errP, if_neg c_7, ↓reduceIte, Bool.false_eq_true, bI_t, bI_f], rfl, by simp (decide := true) only [g_soaks, r_ntP, r_errP, if_neg c_7, ↓reduceIte, Bool.false_eq_true, bI_t, bI_f]⟩

def g_image (ρ : Af) : Int32 × Af := (up (r_copy ρ mRow mKept 398) idM 3 (r_copy ρ mRow mKept 398 idM 3 + 1) idM 3, up (r_copy ρ mRow mKept 398) idM 3 (r_copy ρ mRow mKept 398 idM 3 + 1))
set_option maxRecDepth 100000 in
set_option maxHeartbeats 4000000 in
theorem c_yX7_image {l : Launch} {G : Gm} {α ρ : Af}  (hI : IM ρ) : CI 1 l G yX7_image (Cond.code yX7_image cX7_image 1 (some .int)) 100 [.ref (gA G idM)] α ρ (PI (g_image ρ).1 α (g_image ρ).2) := by
  obtain ⟨⟨n, h9, hn, hE⟩, hl0, hl1, ⟨t, h60, ht⟩, ⟨w, h24, hw⟩, hSz, ⟨q, hq, hqe⟩⟩ := hI
  refine CI.of [some (.ref (gA G idM))] (by decide) (Nat.le_of_ble_eq_true rfl) rfl rfl (fun C K => ?_)
  have K : Ok l _ G C RX7 cX7_image (some .int) 1 := K
  refine x_aload_n (pc := 0) (i := 0) K dX7_image_0 rfl rfl ?_
  refine gf_X7_9 (pc := 1)  K dX7_image_1 ?_
  refine x_aload_n (pc := 4) (i := 0) K dX7_image_4 rfl rfl ?_
  refine gf_X7_13 (pc := 5)  K dX7_image_5 ?_
  refine x_S2v (pc := 8) K (c_copy_rk) mw_yX7_copyAll st_yX7_copyAll mk_X7_50 ⟨Nat.le_of_ble_eq_true rfl, Nat.le_of_ble_eq_true rfl, Nat.le_of_ble_eq_true rfl⟩ dX7_image_8 ?_
  refine x_aload_n (pc := 11) (i := 0) K dX7_image_11 rfl rfl ?_
  refine x_dup (pc := 12) K dX7_image_12 rfl ?_
  refine gf_X7_264 (pc := 13)  K dX7_image_13 ?_
  refine x_iconst (pc := 16) (v := 1) K dX7_image_16 (by decide) ?_
  refine x_iadd (pc := 17) K dX7_image_17 ?_
  refine pf_X7_264 (pc := 18)  K dX7_image_18 ?_
  refine x_aload_n (pc := 21) (i := 0) K dX7_image_21 rfl rfl ?_
  refine gf_X7_264 (pc := 22)  K dX7_image_22 ?_
  exact x_iretI (pc := 25) K dX7_image_25 ⟨rfl, rfl, rfl⟩

def g_restore (ρ : Af) : Int32 × Af := if ρ idM 3 = 0 then r_errP ρ 2 else (r_copy ρ mKept mRow 398 mRow 0, r_copy ρ mKept mRow 398)
set_option maxRecDepth 100000 in
set_option maxHeartbeats 4000000 in
theorem c_yX7_restore {l : Launch} {G : Gm} {α ρ : Af}  (hI : IM ρ) : CI 1 l G yX7_restore (Cond.code yX7_restore cX7_restore 1 (some .int)) 100 [.ref (gA G idM)] α ρ (PI (g_restore ρ).1 α (g_restore ρ).2) := by
  obtain ⟨⟨n, h9, hn, hE⟩, hl0, hl1, ⟨t, h60, ht⟩, ⟨w, h24, hw⟩, hSz, ⟨q, hq, hqe⟩⟩ := hI
  refine CI.of [some (.ref (gA G idM))] (by decide) (Nat.le_of_ble_eq_true rfl) rfl rfl (fun C K => ?_)
  have K : Ok l _ G C RX7 cX7_restore (some .int) 1 := K
  refine x_aload_n (pc := 0) (i := 0) K dX7_restore_0 rfl rfl ?_
  refine gf_X7_264 (pc := 1)  K dX7_restore_1 ?_
  refine x_if_ne (pc := 4) (tgt := 14) K dX7_restore_4 (by decide) (fun c_4 => ?_) (fun c_4 => ?_)
  · refine x_aload_n (pc := 14) (i := 0) K dX7_restore_14 rfl rfl ?_
    refine gf_X7_13 (pc := 15)  K dX7_restore_15 ?_
    refine x_aload_n (pc := 18) (i := 0) K dX7_restore_18 rfl rfl ?_
    refine gf_X7_9 (pc := 19)  K dX7_restore_19 ?_
    refine x_S2v (pc := 22) K (c_copy_kr) mw_yX7_copyAll st_yX7_copyAll mk_X7_50 ⟨Nat.le_of_ble_eq_true rfl, Nat.le_of_ble_eq_true rfl, Nat.le_of_ble_eq_true rfl⟩ dX7_restore_22 ?_
    refine x_aload_n (pc := 25) (i := 0) K dX7_restore_25 rfl rfl ?_
    refine gf_X7_9 (pc := 26)  K dX7_restore_26 ?_
    refine x_iconst (pc := 29) (v := 0) K dX7_restore_29 (by decide) ?_
    refine ib_mRow (pc := 30) 0 (by decide) rfl K dX7_restore_30 ?_
    exact x_iretI (pc := 31) K dX7_restore_31 ⟨by simp (decide := true) only [g_restore, r_errP, if_neg c_4, ↓reduceIte, Bool.false_eq_true, bI_t, bI_f], rfl, by simp (decide := true) only [g_restore, r_errP, if_neg c_4, ↓reduceIte, Bool.false_eq_true, bI_t, bI_f]⟩
  · refine x_aload_n (pc := 7) (i := 0) K dX7_restore_7 rfl rfl ?_
    refine x_ldc (pc := 8) K kn_X7_195 dX7_restore_8 ?_
    refine x_V1i (pc := 10) K (c_yX7_error (j := 2) (by decide) (by decide)) mw_yX7_error ⟨im_yX7_error, se_yX7_error⟩ mk_X7_81 rc_M rfl ⟨Nat.le_of_ble_eq_true rfl, Nat.le_of_ble_eq_true rfl, Nat.le_of_ble_eq_true rfl⟩ dX7_restore_10 ?_
    exact x_iretI (pc := 13) K dX7_restore_13 ⟨by simp (decide := true) only [g_restore, r_errP, if_pos c_4, ↓reduceIte, Bool.false_eq_true, bI_t, bI_f], rfl, by simp (decide := true) only [g_restore, r_errP, if_pos c_4, ↓reduceIte, Bool.false_eq_true, bI_t, bI_f]⟩

def r_tellS (ρ : Af) (v : Int32) : Af := up (up ρ mRow (132 + (ρ mRow 8).toNatClampNeg) v) mRow 8 (up ρ mRow (132 + (ρ mRow 8).toNatClampNeg) v mRow 8 + 1)
def g_tell (ρ : Af) (v : Int32) : Int32 × Af := if ρ mRow 8 = 24 then r_errP ρ 4 else (r_tellS ρ v mRow 8, r_tellS ρ v)
set_option maxRecDepth 100000 in
set_option maxHeartbeats 4000000 in
theorem c_yX7_tell {l : Launch} {G : Gm} {α ρ : Af} {v : Int32} (hI : IM ρ) : CI 1 l G yX7_tell (Cond.code yX7_tell cX7_tell 2 (some .int)) 100 [.ref (gA G idM), .int v] α ρ (PI (g_tell ρ v).1 α (g_tell ρ v).2) := by
  obtain ⟨⟨n, h9, hn, hE⟩, hl0, hl1, ⟨t, h60, ht⟩, ⟨w, h24, hw⟩, hSz, ⟨q, hq, hqe⟩⟩ := hI
  refine CI.of [some (.ref (gA G idM)), some (.int v)] (by decide) (Nat.le_of_ble_eq_true rfl) rfl rfl (fun C K => ?_)
  have K : Ok l _ G C RX7 cX7_tell (some .int) 2 := K
  refine x_aload_n (pc := 0) (i := 0) K dX7_tell_0 rfl rfl ?_
  refine gf_X7_9 (pc := 1)  K dX7_tell_1 ?_
  refine x_bipush (pc := 4) (v := 8) K dX7_tell_4 (by decide) ?_
  refine ib_mRow (pc := 6) 8 (by decide) rfl K dX7_tell_6 ?_
  refine x_bipush (pc := 7) (v := 24) K dX7_tell_7 (by decide) ?_
  refine x_icmp_ne (pc := 9) (tgt := 19) K dX7_tell_9 (by decide) (fun c_9 => ?_) (fun c_9 => ?_)
  · have hw24 : w < 24 := by rcases Nat.lt_or_ge w 24 with z | z; exact z; exact absurd (by rw [hw, show w = 24 by omega]; rfl) c_9
    have hcw : (ρ mRow 8).toNatClampNeg = w := by rw [hw]; exact nI_clamp (by omega)
    refine x_aload_n (pc := 19) (i := 0) K dX7_tell_19 rfl rfl ?_
    refine gf_X7_9 (pc := 20)  K dX7_tell_20 ?_
    refine x_sipush (pc := 23) (v := 132) K dX7_tell_23 (by decide) ?_
    refine x_aload_n (pc := 26) (i := 0) K dX7_tell_26 rfl rfl ?_
    refine gf_X7_9 (pc := 27)  K dX7_tell_27 ?_
    refine x_bipush (pc := 30) (v := 8) K dX7_tell_30 (by decide) ?_
    refine ib_mRow (pc := 32) 8 (by decide) rfl K dX7_tell_32 ?_
    refine x_iadd (pc := 33) K dX7_tell_33 ?_
    refine x_iload_n (pc := 34) (i := 1) K dX7_tell_34 rfl rfl ?_
    refine js_mRow (pc := 35) (132 + w) (by omega) (by rw [hw]; show nI 132 + nI w = _; rw [nI_add]) K dX7_tell_35 ?_
    refine x_aload_n (pc := 36) (i := 0) K dX7_tell_36 rfl rfl ?_
    refine gf_X7_9 (pc := 37)  K dX7_tell_37 ?_
    refine x_bipush (pc := 40) (v := 8) K dX7_tell_40 (by decide) ?_
    refine x_dup2 (pc := 42) K dX7_tell_42 rfl rfl ?_
    refine ib_mRow (pc := 43) 8 (by decide) rfl K dX7_tell_43 ?_
    refine x_iconst (pc := 44) (v := 1) K dX7_tell_44 (by decide) ?_
    refine x_iadd (pc := 45) K dX7_tell_45 ?_
    refine js_mRow (pc := 46) 8 (by decide) rfl K dX7_tell_46 ?_
    refine x_st (r := r_tellS ρ v) rfl (by unfold r_tellS; rw [hcw]) ?_
    refine x_aload_n (pc := 47) (i := 0) K dX7_tell_47 rfl rfl ?_
    refine gf_X7_9 (pc := 48)  K dX7_tell_48 ?_
    refine x_bipush (pc := 51) (v := 8) K dX7_tell_51 (by decide) ?_
    refine ib_mRow (pc := 53) 8 (by decide) rfl K dX7_tell_53 ?_
    exact x_iretI (pc := 54) K dX7_tell_54 ⟨by simp (decide := true) only [g_tell, r_errP, if_neg c_9, ↓reduceIte, Bool.false_eq_true, bI_t, bI_f], rfl, by simp (decide := true) only [g_tell, r_errP, if_neg c_9, ↓reduceIte, Bool.false_eq_true, bI_t, bI_f]⟩
  · refine x_aload_n (pc := 12) (i := 0) K dX7_tell_12 rfl rfl ?_
    refine x_ldc (pc := 13) K kn_X7_85 dX7_tell_13 ?_
    refine x_V1i (pc := 15) K (c_yX7_error (j := 4) (by decide) (by decide)) mw_yX7_error ⟨im_yX7_error, se_yX7_error⟩ mk_X7_81 rc_M rfl ⟨Nat.le_of_ble_eq_true rfl, Nat.le_of_ble_eq_true rfl, Nat.le_of_ble_eq_true rfl⟩ dX7_tell_15 ?_
    exact x_iretI (pc := 18) K dX7_tell_18 ⟨by simp (decide := true) only [g_tell, r_errP, if_pos c_9, ↓reduceIte, Bool.false_eq_true, bI_t, bI_f], rfl, by simp (decide := true) only [g_tell, r_errP, if_pos c_9, ↓reduceIte, Bool.false_eq_true, bI_t, bI_f]⟩

def r_ck (ρ : Af) (n : Nat) : Nat → Nat → Int32
  | 0, _ => 0
  | j + 1, i => if i < n then (if ρ mRow (132 + i) = ρ mRow (mS i 4) then r_ck ρ n j (i + 1) else 1 + nI i) else 1 + nI i
set_option maxRecDepth 100000 in
set_option maxHeartbeats 4000000 in
theorem l_mck {l : Launch} {G : Gm} {C : Cx} {n w : Nat} {α ρ : Af} (K : Ok l 100 G C RX7 cX7_check (some .int) 3) (hn : ρ mRow 2 = nI n) (h9 : n ≤ 9) (hw : w ≤ 24) : ∀ (j i : Nat), i + j = w → ∀ T, r_ck ρ n j i = T → X 1 l 100 G C (PI T α ρ) 3 18 [some (.ref (gA G idM)), some (.int (nI w)), some (.int (nI i))] [] α ρ := by
  intro j
  induction j with
  | zero =>
    intro i hi T hT
    refine x_iload_n (pc := 18) (i := 2) K dX7_check_18 rfl rfl ?_
    refine x_iload_n (pc := 19) (i := 1) K dX7_check_19 rfl rfl ?_
    refine x_icmp_ge (pc := 20) (tgt := 60) K dX7_check_20 (by decide) (fun c_20 => ?_) (fun c_20 => ?_)
    · refine x_iconst (pc := 60) (v := 0) K dX7_check_60 (by decide) ?_
      exact x_iretI (pc := 61) K dX7_check_61 ⟨by rw [← hT]; rfl, rfl, rfl⟩
    · exact absurd (nI_le (by omega) (by omega)) c_20
  | succ j ih =>
    intro i hi T hT
    refine x_iload_n (pc := 18) (i := 2) K dX7_check_18 rfl rfl ?_
    refine x_iload_n (pc := 19) (i := 1) K dX7_check_19 rfl rfl ?_
    refine x_icmp_ge (pc := 20) (tgt := 60) K dX7_check_20 (by decide) (fun c_20 => ?_) (fun c_20 => ?_)
    · exact (nI_ge (a := i) (b := w) (by omega) (by omega) c_20).elim
    · refine x_aload_n (pc := 23) (i := 0) K dX7_check_23 rfl rfl ?_
      refine x_iload_n (pc := 24) (i := 2) K dX7_check_24 rfl rfl ?_
      refine x_V1i (pc := 25) K (c_yX7_isSpan) mw_yX7_isSpan ⟨im_yX7_isSpan, se_yX7_isSpan⟩ mk_X7_90 rc_M rfl ⟨Nat.le_of_ble_eq_true rfl, Nat.le_of_ble_eq_true rfl, Nat.le_of_ble_eq_true rfl⟩ dX7_check_25 ?_
      refine x_ifeq_b (pc := 28) (tgt := 50) K dX7_check_28 (by decide) (fun c_28 => ?_) (fun c_28 => ?_)
      · refine x_iconst (pc := 50) (v := 1) K dX7_check_50 (by decide) ?_
        refine x_iload_n (pc := 51) (i := 2) K dX7_check_51 rfl rfl ?_
        refine x_iadd (pc := 52) K dX7_check_52 ?_
        exact x_iretI (pc := 53) K dX7_check_53 ⟨by rw [← hT]; simp only [r_ck]; rw [if_neg (fun h => by rw [hn, hs_iff (by omega) (by omega), decide_eq_true h] at c_28; cases c_28)], rfl, rfl⟩
      · have hin : i < n := by rw [hn, hs_iff (by omega) (by omega)] at c_28; exact of_decide_eq_true c_28
        refine x_aload_n (pc := 31) (i := 0) K dX7_check_31 rfl rfl ?_
        refine gf_X7_9 (pc := 32)  K dX7_check_32 ?_
        refine x_sipush (pc := 35) (v := 132) K dX7_check_35 (by decide) ?_
        refine x_iload_n (pc := 38) (i := 2) K dX7_check_38 rfl rfl ?_
        refine x_iadd (pc := 39) K dX7_check_39 ?_
        refine ib_mRow (pc := 40) (132 + i) (by omega) (by show nI 132 + nI i = _; rw [nI_add]) K dX7_check_40 ?_
        refine x_aload_n (pc := 41) (i := 0) K dX7_check_41 rfl rfl ?_
        refine x_iload_n (pc := 42) (i := 2) K dX7_check_42 rfl rfl ?_
        refine x_iconst (pc := 43) (v := 4) K dX7_check_43 (by decide) ?_
        refine x_V2i (pc := 44) K (c_yX7_of (u := i) (w := 4) (Nat.lt_trans (mS_lt (by omega) (by decide)) (by decide))) mw_yX7_of ⟨im_yX7_of, se_yX7_of⟩ mk_X7_62 rc_M rfl ⟨Nat.le_of_ble_eq_true rfl, Nat.le_of_ble_eq_true rfl, Nat.le_of_ble_eq_true rfl⟩ dX7_check_44 ?_
        refine x_icmp_eq (pc := 47) (tgt := 54) K dX7_check_47 (by decide) (fun c_47 => ?_) (fun c_47 => ?_)
        · refine x_iinc (pc := 54) (i := 2) (v := nI (i + 1)) K dX7_check_54 rfl (nI_1 _) rfl ?_
          refine x_goto (pc := 57) (tgt := 18) K dX7_check_57 (by decide) ?_
          exact ih (i + 1) (by omega) T (by rw [← hT]; simp only [r_ck]; rw [if_pos hin, if_pos c_47])
        · refine x_iconst (pc := 50) (v := 1) K dX7_check_50 (by decide) ?_
          refine x_iload_n (pc := 51) (i := 2) K dX7_check_51 rfl rfl ?_
          refine x_iadd (pc := 52) K dX7_check_52 ?_
          exact x_iretI (pc := 53) K dX7_check_53 ⟨by rw [← hT]; simp only [r_ck]; rw [if_pos hin, if_neg c_47], rfl, rfl⟩

def g_check (ρ : Af) : Int32 × Af := (r_ck (up ρ mRow 8 0) (ρ mRow 2).toNatClampNeg (ρ mRow 8).toNatClampNeg 0, up ρ mRow 8 0)
set_option maxRecDepth 100000 in
set_option maxHeartbeats 4000000 in
theorem c_yX7_check {l : Launch} {G : Gm} {α ρ : Af}  (hI : IM ρ) : CI 1 l G yX7_check (Cond.code yX7_check cX7_check 3 (some .int)) 100 [.ref (gA G idM)] α ρ (PI (g_check ρ).1 α (g_check ρ).2) := by
  obtain ⟨⟨n, h9, hn, hE⟩, hl0, hl1, ⟨t, h60, ht⟩, ⟨w, h24, hw⟩, hSz, ⟨q, hq, hqe⟩⟩ := hI
  refine CI.of [some (.ref (gA G idM)), none, none] (by decide) (Nat.le_of_ble_eq_true rfl) rfl rfl (fun C K => ?_)
  have K : Ok l _ G C RX7 cX7_check (some .int) 3 := K
  refine x_aload_n (pc := 0) (i := 0) K dX7_check_0 rfl rfl ?_
  refine gf_X7_9 (pc := 1)  K dX7_check_1 ?_
  refine x_bipush (pc := 4) (v := 8) K dX7_check_4 (by decide) ?_
  refine ib_mRow (pc := 6) 8 (by decide) rfl K dX7_check_6 ?_
  refine x_topi K (show _ = nI w from hw) ?_
  refine x_istore_n (pc := 7) (i := 1) K dX7_check_7 rfl rfl (by decide) ?_
  refine x_aload_n (pc := 8) (i := 0) K dX7_check_8 rfl rfl ?_
  refine gf_X7_9 (pc := 9)  K dX7_check_9 ?_
  refine x_bipush (pc := 12) (v := 8) K dX7_check_12 (by decide) ?_
  refine x_iconst (pc := 14) (v := 0) K dX7_check_14 (by decide) ?_
  refine js_mRow (pc := 15) 8 (by decide) rfl K dX7_check_15 ?_
  refine x_iconst (pc := 16) (v := 0) K dX7_check_16 (by decide) ?_
  refine x_istore_n (pc := 17) (i := 2) K dX7_check_17 rfl rfl (by decide) ?_
  have hcn : (ρ mRow 2).toNatClampNeg = n := by rw [hn]; exact nI_clamp (by omega)
  have hcw : (ρ mRow 8).toNatClampNeg = w := by rw [hw]; exact nI_clamp (by omega)
  exact l_mck (ρ := up ρ mRow 8 0) K ((up_ne2 (by decide)).trans hn) h9 h24 w 0 (by omega) _ (by simp only [g_check, hcn, hcw])

def g_count (ρ : Af) (what : Int32) : Int32 × Af := if what = 0 then (ρ mRow 2, ρ) else if what = 1 then (ρ mRow 0, ρ) else if what = 2 then (ρ mRow 4, ρ) else if what = 3 then (ρ mRow 3, ρ) else if what = 4 then (ρ mRow 5, ρ) else if what = 5 then (ρ mRow 6, ρ) else if what = 6 then (ρ mRow 7, ρ) else if what = 7 then (ρ mRow 8, ρ) else if what = 8 then (ρ idM 19, ρ) else if what = 9 then (ρ mRow 1, ρ) else r_errP ρ 1
set_option maxRecDepth 100000 in
set_option maxHeartbeats 4000000 in
theorem c_yX7_count {l : Launch} {G : Gm} {α ρ : Af} {what : Int32} (hI : IM ρ) : CI 1 l G yX7_count (Cond.code yX7_count cX7_count 2 (some .int)) 100 [.ref (gA G idM), .int what] α ρ (PI (g_count ρ what).1 α (g_count ρ what).2) := by
  obtain ⟨⟨n, h9, hn, hE⟩, hl0, hl1, ⟨t, h60, ht⟩, ⟨w, h24, hw⟩, hSz, ⟨q, hq, hqe⟩⟩ := hI
  refine CI.of [some (.ref (gA G idM)), some (.int what)] (by decide) (Nat.le_of_ble_eq_true rfl) rfl rfl (fun C K => ?_)
  have K : Ok l _ G C RX7 cX7_count (some .int) 2 := K
  refine x_iload_n (pc := 0) (i := 1) K dX7_count_0 rfl rfl ?_
  by_cases s_1_0 : what = 0
  · refine x_tableIn (pc := 1) (off := 55) (tgt := 56) K dX7_count_1 (by rw [s_1_0]; decide) (by decide) ?_
    refine x_aload_n (pc := 56) (i := 0) K dX7_count_56 rfl rfl ?_
    refine gf_X7_9 (pc := 57)  K dX7_count_57 ?_
    refine x_iconst (pc := 60) (v := 2) K dX7_count_60 (by decide) ?_
    refine ib_mRow (pc := 61) 2 (by decide) rfl K dX7_count_61 ?_
    exact x_iretI (pc := 62) K dX7_count_62 ⟨by simp (decide := true) only [g_count, r_errP, if_pos s_1_0, ↓reduceIte, Bool.false_eq_true, bI_t, bI_f], rfl, by simp (decide := true) only [g_count, r_errP, if_pos s_1_0, ↓reduceIte, Bool.false_eq_true, bI_t, bI_f]⟩
  by_cases s_1_1 : what = 1
  · refine x_tableIn (pc := 1) (off := 62) (tgt := 63) K dX7_count_1 (by rw [s_1_1]; decide) (by decide) ?_
    refine x_aload_n (pc := 63) (i := 0) K dX7_count_63 rfl rfl ?_
    refine gf_X7_9 (pc := 64)  K dX7_count_64 ?_
    refine x_iconst (pc := 67) (v := 0) K dX7_count_67 (by decide) ?_
    refine ib_mRow (pc := 68) 0 (by decide) rfl K dX7_count_68 ?_
    exact x_iretI (pc := 69) K dX7_count_69 ⟨by simp (decide := true) only [g_count, r_errP, if_neg s_1_0, if_pos s_1_1, ↓reduceIte, Bool.false_eq_true, bI_t, bI_f], rfl, by simp (decide := true) only [g_count, r_errP, if_neg s_1_0, if_pos s_1_1, ↓reduceIte, Bool.false_eq_true, bI_t, bI_f]⟩
  by_cases s_1_2 : what = 2
  · refine x_tableIn (pc := 1) (off := 69) (tgt := 70) K dX7_count_1 (by rw [s_1_2]; decide) (by decide) ?_
    refine x_aload_n (pc := 70) (i := 0) K dX7_count_70 rfl rfl ?_
    refine gf_X7_9 (pc := 71)  K dX7_count_71 ?_
    refine x_iconst (pc := 74) (v := 4) K dX7_count_74 (by decide) ?_
    refine ib_mRow (pc := 75) 4 (by decide) rfl K dX7_count_75 ?_
    exact x_iretI (pc := 76) K dX7_count_76 ⟨by simp (decide := true) only [g_count, r_errP, if_neg s_1_0, if_neg s_1_1, if_pos s_1_2, ↓reduceIte, Bool.false_eq_true, bI_t, bI_f], rfl, by simp (decide := true) only [g_count, r_errP, if_neg s_1_0, if_neg s_1_1, if_pos s_1_2, ↓reduceIte, Bool.false_eq_true, bI_t, bI_f]⟩
  by_cases s_1_3 : what = 3
  · refine x_tableIn (pc := 1) (off := 76) (tgt := 77) K dX7_count_1 (by rw [s_1_3]; decide) (by decide) ?_
    refine x_aload_n (pc := 77) (i := 0) K dX7_count_77 rfl rfl ?_
    refine gf_X7_9 (pc := 78)  K dX7_count_78 ?_
    refine x_iconst (pc := 81) (v := 3) K dX7_count_81 (by decide) ?_
    refine ib_mRow (pc := 82) 3 (by decide) rfl K dX7_count_82 ?_
    exact x_iretI (pc := 83) K dX7_count_83 ⟨by simp (decide := true) only [g_count, r_errP, if_neg s_1_0, if_neg s_1_1, if_neg s_1_2, if_pos s_1_3, ↓reduceIte, Bool.false_eq_true, bI_t, bI_f], rfl, by simp (decide := true) only [g_count, r_errP, if_neg s_1_0, if_neg s_1_1, if_neg s_1_2, if_pos s_1_3, ↓reduceIte, Bool.false_eq_true, bI_t, bI_f]⟩
  by_cases s_1_4 : what = 4
  · refine x_tableIn (pc := 1) (off := 83) (tgt := 84) K dX7_count_1 (by rw [s_1_4]; decide) (by decide) ?_
    refine x_aload_n (pc := 84) (i := 0) K dX7_count_84 rfl rfl ?_
    refine gf_X7_9 (pc := 85)  K dX7_count_85 ?_
    refine x_iconst (pc := 88) (v := 5) K dX7_count_88 (by decide) ?_
    refine ib_mRow (pc := 89) 5 (by decide) rfl K dX7_count_89 ?_
    exact x_iretI (pc := 90) K dX7_count_90 ⟨by simp (decide := true) only [g_count, r_errP, if_neg s_1_0, if_neg s_1_1, if_neg s_1_2, if_neg s_1_3, if_pos s_1_4, ↓reduceIte, Bool.false_eq_true, bI_t, bI_f], rfl, by simp (decide := true) only [g_count, r_errP, if_neg s_1_0, if_neg s_1_1, if_neg s_1_2, if_neg s_1_3, if_pos s_1_4, ↓reduceIte, Bool.false_eq_true, bI_t, bI_f]⟩
  by_cases s_1_5 : what = 5
  · refine x_tableIn (pc := 1) (off := 90) (tgt := 91) K dX7_count_1 (by rw [s_1_5]; decide) (by decide) ?_
    refine x_aload_n (pc := 91) (i := 0) K dX7_count_91 rfl rfl ?_
    refine gf_X7_9 (pc := 92)  K dX7_count_92 ?_
    refine x_bipush (pc := 95) (v := 6) K dX7_count_95 (by decide) ?_
    refine ib_mRow (pc := 97) 6 (by decide) rfl K dX7_count_97 ?_
    exact x_iretI (pc := 98) K dX7_count_98 ⟨by simp (decide := true) only [g_count, r_errP, if_neg s_1_0, if_neg s_1_1, if_neg s_1_2, if_neg s_1_3, if_neg s_1_4, if_pos s_1_5, ↓reduceIte, Bool.false_eq_true, bI_t, bI_f], rfl, by simp (decide := true) only [g_count, r_errP, if_neg s_1_0, if_neg s_1_1, if_neg s_1_2, if_neg s_1_3, if_neg s_1_4, if_pos s_1_5, ↓reduceIte, Bool.false_eq_true, bI_t, bI_f]⟩
  by_cases s_1_6 : what = 6
  · refine x_tableIn (pc := 1) (off := 98) (tgt := 99) K dX7_count_1 (by rw [s_1_6]; decide) (by decide) ?_
    refine x_aload_n (pc := 99) (i := 0) K dX7_count_99 rfl rfl ?_
    refine gf_X7_9 (pc := 100)  K dX7_count_100 ?_
    refine x_bipush (pc := 103) (v := 7) K dX7_count_103 (by decide) ?_
    refine ib_mRow (pc := 105) 7 (by decide) rfl K dX7_count_105 ?_
    exact x_iretI (pc := 106) K dX7_count_106 ⟨by simp (decide := true) only [g_count, r_errP, if_neg s_1_0, if_neg s_1_1, if_neg s_1_2, if_neg s_1_3, if_neg s_1_4, if_neg s_1_5, if_pos s_1_6, ↓reduceIte, Bool.false_eq_true, bI_t, bI_f], rfl, by simp (decide := true) only [g_count, r_errP, if_neg s_1_0, if_neg s_1_1, if_neg s_1_2, if_neg s_1_3, if_neg s_1_4, if_neg s_1_5, if_pos s_1_6, ↓reduceIte, Bool.false_eq_true, bI_t, bI_f]⟩
  by_cases s_1_7 : what = 7
  · refine x_tableIn (pc := 1) (off := 106) (tgt := 107) K dX7_count_1 (by rw [s_1_7]; decide) (by decide) ?_
    refine x_aload_n (pc := 107) (i := 0) K dX7_count_107 rfl rfl ?_
    refine gf_X7_9 (pc := 108)  K dX7_count_108 ?_
    refine x_bipush (pc := 111) (v := 8) K dX7_count_111 (by decide) ?_
    refine ib_mRow (pc := 113) 8 (by decide) rfl K dX7_count_113 ?_
    exact x_iretI (pc := 114) K dX7_count_114 ⟨by simp (decide := true) only [g_count, r_errP, if_neg s_1_0, if_neg s_1_1, if_neg s_1_2, if_neg s_1_3, if_neg s_1_4, if_neg s_1_5, if_neg s_1_6, if_pos s_1_7, ↓reduceIte, Bool.false_eq_true, bI_t, bI_f], rfl, by simp (decide := true) only [g_count, r_errP, if_neg s_1_0, if_neg s_1_1, if_neg s_1_2, if_neg s_1_3, if_neg s_1_4, if_neg s_1_5, if_neg s_1_6, if_pos s_1_7, ↓reduceIte, Bool.false_eq_true, bI_t, bI_f]⟩
  by_cases s_1_8 : what = 8
  · refine x_tableIn (pc := 1) (off := 114) (tgt := 115) K dX7_count_1 (by rw [s_1_8]; decide) (by decide) ?_
    refine x_aload_n (pc := 115) (i := 0) K dX7_count_115 rfl rfl ?_
    refine gf_X7_217 (pc := 116)  K dX7_count_116 ?_
    exact x_iretI (pc := 119) K dX7_count_119 ⟨by simp (decide := true) only [g_count, r_errP, if_neg s_1_0, if_neg s_1_1, if_neg s_1_2, if_neg s_1_3, if_neg s_1_4, if_neg s_1_5, if_neg s_1_6, if_neg s_1_7, if_pos s_1_8, ↓reduceIte, Bool.false_eq_true, bI_t, bI_f], rfl, by simp (decide := true) only [g_count, r_errP, if_neg s_1_0, if_neg s_1_1, if_neg s_1_2, if_neg s_1_3, if_neg s_1_4, if_neg s_1_5, if_neg s_1_6, if_neg s_1_7, if_pos s_1_8, ↓reduceIte, Bool.false_eq_true, bI_t, bI_f]⟩
  by_cases s_1_9 : what = 9
  · refine x_tableIn (pc := 1) (off := 119) (tgt := 120) K dX7_count_1 (by rw [s_1_9]; decide) (by decide) ?_
    refine x_aload_n (pc := 120) (i := 0) K dX7_count_120 rfl rfl ?_
    refine gf_X7_9 (pc := 121)  K dX7_count_121 ?_
    refine x_iconst (pc := 124) (v := 1) K dX7_count_124 (by decide) ?_
    refine ib_mRow (pc := 125) 1 (by decide) rfl K dX7_count_125 ?_
    exact x_iretI (pc := 126) K dX7_count_126 ⟨by simp (decide := true) only [g_count, r_errP, if_neg s_1_0, if_neg s_1_1, if_neg s_1_2, if_neg s_1_3, if_neg s_1_4, if_neg s_1_5, if_neg s_1_6, if_neg s_1_7, if_neg s_1_8, if_pos s_1_9, ↓reduceIte, Bool.false_eq_true, bI_t, bI_f], rfl, by simp (decide := true) only [g_count, r_errP, if_neg s_1_0, if_neg s_1_1, if_neg s_1_2, if_neg s_1_3, if_neg s_1_4, if_neg s_1_5, if_neg s_1_6, if_neg s_1_7, if_neg s_1_8, if_pos s_1_9, ↓reduceIte, Bool.false_eq_true, bI_t, bI_f]⟩
  refine x_tableOut (pc := 1) (tgt := 127) K dX7_count_1 (by have t0 : ¬ (what).toInt = 0 := fun h => s_1_0 (Int32.toInt_inj.mp h); have t1 : ¬ (what).toInt = 1 := fun h => s_1_1 (Int32.toInt_inj.mp h); have t2 : ¬ (what).toInt = 2 := fun h => s_1_2 (Int32.toInt_inj.mp h); have t3 : ¬ (what).toInt = 3 := fun h => s_1_3 (Int32.toInt_inj.mp h); have t4 : ¬ (what).toInt = 4 := fun h => s_1_4 (Int32.toInt_inj.mp h); have t5 : ¬ (what).toInt = 5 := fun h => s_1_5 (Int32.toInt_inj.mp h); have t6 : ¬ (what).toInt = 6 := fun h => s_1_6 (Int32.toInt_inj.mp h); have t7 : ¬ (what).toInt = 7 := fun h => s_1_7 (Int32.toInt_inj.mp h); have t8 : ¬ (what).toInt = 8 := fun h => s_1_8 (Int32.toInt_inj.mp h); have t9 : ¬ (what).toInt = 9 := fun h => s_1_9 (Int32.toInt_inj.mp h); omega) (by decide) ?_
  refine x_aload_n (pc := 127) (i := 0) K dX7_count_127 rfl rfl ?_
  refine x_ldc (pc := 128) K kn_X7_80 dX7_count_128 ?_
  refine x_V1i (pc := 130) K (c_yX7_error (j := 1) (by decide) (by decide)) mw_yX7_error ⟨im_yX7_error, se_yX7_error⟩ mk_X7_81 rc_M rfl ⟨Nat.le_of_ble_eq_true rfl, Nat.le_of_ble_eq_true rfl, Nat.le_of_ble_eq_true rfl⟩ dX7_count_130 ?_
  exact x_iretI (pc := 133) K dX7_count_133 ⟨by simp (decide := true) only [g_count, r_errP, if_neg s_1_0, if_neg s_1_1, if_neg s_1_2, if_neg s_1_3, if_neg s_1_4, if_neg s_1_5, if_neg s_1_6, if_neg s_1_7, if_neg s_1_8, if_neg s_1_9, ↓reduceIte, Bool.false_eq_true, bI_t, bI_f], rfl, by simp (decide := true) only [g_count, r_errP, if_neg s_1_0, if_neg s_1_1, if_neg s_1_2, if_neg s_1_3, if_neg s_1_4, if_neg s_1_5, if_neg s_1_6, if_neg s_1_7, if_neg s_1_8, if_neg s_1_9, ↓reduceIte, Bool.false_eq_true, bI_t, bI_f]⟩

def g_told (ρ : Af) (v : Int32) : Int32 × Af := if q_within v 1 6 = true then (ρ mErr v.toNatClampNeg, ρ) else r_errP ρ 1
set_option maxRecDepth 100000 in
set_option maxHeartbeats 4000000 in
theorem c_yX7_told {l : Launch} {G : Gm} {α ρ : Af} {v : Int32} (hI : IM ρ) : CI 1 l G yX7_told (Cond.code yX7_told cX7_told 2 (some .int)) 100 [.ref (gA G idM), .int v] α ρ (PI (g_told ρ v).1 α (g_told ρ v).2) := by
  obtain ⟨⟨n, h9, hn, hE⟩, hl0, hl1, ⟨t, h60, ht⟩, ⟨w, h24, hw⟩, hSz, ⟨q, hq, hqe⟩⟩ := hI
  refine CI.of [some (.ref (gA G idM)), some (.int v)] (by decide) (Nat.le_of_ble_eq_true rfl) rfl rfl (fun C K => ?_)
  have K : Ok l _ G C RX7 cX7_told (some .int) 2 := K
  refine x_iload_n (pc := 0) (i := 1) K dX7_told_0 rfl rfl ?_
  refine x_iconst (pc := 1) (v := 1) K dX7_told_1 (by decide) ?_
  refine x_bipush (pc := 2) (v := 6) K dX7_told_2 (by decide) ?_
  refine x_S3i (pc := 4) K (c_yX7_in) mw_yX7_in st_yX7_in mk_X7_54 ⟨Nat.le_of_ble_eq_true rfl, Nat.le_of_ble_eq_true rfl, Nat.le_of_ble_eq_true rfl⟩ dX7_told_4 ?_
  refine x_ifeq_b (pc := 7) (tgt := 19) K dX7_told_7 (by decide) (fun c_7 => ?_) (fun c_7 => ?_)
  · refine x_aload_n (pc := 19) (i := 0) K dX7_told_19 rfl rfl ?_
    refine x_ldc (pc := 20) K kn_X7_80 dX7_told_20 ?_
    refine x_V1i (pc := 22) K (c_yX7_error (j := 1) (by decide) (by decide)) mw_yX7_error ⟨im_yX7_error, se_yX7_error⟩ mk_X7_81 rc_M rfl ⟨Nat.le_of_ble_eq_true rfl, Nat.le_of_ble_eq_true rfl, Nat.le_of_ble_eq_true rfl⟩ dX7_told_22 ?_
    exact x_iretI (pc := 25) K dX7_told_25 ⟨by simp (decide := true) only [g_told, r_errP, c_7, ↓reduceIte, Bool.false_eq_true, bI_t, bI_f], rfl, by simp (decide := true) only [g_told, r_errP, c_7, ↓reduceIte, Bool.false_eq_true, bI_t, bI_f]⟩
  · obtain ⟨m, hlom, hhim, rfl⟩ := wi_of (v := v) (a := 1) (b := 6) rfl rfl (by decide) (by decide) c_7
    have hcm : (nI m).toNatClampNeg = m := nI_clamp (by omega)
    refine x_aload_n (pc := 10) (i := 0) K dX7_told_10 rfl rfl ?_
    refine gf_X7_19 (pc := 11)  K dX7_told_11 ?_
    refine x_iload_n (pc := 14) (i := 1) K dX7_told_14 rfl rfl ?_
    refine ib_mErr (pc := 15) (m) (by omega) rfl K dX7_told_15 ?_
    refine x_goto (pc := 16) (tgt := 25) K dX7_told_16 (by decide) ?_
    exact x_iretI (pc := 25) K dX7_told_25 ⟨by simp (decide := true) only [g_told, r_errP, c_7 , ↓reduceIte, Bool.false_eq_true, bI_t, bI_f, hcm], rfl, by simp (decide := true) only [g_told, r_errP, c_7 , ↓reduceIte, Bool.false_eq_true, bI_t, bI_f, hcm]⟩

def g_body (ρ : Af) (i : Int32) : Int32 × Af := if q_within i 0 (ρ idM 19 - 1) = true then (ρ mTrace i.toNatClampNeg, ρ) else r_errP ρ 2
set_option maxRecDepth 100000 in
set_option maxHeartbeats 4000000 in
theorem c_yX7_body {l : Launch} {G : Gm} {α ρ : Af} {i : Int32} (hI : IM ρ) : CI 1 l G yX7_body (Cond.code yX7_body cX7_body 2 (some .int)) 100 [.ref (gA G idM), .int i] α ρ (PI (g_body ρ i).1 α (g_body ρ i).2) := by
  obtain ⟨⟨n, h9, hn, hE⟩, hl0, hl1, ⟨t, h60, ht⟩, ⟨w, h24, hw⟩, hSz, ⟨q, hq, hqe⟩⟩ := hI
  refine CI.of [some (.ref (gA G idM)), some (.int i)] (by decide) (Nat.le_of_ble_eq_true rfl) rfl rfl (fun C K => ?_)
  have K : Ok l _ G C RX7 cX7_body (some .int) 2 := K
  refine x_iload_n (pc := 0) (i := 1) K dX7_body_0 rfl rfl ?_
  refine x_iconst (pc := 1) (v := 0) K dX7_body_1 (by decide) ?_
  refine x_aload_n (pc := 2) (i := 0) K dX7_body_2 rfl rfl ?_
  refine gf_X7_217 (pc := 3)  K dX7_body_3 ?_
  refine x_iconst (pc := 6) (v := 1) K dX7_body_6 (by decide) ?_
  refine x_isub (pc := 7) K dX7_body_7 ?_
  refine x_S3i (pc := 8) K (c_yX7_in) mw_yX7_in st_yX7_in mk_X7_54 ⟨Nat.le_of_ble_eq_true rfl, Nat.le_of_ble_eq_true rfl, Nat.le_of_ble_eq_true rfl⟩ dX7_body_8 ?_
  refine x_ifeq_b (pc := 11) (tgt := 23) K dX7_body_11 (by decide) (fun c_11 => ?_) (fun c_11 => ?_)
  · refine x_aload_n (pc := 23) (i := 0) K dX7_body_23 rfl rfl ?_
    refine x_ldc (pc := 24) K kn_X7_195 dX7_body_24 ?_
    refine x_V1i (pc := 26) K (c_yX7_error (j := 2) (by decide) (by decide)) mw_yX7_error ⟨im_yX7_error, se_yX7_error⟩ mk_X7_81 rc_M rfl ⟨Nat.le_of_ble_eq_true rfl, Nat.le_of_ble_eq_true rfl, Nat.le_of_ble_eq_true rfl⟩ dX7_body_26 ?_
    exact x_iretI (pc := 29) K dX7_body_29 ⟨by simp (decide := true) only [g_body, r_errP, c_11, ↓reduceIte, Bool.false_eq_true, bI_t, bI_f], rfl, by simp (decide := true) only [g_body, r_errP, c_11, ↓reduceIte, Bool.false_eq_true, bI_t, bI_f]⟩
  · obtain ⟨j, hj, rfl⟩ := hs_of (v := i) (n := q) (by omega) (by rw [← hqe]; exact c_11)
    have hcj : (nI j).toNatClampNeg = j := nI_clamp (by omega)
    refine x_aload_n (pc := 14) (i := 0) K dX7_body_14 rfl rfl ?_
    refine gf_X7_46 (pc := 15)  K dX7_body_15 ?_
    refine x_iload_n (pc := 18) (i := 1) K dX7_body_18 rfl rfl ?_
    refine ib_mTrace (pc := 19) (j) (by omega) rfl K dX7_body_19 ?_
    refine x_goto (pc := 20) (tgt := 29) K dX7_body_20 (by decide) ?_
    exact x_iretI (pc := 29) K dX7_body_29 ⟨by simp (decide := true) only [g_body, r_errP, c_11 , ↓reduceIte, Bool.false_eq_true, bI_t, bI_f, hcj], rfl, by simp (decide := true) only [g_body, r_errP, c_11 , ↓reduceIte, Bool.false_eq_true, bI_t, bI_f, hcj]⟩

/-- the trace's length -/
def Tr (ρ : Af) : Prop := ∃ t, t ≤ 30 ∧ ρ idM 19 = nI t
def r_bgA (ρ : Af) (x : Int32) : Af := up ρ mTrace (ρ idM 19).toNatClampNeg x
def r_bg (ρ : Af) (x : Int32) : Af := if 30 ≤ ρ idM 19 then ρ else up (r_bgA ρ x) idM 19 (r_bgA ρ x idM 19 + 1)
theorem r_bg_ne {ρ : Af} {x : Int32} {i : Nat} (h1 : i ≠ mTrace) (h2 : i ≠ idM) : r_bg ρ x i = ρ i := by
  unfold r_bg
  split
  · rfl
  · rw [up_ne h2]; unfold r_bgA; rw [up_ne h1]
theorem Tr.bg {ρ : Af} {x : Int32} (h : Tr ρ) : Tr (r_bg ρ x) := by
  obtain ⟨t, h1, h2⟩ := h
  unfold r_bg
  by_cases c : (30 : Int32) ≤ ρ idM 19
  · rw [if_pos c]; exact ⟨t, h1, h2⟩
  · rw [if_neg c]
    rw [h2] at c
    have hm := mt (nI_leI (a := 30) (b := t) (by decide) (by omega)).mpr c
    refine ⟨t + 1, by omega, ?_⟩
    rw [up_eq]
    have : r_bgA ρ x idM 19 = nI t := by unfold r_bgA; rw [up_ne (by decide)]; exact h2
    rw [this]; exact nI_1 t
set_option maxRecDepth 100000 in
set_option maxHeartbeats 4000000 in
theorem c_yX7_begins {k : Nat} {l : Launch} {G : Gm} {α ρ : Af} {x : Int32} (ht : Tr ρ) : CI k l G yX7_begins (Cond.code yX7_begins cX7_begins 2 none) 1 [.ref (gA G idM), .int x] α ρ (PV α (r_bg ρ x)) := by
  refine CI.of [some (.ref (gA G idM)), some (.int x)] (by decide) (Nat.le_of_ble_eq_true rfl) rfl rfl (fun C K => ?_)
  have K : Ok l _ G C RX7 cX7_begins none 2 := K
  refine x_aload_n (pc := 0) (i := 0) K dX7_begins_0 rfl rfl ?_
  refine gf_X7_217 (pc := 1)  K dX7_begins_1 ?_
  refine x_bipush (pc := 4) (v := 30) K dX7_begins_4 (by decide) ?_
  refine x_icmp_ge (pc := 6) (tgt := 29) K dX7_begins_6 (by decide) (fun c_6 => ?_) (fun c_6 => ?_)
  · exact x_vretI (pc := 29) K dX7_begins_29 ⟨rfl, by unfold r_bg; rw [if_pos (show  (30 : Int32) ≤ ρ idM 19 from c_6)]⟩
  · refine x_aload_n (pc := 9) (i := 0) K dX7_begins_9 rfl rfl ?_
    refine gf_X7_46 (pc := 10)  K dX7_begins_10 ?_
    refine x_aload_n (pc := 13) (i := 0) K dX7_begins_13 rfl rfl ?_
    refine gf_X7_217 (pc := 14)  K dX7_begins_14 ?_
    refine x_iload_n (pc := 17) (i := 1) K dX7_begins_17 rfl rfl ?_
    refine js_mTrace (pc := 18) (ρ idM 19).toNatClampNeg (by obtain ⟨t, h1, h2⟩ := ht; rw [h2] at c_6 ⊢; rw [nI_clamp (by omega)]; have := mt (nI_leI (a := 30) (b := t) (by decide) (by omega)).mpr c_6; omega) (by obtain ⟨t, h1, h2⟩ := ht; rw [h2, nI_clamp (by omega)]) K dX7_begins_18 ?_
    refine x_st (r := r_bgA ρ x) rfl rfl ?_
    refine x_aload_n (pc := 19) (i := 0) K dX7_begins_19 rfl rfl ?_
    refine x_dup (pc := 20) K dX7_begins_20 rfl ?_
    refine gf_X7_217 (pc := 21)  K dX7_begins_21 ?_
    refine x_iconst (pc := 24) (v := 1) K dX7_begins_24 (by decide) ?_
    refine x_iadd (pc := 25) K dX7_begins_25 ?_
    refine pf_X7_217 (pc := 26)  K dX7_begins_26 ?_
    exact x_vretI (pc := 29) K dX7_begins_29 ⟨rfl, by unfold r_bg; rw [if_neg (show ¬ (30 : Int32) ≤ ρ idM 19 from c_6)]⟩

def r_vPC (ρ : Af) (u : Nat) (x : Int32) : Int32 × Af := (x + nI u, r_bg ρ 10)
def r_vRC (ρ : Af) (u : Nat) (x : Int32) : Int32 × Af := ((r_vPC (r_bg ρ 20) u x).1 - 4, (r_vPC (r_bg ρ 20) u x).2)
def r_vC (ρ : Af) (u : Nat) (x : Int32) : Int32 × Af := if ρ mRow (mS u 0) = 1 then r_vRC ρ u x else if ρ mRow (mS u 0) = 4 then ((r_vRC (r_bg ρ 50) u x).1 * 3, (r_vRC (r_bg ρ 50) u x).2) else if ρ mRow (mS u 0) = 6 then (9, r_bg ρ 70) else r_vPC ρ u x
def r_vPS (ρ : Af) (u : Nat) (x : Int32) : Int32 × Af := ((r_vC (r_bg ρ 11) u x).1 * 2, (r_vC (r_bg ρ 11) u x).2)
def r_vBS (ρ : Af) (u : Nat) (x : Int32) : Int32 × Af := (-(r_vPS (r_bg ρ 30) u x).1, (r_vPS (r_bg ρ 30) u x).2)
def r_vS (ρ : Af) (u : Nat) (x : Int32) : Int32 × Af := if ρ mRow (mS u 0) = 2 then r_vBS ρ u x else if ρ mRow (mS u 0) = 5 then r_vBS (r_bg ρ 60) u (x + 1) else if ρ mRow (mS u 0) = 6 then ((r_vPS (r_bg ρ 71) u x).1 + (r_vPS (r_bg ρ 71) u x).2 mRow (mS u 1), (r_vPS (r_bg ρ 71) u x).2) else r_vPS ρ u x
def r_vPK (ρ : Af) (u : Nat) (x : Int32) : Int32 × Af := ((r_vS (r_bg ρ 12) u x).1 - (r_vS (r_bg ρ 12) u x).2 mRow (mS u 1), (r_vS (r_bg ρ 12) u x).2)
def r_vK (ρ : Af) (u : Nat) (x : Int32) : Int32 × Af := if ρ mRow (mS u 0) = 3 then r_vPK (r_bg ρ 40) u (x / 2) else if ρ mRow (mS u 0) = 4 then ((r_vPK (r_bg ρ 51) u x).1 ^^^ nI u, (r_vPK (r_bg ρ 51) u x).2) else r_vPK ρ u x
def r_vD (ρ : Af) (u : Nat) : Int32 := r_bg ρ 13 mRow (mS u 1) - nI u
def r_vPPS (ρ : Af) (u : Nat) : Af := up (r_bg ρ 13) idM 20 (if r_vD ρ u = 0 then 1 else 0)
def r_vPP (ρ : Af) (u : Nat) (x : Int32) : Int32 × Af := (if r_vD ρ u = 0 then 0 else x / r_vD ρ u, r_vPPS ρ u)
def r_vPB (ρ : Af) (u : Nat) (x : Int32) : Int32 × Af := if (if ρ mRow (mS u 0) = 1 then true else if ρ mRow (mS u 0) = 4 then true else false) = true then (if (r_vPP (r_bg ρ 21) u x).2 idM 20 = 0 then ((r_vPP (r_bg ρ 21) u x).1 + (r_vS (r_vPP (r_bg ρ 21) u x).2 u 1).1, (r_vS (r_vPP (r_bg ρ 21) u x).2 u 1).2) else (0, (r_vPP (r_bg ρ 21) u x).2)) else r_vPP ρ u x
def r_vo0 (ρ : Af) : Af := up (up ρ idM 19 0) idM 20 0
def r_vo (ρ : Af) (u : Nat) (vo x : Int32) : Int32 × Af := if vo = 0 then r_vC (r_vo0 ρ) u x else if vo = 1 then r_vS (r_vo0 ρ) u x else if vo = 2 then r_vK (r_vo0 ρ) u x else r_vPB (r_vo0 ρ) u x
theorem Tr.PC {ρ : Af} {u : Nat} {x : Int32} (h : Tr ρ) : Tr (r_vPC ρ u x).2 := h.bg
theorem Tr.RC {ρ : Af} {u : Nat} {x : Int32} (h : Tr ρ) : Tr (r_vRC ρ u x).2 := h.bg.PC (u := u) (x := x)
theorem Tr.C {ρ : Af} {u : Nat} {x : Int32} (h : Tr ρ) : Tr (r_vC ρ u x).2 := by
  unfold r_vC
  split
  · exact h.RC
  · split
    · exact h.bg.RC (u := u) (x := x)
    · split
      · exact h.bg
      · exact h.PC
theorem Tr.PS {ρ : Af} {u : Nat} {x : Int32} (h : Tr ρ) : Tr (r_vPS ρ u x).2 := h.bg.C (u := u) (x := x)
theorem Tr.PP {ρ : Af} {u : Nat} {x : Int32} (h : Tr ρ) : Tr (r_vPP ρ u x).2 := by
  obtain ⟨t, h1, h2⟩ := h.bg (x := 13)
  exact ⟨t, h1, by show r_vPPS ρ u idM 19 = _; unfold r_vPPS; rw [up_ne2 (by decide)]; exact h2⟩
theorem Tr.vo0 {ρ : Af} : Tr (r_vo0 ρ) := ⟨0, by decide, rfl⟩
set_option maxRecDepth 100000 in
set_option maxHeartbeats 4000000 in
theorem c_yX7_plainCrusts {k : Nat} {l : Launch} {G : Gm} {α ρ : Af} {u : Nat} {x : Int32} (hu : u < 9) (ht : Tr ρ) : CI k l G yX7_plainCrusts (Cond.code yX7_plainCrusts cX7_plainCrusts 3 (some .int)) 2 [.ref (gA G idM), .int (nI u), .int x] α ρ (PI (r_vPC ρ u x).1 α (r_vPC ρ u x).2) := by
  refine CI.of [some (.ref (gA G idM)), some (.int (nI u)), some (.int x)] (by decide) (Nat.le_of_ble_eq_true rfl) rfl rfl (fun C K => ?_)
  have K : Ok l _ G C RX7 cX7_plainCrusts (some .int) 3 := K
  refine x_aload_n (pc := 0) (i := 0) K dX7_plainCrusts_0 rfl rfl ?_
  refine x_bipush (pc := 1) (v := 10) K dX7_plainCrusts_1 (by decide) ?_
  refine x_V1v (pc := 3) K (c_yX7_begins ht) mw_yX7_begins ⟨im_yX7_begins, se_yX7_begins⟩ mk_X7_220 rc_M rfl ⟨Nat.le_of_ble_eq_true rfl, Nat.le_of_ble_eq_true rfl, Nat.le_of_ble_eq_true rfl⟩ dX7_plainCrusts_3 ?_
  refine x_iload_n (pc := 6) (i := 2) K dX7_plainCrusts_6 rfl rfl ?_
  refine x_iload_n (pc := 7) (i := 1) K dX7_plainCrusts_7 rfl rfl ?_
  refine x_iadd (pc := 8) K dX7_plainCrusts_8 ?_
  exact x_iretI (pc := 9) K dX7_plainCrusts_9 ⟨rfl, rfl, rfl⟩

set_option maxRecDepth 100000 in
set_option maxHeartbeats 4000000 in
theorem c_yX7_ryeCrusts {k : Nat} {l : Launch} {G : Gm} {α ρ : Af} {u : Nat} {x : Int32} (hu : u < 9) (ht : Tr ρ) : CI k l G yX7_ryeCrusts (Cond.code yX7_ryeCrusts cX7_ryeCrusts 3 (some .int)) 3 [.ref (gA G idM), .int (nI u), .int x] α ρ (PI (r_vRC ρ u x).1 α (r_vRC ρ u x).2) := by
  refine CI.of [some (.ref (gA G idM)), some (.int (nI u)), some (.int x)] (by decide) (Nat.le_of_ble_eq_true rfl) rfl rfl (fun C K => ?_)
  have K : Ok l _ G C RX7 cX7_ryeCrusts (some .int) 3 := K
  refine x_aload_n (pc := 0) (i := 0) K dX7_ryeCrusts_0 rfl rfl ?_
  refine x_bipush (pc := 1) (v := 20) K dX7_ryeCrusts_1 (by decide) ?_
  refine x_V1v (pc := 3) K (c_yX7_begins ht) mw_yX7_begins ⟨im_yX7_begins, se_yX7_begins⟩ mk_X7_220 rc_M rfl ⟨Nat.le_of_ble_eq_true rfl, Nat.le_of_ble_eq_true rfl, Nat.le_of_ble_eq_true rfl⟩ dX7_ryeCrusts_3 ?_
  refine x_aload_n (pc := 6) (i := 0) K dX7_ryeCrusts_6 rfl rfl ?_
  refine x_iload_n (pc := 7) (i := 1) K dX7_ryeCrusts_7 rfl rfl ?_
  refine x_iload_n (pc := 8) (i := 2) K dX7_ryeCrusts_8 rfl rfl ?_
  refine x_V2i (pc := 9) K (c_yX7_plainCrusts hu ht.bg) mw_yX7_plainCrusts ⟨im_yX7_plainCrusts, se_yX7_plainCrusts⟩ mk_X7_223 rc_M rfl ⟨Nat.le_of_ble_eq_true rfl, Nat.le_of_ble_eq_true rfl, Nat.le_of_ble_eq_true rfl⟩ dX7_ryeCrusts_9 ?_
  refine x_iconst (pc := 12) (v := 4) K dX7_ryeCrusts_12 (by decide) ?_
  refine x_isub (pc := 13) K dX7_ryeCrusts_13 ?_
  exact x_iretI (pc := 14) K dX7_ryeCrusts_14 ⟨rfl, rfl, rfl⟩

set_option maxRecDepth 100000 in
set_option maxHeartbeats 4000000 in
theorem c_yX7_crusts {k : Nat} {l : Launch} {G : Gm} {α ρ : Af} {u : Nat} {x : Int32} (hu : u < 9) (ht : Tr ρ) : CI k l G yX7_crusts (Cond.code yX7_crusts cX7_crusts 3 (some .int)) 4 [.ref (gA G idM), .int (nI u), .int x] α ρ (PI (r_vC ρ u x).1 α (r_vC ρ u x).2) := by
  refine CI.of [some (.ref (gA G idM)), some (.int (nI u)), some (.int x)] (by decide) (Nat.le_of_ble_eq_true rfl) rfl rfl (fun C K => ?_)
  have K : Ok l _ G C RX7 cX7_crusts (some .int) 3 := K
  refine x_aload_n (pc := 0) (i := 0) K dX7_crusts_0 rfl rfl ?_
  refine x_iload_n (pc := 1) (i := 1) K dX7_crusts_1 rfl rfl ?_
  refine x_iconst (pc := 2) (v := 0) K dX7_crusts_2 (by decide) ?_
  refine x_V2i (pc := 3) K (c_yX7_of (u := u) (w := 0) (Nat.lt_trans (mS_lt hu (by decide)) (by decide))) mw_yX7_of ⟨im_yX7_of, se_yX7_of⟩ mk_X7_62 rc_M rfl ⟨Nat.le_of_ble_eq_true rfl, Nat.le_of_ble_eq_true rfl, Nat.le_of_ble_eq_true rfl⟩ dX7_crusts_3 ?_
  by_cases s_6_1 : (ρ mRow (mS u 0)) = 1
  · refine x_lookup (pc := 6) (off := 34) (tgt := 40) K dX7_crusts_6 (by decide) (by rw [s_6_1]; decide) (by decide) ?_
    refine x_aload_n (pc := 40) (i := 0) K dX7_crusts_40 rfl rfl ?_
    refine x_iload_n (pc := 41) (i := 1) K dX7_crusts_41 rfl rfl ?_
    refine x_iload_n (pc := 42) (i := 2) K dX7_crusts_42 rfl rfl ?_
    refine x_V2i (pc := 43) K (c_yX7_ryeCrusts hu ht) mw_yX7_ryeCrusts ⟨im_yX7_ryeCrusts, se_yX7_ryeCrusts⟩ mk_X7_226 rc_M rfl ⟨Nat.le_of_ble_eq_true rfl, Nat.le_of_ble_eq_true rfl, Nat.le_of_ble_eq_true rfl⟩ dX7_crusts_43 ?_
    exact x_iretI (pc := 46) K dX7_crusts_46 ⟨by unfold r_vC; rw [if_pos s_6_1], rfl, by unfold r_vC; rw [if_pos s_6_1]⟩
  by_cases s_6_4 : (ρ mRow (mS u 0)) = 4
  · refine x_lookup (pc := 6) (off := 41) (tgt := 47) K dX7_crusts_6 (by decide) (by rw [s_6_4]; decide) (by decide) ?_
    refine x_aload_n (pc := 47) (i := 0) K dX7_crusts_47 rfl rfl ?_
    refine x_bipush (pc := 48) (v := 50) K dX7_crusts_48 (by decide) ?_
    refine x_V1v (pc := 50) K (c_yX7_begins ht) mw_yX7_begins ⟨im_yX7_begins, se_yX7_begins⟩ mk_X7_220 rc_M rfl ⟨Nat.le_of_ble_eq_true rfl, Nat.le_of_ble_eq_true rfl, Nat.le_of_ble_eq_true rfl⟩ dX7_crusts_50 ?_
    refine x_aload_n (pc := 53) (i := 0) K dX7_crusts_53 rfl rfl ?_
    refine x_iload_n (pc := 54) (i := 1) K dX7_crusts_54 rfl rfl ?_
    refine x_iload_n (pc := 55) (i := 2) K dX7_crusts_55 rfl rfl ?_
    refine x_V2i (pc := 56) K (c_yX7_ryeCrusts hu ht.bg) mw_yX7_ryeCrusts ⟨im_yX7_ryeCrusts, se_yX7_ryeCrusts⟩ mk_X7_226 rc_M rfl ⟨Nat.le_of_ble_eq_true rfl, Nat.le_of_ble_eq_true rfl, Nat.le_of_ble_eq_true rfl⟩ dX7_crusts_56 ?_
    refine x_iconst (pc := 59) (v := 3) K dX7_crusts_59 (by decide) ?_
    refine x_imul (pc := 60) K dX7_crusts_60 ?_
    exact x_iretI (pc := 61) K dX7_crusts_61 ⟨by unfold r_vC; rw [if_neg s_6_1, if_pos s_6_4], rfl, by unfold r_vC; rw [if_neg s_6_1, if_pos s_6_4]⟩
  by_cases s_6_6 : (ρ mRow (mS u 0)) = 6
  · refine x_lookup (pc := 6) (off := 56) (tgt := 62) K dX7_crusts_6 (by decide) (by rw [s_6_6]; decide) (by decide) ?_
    refine x_aload_n (pc := 62) (i := 0) K dX7_crusts_62 rfl rfl ?_
    refine x_bipush (pc := 63) (v := 70) K dX7_crusts_63 (by decide) ?_
    refine x_V1v (pc := 65) K (c_yX7_begins ht) mw_yX7_begins ⟨im_yX7_begins, se_yX7_begins⟩ mk_X7_220 rc_M rfl ⟨Nat.le_of_ble_eq_true rfl, Nat.le_of_ble_eq_true rfl, Nat.le_of_ble_eq_true rfl⟩ dX7_crusts_65 ?_
    refine x_bipush (pc := 68) (v := 9) K dX7_crusts_68 (by decide) ?_
    exact x_iretI (pc := 70) K dX7_crusts_70 ⟨by unfold r_vC; rw [if_neg s_6_1, if_neg s_6_4, if_pos s_6_6], rfl, by unfold r_vC; rw [if_neg s_6_1, if_neg s_6_4, if_pos s_6_6]⟩
  refine x_lookup (pc := 6) (off := 65) (tgt := 71) K dX7_crusts_6 (by decide) (by simp [Op.lookupswitch.offset, show ¬ 1 = ((ρ mRow (mS u 0))).toInt from fun h => s_6_1 (Int32.toInt_inj.mp h.symm), show ¬ 4 = ((ρ mRow (mS u 0))).toInt from fun h => s_6_4 (Int32.toInt_inj.mp h.symm), show ¬ 6 = ((ρ mRow (mS u 0))).toInt from fun h => s_6_6 (Int32.toInt_inj.mp h.symm)]) (by decide) ?_
  refine x_aload_n (pc := 71) (i := 0) K dX7_crusts_71 rfl rfl ?_
  refine x_iload_n (pc := 72) (i := 1) K dX7_crusts_72 rfl rfl ?_
  refine x_iload_n (pc := 73) (i := 2) K dX7_crusts_73 rfl rfl ?_
  refine x_V2i (pc := 74) K (c_yX7_plainCrusts hu ht) mw_yX7_plainCrusts ⟨im_yX7_plainCrusts, se_yX7_plainCrusts⟩ mk_X7_223 rc_M rfl ⟨Nat.le_of_ble_eq_true rfl, Nat.le_of_ble_eq_true rfl, Nat.le_of_ble_eq_true rfl⟩ dX7_crusts_74 ?_
  exact x_iretI (pc := 77) K dX7_crusts_77 ⟨by unfold r_vC; rw [if_neg s_6_1, if_neg s_6_4, if_neg s_6_6], rfl, by unfold r_vC; rw [if_neg s_6_1, if_neg s_6_4, if_neg s_6_6]⟩

set_option maxRecDepth 100000 in
set_option maxHeartbeats 4000000 in
theorem c_yX7_plainSteams {k : Nat} {l : Launch} {G : Gm} {α ρ : Af} {u : Nat} {x : Int32} (hu : u < 9) (ht : Tr ρ) : CI k l G yX7_plainSteams (Cond.code yX7_plainSteams cX7_plainSteams 3 (some .int)) 5 [.ref (gA G idM), .int (nI u), .int x] α ρ (PI (r_vPS ρ u x).1 α (r_vPS ρ u x).2) := by
  refine CI.of [some (.ref (gA G idM)), some (.int (nI u)), some (.int x)] (by decide) (Nat.le_of_ble_eq_true rfl) rfl rfl (fun C K => ?_)
  have K : Ok l _ G C RX7 cX7_plainSteams (some .int) 3 := K
  refine x_aload_n (pc := 0) (i := 0) K dX7_plainSteams_0 rfl rfl ?_
  refine x_bipush (pc := 1) (v := 11) K dX7_plainSteams_1 (by decide) ?_
  refine x_V1v (pc := 3) K (c_yX7_begins ht) mw_yX7_begins ⟨im_yX7_begins, se_yX7_begins⟩ mk_X7_220 rc_M rfl ⟨Nat.le_of_ble_eq_true rfl, Nat.le_of_ble_eq_true rfl, Nat.le_of_ble_eq_true rfl⟩ dX7_plainSteams_3 ?_
  refine x_aload_n (pc := 6) (i := 0) K dX7_plainSteams_6 rfl rfl ?_
  refine x_iload_n (pc := 7) (i := 1) K dX7_plainSteams_7 rfl rfl ?_
  refine x_iload_n (pc := 8) (i := 2) K dX7_plainSteams_8 rfl rfl ?_
  refine x_V2i (pc := 9) K (c_yX7_crusts hu ht.bg) mw_yX7_crusts ⟨im_yX7_crusts, se_yX7_crusts⟩ mk_X7_229 rc_M rfl ⟨Nat.le_of_ble_eq_true rfl, Nat.le_of_ble_eq_true rfl, Nat.le_of_ble_eq_true rfl⟩ dX7_plainSteams_9 ?_
  refine x_iconst (pc := 12) (v := 2) K dX7_plainSteams_12 (by decide) ?_
  refine x_imul (pc := 13) K dX7_plainSteams_13 ?_
  exact x_iretI (pc := 14) K dX7_plainSteams_14 ⟨rfl, rfl, rfl⟩

set_option maxRecDepth 100000 in
set_option maxHeartbeats 4000000 in
theorem c_yX7_briocheSteams {k : Nat} {l : Launch} {G : Gm} {α ρ : Af} {u : Nat} {x : Int32} (hu : u < 9) (ht : Tr ρ) : CI k l G yX7_briocheSteams (Cond.code yX7_briocheSteams cX7_briocheSteams 3 (some .int)) 6 [.ref (gA G idM), .int (nI u), .int x] α ρ (PI (r_vBS ρ u x).1 α (r_vBS ρ u x).2) := by
  refine CI.of [some (.ref (gA G idM)), some (.int (nI u)), some (.int x)] (by decide) (Nat.le_of_ble_eq_true rfl) rfl rfl (fun C K => ?_)
  have K : Ok l _ G C RX7 cX7_briocheSteams (some .int) 3 := K
  refine x_aload_n (pc := 0) (i := 0) K dX7_briocheSteams_0 rfl rfl ?_
  refine x_bipush (pc := 1) (v := 30) K dX7_briocheSteams_1 (by decide) ?_
  refine x_V1v (pc := 3) K (c_yX7_begins ht) mw_yX7_begins ⟨im_yX7_begins, se_yX7_begins⟩ mk_X7_220 rc_M rfl ⟨Nat.le_of_ble_eq_true rfl, Nat.le_of_ble_eq_true rfl, Nat.le_of_ble_eq_true rfl⟩ dX7_briocheSteams_3 ?_
  refine x_aload_n (pc := 6) (i := 0) K dX7_briocheSteams_6 rfl rfl ?_
  refine x_iload_n (pc := 7) (i := 1) K dX7_briocheSteams_7 rfl rfl ?_
  refine x_iload_n (pc := 8) (i := 2) K dX7_briocheSteams_8 rfl rfl ?_
  refine x_V2i (pc := 9) K (c_yX7_plainSteams hu ht.bg) mw_yX7_plainSteams ⟨im_yX7_plainSteams, se_yX7_plainSteams⟩ mk_X7_232 rc_M rfl ⟨Nat.le_of_ble_eq_true rfl, Nat.le_of_ble_eq_true rfl, Nat.le_of_ble_eq_true rfl⟩ dX7_briocheSteams_9 ?_
  refine x_ineg (pc := 12) K dX7_briocheSteams_12 ?_
  exact x_iretI (pc := 13) K dX7_briocheSteams_13 ⟨rfl, rfl, rfl⟩

set_option maxRecDepth 100000 in
set_option maxHeartbeats 4000000 in
theorem c_yX7_steams {k : Nat} {l : Launch} {G : Gm} {α ρ : Af} {u : Nat} {x : Int32} (hu : u < 9) (ht : Tr ρ) : CI k l G yX7_steams (Cond.code yX7_steams cX7_steams 3 (some .int)) 7 [.ref (gA G idM), .int (nI u), .int x] α ρ (PI (r_vS ρ u x).1 α (r_vS ρ u x).2) := by
  refine CI.of [some (.ref (gA G idM)), some (.int (nI u)), some (.int x)] (by decide) (Nat.le_of_ble_eq_true rfl) rfl rfl (fun C K => ?_)
  have K : Ok l _ G C RX7 cX7_steams (some .int) 3 := K
  refine x_aload_n (pc := 0) (i := 0) K dX7_steams_0 rfl rfl ?_
  refine x_iload_n (pc := 1) (i := 1) K dX7_steams_1 rfl rfl ?_
  refine x_iconst (pc := 2) (v := 0) K dX7_steams_2 (by decide) ?_
  refine x_V2i (pc := 3) K (c_yX7_of (u := u) (w := 0) (Nat.lt_trans (mS_lt hu (by decide)) (by decide))) mw_yX7_of ⟨im_yX7_of, se_yX7_of⟩ mk_X7_62 rc_M rfl ⟨Nat.le_of_ble_eq_true rfl, Nat.le_of_ble_eq_true rfl, Nat.le_of_ble_eq_true rfl⟩ dX7_steams_3 ?_
  by_cases s_6_2 : (ρ mRow (mS u 0)) = 2
  · refine x_tableIn (pc := 6) (off := 34) (tgt := 40) K dX7_steams_6 (by rw [s_6_2]; decide) (by decide) ?_
    refine x_aload_n (pc := 40) (i := 0) K dX7_steams_40 rfl rfl ?_
    refine x_iload_n (pc := 41) (i := 1) K dX7_steams_41 rfl rfl ?_
    refine x_iload_n (pc := 42) (i := 2) K dX7_steams_42 rfl rfl ?_
    refine x_V2i (pc := 43) K (c_yX7_briocheSteams hu ht) mw_yX7_briocheSteams ⟨im_yX7_briocheSteams, se_yX7_briocheSteams⟩ mk_X7_235 rc_M rfl ⟨Nat.le_of_ble_eq_true rfl, Nat.le_of_ble_eq_true rfl, Nat.le_of_ble_eq_true rfl⟩ dX7_steams_43 ?_
    exact x_iretI (pc := 46) K dX7_steams_46 ⟨by unfold r_vS; rw [if_pos s_6_2], rfl, by unfold r_vS; rw [if_pos s_6_2]⟩
  by_cases s_6_3 : (ρ mRow (mS u 0)) = 3
  · refine x_tableIn (pc := 6) (off := 76) (tgt := 82) K dX7_steams_6 (by rw [s_6_3]; decide) (by decide) ?_
    refine x_aload_n (pc := 82) (i := 0) K dX7_steams_82 rfl rfl ?_
    refine x_iload_n (pc := 83) (i := 1) K dX7_steams_83 rfl rfl ?_
    refine x_iload_n (pc := 84) (i := 2) K dX7_steams_84 rfl rfl ?_
    refine x_V2i (pc := 85) K (c_yX7_plainSteams hu ht) mw_yX7_plainSteams ⟨im_yX7_plainSteams, se_yX7_plainSteams⟩ mk_X7_232 rc_M rfl ⟨Nat.le_of_ble_eq_true rfl, Nat.le_of_ble_eq_true rfl, Nat.le_of_ble_eq_true rfl⟩ dX7_steams_85 ?_
    exact x_iretI (pc := 88) K dX7_steams_88 ⟨by unfold r_vS; rw [if_neg (show ¬ (ρ mRow (mS u 0)) = 2 from by rw [s_6_3]; decide), if_neg (show ¬ (ρ mRow (mS u 0)) = 5 from by rw [s_6_3]; decide), if_neg (show ¬ (ρ mRow (mS u 0)) = 6 from by rw [s_6_3]; decide)], rfl, by unfold r_vS; rw [if_neg (show ¬ (ρ mRow (mS u 0)) = 2 from by rw [s_6_3]; decide), if_neg (show ¬ (ρ mRow (mS u 0)) = 5 from by rw [s_6_3]; decide), if_neg (show ¬ (ρ mRow (mS u 0)) = 6 from by rw [s_6_3]; decide)]⟩
  by_cases s_6_4 : (ρ mRow (mS u 0)) = 4
  · refine x_tableIn (pc := 6) (off := 76) (tgt := 82) K dX7_steams_6 (by rw [s_6_4]; decide) (by decide) ?_
    refine x_aload_n (pc := 82) (i := 0) K dX7_steams_82 rfl rfl ?_
    refine x_iload_n (pc := 83) (i := 1) K dX7_steams_83 rfl rfl ?_
    refine x_iload_n (pc := 84) (i := 2) K dX7_steams_84 rfl rfl ?_
    refine x_V2i (pc := 85) K (c_yX7_plainSteams hu ht) mw_yX7_plainSteams ⟨im_yX7_plainSteams, se_yX7_plainSteams⟩ mk_X7_232 rc_M rfl ⟨Nat.le_of_ble_eq_true rfl, Nat.le_of_ble_eq_true rfl, Nat.le_of_ble_eq_true rfl⟩ dX7_steams_85 ?_
    exact x_iretI (pc := 88) K dX7_steams_88 ⟨by unfold r_vS; rw [if_neg (show ¬ (ρ mRow (mS u 0)) = 2 from by rw [s_6_4]; decide), if_neg (show ¬ (ρ mRow (mS u 0)) = 5 from by rw [s_6_4]; decide), if_neg (show ¬ (ρ mRow (mS u 0)) = 6 from by rw [s_6_4]; decide)], rfl, by unfold r_vS; rw [if_neg (show ¬ (ρ mRow (mS u 0)) = 2 from by rw [s_6_4]; decide), if_neg (show ¬ (ρ mRow (mS u 0)) = 5 from by rw [s_6_4]; decide), if_neg (show ¬ (ρ mRow (mS u 0)) = 6 from by rw [s_6_4]; decide)]⟩
  by_cases s_6_5 : (ρ mRow (mS u 0)) = 5
  · refine x_tableIn (pc := 6) (off := 41) (tgt := 47) K dX7_steams_6 (by rw [s_6_5]; decide) (by decide) ?_
    refine x_aload_n (pc := 47) (i := 0) K dX7_steams_47 rfl rfl ?_
    refine x_bipush (pc := 48) (v := 60) K dX7_steams_48 (by decide) ?_
    refine x_V1v (pc := 50) K (c_yX7_begins ht) mw_yX7_begins ⟨im_yX7_begins, se_yX7_begins⟩ mk_X7_220 rc_M rfl ⟨Nat.le_of_ble_eq_true rfl, Nat.le_of_ble_eq_true rfl, Nat.le_of_ble_eq_true rfl⟩ dX7_steams_50 ?_
    refine x_aload_n (pc := 53) (i := 0) K dX7_steams_53 rfl rfl ?_
    refine x_iload_n (pc := 54) (i := 1) K dX7_steams_54 rfl rfl ?_
    refine x_iload_n (pc := 55) (i := 2) K dX7_steams_55 rfl rfl ?_
    refine x_iconst (pc := 56) (v := 1) K dX7_steams_56 (by decide) ?_
    refine x_iadd (pc := 57) K dX7_steams_57 ?_
    refine x_V2i (pc := 58) K (c_yX7_briocheSteams hu ht.bg) mw_yX7_briocheSteams ⟨im_yX7_briocheSteams, se_yX7_briocheSteams⟩ mk_X7_235 rc_M rfl ⟨Nat.le_of_ble_eq_true rfl, Nat.le_of_ble_eq_true rfl, Nat.le_of_ble_eq_true rfl⟩ dX7_steams_58 ?_
    exact x_iretI (pc := 61) K dX7_steams_61 ⟨by unfold r_vS; rw [if_neg s_6_2, if_pos s_6_5], rfl, by unfold r_vS; rw [if_neg s_6_2, if_pos s_6_5]⟩
  by_cases s_6_6 : (ρ mRow (mS u 0)) = 6
  · refine x_tableIn (pc := 6) (off := 56) (tgt := 62) K dX7_steams_6 (by rw [s_6_6]; decide) (by decide) ?_
    refine x_aload_n (pc := 62) (i := 0) K dX7_steams_62 rfl rfl ?_
    refine x_bipush (pc := 63) (v := 71) K dX7_steams_63 (by decide) ?_
    refine x_V1v (pc := 65) K (c_yX7_begins ht) mw_yX7_begins ⟨im_yX7_begins, se_yX7_begins⟩ mk_X7_220 rc_M rfl ⟨Nat.le_of_ble_eq_true rfl, Nat.le_of_ble_eq_true rfl, Nat.le_of_ble_eq_true rfl⟩ dX7_steams_65 ?_
    refine x_aload_n (pc := 68) (i := 0) K dX7_steams_68 rfl rfl ?_
    refine x_iload_n (pc := 69) (i := 1) K dX7_steams_69 rfl rfl ?_
    refine x_iload_n (pc := 70) (i := 2) K dX7_steams_70 rfl rfl ?_
    refine x_V2i (pc := 71) K (c_yX7_plainSteams hu ht.bg) mw_yX7_plainSteams ⟨im_yX7_plainSteams, se_yX7_plainSteams⟩ mk_X7_232 rc_M rfl ⟨Nat.le_of_ble_eq_true rfl, Nat.le_of_ble_eq_true rfl, Nat.le_of_ble_eq_true rfl⟩ dX7_steams_71 ?_
    refine x_aload_n (pc := 74) (i := 0) K dX7_steams_74 rfl rfl ?_
    refine x_iload_n (pc := 75) (i := 1) K dX7_steams_75 rfl rfl ?_
    refine x_iconst (pc := 76) (v := 1) K dX7_steams_76 (by decide) ?_
    refine x_V2i (pc := 77) K (c_yX7_of (u := u) (w := 1) (Nat.lt_trans (mS_lt hu (by decide)) (by decide))) mw_yX7_of ⟨im_yX7_of, se_yX7_of⟩ mk_X7_62 rc_M rfl ⟨Nat.le_of_ble_eq_true rfl, Nat.le_of_ble_eq_true rfl, Nat.le_of_ble_eq_true rfl⟩ dX7_steams_77 ?_
    refine x_iadd (pc := 80) K dX7_steams_80 ?_
    exact x_iretI (pc := 81) K dX7_steams_81 ⟨by unfold r_vS; rw [if_neg s_6_2, if_neg s_6_5, if_pos s_6_6], rfl, by unfold r_vS; rw [if_neg s_6_2, if_neg s_6_5, if_pos s_6_6]⟩
  refine x_tableOut (pc := 6) (tgt := 82) K dX7_steams_6 (by have t0 : ¬ ((ρ mRow (mS u 0))).toInt = 2 := fun h => s_6_2 (Int32.toInt_inj.mp h); have t1 : ¬ ((ρ mRow (mS u 0))).toInt = 3 := fun h => s_6_3 (Int32.toInt_inj.mp h); have t2 : ¬ ((ρ mRow (mS u 0))).toInt = 4 := fun h => s_6_4 (Int32.toInt_inj.mp h); have t3 : ¬ ((ρ mRow (mS u 0))).toInt = 5 := fun h => s_6_5 (Int32.toInt_inj.mp h); have t4 : ¬ ((ρ mRow (mS u 0))).toInt = 6 := fun h => s_6_6 (Int32.toInt_inj.mp h); omega) (by decide) ?_
  refine x_aload_n (pc := 82) (i := 0) K dX7_steams_82 rfl rfl ?_
  refine x_iload_n (pc := 83) (i := 1) K dX7_steams_83 rfl rfl ?_
  refine x_iload_n (pc := 84) (i := 2) K dX7_steams_84 rfl rfl ?_
  refine x_V2i (pc := 85) K (c_yX7_plainSteams hu ht) mw_yX7_plainSteams ⟨im_yX7_plainSteams, se_yX7_plainSteams⟩ mk_X7_232 rc_M rfl ⟨Nat.le_of_ble_eq_true rfl, Nat.le_of_ble_eq_true rfl, Nat.le_of_ble_eq_true rfl⟩ dX7_steams_85 ?_
  exact x_iretI (pc := 88) K dX7_steams_88 ⟨by unfold r_vS; rw [if_neg s_6_2, if_neg s_6_5, if_neg s_6_6], rfl, by unfold r_vS; rw [if_neg s_6_2, if_neg s_6_5, if_neg s_6_6]⟩

set_option maxRecDepth 100000 in
set_option maxHeartbeats 4000000 in
theorem c_yX7_plainCrumbles {k : Nat} {l : Launch} {G : Gm} {α ρ : Af} {u : Nat} {x : Int32} (hu : u < 9) (ht : Tr ρ) : CI k l G yX7_plainCrumbles (Cond.code yX7_plainCrumbles cX7_plainCrumbles 3 (some .int)) 8 [.ref (gA G idM), .int (nI u), .int x] α ρ (PI (r_vPK ρ u x).1 α (r_vPK ρ u x).2) := by
  refine CI.of [some (.ref (gA G idM)), some (.int (nI u)), some (.int x)] (by decide) (Nat.le_of_ble_eq_true rfl) rfl rfl (fun C K => ?_)
  have K : Ok l _ G C RX7 cX7_plainCrumbles (some .int) 3 := K
  refine x_aload_n (pc := 0) (i := 0) K dX7_plainCrumbles_0 rfl rfl ?_
  refine x_bipush (pc := 1) (v := 12) K dX7_plainCrumbles_1 (by decide) ?_
  refine x_V1v (pc := 3) K (c_yX7_begins ht) mw_yX7_begins ⟨im_yX7_begins, se_yX7_begins⟩ mk_X7_220 rc_M rfl ⟨Nat.le_of_ble_eq_true rfl, Nat.le_of_ble_eq_true rfl, Nat.le_of_ble_eq_true rfl⟩ dX7_plainCrumbles_3 ?_
  refine x_aload_n (pc := 6) (i := 0) K dX7_plainCrumbles_6 rfl rfl ?_
  refine x_iload_n (pc := 7) (i := 1) K dX7_plainCrumbles_7 rfl rfl ?_
  refine x_iload_n (pc := 8) (i := 2) K dX7_plainCrumbles_8 rfl rfl ?_
  refine x_V2i (pc := 9) K (c_yX7_steams hu ht.bg) mw_yX7_steams ⟨im_yX7_steams, se_yX7_steams⟩ mk_X7_238 rc_M rfl ⟨Nat.le_of_ble_eq_true rfl, Nat.le_of_ble_eq_true rfl, Nat.le_of_ble_eq_true rfl⟩ dX7_plainCrumbles_9 ?_
  refine x_aload_n (pc := 12) (i := 0) K dX7_plainCrumbles_12 rfl rfl ?_
  refine x_iload_n (pc := 13) (i := 1) K dX7_plainCrumbles_13 rfl rfl ?_
  refine x_iconst (pc := 14) (v := 1) K dX7_plainCrumbles_14 (by decide) ?_
  refine x_V2i (pc := 15) K (c_yX7_of (u := u) (w := 1) (Nat.lt_trans (mS_lt hu (by decide)) (by decide))) mw_yX7_of ⟨im_yX7_of, se_yX7_of⟩ mk_X7_62 rc_M rfl ⟨Nat.le_of_ble_eq_true rfl, Nat.le_of_ble_eq_true rfl, Nat.le_of_ble_eq_true rfl⟩ dX7_plainCrumbles_15 ?_
  refine x_isub (pc := 18) K dX7_plainCrumbles_18 ?_
  exact x_iretI (pc := 19) K dX7_plainCrumbles_19 ⟨rfl, rfl, rfl⟩

set_option maxRecDepth 100000 in
set_option maxHeartbeats 4000000 in
theorem c_yX7_crumbles {k : Nat} {l : Launch} {G : Gm} {α ρ : Af} {u : Nat} {x : Int32} (hu : u < 9) (ht : Tr ρ) : CI k l G yX7_crumbles (Cond.code yX7_crumbles cX7_crumbles 3 (some .int)) 9 [.ref (gA G idM), .int (nI u), .int x] α ρ (PI (r_vK ρ u x).1 α (r_vK ρ u x).2) := by
  refine CI.of [some (.ref (gA G idM)), some (.int (nI u)), some (.int x)] (by decide) (Nat.le_of_ble_eq_true rfl) rfl rfl (fun C K => ?_)
  have K : Ok l _ G C RX7 cX7_crumbles (some .int) 3 := K
  refine x_aload_n (pc := 0) (i := 0) K dX7_crumbles_0 rfl rfl ?_
  refine x_iload_n (pc := 1) (i := 1) K dX7_crumbles_1 rfl rfl ?_
  refine x_iconst (pc := 2) (v := 0) K dX7_crumbles_2 (by decide) ?_
  refine x_V2i (pc := 3) K (c_yX7_of (u := u) (w := 0) (Nat.lt_trans (mS_lt hu (by decide)) (by decide))) mw_yX7_of ⟨im_yX7_of, se_yX7_of⟩ mk_X7_62 rc_M rfl ⟨Nat.le_of_ble_eq_true rfl, Nat.le_of_ble_eq_true rfl, Nat.le_of_ble_eq_true rfl⟩ dX7_crumbles_3 ?_
  by_cases s_6_3 : (ρ mRow (mS u 0)) = 3
  · refine x_lookup (pc := 6) (off := 26) (tgt := 32) K dX7_crumbles_6 (by decide) (by rw [s_6_3]; decide) (by decide) ?_
    refine x_aload_n (pc := 32) (i := 0) K dX7_crumbles_32 rfl rfl ?_
    refine x_bipush (pc := 33) (v := 40) K dX7_crumbles_33 (by decide) ?_
    refine x_V1v (pc := 35) K (c_yX7_begins ht) mw_yX7_begins ⟨im_yX7_begins, se_yX7_begins⟩ mk_X7_220 rc_M rfl ⟨Nat.le_of_ble_eq_true rfl, Nat.le_of_ble_eq_true rfl, Nat.le_of_ble_eq_true rfl⟩ dX7_crumbles_35 ?_
    refine x_aload_n (pc := 38) (i := 0) K dX7_crumbles_38 rfl rfl ?_
    refine x_iload_n (pc := 39) (i := 1) K dX7_crumbles_39 rfl rfl ?_
    refine x_iload_n (pc := 40) (i := 2) K dX7_crumbles_40 rfl rfl ?_
    refine x_iconst (pc := 41) (v := 2) K dX7_crumbles_41 (by decide) ?_
    refine x_idiv (pc := 42) K dX7_crumbles_42 (by decide) ?_
    refine x_V2i (pc := 43) K (c_yX7_plainCrumbles hu ht.bg) mw_yX7_plainCrumbles ⟨im_yX7_plainCrumbles, se_yX7_plainCrumbles⟩ mk_X7_241 rc_M rfl ⟨Nat.le_of_ble_eq_true rfl, Nat.le_of_ble_eq_true rfl, Nat.le_of_ble_eq_true rfl⟩ dX7_crumbles_43 ?_
    exact x_iretI (pc := 46) K dX7_crumbles_46 ⟨by unfold r_vK; rw [if_pos s_6_3], rfl, by unfold r_vK; rw [if_pos s_6_3]⟩
  by_cases s_6_4 : (ρ mRow (mS u 0)) = 4
  · refine x_lookup (pc := 6) (off := 41) (tgt := 47) K dX7_crumbles_6 (by decide) (by rw [s_6_4]; decide) (by decide) ?_
    refine x_aload_n (pc := 47) (i := 0) K dX7_crumbles_47 rfl rfl ?_
    refine x_bipush (pc := 48) (v := 51) K dX7_crumbles_48 (by decide) ?_
    refine x_V1v (pc := 50) K (c_yX7_begins ht) mw_yX7_begins ⟨im_yX7_begins, se_yX7_begins⟩ mk_X7_220 rc_M rfl ⟨Nat.le_of_ble_eq_true rfl, Nat.le_of_ble_eq_true rfl, Nat.le_of_ble_eq_true rfl⟩ dX7_crumbles_50 ?_
    refine x_aload_n (pc := 53) (i := 0) K dX7_crumbles_53 rfl rfl ?_
    refine x_iload_n (pc := 54) (i := 1) K dX7_crumbles_54 rfl rfl ?_
    refine x_iload_n (pc := 55) (i := 2) K dX7_crumbles_55 rfl rfl ?_
    refine x_V2i (pc := 56) K (c_yX7_plainCrumbles hu ht.bg) mw_yX7_plainCrumbles ⟨im_yX7_plainCrumbles, se_yX7_plainCrumbles⟩ mk_X7_241 rc_M rfl ⟨Nat.le_of_ble_eq_true rfl, Nat.le_of_ble_eq_true rfl, Nat.le_of_ble_eq_true rfl⟩ dX7_crumbles_56 ?_
    refine x_iload_n (pc := 59) (i := 1) K dX7_crumbles_59 rfl rfl ?_
    refine x_ixor (pc := 60) K dX7_crumbles_60 ?_
    exact x_iretI (pc := 61) K dX7_crumbles_61 ⟨by unfold r_vK; rw [if_neg s_6_3, if_pos s_6_4], rfl, by unfold r_vK; rw [if_neg s_6_3, if_pos s_6_4]⟩
  refine x_lookup (pc := 6) (off := 56) (tgt := 62) K dX7_crumbles_6 (by decide) (by simp [Op.lookupswitch.offset, show ¬ 3 = ((ρ mRow (mS u 0))).toInt from fun h => s_6_3 (Int32.toInt_inj.mp h.symm), show ¬ 4 = ((ρ mRow (mS u 0))).toInt from fun h => s_6_4 (Int32.toInt_inj.mp h.symm)]) (by decide) ?_
  refine x_aload_n (pc := 62) (i := 0) K dX7_crumbles_62 rfl rfl ?_
  refine x_iload_n (pc := 63) (i := 1) K dX7_crumbles_63 rfl rfl ?_
  refine x_iload_n (pc := 64) (i := 2) K dX7_crumbles_64 rfl rfl ?_
  refine x_V2i (pc := 65) K (c_yX7_plainCrumbles hu ht) mw_yX7_plainCrumbles ⟨im_yX7_plainCrumbles, se_yX7_plainCrumbles⟩ mk_X7_241 rc_M rfl ⟨Nat.le_of_ble_eq_true rfl, Nat.le_of_ble_eq_true rfl, Nat.le_of_ble_eq_true rfl⟩ dX7_crumbles_65 ?_
  exact x_iretI (pc := 68) K dX7_crumbles_68 ⟨by unfold r_vK; rw [if_neg s_6_3, if_neg s_6_4], rfl, by unfold r_vK; rw [if_neg s_6_3, if_neg s_6_4]⟩

set_option maxRecDepth 100000 in
set_option maxHeartbeats 4000000 in
theorem c_yX7_plainParts {k : Nat} {l : Launch} {G : Gm} {α ρ : Af} {u : Nat} {x : Int32} (hu : u < 9) (ht : Tr ρ) : CI k l G yX7_plainParts (Cond.code yX7_plainParts cX7_plainParts 4 (some .int)) 2 [.ref (gA G idM), .int (nI u), .int x] α ρ (PI (r_vPP ρ u x).1 α (r_vPP ρ u x).2) := by
  refine CI.of [some (.ref (gA G idM)), some (.int (nI u)), some (.int x), none] (by decide) (Nat.le_of_ble_eq_true rfl) rfl rfl (fun C K => ?_)
  have K : Ok l _ G C RX7 cX7_plainParts (some .int) 4 := K
  refine x_aload_n (pc := 0) (i := 0) K dX7_plainParts_0 rfl rfl ?_
  refine x_bipush (pc := 1) (v := 13) K dX7_plainParts_1 (by decide) ?_
  refine x_V1v (pc := 3) K (c_yX7_begins ht) mw_yX7_begins ⟨im_yX7_begins, se_yX7_begins⟩ mk_X7_220 rc_M rfl ⟨Nat.le_of_ble_eq_true rfl, Nat.le_of_ble_eq_true rfl, Nat.le_of_ble_eq_true rfl⟩ dX7_plainParts_3 ?_
  refine x_aload_n (pc := 6) (i := 0) K dX7_plainParts_6 rfl rfl ?_
  refine x_iload_n (pc := 7) (i := 1) K dX7_plainParts_7 rfl rfl ?_
  refine x_iconst (pc := 8) (v := 1) K dX7_plainParts_8 (by decide) ?_
  refine x_V2i (pc := 9) K (c_yX7_of (u := u) (w := 1) (Nat.lt_trans (mS_lt hu (by decide)) (by decide))) mw_yX7_of ⟨im_yX7_of, se_yX7_of⟩ mk_X7_62 rc_M rfl ⟨Nat.le_of_ble_eq_true rfl, Nat.le_of_ble_eq_true rfl, Nat.le_of_ble_eq_true rfl⟩ dX7_plainParts_9 ?_
  refine x_iload_n (pc := 12) (i := 1) K dX7_plainParts_12 rfl rfl ?_
  refine x_isub (pc := 13) K dX7_plainParts_13 ?_
  refine x_topi K (show _ = r_vD ρ u from rfl) ?_
  refine x_istore_n (pc := 14) (i := 3) K dX7_plainParts_14 rfl rfl (by decide) ?_
  refine x_aload_n (pc := 15) (i := 0) K dX7_plainParts_15 rfl rfl ?_
  refine x_iload_n (pc := 16) (i := 3) K dX7_plainParts_16 rfl rfl ?_
  refine x_if_ne (pc := 17) (tgt := 24) K dX7_plainParts_17 (by decide) (fun c_17 => ?_) (fun c_17 => ?_)
  · refine x_iconst (pc := 24) (v := 0) K dX7_plainParts_24 (by decide) ?_
    refine pf_X7_244 (pc := 25)  K ⟨rfl, rfl⟩ dX7_plainParts_25 ?_
    refine x_st (r := r_vPPS ρ u) rfl (by unfold r_vPPS; rw [if_neg c_17]) ?_
    refine x_aload_n (pc := 28) (i := 0) K dX7_plainParts_28 rfl rfl ?_
    refine gf_X7_244 (pc := 29)  K dX7_plainParts_29 ?_
    have h20 : r_vPPS ρ u idM 20 = 0 := by unfold r_vPPS; rw [up_eq, if_neg c_17]
    refine x_if_eq (pc := 32) (tgt := 39) K dX7_plainParts_32 (by decide) (fun c_32 => ?_) (fun c_32 => ?_)
    · refine x_iload_n (pc := 39) (i := 2) K dX7_plainParts_39 rfl rfl ?_
      refine x_iload_n (pc := 40) (i := 3) K dX7_plainParts_40 rfl rfl ?_
      refine x_idiv (pc := 41) K dX7_plainParts_41 c_17 ?_
      exact x_iretI (pc := 42) K dX7_plainParts_42 ⟨by unfold r_vPP; rw [if_neg c_17], rfl, rfl⟩
    · exact absurd h20 c_32
  · refine x_iconst (pc := 20) (v := 1) K dX7_plainParts_20 (by decide) ?_
    refine x_goto (pc := 21) (tgt := 25) K dX7_plainParts_21 (by decide) ?_
    refine pf_X7_244 (pc := 25)  K ⟨rfl, rfl⟩ dX7_plainParts_25 ?_
    refine x_st (r := r_vPPS ρ u) rfl (by unfold r_vPPS; rw [if_pos c_17]) ?_
    refine x_aload_n (pc := 28) (i := 0) K dX7_plainParts_28 rfl rfl ?_
    refine gf_X7_244 (pc := 29)  K dX7_plainParts_29 ?_
    have h20 : r_vPPS ρ u idM 20 = 1 := by unfold r_vPPS; rw [up_eq, if_pos c_17]
    refine x_if_eq (pc := 32) (tgt := 39) K dX7_plainParts_32 (by decide) (fun c_32 => ?_) (fun c_32 => ?_)
    · exact absurd (h20.symm.trans c_32) (by decide)
    · refine x_iconst (pc := 35) (v := 0) K dX7_plainParts_35 (by decide) ?_
      refine x_goto (pc := 36) (tgt := 42) K dX7_plainParts_36 (by decide) ?_
      exact x_iretI (pc := 42) K dX7_plainParts_42 ⟨by unfold r_vPP; rw [if_pos c_17], rfl, rfl⟩

set_option maxRecDepth 100000 in
set_option maxHeartbeats 4000000 in
theorem c_yX7_partsBy {k : Nat} {l : Launch} {G : Gm} {α ρ : Af} {u : Nat} {x : Int32} (hu : u < 9) (ht : Tr ρ) : CI k l G yX7_partsBy (Cond.code yX7_partsBy cX7_partsBy 4 (some .int)) 8 [.ref (gA G idM), .int (nI u), .int x] α ρ (PI (r_vPB ρ u x).1 α (r_vPB ρ u x).2) := by
  refine CI.of [some (.ref (gA G idM)), some (.int (nI u)), some (.int x), none] (by decide) (Nat.le_of_ble_eq_true rfl) rfl rfl (fun C K => ?_)
  have K : Ok l _ G C RX7 cX7_partsBy (some .int) 4 := K
  refine x_aload_n (pc := 0) (i := 0) K dX7_partsBy_0 rfl rfl ?_
  refine x_iload_n (pc := 1) (i := 1) K dX7_partsBy_1 rfl rfl ?_
  refine x_iconst (pc := 2) (v := 0) K dX7_partsBy_2 (by decide) ?_
  refine x_V2i (pc := 3) K (c_yX7_of (u := u) (w := 0) (Nat.lt_trans (mS_lt hu (by decide)) (by decide))) mw_yX7_of ⟨im_yX7_of, se_yX7_of⟩ mk_X7_62 rc_M rfl ⟨Nat.le_of_ble_eq_true rfl, Nat.le_of_ble_eq_true rfl, Nat.le_of_ble_eq_true rfl⟩ dX7_partsBy_3 ?_
  refine x_iconst (pc := 6) (v := 1) K dX7_partsBy_6 (by decide) ?_
  refine x_icmp_eq (pc := 7) (tgt := 20) K dX7_partsBy_7 (by decide) (fun c_7 => ?_) (fun c_7 => ?_)
  · refine x_aload_n (pc := 20) (i := 0) K dX7_partsBy_20 rfl rfl ?_
    refine x_bipush (pc := 21) (v := 21) K dX7_partsBy_21 (by decide) ?_
    refine x_V1v (pc := 23) K (c_yX7_begins ht) mw_yX7_begins ⟨im_yX7_begins, se_yX7_begins⟩ mk_X7_220 rc_M rfl ⟨Nat.le_of_ble_eq_true rfl, Nat.le_of_ble_eq_true rfl, Nat.le_of_ble_eq_true rfl⟩ dX7_partsBy_23 ?_
    refine x_aload_n (pc := 26) (i := 0) K dX7_partsBy_26 rfl rfl ?_
    refine x_iload_n (pc := 27) (i := 1) K dX7_partsBy_27 rfl rfl ?_
    refine x_iload_n (pc := 28) (i := 2) K dX7_partsBy_28 rfl rfl ?_
    refine x_V2i (pc := 29) K (c_yX7_plainParts hu ht.bg) mw_yX7_plainParts ⟨im_yX7_plainParts, se_yX7_plainParts⟩ mk_X7_247 rc_M rfl ⟨Nat.le_of_ble_eq_true rfl, Nat.le_of_ble_eq_true rfl, Nat.le_of_ble_eq_true rfl⟩ dX7_partsBy_29 ?_
    refine x_istore_n (pc := 32) (i := 3) K dX7_partsBy_32 rfl rfl (by decide) ?_
    refine x_aload_n (pc := 33) (i := 0) K dX7_partsBy_33 rfl rfl ?_
    refine gf_X7_244 (pc := 34)  K dX7_partsBy_34 ?_
    refine x_if_eq (pc := 37) (tgt := 44) K dX7_partsBy_37 (by decide) (fun c_37 => ?_) (fun c_37 => ?_)
    · refine x_iload_n (pc := 44) (i := 3) K dX7_partsBy_44 rfl rfl ?_
      refine x_aload_n (pc := 45) (i := 0) K dX7_partsBy_45 rfl rfl ?_
      refine x_iload_n (pc := 46) (i := 1) K dX7_partsBy_46 rfl rfl ?_
      refine x_iconst (pc := 47) (v := 1) K dX7_partsBy_47 (by decide) ?_
      refine x_V2i (pc := 48) K (c_yX7_steams hu ht.bg.PP) mw_yX7_steams ⟨im_yX7_steams, se_yX7_steams⟩ mk_X7_238 rc_M rfl ⟨Nat.le_of_ble_eq_true rfl, Nat.le_of_ble_eq_true rfl, Nat.le_of_ble_eq_true rfl⟩ dX7_partsBy_48 ?_
      refine x_iadd (pc := 51) K dX7_partsBy_51 ?_
      exact x_iretI (pc := 52) K dX7_partsBy_52 ⟨by unfold r_vPB; rw [if_pos (show (if ρ mRow (mS u 0) = 1 then true else if ρ mRow (mS u 0) = 4 then true else false) = true from by rw [if_pos c_7]), if_pos c_37], rfl, by unfold r_vPB; rw [if_pos (show (if ρ mRow (mS u 0) = 1 then true else if ρ mRow (mS u 0) = 4 then true else false) = true from by rw [if_pos c_7]), if_pos c_37]⟩
    · refine x_iconst (pc := 40) (v := 0) K dX7_partsBy_40 (by decide) ?_
      refine x_goto (pc := 41) (tgt := 52) K dX7_partsBy_41 (by decide) ?_
      exact x_iretI (pc := 52) K dX7_partsBy_52 ⟨by unfold r_vPB; rw [if_pos (show (if ρ mRow (mS u 0) = 1 then true else if ρ mRow (mS u 0) = 4 then true else false) = true from by rw [if_pos c_7]), if_neg c_37], rfl, by unfold r_vPB; rw [if_pos (show (if ρ mRow (mS u 0) = 1 then true else if ρ mRow (mS u 0) = 4 then true else false) = true from by rw [if_pos c_7]), if_neg c_37]⟩
  · refine x_aload_n (pc := 10) (i := 0) K dX7_partsBy_10 rfl rfl ?_
    refine x_iload_n (pc := 11) (i := 1) K dX7_partsBy_11 rfl rfl ?_
    refine x_iconst (pc := 12) (v := 0) K dX7_partsBy_12 (by decide) ?_
    refine x_V2i (pc := 13) K (c_yX7_of (u := u) (w := 0) (Nat.lt_trans (mS_lt hu (by decide)) (by decide))) mw_yX7_of ⟨im_yX7_of, se_yX7_of⟩ mk_X7_62 rc_M rfl ⟨Nat.le_of_ble_eq_true rfl, Nat.le_of_ble_eq_true rfl, Nat.le_of_ble_eq_true rfl⟩ dX7_partsBy_13 ?_
    refine x_iconst (pc := 16) (v := 4) K dX7_partsBy_16 (by decide) ?_
    refine x_icmp_ne (pc := 17) (tgt := 53) K dX7_partsBy_17 (by decide) (fun c_17 => ?_) (fun c_17 => ?_)
    · refine x_aload_n (pc := 53) (i := 0) K dX7_partsBy_53 rfl rfl ?_
      refine x_iload_n (pc := 54) (i := 1) K dX7_partsBy_54 rfl rfl ?_
      refine x_iload_n (pc := 55) (i := 2) K dX7_partsBy_55 rfl rfl ?_
      refine x_V2i (pc := 56) K (c_yX7_plainParts hu ht) mw_yX7_plainParts ⟨im_yX7_plainParts, se_yX7_plainParts⟩ mk_X7_247 rc_M rfl ⟨Nat.le_of_ble_eq_true rfl, Nat.le_of_ble_eq_true rfl, Nat.le_of_ble_eq_true rfl⟩ dX7_partsBy_56 ?_
      exact x_iretI (pc := 59) K dX7_partsBy_59 ⟨by unfold r_vPB; rw [if_neg (show ¬ (if ρ mRow (mS u 0) = 1 then true else if ρ mRow (mS u 0) = 4 then true else false) = true from by rw [if_neg c_7, if_neg c_17]; decide)], rfl, by unfold r_vPB; rw [if_neg (show ¬ (if ρ mRow (mS u 0) = 1 then true else if ρ mRow (mS u 0) = 4 then true else false) = true from by rw [if_neg c_7, if_neg c_17]; decide)]⟩
    · refine x_aload_n (pc := 20) (i := 0) K dX7_partsBy_20 rfl rfl ?_
      refine x_bipush (pc := 21) (v := 21) K dX7_partsBy_21 (by decide) ?_
      refine x_V1v (pc := 23) K (c_yX7_begins ht) mw_yX7_begins ⟨im_yX7_begins, se_yX7_begins⟩ mk_X7_220 rc_M rfl ⟨Nat.le_of_ble_eq_true rfl, Nat.le_of_ble_eq_true rfl, Nat.le_of_ble_eq_true rfl⟩ dX7_partsBy_23 ?_
      refine x_aload_n (pc := 26) (i := 0) K dX7_partsBy_26 rfl rfl ?_
      refine x_iload_n (pc := 27) (i := 1) K dX7_partsBy_27 rfl rfl ?_
      refine x_iload_n (pc := 28) (i := 2) K dX7_partsBy_28 rfl rfl ?_
      refine x_V2i (pc := 29) K (c_yX7_plainParts hu ht.bg) mw_yX7_plainParts ⟨im_yX7_plainParts, se_yX7_plainParts⟩ mk_X7_247 rc_M rfl ⟨Nat.le_of_ble_eq_true rfl, Nat.le_of_ble_eq_true rfl, Nat.le_of_ble_eq_true rfl⟩ dX7_partsBy_29 ?_
      refine x_istore_n (pc := 32) (i := 3) K dX7_partsBy_32 rfl rfl (by decide) ?_
      refine x_aload_n (pc := 33) (i := 0) K dX7_partsBy_33 rfl rfl ?_
      refine gf_X7_244 (pc := 34)  K dX7_partsBy_34 ?_
      refine x_if_eq (pc := 37) (tgt := 44) K dX7_partsBy_37 (by decide) (fun c_37 => ?_) (fun c_37 => ?_)
      · refine x_iload_n (pc := 44) (i := 3) K dX7_partsBy_44 rfl rfl ?_
        refine x_aload_n (pc := 45) (i := 0) K dX7_partsBy_45 rfl rfl ?_
        refine x_iload_n (pc := 46) (i := 1) K dX7_partsBy_46 rfl rfl ?_
        refine x_iconst (pc := 47) (v := 1) K dX7_partsBy_47 (by decide) ?_
        refine x_V2i (pc := 48) K (c_yX7_steams hu ht.bg.PP) mw_yX7_steams ⟨im_yX7_steams, se_yX7_steams⟩ mk_X7_238 rc_M rfl ⟨Nat.le_of_ble_eq_true rfl, Nat.le_of_ble_eq_true rfl, Nat.le_of_ble_eq_true rfl⟩ dX7_partsBy_48 ?_
        refine x_iadd (pc := 51) K dX7_partsBy_51 ?_
        exact x_iretI (pc := 52) K dX7_partsBy_52 ⟨by unfold r_vPB; rw [if_pos (show (if ρ mRow (mS u 0) = 1 then true else if ρ mRow (mS u 0) = 4 then true else false) = true from by rw [if_neg c_7, if_pos c_17]), if_pos c_37], rfl, by unfold r_vPB; rw [if_pos (show (if ρ mRow (mS u 0) = 1 then true else if ρ mRow (mS u 0) = 4 then true else false) = true from by rw [if_neg c_7, if_pos c_17]), if_pos c_37]⟩
      · refine x_iconst (pc := 40) (v := 0) K dX7_partsBy_40 (by decide) ?_
        refine x_goto (pc := 41) (tgt := 52) K dX7_partsBy_41 (by decide) ?_
        exact x_iretI (pc := 52) K dX7_partsBy_52 ⟨by unfold r_vPB; rw [if_pos (show (if ρ mRow (mS u 0) = 1 then true else if ρ mRow (mS u 0) = 4 then true else false) = true from by rw [if_neg c_7, if_pos c_17]), if_neg c_37], rfl, by unfold r_vPB; rw [if_pos (show (if ρ mRow (mS u 0) = 1 then true else if ρ mRow (mS u 0) = 4 then true else false) = true from by rw [if_neg c_7, if_pos c_17]), if_neg c_37]⟩

def g_voice (ρ : Af) (span vo x : Int32) : Int32 × Af := if q_within span 0 (ρ mRow 2 - 1) = true then (if q_within vo 0 3 = true then (if (r_vo ρ span.toNatClampNeg vo x).2 idM 20 = 0 then (r_vo ρ span.toNatClampNeg vo x) else r_errP (r_vo ρ span.toNatClampNeg vo x).2 6) else r_errP ρ 1) else r_errP ρ 1
set_option maxRecDepth 100000 in
set_option maxHeartbeats 4000000 in
theorem c_yX7_voice {l : Launch} {G : Gm} {α ρ : Af} {span vo x : Int32} (hI : IM ρ) : CI 1 l G yX7_voice (Cond.code yX7_voice cX7_voice 5 (some .int)) 100 [.ref (gA G idM), .int span, .int vo, .int x] α ρ (PI (g_voice ρ span vo x).1 α (g_voice ρ span vo x).2) := by
  obtain ⟨⟨n, h9, hn, hE⟩, hl0, hl1, ⟨t, h60, ht⟩, ⟨w, h24, hw⟩, hSz, ⟨q, hq, hqe⟩⟩ := hI
  refine CI.of [some (.ref (gA G idM)), some (.int span), some (.int vo), some (.int x), none] (by decide) (Nat.le_of_ble_eq_true rfl) rfl rfl (fun C K => ?_)
  have K : Ok l _ G C RX7 cX7_voice (some .int) 5 := K
  refine x_aload_n (pc := 0) (i := 0) K dX7_voice_0 rfl rfl ?_
  refine x_iload_n (pc := 1) (i := 1) K dX7_voice_1 rfl rfl ?_
  refine x_V1i (pc := 2) K (c_yX7_isSpan) mw_yX7_isSpan ⟨im_yX7_isSpan, se_yX7_isSpan⟩ mk_X7_90 rc_M rfl ⟨Nat.le_of_ble_eq_true rfl, Nat.le_of_ble_eq_true rfl, Nat.le_of_ble_eq_true rfl⟩ dX7_voice_2 ?_
  refine x_ifeq_b (pc := 5) (tgt := 17) K dX7_voice_5 (by decide) (fun c_5 => ?_) (fun c_5 => ?_)
  · refine x_aload_n (pc := 17) (i := 0) K dX7_voice_17 rfl rfl ?_
    refine x_ldc (pc := 18) K kn_X7_80 dX7_voice_18 ?_
    refine x_V1i (pc := 20) K (c_yX7_error (j := 1) (by decide) (by decide)) mw_yX7_error ⟨im_yX7_error, se_yX7_error⟩ mk_X7_81 rc_M rfl ⟨Nat.le_of_ble_eq_true rfl, Nat.le_of_ble_eq_true rfl, Nat.le_of_ble_eq_true rfl⟩ dX7_voice_20 ?_
    exact x_iretI (pc := 23) K dX7_voice_23 ⟨by simp (decide := true) only [g_voice, r_errP, c_5, ↓reduceIte, Bool.false_eq_true, bI_t, bI_f], rfl, by simp (decide := true) only [g_voice, r_errP, c_5, ↓reduceIte, Bool.false_eq_true, bI_t, bI_f]⟩
  · refine x_iload_n (pc := 8) (i := 2) K dX7_voice_8 rfl rfl ?_
    refine x_iconst (pc := 9) (v := 0) K dX7_voice_9 (by decide) ?_
    refine x_iconst (pc := 10) (v := 3) K dX7_voice_10 (by decide) ?_
    refine x_S3i (pc := 11) K (c_yX7_in) mw_yX7_in st_yX7_in mk_X7_54 ⟨Nat.le_of_ble_eq_true rfl, Nat.le_of_ble_eq_true rfl, Nat.le_of_ble_eq_true rfl⟩ dX7_voice_11 ?_
    refine x_ifne_b (pc := 14) (tgt := 24) K dX7_voice_14 (by decide) (fun c_14 => ?_) (fun c_14 => ?_)
    · obtain ⟨j, hj, rfl⟩ := hs_of (v := span) (n := n) (by omega) (by rw [← hn]; exact c_5)
      have hj9 : j < 9 := by omega
      have hjc : (nI j).toNatClampNeg = j := nI_clamp (by omega)
      refine x_aload_n (pc := 24) (i := 0) K dX7_voice_24 rfl rfl ?_
      refine x_iconst (pc := 25) (v := 0) K dX7_voice_25 (by decide) ?_
      refine pf_X7_217 (pc := 26)  K dX7_voice_26 ?_
      refine x_aload_n (pc := 29) (i := 0) K dX7_voice_29 rfl rfl ?_
      refine x_iconst (pc := 30) (v := 0) K dX7_voice_30 (by decide) ?_
      refine pf_X7_244 (pc := 31)  K ⟨rfl, rfl⟩ dX7_voice_31 ?_
      refine x_st (r := r_vo0 ρ) rfl rfl ?_
      refine x_iload_n (pc := 34) (i := 2) K dX7_voice_34 rfl rfl ?_
      refine x_if_ne (pc := 35) (tgt := 47) K dX7_voice_35 (by decide) (fun c_35 => ?_) (fun c_35 => ?_)
      · refine x_iload_n (pc := 47) (i := 2) K dX7_voice_47 rfl rfl ?_
        refine x_iconst (pc := 48) (v := 1) K dX7_voice_48 (by decide) ?_
        refine x_icmp_ne (pc := 49) (tgt := 61) K dX7_voice_49 (by decide) (fun c_49 => ?_) (fun c_49 => ?_)
        · refine x_iload_n (pc := 61) (i := 2) K dX7_voice_61 rfl rfl ?_
          refine x_iconst (pc := 62) (v := 2) K dX7_voice_62 (by decide) ?_
          refine x_icmp_ne (pc := 63) (tgt := 75) K dX7_voice_63 (by decide) (fun c_63 => ?_) (fun c_63 => ?_)
          · refine x_aload_n (pc := 75) (i := 0) K dX7_voice_75 rfl rfl ?_
            refine x_iload_n (pc := 76) (i := 1) K dX7_voice_76 rfl rfl ?_
            refine x_iload_n (pc := 77) (i := 3) K dX7_voice_77 rfl rfl ?_
            refine x_V2i (pc := 78) K (c_yX7_partsBy hj9 Tr.vo0) mw_yX7_partsBy ⟨im_yX7_partsBy, se_yX7_partsBy⟩ mk_X7_253 rc_M rfl ⟨Nat.le_of_ble_eq_true rfl, Nat.le_of_ble_eq_true rfl, Nat.le_of_ble_eq_true rfl⟩ dX7_voice_78 ?_
            refine x_topi K (show _ = (r_vo ρ j vo x).1 from by unfold r_vo; rw [if_neg c_35, if_neg c_49, if_neg c_63]) ?_
            refine x_st (r := (r_vo ρ j vo x).2) rfl (by unfold r_vo; rw [if_neg c_35, if_neg c_49, if_neg c_63]) ?_
            refine x_istore (pc := 81) (i := 4) K dX7_voice_81 rfl (by decide) ?_
            refine x_aload_n (pc := 83) (i := 0) K dX7_voice_83 rfl rfl ?_
            refine gf_X7_244 (pc := 84)  K dX7_voice_84 ?_
            refine x_if_eq (pc := 87) (tgt := 100) K dX7_voice_87 (by decide) (fun c_87 => ?_) (fun c_87 => ?_)
            · refine x_iload (pc := 100) (i := 4) K dX7_voice_100 rfl ?_
              exact x_iretI (pc := 102) K dX7_voice_102 ⟨by simp (decide := true) only [g_voice, r_errP, c_5 , c_14 , if_pos c_87, ↓reduceIte, Bool.false_eq_true, bI_t, bI_f, hjc], rfl, by simp (decide := true) only [g_voice, r_errP, c_5 , c_14 , if_pos c_87, ↓reduceIte, Bool.false_eq_true, bI_t, bI_f, hjc]⟩
            · refine x_aload_n (pc := 90) (i := 0) K dX7_voice_90 rfl rfl ?_
              refine x_ldcw (pc := 91) K kn_X7_256 dX7_voice_91 ?_
              refine x_V1i (pc := 94) K (c_yX7_error (j := 6) (by decide) (by decide)) mw_yX7_error ⟨im_yX7_error, se_yX7_error⟩ mk_X7_81 rc_M rfl ⟨Nat.le_of_ble_eq_true rfl, Nat.le_of_ble_eq_true rfl, Nat.le_of_ble_eq_true rfl⟩ dX7_voice_94 ?_
              refine x_goto (pc := 97) (tgt := 102) K dX7_voice_97 (by decide) ?_
              exact x_iretI (pc := 102) K dX7_voice_102 ⟨by simp (decide := true) only [g_voice, r_errP, c_5 , c_14 , if_neg c_87, ↓reduceIte, Bool.false_eq_true, bI_t, bI_f, hjc], rfl, by simp (decide := true) only [g_voice, r_errP, c_5 , c_14 , if_neg c_87, ↓reduceIte, Bool.false_eq_true, bI_t, bI_f, hjc]⟩
          · refine x_aload_n (pc := 66) (i := 0) K dX7_voice_66 rfl rfl ?_
            refine x_iload_n (pc := 67) (i := 1) K dX7_voice_67 rfl rfl ?_
            refine x_iload_n (pc := 68) (i := 3) K dX7_voice_68 rfl rfl ?_
            refine x_V2i (pc := 69) K (c_yX7_crumbles hj9 Tr.vo0) mw_yX7_crumbles ⟨im_yX7_crumbles, se_yX7_crumbles⟩ mk_X7_250 rc_M rfl ⟨Nat.le_of_ble_eq_true rfl, Nat.le_of_ble_eq_true rfl, Nat.le_of_ble_eq_true rfl⟩ dX7_voice_69 ?_
            refine x_goto (pc := 72) (tgt := 81) K dX7_voice_72 (by decide) ?_
            refine x_topi K (show _ = (r_vo ρ j vo x).1 from by unfold r_vo; rw [if_neg c_35, if_neg c_49, if_pos c_63]) ?_
            refine x_st (r := (r_vo ρ j vo x).2) rfl (by unfold r_vo; rw [if_neg c_35, if_neg c_49, if_pos c_63]) ?_
            refine x_istore (pc := 81) (i := 4) K dX7_voice_81 rfl (by decide) ?_
            refine x_aload_n (pc := 83) (i := 0) K dX7_voice_83 rfl rfl ?_
            refine gf_X7_244 (pc := 84)  K dX7_voice_84 ?_
            refine x_if_eq (pc := 87) (tgt := 100) K dX7_voice_87 (by decide) (fun c_87 => ?_) (fun c_87 => ?_)
            · refine x_iload (pc := 100) (i := 4) K dX7_voice_100 rfl ?_
              exact x_iretI (pc := 102) K dX7_voice_102 ⟨by simp (decide := true) only [g_voice, r_errP, c_5 , c_14 , if_pos c_87, ↓reduceIte, Bool.false_eq_true, bI_t, bI_f, hjc], rfl, by simp (decide := true) only [g_voice, r_errP, c_5 , c_14 , if_pos c_87, ↓reduceIte, Bool.false_eq_true, bI_t, bI_f, hjc]⟩
            · refine x_aload_n (pc := 90) (i := 0) K dX7_voice_90 rfl rfl ?_
              refine x_ldcw (pc := 91) K kn_X7_256 dX7_voice_91 ?_
              refine x_V1i (pc := 94) K (c_yX7_error (j := 6) (by decide) (by decide)) mw_yX7_error ⟨im_yX7_error, se_yX7_error⟩ mk_X7_81 rc_M rfl ⟨Nat.le_of_ble_eq_true rfl, Nat.le_of_ble_eq_true rfl, Nat.le_of_ble_eq_true rfl⟩ dX7_voice_94 ?_
              refine x_goto (pc := 97) (tgt := 102) K dX7_voice_97 (by decide) ?_
              exact x_iretI (pc := 102) K dX7_voice_102 ⟨by simp (decide := true) only [g_voice, r_errP, c_5 , c_14 , if_neg c_87, ↓reduceIte, Bool.false_eq_true, bI_t, bI_f, hjc], rfl, by simp (decide := true) only [g_voice, r_errP, c_5 , c_14 , if_neg c_87, ↓reduceIte, Bool.false_eq_true, bI_t, bI_f, hjc]⟩
        · refine x_aload_n (pc := 52) (i := 0) K dX7_voice_52 rfl rfl ?_
          refine x_iload_n (pc := 53) (i := 1) K dX7_voice_53 rfl rfl ?_
          refine x_iload_n (pc := 54) (i := 3) K dX7_voice_54 rfl rfl ?_
          refine x_V2i (pc := 55) K (c_yX7_steams hj9 Tr.vo0) mw_yX7_steams ⟨im_yX7_steams, se_yX7_steams⟩ mk_X7_238 rc_M rfl ⟨Nat.le_of_ble_eq_true rfl, Nat.le_of_ble_eq_true rfl, Nat.le_of_ble_eq_true rfl⟩ dX7_voice_55 ?_
          refine x_goto (pc := 58) (tgt := 81) K dX7_voice_58 (by decide) ?_
          refine x_topi K (show _ = (r_vo ρ j vo x).1 from by unfold r_vo; rw [if_neg c_35, if_pos c_49]) ?_
          refine x_st (r := (r_vo ρ j vo x).2) rfl (by unfold r_vo; rw [if_neg c_35, if_pos c_49]) ?_
          refine x_istore (pc := 81) (i := 4) K dX7_voice_81 rfl (by decide) ?_
          refine x_aload_n (pc := 83) (i := 0) K dX7_voice_83 rfl rfl ?_
          refine gf_X7_244 (pc := 84)  K dX7_voice_84 ?_
          refine x_if_eq (pc := 87) (tgt := 100) K dX7_voice_87 (by decide) (fun c_87 => ?_) (fun c_87 => ?_)
          · refine x_iload (pc := 100) (i := 4) K dX7_voice_100 rfl ?_
            exact x_iretI (pc := 102) K dX7_voice_102 ⟨by simp (decide := true) only [g_voice, r_errP, c_5 , c_14 , if_pos c_87, ↓reduceIte, Bool.false_eq_true, bI_t, bI_f, hjc], rfl, by simp (decide := true) only [g_voice, r_errP, c_5 , c_14 , if_pos c_87, ↓reduceIte, Bool.false_eq_true, bI_t, bI_f, hjc]⟩
          · refine x_aload_n (pc := 90) (i := 0) K dX7_voice_90 rfl rfl ?_
            refine x_ldcw (pc := 91) K kn_X7_256 dX7_voice_91 ?_
            refine x_V1i (pc := 94) K (c_yX7_error (j := 6) (by decide) (by decide)) mw_yX7_error ⟨im_yX7_error, se_yX7_error⟩ mk_X7_81 rc_M rfl ⟨Nat.le_of_ble_eq_true rfl, Nat.le_of_ble_eq_true rfl, Nat.le_of_ble_eq_true rfl⟩ dX7_voice_94 ?_
            refine x_goto (pc := 97) (tgt := 102) K dX7_voice_97 (by decide) ?_
            exact x_iretI (pc := 102) K dX7_voice_102 ⟨by simp (decide := true) only [g_voice, r_errP, c_5 , c_14 , if_neg c_87, ↓reduceIte, Bool.false_eq_true, bI_t, bI_f, hjc], rfl, by simp (decide := true) only [g_voice, r_errP, c_5 , c_14 , if_neg c_87, ↓reduceIte, Bool.false_eq_true, bI_t, bI_f, hjc]⟩
      · refine x_aload_n (pc := 38) (i := 0) K dX7_voice_38 rfl rfl ?_
        refine x_iload_n (pc := 39) (i := 1) K dX7_voice_39 rfl rfl ?_
        refine x_iload_n (pc := 40) (i := 3) K dX7_voice_40 rfl rfl ?_
        refine x_V2i (pc := 41) K (c_yX7_crusts hj9 Tr.vo0) mw_yX7_crusts ⟨im_yX7_crusts, se_yX7_crusts⟩ mk_X7_229 rc_M rfl ⟨Nat.le_of_ble_eq_true rfl, Nat.le_of_ble_eq_true rfl, Nat.le_of_ble_eq_true rfl⟩ dX7_voice_41 ?_
        refine x_goto (pc := 44) (tgt := 81) K dX7_voice_44 (by decide) ?_
        refine x_topi K (show _ = (r_vo ρ j vo x).1 from by unfold r_vo; rw [if_pos c_35]) ?_
        refine x_st (r := (r_vo ρ j vo x).2) rfl (by unfold r_vo; rw [if_pos c_35]) ?_
        refine x_istore (pc := 81) (i := 4) K dX7_voice_81 rfl (by decide) ?_
        refine x_aload_n (pc := 83) (i := 0) K dX7_voice_83 rfl rfl ?_
        refine gf_X7_244 (pc := 84)  K dX7_voice_84 ?_
        refine x_if_eq (pc := 87) (tgt := 100) K dX7_voice_87 (by decide) (fun c_87 => ?_) (fun c_87 => ?_)
        · refine x_iload (pc := 100) (i := 4) K dX7_voice_100 rfl ?_
          exact x_iretI (pc := 102) K dX7_voice_102 ⟨by simp (decide := true) only [g_voice, r_errP, c_5 , c_14 , if_pos c_87, ↓reduceIte, Bool.false_eq_true, bI_t, bI_f, hjc], rfl, by simp (decide := true) only [g_voice, r_errP, c_5 , c_14 , if_pos c_87, ↓reduceIte, Bool.false_eq_true, bI_t, bI_f, hjc]⟩
        · refine x_aload_n (pc := 90) (i := 0) K dX7_voice_90 rfl rfl ?_
          refine x_ldcw (pc := 91) K kn_X7_256 dX7_voice_91 ?_
          refine x_V1i (pc := 94) K (c_yX7_error (j := 6) (by decide) (by decide)) mw_yX7_error ⟨im_yX7_error, se_yX7_error⟩ mk_X7_81 rc_M rfl ⟨Nat.le_of_ble_eq_true rfl, Nat.le_of_ble_eq_true rfl, Nat.le_of_ble_eq_true rfl⟩ dX7_voice_94 ?_
          refine x_goto (pc := 97) (tgt := 102) K dX7_voice_97 (by decide) ?_
          exact x_iretI (pc := 102) K dX7_voice_102 ⟨by simp (decide := true) only [g_voice, r_errP, c_5 , c_14 , if_neg c_87, ↓reduceIte, Bool.false_eq_true, bI_t, bI_f, hjc], rfl, by simp (decide := true) only [g_voice, r_errP, c_5 , c_14 , if_neg c_87, ↓reduceIte, Bool.false_eq_true, bI_t, bI_f, hjc]⟩
    · refine x_aload_n (pc := 17) (i := 0) K dX7_voice_17 rfl rfl ?_
      refine x_ldc (pc := 18) K kn_X7_80 dX7_voice_18 ?_
      refine x_V1i (pc := 20) K (c_yX7_error (j := 1) (by decide) (by decide)) mw_yX7_error ⟨im_yX7_error, se_yX7_error⟩ mk_X7_81 rc_M rfl ⟨Nat.le_of_ble_eq_true rfl, Nat.le_of_ble_eq_true rfl, Nat.le_of_ble_eq_true rfl⟩ dX7_voice_20 ?_
      exact x_iretI (pc := 23) K dX7_voice_23 ⟨by simp (decide := true) only [g_voice, r_errP, c_5 , c_14, ↓reduceIte, Bool.false_eq_true, bI_t, bI_f], rfl, by simp (decide := true) only [g_voice, r_errP, c_5 , c_14, ↓reduceIte, Bool.false_eq_true, bI_t, bI_f]⟩
