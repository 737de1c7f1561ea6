theorem r_go_ne {ρ : Af} {n i : Nat} (h : i ≠ mRow) : r_go ρ n i = ρ i := by unfold r_go; rw [up_ne h, r_gos_ne h]
def r_nt (ρ : Af) (v : Int32) : Int32 := if q_isSheet v = true then (if ρ mBits v.toNatClampNeg = 0 then -1000000000 - nI 2 else 0) else -1000000000 - nI 1
def r_ntJ (v : Int32) : Nat := if q_isSheet v = true then 2 else 1
theorem sh_of {v : Int32} (h : q_isSheet v = true) : ∃ s, s < 4 ∧ v = nI s := by
  obtain ⟨m, -, h2, h3⟩ := wi_of (v := v) (a := 0) (b := 3) rfl rfl (by decide) (by decide) h
  exact ⟨m, by omega, h3⟩
theorem nt_ok {ρ : Af} {v : Int32} (h : r_nt ρ v = 0) : q_isSheet v = true ∧ ¬ ρ mBits v.toNatClampNeg = 0 := by
  unfold r_nt at h
  by_cases c1 : q_isSheet v = true
  · rw [if_pos c1] at h
    refine ⟨c1, fun c2 => ?_⟩
    rw [if_pos c2] at h
    exact absurd h (by decide)
  · rw [if_neg c1] at h
    exact absurd h (by decide)
theorem nt_err {ρ : Af} {v : Int32} (h : ¬ r_nt ρ v = 0) : r_nt ρ v = -1000000000 - nI (r_ntJ v) ∧ r_ntJ v < 7 := by
  unfold r_nt at h ⊢
  unfold r_ntJ
  by_cases c1 : q_isSheet v = true
  · rw [if_pos c1] at h ⊢
    rw [if_pos c1]
    by_cases c2 : ρ mBits v.toNatClampNeg = 0
    · rw [if_pos c2]; exact ⟨rfl, by decide⟩
    · rw [if_neg c2] at h; exact absurd rfl h
  · rw [if_neg c1, if_neg c1]; exact ⟨rfl, by decide⟩
def r_ntP (ρ : Af) (v : Int32) : Int32 × Af := (r_nt ρ v, r_err ρ (r_ntJ v))
set_option maxRecDepth 100000 in
set_option maxHeartbeats 4000000 in
theorem c_yX7_notThere {k : Nat} {l : Launch} {G : Gm} {α ρ : Af} {v : Int32}  : CI k l G yX7_notThere (Cond.code yX7_notThere cX7_notThere 2 (some .int)) 3 [.ref (gA G idM), .int v] α ρ (PI (r_nt ρ v) α ρ) := by
  refine CI.of [some (.ref (gA G idM)), some (.int v)] (by decide) (Nat.le_of_ble_eq_true rfl) rfl rfl (fun C K => ?_)
  have K : Ok l _ G C RX7 cX7_notThere (some .int) 2 := K
  refine x_iload_n (pc := 0) (i := 1) K dX7_notThere_0 rfl rfl ?_
  refine x_S1i (pc := 1) K (c_yX7_isSheet) mw_yX7_isSheet st_yX7_isSheet mk_X7_257 ⟨Nat.le_of_ble_eq_true rfl, Nat.le_of_ble_eq_true rfl, Nat.le_of_ble_eq_true rfl⟩ dX7_notThere_1 ?_
  refine x_ifne_b (pc := 4) (tgt := 12) K dX7_notThere_4 (by decide) (fun c_4 => ?_) (fun c_4 => ?_)
  · obtain ⟨s, hs4, rfl⟩ := sh_of c_4
    have hcs : (nI s).toNatClampNeg = s := nI_clamp (by omega)
    refine x_aload_n (pc := 12) (i := 0) K dX7_notThere_12 rfl rfl ?_
    refine gf_X7_22 (pc := 13)  K dX7_notThere_13 ?_
    refine x_iload_n (pc := 16) (i := 1) K dX7_notThere_16 rfl rfl ?_
    refine ib_mBits (pc := 17) (s) hs4 rfl K dX7_notThere_17 ?_
    refine x_if_ne (pc := 18) (tgt := 26) K dX7_notThere_18 (by decide) (fun c_18 => ?_) (fun c_18 => ?_)
    · refine x_iconst (pc := 26) (v := 0) K dX7_notThere_26 (by decide) ?_
      exact x_iretI (pc := 27) K dX7_notThere_27 ⟨by simp (decide := true) only [r_nt, c_4 , if_neg c_18, ↓reduceIte, Bool.false_eq_true, bI_t, bI_f, hcs], rfl, rfl⟩
    · refine x_ldc (pc := 21) K kn_X7_195 dX7_notThere_21 ?_
      refine x_goto (pc := 23) (tgt := 27) K dX7_notThere_23 (by decide) ?_
      exact x_iretI (pc := 27) K dX7_notThere_27 ⟨by simp (decide := true) only [r_nt, c_4 , if_pos c_18, ↓reduceIte, Bool.false_eq_true, bI_t, bI_f, hcs], rfl, rfl⟩
  · refine x_ldc (pc := 7) K kn_X7_80 dX7_notThere_7 ?_
    refine x_goto (pc := 9) (tgt := 27) K dX7_notThere_9 (by decide) ?_
    exact x_iretI (pc := 27) K dX7_notThere_27 ⟨by simp (decide := true) only [r_nt, c_4, ↓reduceIte, Bool.false_eq_true, bI_t, bI_f], rfl, rfl⟩

set_option maxRecDepth 100000 in
set_option maxHeartbeats 4000000 in
theorem l_mright {k : Nat} {l : Launch} {G : Gm} {C : Cx} {n m s : Nat} {α ρ : Af} (K : Ok l 5 G C RX7 cX7_rightOf (some .int) 3) (hn : ρ mRow 2 = nI n) (h9 : n ≤ 9) (hs : s < 4) (hm : m ≤ 24) (hme : ρ mSize s = nI m) : ∀ (j i : Nat), i + j = m → ∀ T, r_right ρ s n j i = T → X k l 5 G C (PI (nI T) α ρ) 3 2 [some (.ref (gA G idM)), some (.int (nI s)), some (.int (nI i))] [] α ρ := by
  intro j
  induction j with
  | zero =>
    intro i hi T hT
    refine x_iload_n (pc := 2) (i := 2) K dX7_rightOf_2 rfl rfl ?_
    refine x_aload_n (pc := 3) (i := 0) K dX7_rightOf_3 rfl rfl ?_
    refine gf_X7_25 (pc := 4)  K dX7_rightOf_4 ?_
    refine x_iload_n (pc := 7) (i := 1) K dX7_rightOf_7 rfl rfl ?_
    refine ib_mSize (pc := 8) (s) hs rfl K dX7_rightOf_8 ?_
    refine x_icmp_ge (pc := 9) (tgt := 47) K dX7_rightOf_9 (by decide) (fun c_9 => ?_) (fun c_9 => ?_)
    · refine x_iload_n (pc := 47) (i := 2) K dX7_rightOf_47 rfl rfl ?_
      exact x_iretI (pc := 48) K dX7_rightOf_48 ⟨by rw [← hT]; rfl, rfl, rfl⟩
    · exact absurd (by rw [hme]; exact nI_le (by omega) (by omega)) c_9
  | succ j ih =>
    intro i hi T hT
    refine x_iload_n (pc := 2) (i := 2) K dX7_rightOf_2 rfl rfl ?_
    refine x_aload_n (pc := 3) (i := 0) K dX7_rightOf_3 rfl rfl ?_
    refine gf_X7_25 (pc := 4)  K dX7_rightOf_4 ?_
    refine x_iload_n (pc := 7) (i := 1) K dX7_rightOf_7 rfl rfl ?_
    refine ib_mSize (pc := 8) (s) hs rfl K dX7_rightOf_8 ?_
    refine x_icmp_ge (pc := 9) (tgt := 47) K dX7_rightOf_9 (by decide) (fun c_9 => ?_) (fun c_9 => ?_)
    · exact (nI_ge (a := i) (b := m) (by omega) (by omega) (by rw [hme] at c_9; exact c_9)).elim
    · refine x_iload_n (pc := 12) (i := 2) K dX7_rightOf_12 rfl rfl ?_
      refine x_aload_n (pc := 13) (i := 0) K dX7_rightOf_13 rfl rfl ?_
      refine gf_X7_9 (pc := 14)  K dX7_rightOf_14 ?_
      refine x_iconst (pc := 17) (v := 2) K dX7_rightOf_17 (by decide) ?_
      refine ib_mRow (pc := 18) 2 (by decide) rfl K dX7_rightOf_18 ?_
      refine x_icmp_ge (pc := 19) (tgt := 47) K dX7_rightOf_19 (by decide) (fun c_19 => ?_) (fun c_19 => ?_)
      · refine x_iload_n (pc := 47) (i := 2) K dX7_rightOf_47 rfl rfl ?_
        exact x_iretI (pc := 48) K dX7_rightOf_48 ⟨by rw [← hT]; simp only [r_right]; rw [if_neg (fun h => absurd (by rw [hn] at c_19; exact (nI_leI (a := n) (b := i) (by omega) (by omega)).mp c_19) (by omega))], rfl, rfl⟩
      · have hin : i < n := Nat.lt_of_not_le fun z => c_19 (by rw [hn]; exact nI_le z (by omega))
        refine x_aload_n (pc := 22) (i := 0) K dX7_rightOf_22 rfl rfl ?_
        refine gf_X7_28 (pc := 23)  K dX7_rightOf_23 ?_
        refine x_bipush (pc := 26) (v := 24) K dX7_rightOf_26 (by decide) ?_
        refine x_iload_n (pc := 28) (i := 1) K dX7_rightOf_28 rfl rfl ?_
        refine x_imul (pc := 29) K dX7_rightOf_29 ?_
        refine x_iload_n (pc := 30) (i := 2) K dX7_rightOf_30 rfl rfl ?_
        refine x_iadd (pc := 31) K dX7_rightOf_31 ?_
        refine ib_mCells (pc := 32) (24 * s + i) (by omega) (by show nI 24 * nI s + nI i = _; rw [pk_mul, nI_add]) K dX7_rightOf_32 ?_
        refine x_aload_n (pc := 33) (i := 0) K dX7_rightOf_33 rfl rfl ?_
        refine x_iload_n (pc := 34) (i := 2) K dX7_rightOf_34 rfl rfl ?_
        refine x_V1i (pc := 35) K (c_yX7_bearsOf (u := i) (by omega)) mw_yX7_bearsOf ⟨im_yX7_bearsOf, se_yX7_bearsOf⟩ mk_X7_93 rc_M rfl ⟨Nat.le_of_ble_eq_true rfl, Nat.le_of_ble_eq_true rfl, Nat.le_of_ble_eq_true rfl⟩ dX7_rightOf_35 ?_
        refine x_icmp_ne (pc := 38) (tgt := 47) K dX7_rightOf_38 (by decide) (fun c_38 => ?_) (fun c_38 => ?_)
        · refine x_iload_n (pc := 47) (i := 2) K dX7_rightOf_47 rfl rfl ?_
          exact x_iretI (pc := 48) K dX7_rightOf_48 ⟨by rw [← hT]; simp only [r_right]; rw [if_pos hin, if_neg c_38], rfl, rfl⟩
        · refine x_iinc (pc := 41) (i := 2) (v := nI (i + 1)) K dX7_rightOf_41 rfl (nI_1 _) rfl ?_
          refine x_goto (pc := 44) (tgt := 2) K dX7_rightOf_44 (by decide) ?_
          exact ih (i + 1) (by omega) T (by rw [← hT]; simp only [r_right]; rw [if_pos hin, if_pos c_38])

set_option maxRecDepth 100000 in
set_option maxHeartbeats 4000000 in
theorem c_yX7_rightOf {k : Nat} {l : Launch} {G : Gm} {α ρ : Af} {n m s : Nat} (hn : ρ mRow 2 = nI n) (h9 : n ≤ 9) (hs : s < 4) (hm : m ≤ 24) (hme : ρ mSize s = nI m) : CI k l G yX7_rightOf (Cond.code yX7_rightOf cX7_rightOf 3 (some .int)) 5 [.ref (gA G idM), .int (nI s)] α ρ (PI (nI (r_right ρ s n m 0)) α ρ) := by
  refine CI.of [some (.ref (gA G idM)), some (.int (nI s)), none] (by decide) (Nat.le_of_ble_eq_true rfl) rfl rfl (fun C K => ?_)
  have K : Ok l _ G C RX7 cX7_rightOf (some .int) 3 := K
  refine x_iconst (pc := 0) (v := 0) K dX7_rightOf_0 (by decide) ?_
  refine x_istore_n (pc := 1) (i := 2) K dX7_rightOf_1 rfl rfl (by decide) ?_
  exact l_mright K hn h9 hs hm hme m 0 (by omega) _ rfl

def g_judge (ρ : Af) (v : Int32) : Int32 × Af := if r_nt ρ v = 0 then (nI (r_right ρ v.toNatClampNeg (ρ mRow 2).toNatClampNeg (ρ mSize v.toNatClampNeg).toNatClampNeg 0), ρ) else r_ntP ρ v
set_option maxRecDepth 100000 in
set_option maxHeartbeats 4000000 in
theorem c_yX7_judge {l : Launch} {G : Gm} {α ρ : Af} {v : Int32} (hI : IM ρ) : CI 1 l G yX7_judge (Cond.code yX7_judge cX7_judge 3 (some .int)) 100 [.ref (gA G idM), .int v] α ρ (PI (g_judge ρ v).1 α (g_judge ρ v).2) := by
  obtain ⟨⟨n, h9, hn, hE⟩, hl0, hl1, ⟨t, h60, ht⟩, ⟨w, h24, hw⟩, hSz, ⟨q, hq, hqe⟩⟩ := hI
  refine CI.of [some (.ref (gA G idM)), some (.int v), none] (by decide) (Nat.le_of_ble_eq_true rfl) rfl rfl (fun C K => ?_)
  have K : Ok l _ G C RX7 cX7_judge (some .int) 3 := K
  refine x_aload_n (pc := 0) (i := 0) K dX7_judge_0 rfl rfl ?_
  refine x_iload_n (pc := 1) (i := 1) K dX7_judge_1 rfl rfl ?_
  refine x_V1i (pc := 2) K (c_yX7_notThere) mw_yX7_notThere ⟨im_yX7_notThere, se_yX7_notThere⟩ mk_X7_211 rc_M rfl ⟨Nat.le_of_ble_eq_true rfl, Nat.le_of_ble_eq_true rfl, Nat.le_of_ble_eq_true rfl⟩ dX7_judge_2 ?_
  refine x_istore_n (pc := 5) (i := 2) K dX7_judge_5 rfl rfl (by decide) ?_
  refine x_iload_n (pc := 6) (i := 2) K dX7_judge_6 rfl rfl ?_
  refine x_if_eq (pc := 7) (tgt := 18) K dX7_judge_7 (by decide) (fun c_7 => ?_) (fun c_7 => ?_)
  · obtain ⟨s, hs4, rfl⟩ := sh_of (nt_ok c_7).1
    have hcs : (nI s).toNatClampNeg = s := nI_clamp (by omega)
    obtain ⟨ms, hms, hmes⟩ := hSz s hs4
    have hcn : (ρ mRow 2).toNatClampNeg = n := by rw [hn]; exact nI_clamp (by omega)
    have hcz : (ρ mSize s).toNatClampNeg = ms := by rw [hmes]; exact nI_clamp (by omega)
    refine x_aload_n (pc := 18) (i := 0) K dX7_judge_18 rfl rfl ?_
    refine x_iload_n (pc := 19) (i := 1) K dX7_judge_19 rfl rfl ?_
    refine x_V1i (pc := 20) K (c_yX7_rightOf hn h9 hs4 hms hmes) mw_yX7_rightOf ⟨im_yX7_rightOf, se_yX7_rightOf⟩ mk_X7_214 rc_M rfl ⟨Nat.le_of_ble_eq_true rfl, Nat.le_of_ble_eq_true rfl, Nat.le_of_ble_eq_true rfl⟩ dX7_judge_20 ?_
    exact x_iretI (pc := 23) K dX7_judge_23 ⟨by simp (decide := true) only [g_judge, r_ntP, if_pos c_7, ↓reduceIte, Bool.false_eq_true, bI_t, bI_f, hcs, hcn, hcz], rfl, by simp (decide := true) only [g_judge, r_ntP, if_pos c_7, ↓reduceIte, Bool.false_eq_true, bI_t, bI_f, hcs, hcn, hcz]⟩
  · refine x_aload_n (pc := 10) (i := 0) K dX7_judge_10 rfl rfl ?_
    refine x_iload_n (pc := 11) (i := 2) K dX7_judge_11 rfl rfl ?_
    refine x_V1i (pc := 12) K (c_yX7_error (nt_err c_7).1 (nt_err c_7).2) mw_yX7_error ⟨im_yX7_error, se_yX7_error⟩ mk_X7_81 rc_M rfl ⟨Nat.le_of_ble_eq_true rfl, Nat.le_of_ble_eq_true rfl, Nat.le_of_ble_eq_true rfl⟩ dX7_judge_12 ?_
    refine x_goto (pc := 15) (tgt := 23) K dX7_judge_15 (by decide) ?_
    exact x_iretI (pc := 23) K dX7_judge_23 ⟨by simp (decide := true) only [g_judge, r_ntP, if_neg c_7, ↓reduceIte, Bool.false_eq_true, bI_t, bI_f], rfl, by simp (decide := true) only [g_judge, r_ntP, if_neg c_7, ↓reduceIte, Bool.false_eq_true, bI_t, bI_f]⟩

def r_fi (s n m : Nat) : Nat → Nat → Af → Nat × Af
  | 0, i, r => (i, r)
  | j + 1, i, r => if nI m ≤ nI (r_right r s n m 0) then (i, r) else r_fi s n m j (i + 1) (r_go r n)
set_option maxRecDepth 100000 in
set_option maxHeartbeats 4000000 in
theorem l_fi {l : Launch} {G : Gm} {C : Cx} {P : Po} {n m s : Nat} {z : Int32} {α : Af} (K : Ok l 100 G C RX7 cX7_fits (some .int) 4) (h9 : n ≤ 9) (hs : s < 4) (hm : m ≤ 24) : ∀ (j i : Nat) (r : Af), Kd n r → r mSize s = nI m → i + j = 61 → X 1 l 100 G C (P) 4 52 [some (.ref (gA G idM)), some (.int (nI s)), some (.int z), some (.int (nI (r_fi s n m j i r).1))] [] α (r_fi s n m j i r).2 → X 1 l 100 G C (P) 4 22 [some (.ref (gA G idM)), some (.int (nI s)), some (.int z), some (.int (nI i))] [] α r := by
  intro j
  induction j with
  | zero =>
    intro i r hK hme hi hx
    refine x_iload_n (pc := 22) (i := 3) K dX7_fits_22 rfl rfl ?_
    refine x_bipush (pc := 23) (v := 60) K dX7_fits_23 (by decide) ?_
    refine x_icmp_gt (pc := 25) (tgt := 52) K dX7_fits_25 (by decide) (fun c_25 => ?_) (fun c_25 => ?_)
    · simp only [r_fi] at hx
      exact hx
    · exact absurd (by rw [show i = 61 by omega]; decide) c_25
  | succ j ih =>
    intro i r hK hme hi hx
    refine x_iload_n (pc := 22) (i := 3) K dX7_fits_22 rfl rfl ?_
    refine x_bipush (pc := 23) (v := 60) K dX7_fits_23 (by decide) ?_
    refine x_icmp_gt (pc := 25) (tgt := 52) K dX7_fits_25 (by decide) (fun c_25 => ?_) (fun c_25 => ?_)
    · exact absurd ((nI_ltI (a := 60) (b := i) (by decide) (by omega)).mp c_25) (by omega)
    · refine x_aload_n (pc := 28) (i := 0) K dX7_fits_28 rfl rfl ?_
      refine x_iload_n (pc := 29) (i := 1) K dX7_fits_29 rfl rfl ?_
      refine x_V1i (pc := 30) K (c_yX7_rightOf hK.1 h9 hs hm hme) mw_yX7_rightOf ⟨im_yX7_rightOf, se_yX7_rightOf⟩ mk_X7_214 rc_M rfl ⟨Nat.le_of_ble_eq_true rfl, Nat.le_of_ble_eq_true rfl, Nat.le_of_ble_eq_true rfl⟩ dX7_fits_30 ?_
      refine x_aload_n (pc := 33) (i := 0) K dX7_fits_33 rfl rfl ?_
      refine gf_X7_25 (pc := 34)  K dX7_fits_34 ?_
      refine x_iload_n (pc := 37) (i := 1) K dX7_fits_37 rfl rfl ?_
      refine ib_mSize (pc := 38) (s) hs rfl K dX7_fits_38 ?_
      refine x_topi K (show _ = nI m from hme) ?_
      refine x_icmp_ge (pc := 39) (tgt := 52) K dX7_fits_39 (by decide) (fun c_39 => ?_) (fun c_39 => ?_)
      · simp only [r_fi] at hx
        rw [if_pos c_39] at hx
        exact hx
      · refine x_aload_n (pc := 42) (i := 0) K dX7_fits_42 rfl rfl ?_
        refine x_V0v (pc := 43) K (c_yX7_goes hK.1 h9 hK.2.1) mw_yX7_goes ⟨im_yX7_goes, se_yX7_goes⟩ mk_X7_176 rc_M rfl ⟨Nat.le_of_ble_eq_true rfl, Nat.le_of_ble_eq_true rfl, Nat.le_of_ble_eq_true rfl⟩ dX7_fits_43 ?_
        refine x_iinc (pc := 46) (i := 3) (v := nI (i + 1)) K dX7_fits_46 rfl (nI_1 _) rfl ?_
        refine x_goto (pc := 49) (tgt := 22) K dX7_fits_49 (by decide) ?_
        exact ih (i + 1) _ (hK.go h9) (by rw [r_go_ne (by decide)]; exact hme) (by omega) (by have h2 := hx; simp only [r_fi] at h2; rw [if_neg c_39] at h2; exact h2)

def g_fits (ρ : Af) (v : Int32) : Int32 × Af := if r_nt ρ v = 0 then (if nI (r_fi v.toNatClampNeg (ρ mRow 2).toNatClampNeg (ρ mSize v.toNatClampNeg).toNatClampNeg 61 0 (r_th ρ)).1 ≤ 60 then (nI (r_fi v.toNatClampNeg (ρ mRow 2).toNatClampNeg (ρ mSize v.toNatClampNeg).toNatClampNeg 61 0 (r_th ρ)).1, r_bf (r_fi v.toNatClampNeg (ρ mRow 2).toNatClampNeg (ρ mSize v.toNatClampNeg).toNatClampNeg 61 0 (r_th ρ)).2) else r_errP (r_bf (r_fi v.toNatClampNeg (ρ mRow 2).toNatClampNeg (ρ mSize v.toNatClampNeg).toNatClampNeg 61 0 (r_th ρ)).2) 2) else r_ntP ρ v
set_option maxRecDepth 100000 in
set_option maxHeartbeats 4000000 in
theorem c_yX7_fits {l : Launch} {G : Gm} {α ρ : Af} {v : Int32} (hI : IM ρ) : CI 1 l G yX7_fits (Cond.code yX7_fits cX7_fits 4 (some .int)) 100 [.ref (gA G idM), .int v] α ρ (PI (g_fits ρ v).1 α (g_fits ρ v).2) := by
  obtain ⟨⟨n, h9, hn, hE⟩, hl0, hl1, ⟨t, h60, ht⟩, ⟨w, h24, hw⟩, hSz, ⟨q, hq, hqe⟩⟩ := hI
  refine CI.of [some (.ref (gA G idM)), some (.int v), none, none] (by decide) (Nat.le_of_ble_eq_true rfl) rfl rfl (fun C K => ?_)
  have K : Ok l _ G C RX7 cX7_fits (some .int) 4 := K
  refine x_aload_n (pc := 0) (i := 0) K dX7_fits_0 rfl rfl ?_
  refine x_iload_n (pc := 1) (i := 1) K dX7_fits_1 rfl rfl ?_
  refine x_V1i (pc := 2) K (c_yX7_notThere) mw_yX7_notThere ⟨im_yX7_notThere, se_yX7_notThere⟩ mk_X7_211 rc_M rfl ⟨Nat.le_of_ble_eq_true rfl, Nat.le_of_ble_eq_true rfl, Nat.le_of_ble_eq_true rfl⟩ dX7_fits_2 ?_
  refine x_istore_n (pc := 5) (i := 2) K dX7_fits_5 rfl rfl (by decide) ?_
  refine x_iload_n (pc := 6) (i := 2) K dX7_fits_6 rfl rfl ?_
  refine x_if_eq (pc := 7) (tgt := 16) K dX7_fits_7 (by decide) (fun c_7 => ?_) (fun c_7 => ?_)
  · obtain ⟨s, hs4, rfl⟩ := sh_of (nt_ok c_7).1
    have hcs : (nI s).toNatClampNeg = s := nI_clamp (by omega)
    obtain ⟨ms, hms, hmes⟩ := hSz s hs4
    have hcn : (ρ mRow 2).toNatClampNeg = n := by rw [hn]; exact nI_clamp (by omega)
    have hcz : (ρ mSize s).toNatClampNeg = ms := by rw [hmes]; exact nI_clamp (by omega)
    refine x_aload_n (pc := 16) (i := 0) K dX7_fits_16 rfl rfl ?_
    refine x_V0v (pc := 17) K (c_yX7_thinks) mw_yX7_thinks ⟨im_yX7_thinks, se_yX7_thinks⟩ mk_X7_202 rc_M rfl ⟨Nat.le_of_ble_eq_true rfl, Nat.le_of_ble_eq_true rfl, Nat.le_of_ble_eq_true rfl⟩ dX7_fits_17 ?_
    refine x_st (r := r_th ρ) rfl rfl ?_
    refine x_iconst (pc := 20) (v := 0) K dX7_fits_20 (by decide) ?_
    refine x_istore_n (pc := 21) (i := 3) K dX7_fits_21 rfl rfl (by decide) ?_
    refine l_fi K h9 hs4 hms 61 0 _ (Kd.th ⟨hn, hl0, hE⟩) (by rw [r_th_ne (by decide)]; exact hmes) (by omega) ?_
    refine x_aload_n (pc := 52) (i := 0) K dX7_fits_52 rfl rfl ?_
    refine x_V0v (pc := 53) K (c_yX7_putsBack) mw_yX7_putsBack ⟨im_yX7_putsBack, se_yX7_putsBack⟩ mk_X7_208 rc_M rfl ⟨Nat.le_of_ble_eq_true rfl, Nat.le_of_ble_eq_true rfl, Nat.le_of_ble_eq_true rfl⟩ dX7_fits_53 ?_
    refine x_st (r := r_bf (r_fi s n ms 61 0 (r_th ρ)).2) rfl rfl ?_
    refine x_iload_n (pc := 56) (i := 3) K dX7_fits_56 rfl rfl ?_
    refine x_bipush (pc := 57) (v := 60) K dX7_fits_57 (by decide) ?_
    refine x_icmp_le (pc := 59) (tgt := 71) K dX7_fits_59 (by decide) (fun c_59 => ?_) (fun c_59 => ?_)
    · refine x_iload_n (pc := 71) (i := 3) K dX7_fits_71 rfl rfl ?_
      exact x_iretI (pc := 72) K dX7_fits_72 ⟨by simp (decide := true) only [g_fits, r_ntP, r_errP, if_pos c_7, if_pos c_59, ↓reduceIte, Bool.false_eq_true, bI_t, bI_f, hcs, hcn, hcz], rfl, by simp (decide := true) only [g_fits, r_ntP, r_errP, if_pos c_7, if_pos c_59, ↓reduceIte, Bool.false_eq_true, bI_t, bI_f, hcs, hcn, hcz]⟩
    · refine x_aload_n (pc := 62) (i := 0) K dX7_fits_62 rfl rfl ?_
      refine x_ldc (pc := 63) K kn_X7_195 dX7_fits_63 ?_
      refine x_V1i (pc := 65) K (c_yX7_error (j := 2) (by decide) (by decide)) mw_yX7_error ⟨im_yX7_error, se_yX7_error⟩ mk_X7_81 rc_M rfl ⟨Nat.le_of_ble_eq_true rfl, Nat.le_of_ble_eq_true rfl, Nat.le_of_ble_eq_true rfl⟩ dX7_fits_65 ?_
      refine x_goto (pc := 68) (tgt := 72) K dX7_fits_68 (by decide) ?_
      exact x_iretI (pc := 72) K dX7_fits_72 ⟨by simp (decide := true) only [g_fits, r_ntP, r_errP, if_pos c_7, if_neg c_59, ↓reduceIte, Bool.false_eq_true, bI_t, bI_f, hcs, hcn, hcz], rfl, by simp (decide := true) only [g_fits, r_ntP, r_errP, if_pos c_7, if_neg c_59, ↓reduceIte, Bool.false_eq_true, bI_t, bI_f, hcs, hcn, hcz]⟩
  · refine x_aload_n (pc := 10) (i := 0) K dX7_fits_10 rfl rfl ?_
    refine x_iload_n (pc := 11) (i := 2) K dX7_fits_11 rfl rfl ?_
    refine x_V1i (pc := 12) K (c_yX7_error (nt_err c_7).1 (nt_err c_7).2) mw_yX7_error ⟨im_yX7_error, se_yX7_error⟩ mk_X7_81 rc_M rfl ⟨Nat.le_of_ble_eq_true rfl, Nat.le_of_ble_eq_true rfl, Nat.le_of_ble_eq_true rfl⟩ dX7_fits_12 ?_
    exact x_iretI (pc := 15) K dX7_fits_15 ⟨by simp (decide := true) only [g_fits, r_ntP, r_errP, if_neg c_7, ↓reduceIte, Bool.false_eq_true, bI_t, bI_f], rfl, by simp (decide := true) only [g_fits, r_ntP, r_errP, if_neg c_7, ↓reduceIte, Bool.false_eq_true, bI_t, bI_f]⟩

def r_clr (ρ : Af) (s : Nat) : Nat → Af
  | 0 => ρ
  | i + 1 => up (r_clr ρ s i) mCells (24 * s + i) 0
def r_shS (ρ : Af) (s : Nat) (b z : Int32) : Af := r_clr (up (up ρ mBits s b) mSize s z) s 24
set_option maxRecDepth 100000 in
set_option maxHeartbeats 4000000 in
theorem l_clr {l : Launch} {G : Gm} {C : Cx} {P : Po} {s : Nat} {b n_ : Int32} {α ρ : Af} (K : Ok l 100 G C RX7 cX7_sheet (some .int) 5) (hs : s < 4) : ∀ (j i : Nat), i + j = 24 → X 1 l 100 G C (P) 5 119 [some (.ref (gA G idM)), some (.int (nI s)), some (.int b), some (.int n_), some (.int (nI 24))] [] α (r_clr ρ s 24) → X 1 l 100 G C (P) 5 93 [some (.ref (gA G idM)), some (.int (nI s)), some (.int b), some (.int n_), some (.int (nI i))] [] α (r_clr ρ s i) := by
  intro j
  induction j with
  | zero =>
    intro i hi hx
    refine x_iload (pc := 93) (i := 4) K dX7_sheet_93 rfl ?_
    refine x_bipush (pc := 95) (v := 24) K dX7_sheet_95 (by decide) ?_
    refine x_icmp_ge (pc := 97) (tgt := 119) K dX7_sheet_97 (by decide) (fun c_97 => ?_) (fun c_97 => ?_)
    · obtain rfl : i = 24 := by omega
      exact hx
    · exact absurd (by rw [show i = 24 by omega]; decide) c_97
  | succ j ih =>
    intro i hi hx
    refine x_iload (pc := 93) (i := 4) K dX7_sheet_93 rfl ?_
    refine x_bipush (pc := 95) (v := 24) K dX7_sheet_95 (by decide) ?_
    refine x_icmp_ge (pc := 97) (tgt := 119) K dX7_sheet_97 (by decide) (fun c_97 => ?_) (fun c_97 => ?_)
    · exact absurd ((nI_leI (a := 24) (b := i) (by decide) (by omega)).mp c_97) (by omega)
    · refine x_aload_n (pc := 100) (i := 0) K dX7_sheet_100 rfl rfl ?_
      refine gf_X7_28 (pc := 101)  K dX7_sheet_101 ?_
      refine x_bipush (pc := 104) (v := 24) K dX7_sheet_104 (by decide) ?_
      refine x_iload_n (pc := 106) (i := 1) K dX7_sheet_106 rfl rfl ?_
      refine x_imul (pc := 107) K dX7_sheet_107 ?_
      refine x_iload (pc := 108) (i := 4) K dX7_sheet_108 rfl ?_
      refine x_iadd (pc := 110) K dX7_sheet_110 ?_
      refine x_iconst (pc := 111) (v := 0) K dX7_sheet_111 (by decide) ?_
      refine js_mCells (pc := 112) (24 * s + i) (by omega) (by show nI 24 * nI s + nI i = _; rw [pk_mul, nI_add]) K dX7_sheet_112 ?_
      refine x_iinc (pc := 113) (i := 4) (v := nI (i + 1)) K dX7_sheet_113 rfl (nI_1 _) rfl ?_
      refine x_goto (pc := 116) (tgt := 93) K dX7_sheet_116 (by decide) ?_
      exact ih (i + 1) (by omega) hx

def g_sheet (ρ : Af) (v b n_ : Int32) : Int32 × Af := if q_isSheet v = true then (if q_okBits b = true then (if b ≤ 0 then (1, r_shS ρ v.toNatClampNeg b (if b = 0 then 0 else n_)) else if 0 ≤ n_ then (if n_ ≤ 24 then (1, r_shS ρ v.toNatClampNeg b (if b = 0 then 0 else n_)) else r_errP ρ 1) else r_errP ρ 3) else r_errP ρ 1) else r_errP ρ 1
set_option maxRecDepth 100000 in
set_option maxHeartbeats 4000000 in
theorem c_yX7_sheet {l : Launch} {G : Gm} {α ρ : Af} {v b n_ : Int32} (hI : IM ρ) : CI 1 l G yX7_sheet (Cond.code yX7_sheet cX7_sheet 5 (some .int)) 100 [.ref (gA G idM), .int v, .int b, .int n_] α ρ (PI (g_sheet ρ v b n_).1 α (g_sheet ρ v b n_).2) := by
  obtain ⟨⟨n, h9, hn, hE⟩, hl0, hl1, ⟨t, h60, ht⟩, ⟨w, h24, hw⟩, hSz, ⟨q, hq, hqe⟩⟩ := hI
  refine CI.of [some (.ref (gA G idM)), some (.int v), some (.int b), some (.int n_), none] (by decide) (Nat.le_of_ble_eq_true rfl) rfl rfl (fun C K => ?_)
  have K : Ok l _ G C RX7 cX7_sheet (some .int) 5 := K
  refine x_iload_n (pc := 0) (i := 1) K dX7_sheet_0 rfl rfl ?_
  refine x_S1i (pc := 1) K (c_yX7_isSheet) mw_yX7_isSheet st_yX7_isSheet mk_X7_257 ⟨Nat.le_of_ble_eq_true rfl, Nat.le_of_ble_eq_true rfl, Nat.le_of_ble_eq_true rfl⟩ dX7_sheet_1 ?_
  refine x_ifeq_b (pc := 4) (tgt := 29) K dX7_sheet_4 (by decide) (fun c_4 => ?_) (fun c_4 => ?_)
  · refine x_aload_n (pc := 29) (i := 0) K dX7_sheet_29 rfl rfl ?_
    refine x_ldc (pc := 30) K kn_X7_80 dX7_sheet_30 ?_
    refine x_V1i (pc := 32) K (c_yX7_error (j := 1) (by decide) (by decide)) mw_yX7_error ⟨im_yX7_error, se_yX7_error⟩ mk_X7_81 rc_M rfl ⟨Nat.le_of_ble_eq_true rfl, Nat.le_of_ble_eq_true rfl, Nat.le_of_ble_eq_true rfl⟩ dX7_sheet_32 ?_
    exact x_iretI (pc := 35) K dX7_sheet_35 ⟨by simp (decide := true) only [g_sheet, r_errP, q_okBits, c_4, ↓reduceIte, Bool.false_eq_true, bI_t, bI_f], rfl, by simp (decide := true) only [g_sheet, r_errP, q_okBits, c_4, ↓reduceIte, Bool.false_eq_true, bI_t, bI_f]⟩
  · refine x_iload_n (pc := 7) (i := 2) K dX7_sheet_7 rfl rfl ?_
    refine x_if_eq (pc := 8) (tgt := 36) K dX7_sheet_8 (by decide) (fun c_8 => ?_) (fun c_8 => ?_)
    · refine x_iload_n (pc := 36) (i := 2) K dX7_sheet_36 rfl rfl ?_
      refine x_if_le (pc := 37) (tgt := 51) K dX7_sheet_37 (by decide) (fun c_37 => ?_) (fun c_37 => ?_)
      · refine x_iload_n (pc := 51) (i := 2) K dX7_sheet_51 rfl rfl ?_
        refine x_if_le (pc := 52) (tgt := 68) K dX7_sheet_52 (by decide) (fun c_52 => ?_) (fun c_52 => ?_)
        · obtain ⟨s, hs4, rfl⟩ := sh_of c_4
          have hcs : (nI s).toNatClampNeg = s := nI_clamp (by omega)
          obtain ⟨ms, hms, hmes⟩ := hSz s hs4
          refine x_aload_n (pc := 68) (i := 0) K dX7_sheet_68 rfl rfl ?_
          refine gf_X7_22 (pc := 69)  K dX7_sheet_69 ?_
          refine x_iload_n (pc := 72) (i := 1) K dX7_sheet_72 rfl rfl ?_
          refine x_iload_n (pc := 73) (i := 2) K dX7_sheet_73 rfl rfl ?_
          refine js_mBits (pc := 74) (s) hs4 rfl K dX7_sheet_74 ?_
          refine x_aload_n (pc := 75) (i := 0) K dX7_sheet_75 rfl rfl ?_
          refine gf_X7_25 (pc := 76)  K dX7_sheet_76 ?_
          refine x_iload_n (pc := 79) (i := 1) K dX7_sheet_79 rfl rfl ?_
          refine x_iload_n (pc := 80) (i := 2) K dX7_sheet_80 rfl rfl ?_
          refine x_if_ne (pc := 81) (tgt := 88) K dX7_sheet_81 (by decide) (fun c_81 => ?_) (fun c_81 => ?_)
          · refine x_iload_n (pc := 88) (i := 3) K dX7_sheet_88 rfl rfl ?_
            refine js_mSize (pc := 89) (s) hs4 rfl K dX7_sheet_89 ?_
            refine x_iconst (pc := 90) (v := 0) K dX7_sheet_90 (by decide) ?_
            refine x_istore (pc := 91) (i := 4) K dX7_sheet_91 rfl (by decide) ?_
            refine x_st (r := r_clr (up (up ρ mBits s b) mSize s (if b = 0 then 0 else n_)) s 0) rfl (by rw [if_neg c_81]; rfl) ?_
            refine l_clr K hs4 24 0 (by omega) ?_
            rw [show r_clr (up (up ρ mBits s b) mSize s (if b = 0 then 0 else n_)) s 24 = r_shS ρ s b (if b = 0 then 0 else n_) from rfl]
            refine x_iconst (pc := 119) (v := 1) K dX7_sheet_119 (by decide) ?_
            exact x_iretI (pc := 120) K dX7_sheet_120 ⟨by simp (decide := true) only [g_sheet, r_errP, q_okBits, c_4 , if_pos c_8, if_pos c_37, ↓reduceIte, Bool.false_eq_true, bI_t, bI_f, hcs], rfl, by simp (decide := true) only [g_sheet, r_errP, q_okBits, c_4 , if_pos c_8, if_pos c_37, ↓reduceIte, Bool.false_eq_true, bI_t, bI_f, hcs]⟩
          · refine x_iconst (pc := 84) (v := 0) K dX7_sheet_84 (by decide) ?_
            refine x_goto (pc := 85) (tgt := 89) K dX7_sheet_85 (by decide) ?_
            refine js_mSize (pc := 89) (s) hs4 rfl K dX7_sheet_89 ?_
            refine x_iconst (pc := 90) (v := 0) K dX7_sheet_90 (by decide) ?_
            refine x_istore (pc := 91) (i := 4) K dX7_sheet_91 rfl (by decide) ?_
            refine x_st (r := r_clr (up (up ρ mBits s b) mSize s (if b = 0 then 0 else n_)) s 0) rfl (by rw [if_pos c_81]; rfl) ?_
            refine l_clr K hs4 24 0 (by omega) ?_
            rw [show r_clr (up (up ρ mBits s b) mSize s (if b = 0 then 0 else n_)) s 24 = r_shS ρ s b (if b = 0 then 0 else n_) from rfl]
            refine x_iconst (pc := 119) (v := 1) K dX7_sheet_119 (by decide) ?_
            exact x_iretI (pc := 120) K dX7_sheet_120 ⟨by simp (decide := true) only [g_sheet, r_errP, q_okBits, c_4 , if_pos c_8, if_pos c_37, ↓reduceIte, Bool.false_eq_true, bI_t, bI_f, hcs], rfl, by simp (decide := true) only [g_sheet, r_errP, q_okBits, c_4 , if_pos c_8, if_pos c_37, ↓reduceIte, Bool.false_eq_true, bI_t, bI_f, hcs]⟩
        · exact absurd c_37 c_52
      · refine x_iload_n (pc := 40) (i := 3) K dX7_sheet_40 rfl rfl ?_
        refine x_if_ge (pc := 41) (tgt := 51) K dX7_sheet_41 (by decide) (fun c_41 => ?_) (fun c_41 => ?_)
        · refine x_iload_n (pc := 51) (i := 2) K dX7_sheet_51 rfl rfl ?_
          refine x_if_le (pc := 52) (tgt := 68) K dX7_sheet_52 (by decide) (fun c_52 => ?_) (fun c_52 => ?_)
          · obtain ⟨s, hs4, rfl⟩ := sh_of c_4
            have hcs : (nI s).toNatClampNeg = s := nI_clamp (by omega)
            obtain ⟨ms, hms, hmes⟩ := hSz s hs4
            exact absurd c_52 c_37
          · refine x_iload_n (pc := 55) (i := 3) K dX7_sheet_55 rfl rfl ?_
            refine x_bipush (pc := 56) (v := 24) K dX7_sheet_56 (by decide) ?_
            refine x_icmp_le (pc := 58) (tgt := 68) K dX7_sheet_58 (by decide) (fun c_58 => ?_) (fun c_58 => ?_)
            · obtain ⟨s, hs4, rfl⟩ := sh_of c_4
              have hcs : (nI s).toNatClampNeg = s := nI_clamp (by omega)
              obtain ⟨ms, hms, hmes⟩ := hSz s hs4
              refine x_aload_n (pc := 68) (i := 0) K dX7_sheet_68 rfl rfl ?_
              refine gf_X7_22 (pc := 69)  K dX7_sheet_69 ?_
              refine x_iload_n (pc := 72) (i := 1) K dX7_sheet_72 rfl rfl ?_
              refine x_iload_n (pc := 73) (i := 2) K dX7_sheet_73 rfl rfl ?_
              refine js_mBits (pc := 74) (s) hs4 rfl K dX7_sheet_74 ?_
              refine x_aload_n (pc := 75) (i := 0) K dX7_sheet_75 rfl rfl ?_
              refine gf_X7_25 (pc := 76)  K dX7_sheet_76 ?_
              refine x_iload_n (pc := 79) (i := 1) K dX7_sheet_79 rfl rfl ?_
              refine x_iload_n (pc := 80) (i := 2) K dX7_sheet_80 rfl rfl ?_
              refine x_if_ne (pc := 81) (tgt := 88) K dX7_sheet_81 (by decide) (fun c_81 => ?_) (fun c_81 => ?_)
              · refine x_iload_n (pc := 88) (i := 3) K dX7_sheet_88 rfl rfl ?_
                refine js_mSize (pc := 89) (s) hs4 rfl K dX7_sheet_89 ?_
                refine x_iconst (pc := 90) (v := 0) K dX7_sheet_90 (by decide) ?_
                refine x_istore (pc := 91) (i := 4) K dX7_sheet_91 rfl (by decide) ?_
                refine x_st (r := r_clr (up (up ρ mBits s b) mSize s (if b = 0 then 0 else n_)) s 0) rfl (by rw [if_neg c_81]; rfl) ?_
                refine l_clr K hs4 24 0 (by omega) ?_
                rw [show r_clr (up (up ρ mBits s b) mSize s (if b = 0 then 0 else n_)) s 24 = r_shS ρ s b (if b = 0 then 0 else n_) from rfl]
                refine x_iconst (pc := 119) (v := 1) K dX7_sheet_119 (by decide) ?_
                exact x_iretI (pc := 120) K dX7_sheet_120 ⟨by simp (decide := true) only [g_sheet, r_errP, q_okBits, c_4 , if_pos c_8, if_neg c_37, if_pos c_41, if_pos c_58, ↓reduceIte, Bool.false_eq_true, bI_t, bI_f, hcs], rfl, by simp (decide := true) only [g_sheet, r_errP, q_okBits, c_4 , if_pos c_8, if_neg c_37, if_pos c_41, if_pos c_58, ↓reduceIte, Bool.false_eq_true, bI_t, bI_f, hcs]⟩
              · refine x_iconst (pc := 84) (v := 0) K dX7_sheet_84 (by decide) ?_
                refine x_goto (pc := 85) (tgt := 89) K dX7_sheet_85 (by decide) ?_
                refine js_mSize (pc := 89) (s) hs4 rfl K dX7_sheet_89 ?_
                refine x_iconst (pc := 90) (v := 0) K dX7_sheet_90 (by decide) ?_
                refine x_istore (pc := 91) (i := 4) K dX7_sheet_91 rfl (by decide) ?_
                refine x_st (r := r_clr (up (up ρ mBits s b) mSize s (if b = 0 then 0 else n_)) s 0) rfl (by rw [if_pos c_81]; rfl) ?_
                refine l_clr K hs4 24 0 (by omega) ?_
                rw [show r_clr (up (up ρ mBits s b) mSize s (if b = 0 then 0 else n_)) s 24 = r_shS ρ s b (if b = 0 then 0 else n_) from rfl]
                refine x_iconst (pc := 119) (v := 1) K dX7_sheet_119 (by decide) ?_
                exact x_iretI (pc := 120) K dX7_sheet_120 ⟨by simp (decide := true) only [g_sheet, r_errP, q_okBits, c_4 , if_pos c_8, if_neg c_37, if_pos c_41, if_pos c_58, ↓reduceIte, Bool.false_eq_true, bI_t, bI_f, hcs], rfl, by simp (decide := true) only [g_sheet, r_errP, q_okBits, c_4 , if_pos c_8, if_neg c_37, if_pos c_41, if_pos c_58, ↓reduceIte, Bool.false_eq_true, bI_t, bI_f, hcs]⟩
            · refine x_aload_n (pc := 61) (i := 0) K dX7_sheet_61 rfl rfl ?_
              refine x_ldc (pc := 62) K kn_X7_80 dX7_sheet_62 ?_
              refine x_V1i (pc := 64) K (c_yX7_error (j := 1) (by decide) (by decide)) mw_yX7_error ⟨im_yX7_error, se_yX7_error⟩ mk_X7_81 rc_M rfl ⟨Nat.le_of_ble_eq_true rfl, Nat.le_of_ble_eq_true rfl, Nat.le_of_ble_eq_true rfl⟩ dX7_sheet_64 ?_
              exact x_iretI (pc := 67) K dX7_sheet_67 ⟨by simp (decide := true) only [g_sheet, r_errP, q_okBits, c_4 , if_pos c_8, if_neg c_37, if_pos c_41, if_neg c_58, ↓reduceIte, Bool.false_eq_true, bI_t, bI_f], rfl, by simp (decide := true) only [g_sheet, r_errP, q_okBits, c_4 , if_pos c_8, if_neg c_37, if_pos c_41, if_neg c_58, ↓reduceIte, Bool.false_eq_true, bI_t, bI_f]⟩
        · refine x_aload_n (pc := 44) (i := 0) K dX7_sheet_44 rfl rfl ?_
          refine x_ldc (pc := 45) K kn_X7_103 dX7_sheet_45 ?_
          refine x_V1i (pc := 47) K (c_yX7_error (j := 3) (by decide) (by decide)) mw_yX7_error ⟨im_yX7_error, se_yX7_error⟩ mk_X7_81 rc_M rfl ⟨Nat.le_of_ble_eq_true rfl, Nat.le_of_ble_eq_true rfl, Nat.le_of_ble_eq_true rfl⟩ dX7_sheet_47 ?_
          exact x_iretI (pc := 50) K dX7_sheet_50 ⟨by simp (decide := true) only [g_sheet, r_errP, q_okBits, c_4 , if_pos c_8, if_neg c_37, if_neg c_41, ↓reduceIte, Bool.false_eq_true, bI_t, bI_f], rfl, by simp (decide := true) only [g_sheet, r_errP, q_okBits, c_4 , if_pos c_8, if_neg c_37, if_neg c_41, ↓reduceIte, Bool.false_eq_true, bI_t, bI_f]⟩
    · refine x_iload_n (pc := 11) (i := 2) K dX7_sheet_11 rfl rfl ?_
      refine x_bipush (pc := 12) (v := 8) K dX7_sheet_12 (by decide) ?_
      refine x_icmp_eq (pc := 14) (tgt := 36) K dX7_sheet_14 (by decide) (fun c_14 => ?_) (fun c_14 => ?_)
      · refine x_iload_n (pc := 36) (i := 2) K dX7_sheet_36 rfl rfl ?_
        refine x_if_le (pc := 37) (tgt := 51) K dX7_sheet_37 (by decide) (fun c_37 => ?_) (fun c_37 => ?_)
        · refine x_iload_n (pc := 51) (i := 2) K dX7_sheet_51 rfl rfl ?_
          refine x_if_le (pc := 52) (tgt := 68) K dX7_sheet_52 (by decide) (fun c_52 => ?_) (fun c_52 => ?_)
          · obtain ⟨s, hs4, rfl⟩ := sh_of c_4
            have hcs : (nI s).toNatClampNeg = s := nI_clamp (by omega)
            obtain ⟨ms, hms, hmes⟩ := hSz s hs4
            refine x_aload_n (pc := 68) (i := 0) K dX7_sheet_68 rfl rfl ?_
            refine gf_X7_22 (pc := 69)  K dX7_sheet_69 ?_
            refine x_iload_n (pc := 72) (i := 1) K dX7_sheet_72 rfl rfl ?_
            refine x_iload_n (pc := 73) (i := 2) K dX7_sheet_73 rfl rfl ?_
            refine js_mBits (pc := 74) (s) hs4 rfl K dX7_sheet_74 ?_
            refine x_aload_n (pc := 75) (i := 0) K dX7_sheet_75 rfl rfl ?_
            refine gf_X7_25 (pc := 76)  K dX7_sheet_76 ?_
            refine x_iload_n (pc := 79) (i := 1) K dX7_sheet_79 rfl rfl ?_
            refine x_iload_n (pc := 80) (i := 2) K dX7_sheet_80 rfl rfl ?_
            refine x_if_ne (pc := 81) (tgt := 88) K dX7_sheet_81 (by decide) (fun c_81 => ?_) (fun c_81 => ?_)
            · refine x_iload_n (pc := 88) (i := 3) K dX7_sheet_88 rfl rfl ?_
              refine js_mSize (pc := 89) (s) hs4 rfl K dX7_sheet_89 ?_
              refine x_iconst (pc := 90) (v := 0) K dX7_sheet_90 (by decide) ?_
              refine x_istore (pc := 91) (i := 4) K dX7_sheet_91 rfl (by decide) ?_
              refine x_st (r := r_clr (up (up ρ mBits s b) mSize s (if b = 0 then 0 else n_)) s 0) rfl (by rw [if_neg c_81]; rfl) ?_
              refine l_clr K hs4 24 0 (by omega) ?_
              rw [show r_clr (up (up ρ mBits s b) mSize s (if b = 0 then 0 else n_)) s 24 = r_shS ρ s b (if b = 0 then 0 else n_) from rfl]
              refine x_iconst (pc := 119) (v := 1) K dX7_sheet_119 (by decide) ?_
              exact x_iretI (pc := 120) K dX7_sheet_120 ⟨by simp (decide := true) only [g_sheet, r_errP, q_okBits, c_4 , if_neg c_8, if_pos c_14, if_pos c_37, ↓reduceIte, Bool.false_eq_true, bI_t, bI_f, hcs], rfl, by simp (decide := true) only [g_sheet, r_errP, q_okBits, c_4 , if_neg c_8, if_pos c_14, if_pos c_37, ↓reduceIte, Bool.false_eq_true, bI_t, bI_f, hcs]⟩
            · refine x_iconst (pc := 84) (v := 0) K dX7_sheet_84 (by decide) ?_
              refine x_goto (pc := 85) (tgt := 89) K dX7_sheet_85 (by decide) ?_
              refine js_mSize (pc := 89) (s) hs4 rfl K dX7_sheet_89 ?_
              refine x_iconst (pc := 90) (v := 0) K dX7_sheet_90 (by decide) ?_
              refine x_istore (pc := 91) (i := 4) K dX7_sheet_91 rfl (by decide) ?_
              refine x_st (r := r_clr (up (up ρ mBits s b) mSize s (if b = 0 then 0 else n_)) s 0) rfl (by rw [if_pos c_81]; rfl) ?_
              refine l_clr K hs4 24 0 (by omega) ?_
              rw [show r_clr (up (up ρ mBits s b) mSize s (if b = 0 then 0 else n_)) s 24 = r_shS ρ s b (if b = 0 then 0 else n_) from rfl]
              refine x_iconst (pc := 119) (v := 1) K dX7_sheet_119 (by decide) ?_
              exact x_iretI (pc := 120) K dX7_sheet_120 ⟨by simp (decide := true) only [g_sheet, r_errP, q_okBits, c_4 , if_neg c_8, if_pos c_14, if_pos c_37, ↓reduceIte, Bool.false_eq_true, bI_t, bI_f, hcs], rfl, by simp (decide := true) only [g_sheet, r_errP, q_okBits, c_4 , if_neg c_8, if_pos c_14, if_pos c_37, ↓reduceIte, Bool.false_eq_true, bI_t, bI_f, hcs]⟩
          · exact absurd c_37 c_52
        · refine x_iload_n (pc := 40) (i := 3) K dX7_sheet_40 rfl rfl ?_
          refine x_if_ge (pc := 41) (tgt := 51) K dX7_sheet_41 (by decide) (fun c_41 => ?_) (fun c_41 => ?_)
          · refine x_iload_n (pc := 51) (i := 2) K dX7_sheet_51 rfl rfl ?_
            refine x_if_le (pc := 52) (tgt := 68) K dX7_sheet_52 (by decide) (fun c_52 => ?_) (fun c_52 => ?_)
            · obtain ⟨s, hs4, rfl⟩ := sh_of c_4
              have hcs : (nI s).toNatClampNeg = s := nI_clamp (by omega)
              obtain ⟨ms, hms, hmes⟩ := hSz s hs4
              exact absurd c_52 c_37
            · refine x_iload_n (pc := 55) (i := 3) K dX7_sheet_55 rfl rfl ?_
              refine x_bipush (pc := 56) (v := 24) K dX7_sheet_56 (by decide) ?_
              refine x_icmp_le (pc := 58) (tgt := 68) K dX7_sheet_58 (by decide) (fun c_58 => ?_) (fun c_58 => ?_)
              · obtain ⟨s, hs4, rfl⟩ := sh_of c_4
                have hcs : (nI s).toNatClampNeg = s := nI_clamp (by omega)
                obtain ⟨ms, hms, hmes⟩ := hSz s hs4
                refine x_aload_n (pc := 68) (i := 0) K dX7_sheet_68 rfl rfl ?_
                refine gf_X7_22 (pc := 69)  K dX7_sheet_69 ?_
                refine x_iload_n (pc := 72) (i := 1) K dX7_sheet_72 rfl rfl ?_
                refine x_iload_n (pc := 73) (i := 2) K dX7_sheet_73 rfl rfl ?_
                refine js_mBits (pc := 74) (s) hs4 rfl K dX7_sheet_74 ?_
                refine x_aload_n (pc := 75) (i := 0) K dX7_sheet_75 rfl rfl ?_
                refine gf_X7_25 (pc := 76)  K dX7_sheet_76 ?_
                refine x_iload_n (pc := 79) (i := 1) K dX7_sheet_79 rfl rfl ?_
                refine x_iload_n (pc := 80) (i := 2) K dX7_sheet_80 rfl rfl ?_
                refine x_if_ne (pc := 81) (tgt := 88) K dX7_sheet_81 (by decide) (fun c_81 => ?_) (fun c_81 => ?_)
                · refine x_iload_n (pc := 88) (i := 3) K dX7_sheet_88 rfl rfl ?_
                  refine js_mSize (pc := 89) (s) hs4 rfl K dX7_sheet_89 ?_
                  refine x_iconst (pc := 90) (v := 0) K dX7_sheet_90 (by decide) ?_
                  refine x_istore (pc := 91) (i := 4) K dX7_sheet_91 rfl (by decide) ?_
                  refine x_st (r := r_clr (up (up ρ mBits s b) mSize s (if b = 0 then 0 else n_)) s 0) rfl (by rw [if_neg c_81]; rfl) ?_
                  refine l_clr K hs4 24 0 (by omega) ?_
                  rw [show r_clr (up (up ρ mBits s b) mSize s (if b = 0 then 0 else n_)) s 24 = r_shS ρ s b (if b = 0 then 0 else n_) from rfl]
                  refine x_iconst (pc := 119) (v := 1) K dX7_sheet_119 (by decide) ?_
                  exact x_iretI (pc := 120) K dX7_sheet_120 ⟨by simp (decide := true) only [g_sheet, r_errP, q_okBits, c_4 , if_neg c_8, if_pos c_14, if_neg c_37, if_pos c_41, if_pos c_58, ↓reduceIte, Bool.false_eq_true, bI_t, bI_f, hcs], rfl, by simp (decide := true) only [g_sheet, r_errP, q_okBits, c_4 , if_neg c_8, if_pos c_14, if_neg c_37, if_pos c_41, if_pos c_58, ↓reduceIte, Bool.false_eq_true, bI_t, bI_f, hcs]⟩
                · refine x_iconst (pc := 84) (v := 0) K dX7_sheet_84 (by decide) ?_
                  refine x_goto (pc := 85) (tgt := 89) K dX7_sheet_85 (by decide) ?_
                  refine js_mSize (pc := 89) (s) hs4 rfl K dX7_sheet_89 ?_
                  refine x_iconst (pc := 90) (v := 0) K dX7_sheet_90 (by decide) ?_
                  refine x_istore (pc := 91) (i := 4) K dX7_sheet_91 rfl (by decide) ?_
                  refine x_st (r := r_clr (up (up ρ mBits s b) mSize s (if b = 0 then 0 else n_)) s 0) rfl (by rw [if_pos c_81]; rfl) ?_
                  refine l_clr K hs4 24 0 (by omega) ?_
                  rw [show r_clr (up (up ρ mBits s b) mSize s (if b = 0 then 0 else n_)) s 24 = r_shS ρ s b (if b = 0 then 0 else n_) from rfl]
                  refine x_iconst (pc := 119) (v := 1) K dX7_sheet_119 (by decide) ?_
                  exact x_iretI (pc := 120) K dX7_sheet_120 ⟨by simp (decide := true) only [g_sheet, r_errP, q_okBits, c_4 , if_neg c_8, if_pos c_14, if_neg c_37, if_pos c_41, if_pos c_58, ↓reduceIte, Bool.false_eq_true, bI_t, bI_f, hcs], rfl, by simp (decide := true) only [g_sheet, r_errP, q_okBits, c_4 , if_neg c_8, if_pos c_14, if_neg c_37, if_pos c_41, if_pos c_58, ↓reduceIte, Bool.false_eq_true, bI_t, bI_f, hcs]⟩
              · refine x_aload_n (pc := 61) (i := 0) K dX7_sheet_61 rfl rfl ?_
                refine x_ldc (pc := 62) K kn_X7_80 dX7_sheet_62 ?_
                refine x_V1i (pc := 64) K (c_yX7_error (j := 1) (by decide) (by decide)) mw_yX7_error ⟨im_yX7_error, se_yX7_error⟩ mk_X7_81 rc_M rfl ⟨Nat.le_of_ble_eq_true rfl, Nat.le_of_ble_eq_true rfl, Nat.le_of_ble_eq_true rfl⟩ dX7_sheet_64 ?_
                exact x_iretI (pc := 67) K dX7_sheet_67 ⟨by simp (decide := true) only [g_sheet, r_errP, q_okBits, c_4 , if_neg c_8, if_pos c_14, if_neg c_37, if_pos c_41, if_neg c_58, ↓reduceIte, Bool.false_eq_true, bI_t, bI_f], rfl, by simp (decide := true) only [g_sheet, r_errP, q_okBits, c_4 , if_neg c_8, if_pos c_14, if_neg c_37, if_pos c_41, if_neg c_58, ↓reduceIte, Bool.false_eq_true, bI_t, bI_f]⟩
          · refine x_aload_n (pc := 44) (i := 0) K dX7_sheet_44 rfl rfl ?_
            refine x_ldc (pc := 45) K kn_X7_103 dX7_sheet_45 ?_
            refine x_V1i (pc := 47) K (c_yX7_error (j := 3) (by decide) (by decide)) mw_yX7_error ⟨im_yX7_error, se_yX7_error⟩ mk_X7_81 rc_M rfl ⟨Nat.le_of_ble_eq_true rfl, Nat.le_of_ble_eq_true rfl, Nat.le_of_ble_eq_true rfl⟩ dX7_sheet_47 ?_
            exact x_iretI (pc := 50) K dX7_sheet_50 ⟨by simp (decide := true) only [g_sheet, r_errP, q_okBits, c_4 , if_neg c_8, if_pos c_14, if_neg c_37, if_neg c_41, ↓reduceIte, Bool.false_eq_true, bI_t, bI_f], rfl, by simp (decide := true) only [g_sheet, r_errP, q_okBits, c_4 , if_neg c_8, if_pos c_14, if_neg c_37, if_neg c_41, ↓reduceIte, Bool.false_eq_true, bI_t, bI_f]⟩
      · refine x_iload_n (pc := 17) (i := 2) K dX7_sheet_17 rfl rfl ?_
        refine x_bipush (pc := 18) (v := 16) K dX7_sheet_18 (by decide) ?_
        refine x_icmp_eq (pc := 20) (tgt := 36) K dX7_sheet_20 (by decide) (fun c_20 => ?_) (fun c_20 => ?_)
        · refine x_iload_n (pc := 36) (i := 2) K dX7_sheet_36 rfl rfl ?_
          refine x_if_le (pc := 37) (tgt := 51) K dX7_sheet_37 (by decide) (fun c_37 => ?_) (fun c_37 => ?_)
          · refine x_iload_n (pc := 51) (i := 2) K dX7_sheet_51 rfl rfl ?_
            refine x_if_le (pc := 52) (tgt := 68) K dX7_sheet_52 (by decide) (fun c_52 => ?_) (fun c_52 => ?_)
            · obtain ⟨s, hs4, rfl⟩ := sh_of c_4
              have hcs : (nI s).toNatClampNeg = s := nI_clamp (by omega)
              obtain ⟨ms, hms, hmes⟩ := hSz s hs4
              refine x_aload_n (pc := 68) (i := 0) K dX7_sheet_68 rfl rfl ?_
              refine gf_X7_22 (pc := 69)  K dX7_sheet_69 ?_
              refine x_iload_n (pc := 72) (i := 1) K dX7_sheet_72 rfl rfl ?_
              refine x_iload_n (pc := 73) (i := 2) K dX7_sheet_73 rfl rfl ?_
              refine js_mBits (pc := 74) (s) hs4 rfl K dX7_sheet_74 ?_
              refine x_aload_n (pc := 75) (i := 0) K dX7_sheet_75 rfl rfl ?_
              refine gf_X7_25 (pc := 76)  K dX7_sheet_76 ?_
              refine x_iload_n (pc := 79) (i := 1) K dX7_sheet_79 rfl rfl ?_
              refine x_iload_n (pc := 80) (i := 2) K dX7_sheet_80 rfl rfl ?_
              refine x_if_ne (pc := 81) (tgt := 88) K dX7_sheet_81 (by decide) (fun c_81 => ?_) (fun c_81 => ?_)
              · refine x_iload_n (pc := 88) (i := 3) K dX7_sheet_88 rfl rfl ?_
                refine js_mSize (pc := 89) (s) hs4 rfl K dX7_sheet_89 ?_
                refine x_iconst (pc := 90) (v := 0) K dX7_sheet_90 (by decide) ?_
                refine x_istore (pc := 91) (i := 4) K dX7_sheet_91 rfl (by decide) ?_
                refine x_st (r := r_clr (up (up ρ mBits s b) mSize s (if b = 0 then 0 else n_)) s 0) rfl (by rw [if_neg c_81]; rfl) ?_
                refine l_clr K hs4 24 0 (by omega) ?_
                rw [show r_clr (up (up ρ mBits s b) mSize s (if b = 0 then 0 else n_)) s 24 = r_shS ρ s b (if b = 0 then 0 else n_) from rfl]
                refine x_iconst (pc := 119) (v := 1) K dX7_sheet_119 (by decide) ?_
                exact x_iretI (pc := 120) K dX7_sheet_120 ⟨by simp (decide := true) only [g_sheet, r_errP, q_okBits, c_4 , if_neg c_8, if_neg c_14, if_pos c_20, if_pos c_37, ↓reduceIte, Bool.false_eq_true, bI_t, bI_f, hcs], rfl, by simp (decide := true) only [g_sheet, r_errP, q_okBits, c_4 , if_neg c_8, if_neg c_14, if_pos c_20, if_pos c_37, ↓reduceIte, Bool.false_eq_true, bI_t, bI_f, hcs]⟩
              · refine x_iconst (pc := 84) (v := 0) K dX7_sheet_84 (by decide) ?_
                refine x_goto (pc := 85) (tgt := 89) K dX7_sheet_85 (by decide) ?_
                refine js_mSize (pc := 89) (s) hs4 rfl K dX7_sheet_89 ?_
                refine x_iconst (pc := 90) (v := 0) K dX7_sheet_90 (by decide) ?_
                refine x_istore (pc := 91) (i := 4) K dX7_sheet_91 rfl (by decide) ?_
                refine x_st (r := r_clr (up (up ρ mBits s b) mSize s (if b = 0 then 0 else n_)) s 0) rfl (by rw [if_pos c_81]; rfl) ?_
                refine l_clr K hs4 24 0 (by omega) ?_
                rw [show r_clr (up (up ρ mBits s b) mSize s (if b = 0 then 0 else n_)) s 24 = r_shS ρ s b (if b = 0 then 0 else n_) from rfl]
                refine x_iconst (pc := 119) (v := 1) K dX7_sheet_119 (by decide) ?_
                exact x_iretI (pc := 120) K dX7_sheet_120 ⟨by simp (decide := true) only [g_sheet, r_errP, q_okBits, c_4 , if_neg c_8, if_neg c_14, if_pos c_20, if_pos c_37, ↓reduceIte, Bool.false_eq_true, bI_t, bI_f, hcs], rfl, by simp (decide := true) only [g_sheet, r_errP, q_okBits, c_4 , if_neg c_8, if_neg c_14, if_pos c_20, if_pos c_37, ↓reduceIte, Bool.false_eq_true, bI_t, bI_f, hcs]⟩
            · exact absurd c_37 c_52
          · refine x_iload_n (pc := 40) (i := 3) K dX7_sheet_40 rfl rfl ?_
            refine x_if_ge (pc := 41) (tgt := 51) K dX7_sheet_41 (by decide) (fun c_41 => ?_) (fun c_41 => ?_)
            · refine x_iload_n (pc := 51) (i := 2) K dX7_sheet_51 rfl rfl ?_
              refine x_if_le (pc := 52) (tgt := 68) K dX7_sheet_52 (by decide) (fun c_52 => ?_) (fun c_52 => ?_)
              · obtain ⟨s, hs4, rfl⟩ := sh_of c_4
                have hcs : (nI s).toNatClampNeg = s := nI_clamp (by omega)
                obtain ⟨ms, hms, hmes⟩ := hSz s hs4
                exact absurd c_52 c_37
              · refine x_iload_n (pc := 55) (i := 3) K dX7_sheet_55 rfl rfl ?_
                refine x_bipush (pc := 56) (v := 24) K dX7_sheet_56 (by decide) ?_
                refine x_icmp_le (pc := 58) (tgt := 68) K dX7_sheet_58 (by decide) (fun c_58 => ?_) (fun c_58 => ?_)
                · obtain ⟨s, hs4, rfl⟩ := sh_of c_4
                  have hcs : (nI s).toNatClampNeg = s := nI_clamp (by omega)
                  obtain ⟨ms, hms, hmes⟩ := hSz s hs4
                  refine x_aload_n (pc := 68) (i := 0) K dX7_sheet_68 rfl rfl ?_
                  refine gf_X7_22 (pc := 69)  K dX7_sheet_69 ?_
                  refine x_iload_n (pc := 72) (i := 1) K dX7_sheet_72 rfl rfl ?_
                  refine x_iload_n (pc := 73) (i := 2) K dX7_sheet_73 rfl rfl ?_
                  refine js_mBits (pc := 74) (s) hs4 rfl K dX7_sheet_74 ?_
                  refine x_aload_n (pc := 75) (i := 0) K dX7_sheet_75 rfl rfl ?_
                  refine gf_X7_25 (pc := 76)  K dX7_sheet_76 ?_
                  refine x_iload_n (pc := 79) (i := 1) K dX7_sheet_79 rfl rfl ?_
                  refine x_iload_n (pc := 80) (i := 2) K dX7_sheet_80 rfl rfl ?_
                  refine x_if_ne (pc := 81) (tgt := 88) K dX7_sheet_81 (by decide) (fun c_81 => ?_) (fun c_81 => ?_)
                  · refine x_iload_n (pc := 88) (i := 3) K dX7_sheet_88 rfl rfl ?_
                    refine js_mSize (pc := 89) (s) hs4 rfl K dX7_sheet_89 ?_
                    refine x_iconst (pc := 90) (v := 0) K dX7_sheet_90 (by decide) ?_
                    refine x_istore (pc := 91) (i := 4) K dX7_sheet_91 rfl (by decide) ?_
                    refine x_st (r := r_clr (up (up ρ mBits s b) mSize s (if b = 0 then 0 else n_)) s 0) rfl (by rw [if_neg c_81]; rfl) ?_
                    refine l_clr K hs4 24 0 (by omega) ?_
                    rw [show r_clr (up (up ρ mBits s b) mSize s (if b = 0 then 0 else n_)) s 24 = r_shS ρ s b (if b = 0 then 0 else n_) from rfl]
                    refine x_iconst (pc := 119) (v := 1) K dX7_sheet_119 (by decide) ?_
                    exact x_iretI (pc := 120) K dX7_sheet_120 ⟨by simp (decide := true) only [g_sheet, r_errP, q_okBits, c_4 , if_neg c_8, if_neg c_14, if_pos c_20, if_neg c_37, if_pos c_41, if_pos c_58, ↓reduceIte, Bool.false_eq_true, bI_t, bI_f, hcs], rfl, by simp (decide := true) only [g_sheet, r_errP, q_okBits, c_4 , if_neg c_8, if_neg c_14, if_pos c_20, if_neg c_37, if_pos c_41, if_pos c_58, ↓reduceIte, Bool.false_eq_true, bI_t, bI_f, hcs]⟩
                  · refine x_iconst (pc := 84) (v := 0) K dX7_sheet_84 (by decide) ?_
                    refine x_goto (pc := 85) (tgt := 89) K dX7_sheet_85 (by decide) ?_
                    refine js_mSize (pc := 89) (s) hs4 rfl K dX7_sheet_89 ?_
                    refine x_iconst (pc := 90) (v := 0) K dX7_sheet_90 (by decide) ?_
                    refine x_istore (pc := 91) (i := 4) K dX7_sheet_91 rfl (by decide) ?_
                    refine x_st (r := r_clr (up (up ρ mBits s b) mSize s (if b = 0 then 0 else n_)) s 0) rfl (by rw [if_pos c_81]; rfl) ?_
                    refine l_clr K hs4 24 0 (by omega) ?_
                    rw [show r_clr (up (up ρ mBits s b) mSize s (if b = 0 then 0 else n_)) s 24 = r_shS ρ s b (if b = 0 then 0 else n_) from rfl]
                    refine x_iconst (pc := 119) (v := 1) K dX7_sheet_119 (by decide) ?_
                    exact x_iretI (pc := 120) K dX7_sheet_120 ⟨by simp (decide := true) only [g_sheet, r_errP, q_okBits, c_4 , if_neg c_8, if_neg c_14, if_pos c_20, if_neg c_37, if_pos c_41, if_pos c_58, ↓reduceIte, Bool.false_eq_true, bI_t, bI_f, hcs], rfl, by simp (decide := true) only [g_sheet, r_errP, q_okBits, c_4 , if_neg c_8, if_neg c_14, if_pos c_20, if_neg c_37, if_pos c_41, if_pos c_58, ↓reduceIte, Bool.false_eq_true, bI_t, bI_f, hcs]⟩
                · refine x_aload_n (pc := 61) (i := 0) K dX7_sheet_61 rfl rfl ?_
                  refine x_ldc (pc := 62) K kn_X7_80 dX7_sheet_62 ?_
                  refine x_V1i (pc := 64) K (c_yX7_error (j := 1) (by decide) (by decide)) mw_yX7_error ⟨im_yX7_error, se_yX7_error⟩ mk_X7_81 rc_M rfl ⟨Nat.le_of_ble_eq_true rfl, Nat.le_of_ble_eq_true rfl, Nat.le_of_ble_eq_true rfl⟩ dX7_sheet_64 ?_
                  exact x_iretI (pc := 67) K dX7_sheet_67 ⟨by simp (decide := true) only [g_sheet, r_errP, q_okBits, c_4 , if_neg c_8, if_neg c_14, if_pos c_20, if_neg c_37, if_pos c_41, if_neg c_58, ↓reduceIte, Bool.false_eq_true, bI_t, bI_f], rfl, by simp (decide := true) only [g_sheet, r_errP, q_okBits, c_4 , if_neg c_8, if_neg c_14, if_pos c_20, if_neg c_37, if_pos c_41, if_neg c_58, ↓reduceIte, Bool.false_eq_true, bI_t, bI_f]⟩
            · refine x_aload_n (pc := 44) (i := 0) K dX7_sheet_44 rfl rfl ?_
              refine x_ldc (pc := 45) K kn_X7_103 dX7_sheet_45 ?_
              refine x_V1i (pc := 47) K (c_yX7_error (j := 3) (by decide) (by decide)) mw_yX7_error ⟨im_yX7_error, se_yX7_error⟩ mk_X7_81 rc_M rfl ⟨Nat.le_of_ble_eq_true rfl, Nat.le_of_ble_eq_true rfl, Nat.le_of_ble_eq_true rfl⟩ dX7_sheet_47 ?_
              exact x_iretI (pc := 50) K dX7_sheet_50 ⟨by simp (decide := true) only [g_sheet, r_errP, q_okBits, c_4 , if_neg c_8, if_neg c_14, if_pos c_20, if_neg c_37, if_neg c_41, ↓reduceIte, Bool.false_eq_true, bI_t, bI_f], rfl, by simp (decide := true) only [g_sheet, r_errP, q_okBits, c_4 , if_neg c_8, if_neg c_14, if_pos c_20, if_neg c_37, if_neg c_41, ↓reduceIte, Bool.false_eq_true, bI_t, bI_f]⟩
        · refine x_iload_n (pc := 23) (i := 2) K dX7_sheet_23 rfl rfl ?_
          refine x_bipush (pc := 24) (v := 32) K dX7_sheet_24 (by decide) ?_
          refine x_icmp_eq (pc := 26) (tgt := 36) K dX7_sheet_26 (by decide) (fun c_26 => ?_) (fun c_26 => ?_)
          · refine x_iload_n (pc := 36) (i := 2) K dX7_sheet_36 rfl rfl ?_
            refine x_if_le (pc := 37) (tgt := 51) K dX7_sheet_37 (by decide) (fun c_37 => ?_) (fun c_37 => ?_)
            · refine x_iload_n (pc := 51) (i := 2) K dX7_sheet_51 rfl rfl ?_
              refine x_if_le (pc := 52) (tgt := 68) K dX7_sheet_52 (by decide) (fun c_52 => ?_) (fun c_52 => ?_)
              · obtain ⟨s, hs4, rfl⟩ := sh_of c_4
                have hcs : (nI s).toNatClampNeg = s := nI_clamp (by omega)
                obtain ⟨ms, hms, hmes⟩ := hSz s hs4
                refine x_aload_n (pc := 68) (i := 0) K dX7_sheet_68 rfl rfl ?_
                refine gf_X7_22 (pc := 69)  K dX7_sheet_69 ?_
                refine x_iload_n (pc := 72) (i := 1) K dX7_sheet_72 rfl rfl ?_
                refine x_iload_n (pc := 73) (i := 2) K dX7_sheet_73 rfl rfl ?_
                refine js_mBits (pc := 74) (s) hs4 rfl K dX7_sheet_74 ?_
                refine x_aload_n (pc := 75) (i := 0) K dX7_sheet_75 rfl rfl ?_
                refine gf_X7_25 (pc := 76)  K dX7_sheet_76 ?_
                refine x_iload_n (pc := 79) (i := 1) K dX7_sheet_79 rfl rfl ?_
                refine x_iload_n (pc := 80) (i := 2) K dX7_sheet_80 rfl rfl ?_
                refine x_if_ne (pc := 81) (tgt := 88) K dX7_sheet_81 (by decide) (fun c_81 => ?_) (fun c_81 => ?_)
                · refine x_iload_n (pc := 88) (i := 3) K dX7_sheet_88 rfl rfl ?_
                  refine js_mSize (pc := 89) (s) hs4 rfl K dX7_sheet_89 ?_
                  refine x_iconst (pc := 90) (v := 0) K dX7_sheet_90 (by decide) ?_
                  refine x_istore (pc := 91) (i := 4) K dX7_sheet_91 rfl (by decide) ?_
                  refine x_st (r := r_clr (up (up ρ mBits s b) mSize s (if b = 0 then 0 else n_)) s 0) rfl (by rw [if_neg c_81]; rfl) ?_
                  refine l_clr K hs4 24 0 (by omega) ?_
                  rw [show r_clr (up (up ρ mBits s b) mSize s (if b = 0 then 0 else n_)) s 24 = r_shS ρ s b (if b = 0 then 0 else n_) from rfl]
                  refine x_iconst (pc := 119) (v := 1) K dX7_sheet_119 (by decide) ?_
                  exact x_iretI (pc := 120) K dX7_sheet_120 ⟨by simp (decide := true) only [g_sheet, r_errP, q_okBits, c_4 , if_neg c_8, if_neg c_14, if_neg c_20, if_pos c_26, if_pos c_37, ↓reduceIte, Bool.false_eq_true, bI_t, bI_f, hcs], rfl, by simp (decide := true) only [g_sheet, r_errP, q_okBits, c_4 , if_neg c_8, if_neg c_14, if_neg c_20, if_pos c_26, if_pos c_37, ↓reduceIte, Bool.false_eq_true, bI_t, bI_f, hcs]⟩
                · refine x_iconst (pc := 84) (v := 0) K dX7_sheet_84 (by decide) ?_
                  refine x_goto (pc := 85) (tgt := 89) K dX7_sheet_85 (by decide) ?_
                  refine js_mSize (pc := 89) (s) hs4 rfl K dX7_sheet_89 ?_
                  refine x_iconst (pc := 90) (v := 0) K dX7_sheet_90 (by decide) ?_
                  refine x_istore (pc := 91) (i := 4) K dX7_sheet_91 rfl (by decide) ?_
                  refine x_st (r := r_clr (up (up ρ mBits s b) mSize s (if b = 0 then 0 else n_)) s 0) rfl (by rw [if_pos c_81]; rfl) ?_
                  refine l_clr K hs4 24 0 (by omega) ?_
                  rw [show r_clr (up (up ρ mBits s b) mSize s (if b = 0 then 0 else n_)) s 24 = r_shS ρ s b (if b = 0 then 0 else n_) from rfl]
                  refine x_iconst (pc := 119) (v := 1) K dX7_sheet_119 (by decide) ?_
                  exact x_iretI (pc := 120) K dX7_sheet_120 ⟨by simp (decide := true) only [g_sheet, r_errP, q_okBits, c_4 , if_neg c_8, if_neg c_14, if_neg c_20, if_pos c_26, if_pos c_37, ↓reduceIte, Bool.false_eq_true, bI_t, bI_f, hcs], rfl, by simp (decide := true) only [g_sheet, r_errP, q_okBits, c_4 , if_neg c_8, if_neg c_14, if_neg c_20, if_pos c_26, if_pos c_37, ↓reduceIte, Bool.false_eq_true, bI_t, bI_f, hcs]⟩
              · exact absurd c_37 c_52
            · refine x_iload_n (pc := 40) (i := 3) K dX7_sheet_40 rfl rfl ?_
              refine x_if_ge (pc := 41) (tgt := 51) K dX7_sheet_41 (by decide) (fun c_41 => ?_) (fun c_41 => ?_)
              · refine x_iload_n (pc := 51) (i := 2) K dX7_sheet_51 rfl rfl ?_
                refine x_if_le (pc := 52) (tgt := 68) K dX7_sheet_52 (by decide) (fun c_52 => ?_) (fun c_52 => ?_)
                · obtain ⟨s, hs4, rfl⟩ := sh_of c_4
                  have hcs : (nI s).toNatClampNeg = s := nI_clamp (by omega)
                  obtain ⟨ms, hms, hmes⟩ := hSz s hs4
                  exact absurd c_52 c_37
                · refine x_iload_n (pc := 55) (i := 3) K dX7_sheet_55 rfl rfl ?_
                  refine x_bipush (pc := 56) (v := 24) K dX7_sheet_56 (by decide) ?_
                  refine x_icmp_le (pc := 58) (tgt := 68) K dX7_sheet_58 (by decide) (fun c_58 => ?_) (fun c_58 => ?_)
                  · obtain ⟨s, hs4, rfl⟩ := sh_of c_4
                    have hcs : (nI s).toNatClampNeg = s := nI_clamp (by omega)
                    obtain ⟨ms, hms, hmes⟩ := hSz s hs4
                    refine x_aload_n (pc := 68) (i := 0) K dX7_sheet_68 rfl rfl ?_
                    refine gf_X7_22 (pc := 69)  K dX7_sheet_69 ?_
                    refine x_iload_n (pc := 72) (i := 1) K dX7_sheet_72 rfl rfl ?_
                    refine x_iload_n (pc := 73) (i := 2) K dX7_sheet_73 rfl rfl ?_
                    refine js_mBits (pc := 74) (s) hs4 rfl K dX7_sheet_74 ?_
                    refine x_aload_n (pc := 75) (i := 0) K dX7_sheet_75 rfl rfl ?_
                    refine gf_X7_25 (pc := 76)  K dX7_sheet_76 ?_
                    refine x_iload_n (pc := 79) (i := 1) K dX7_sheet_79 rfl rfl ?_
                    refine x_iload_n (pc := 80) (i := 2) K dX7_sheet_80 rfl rfl ?_
                    refine x_if_ne (pc := 81) (tgt := 88) K dX7_sheet_81 (by decide) (fun c_81 => ?_) (fun c_81 => ?_)
                    · refine x_iload_n (pc := 88) (i := 3) K dX7_sheet_88 rfl rfl ?_
                      refine js_mSize (pc := 89) (s) hs4 rfl K dX7_sheet_89 ?_
                      refine x_iconst (pc := 90) (v := 0) K dX7_sheet_90 (by decide) ?_
                      refine x_istore (pc := 91) (i := 4) K dX7_sheet_91 rfl (by decide) ?_
                      refine x_st (r := r_clr (up (up ρ mBits s b) mSize s (if b = 0 then 0 else n_)) s 0) rfl (by rw [if_neg c_81]; rfl) ?_
                      refine l_clr K hs4 24 0 (by omega) ?_
                      rw [show r_clr (up (up ρ mBits s b) mSize s (if b = 0 then 0 else n_)) s 24 = r_shS ρ s b (if b = 0 then 0 else n_) from rfl]
                      refine x_iconst (pc := 119) (v := 1) K dX7_sheet_119 (by decide) ?_
                      exact x_iretI (pc := 120) K dX7_sheet_120 ⟨by simp (decide := true) only [g_sheet, r_errP, q_okBits, c_4 , if_neg c_8, if_neg c_14, if_neg c_20, if_pos c_26, if_neg c_37, if_pos c_41, if_pos c_58, ↓reduceIte, Bool.false_eq_true, bI_t, bI_f, hcs], rfl, by simp (decide := true) only [g_sheet, r_errP, q_okBits, c_4 , if_neg c_8, if_neg c_14, if_neg c_20, if_pos c_26, if_neg c_37, if_pos c_41, if_pos c_58, ↓reduceIte, Bool.false_eq_true, bI_t, bI_f, hcs]⟩
                    · refine x_iconst (pc := 84) (v := 0) K dX7_sheet_84 (by decide) ?_
                      refine x_goto (pc := 85) (tgt := 89) K dX7_sheet_85 (by decide) ?_
                      refine js_mSize (pc := 89) (s) hs4 rfl K dX7_sheet_89 ?_
                      refine x_iconst (pc := 90) (v := 0) K dX7_sheet_90 (by decide) ?_
                      refine x_istore (pc := 91) (i := 4) K dX7_sheet_91 rfl (by decide) ?_
                      refine x_st (r := r_clr (up (up ρ mBits s b) mSize s (if b = 0 then 0 else n_)) s 0) rfl (by rw [if_pos c_81]; rfl) ?_
                      refine l_clr K hs4 24 0 (by omega) ?_
                      rw [show r_clr (up (up ρ mBits s b) mSize s (if b = 0 then 0 else n_)) s 24 = r_shS ρ s b (if b = 0 then 0 else n_) from rfl]
                      refine x_iconst (pc := 119) (v := 1) K dX7_sheet_119 (by decide) ?_
                      exact x_iretI (pc := 120) K dX7_sheet_120 ⟨by simp (decide := true) only [g_sheet, r_errP, q_okBits, c_4 , if_neg c_8, if_neg c_14, if_neg c_20, if_pos c_26, if_neg c_37, if_pos c_41, if_pos c_58, ↓reduceIte, Bool.false_eq_true, bI_t, bI_f, hcs], rfl, by simp (decide := true) only [g_sheet, r_errP, q_okBits, c_4 , if_neg c_8, if_neg c_14, if_neg c_20, if_pos c_26, if_neg c_37, if_pos c_41, if_pos c_58, ↓reduceIte, Bool.false_eq_true, bI_t, bI_f, hcs]⟩
                  · refine x_aload_n (pc := 61) (i := 0) K dX7_sheet_61 rfl rfl ?_
                    refine x_ldc (pc := 62) K kn_X7_80 dX7_sheet_62 ?_
                    refine x_V1i (pc := 64) K (c_yX7_error (j := 1) (by decide) (by decide)) mw_yX7_error ⟨im_yX7_error, se_yX7_error⟩ mk_X7_81 rc_M rfl ⟨Nat.le_of_ble_eq_true rfl, Nat.le_of_ble_eq_true rfl, Nat.le_of_ble_eq_true rfl⟩ dX7_sheet_64 ?_
                    exact x_iretI (pc := 67) K dX7_sheet_67 ⟨by simp (decide := true) only [g_sheet, r_errP, q_okBits, c_4 , if_neg c_8, if_neg c_14, if_neg c_20, if_pos c_26, if_neg c_37, if_pos c_41, if_neg c_58, ↓reduceIte, Bool.false_eq_true, bI_t, bI_f], rfl, by simp (decide := true) only [g_sheet, r_errP, q_okBits, c_4 , if_neg c_8, if_neg c_14, if_neg c_20, if_pos c_26, if_neg c_37, if_pos c_41, if_neg c_58, ↓reduceIte, Bool.false_eq_true, bI_t, bI_f]⟩
              · refine x_aload_n (pc := 44) (i := 0) K dX7_sheet_44 rfl rfl ?_
                refine x_ldc (pc := 45) K kn_X7_103 dX7_sheet_45 ?_
                refine x_V1i (pc := 47) K (c_yX7_error (j := 3) (by decide) (by decide)) mw_yX7_error ⟨im_yX7_error, se_yX7_error⟩ mk_X7_81 rc_M rfl ⟨Nat.le_of_ble_eq_true rfl, Nat.le_of_ble_eq_true rfl, Nat.le_of_ble_eq_true rfl⟩ dX7_sheet_47 ?_
                exact x_iretI (pc := 50) K dX7_sheet_50 ⟨by simp (decide := true) only [g_sheet, r_errP, q_okBits, c_4 , if_neg c_8, if_neg c_14, if_neg c_20, if_pos c_26, if_neg c_37, if_neg c_41, ↓reduceIte, Bool.false_eq_true, bI_t, bI_f], rfl, by simp (decide := true) only [g_sheet, r_errP, q_okBits, c_4 , if_neg c_8, if_neg c_14, if_neg c_20, if_pos c_26, if_neg c_37, if_neg c_41, ↓reduceIte, Bool.false_eq_true, bI_t, bI_f]⟩
          · refine x_aload_n (pc := 29) (i := 0) K dX7_sheet_29 rfl rfl ?_
            refine x_ldc (pc := 30) K kn_X7_80 dX7_sheet_30 ?_
            refine x_V1i (pc := 32) K (c_yX7_error (j := 1) (by decide) (by decide)) mw_yX7_error ⟨im_yX7_error, se_yX7_error⟩ mk_X7_81 rc_M rfl ⟨Nat.le_of_ble_eq_true rfl, Nat.le_of_ble_eq_true rfl, Nat.le_of_ble_eq_true rfl⟩ dX7_sheet_32 ?_
            exact x_iretI (pc := 35) K dX7_sheet_35 ⟨by simp (decide := true) only [g_sheet, r_errP, q_okBits, c_4 , if_neg c_8, if_neg c_14, if_neg c_20, if_neg c_26, ↓reduceIte, Bool.false_eq_true, bI_t, bI_f], rfl, by simp (decide := true) only [g_sheet, r_errP, q_okBits, c_4 , if_neg c_8, if_neg c_14, if_neg c_20, if_neg c_26, ↓reduceIte, Bool.false_eq_true, bI_t, bI_f]⟩

def g_put (ρ : Af) (v i x : Int32) : Int32 × Af := if r_nt ρ v = 0 then (if q_within i 0 (ρ mSize v.toNatClampNeg - 1) = true then (1, up ρ mCells (24 * v.toNatClampNeg + i.toNatClampNeg) (q_nar (ρ mBits v.toNatClampNeg) x)) else r_errP ρ 1) else r_ntP ρ v
set_option maxRecDepth 100000 in
set_option maxHeartbeats 4000000 in
theorem c_yX7_put {l : Launch} {G : Gm} {α ρ : Af} {v i x : Int32} (hI : IM ρ) : CI 1 l G yX7_put (Cond.code yX7_put cX7_put 5 (some .int)) 100 [.ref (gA G idM), .int v, .int i, .int x] α ρ (PI (g_put ρ v i x).1 α (g_put ρ v i x).2) := by
  obtain ⟨⟨n, h9, hn, hE⟩, hl0, hl1, ⟨t, h60, ht⟩, ⟨w, h24, hw⟩, hSz, ⟨q, hq, hqe⟩⟩ := hI
  refine CI.of [some (.ref (gA G idM)), some (.int v), some (.int i), some (.int x), none] (by decide) (Nat.le_of_ble_eq_true rfl) rfl rfl (fun C K => ?_)
  have K : Ok l _ G C RX7 cX7_put (some .int) 5 := K
  refine x_aload_n (pc := 0) (i := 0) K dX7_put_0 rfl rfl ?_
  refine x_iload_n (pc := 1) (i := 1) K dX7_put_1 rfl rfl ?_
  refine x_V1i (pc := 2) K (c_yX7_notThere) mw_yX7_notThere ⟨im_yX7_notThere, se_yX7_notThere⟩ mk_X7_211 rc_M rfl ⟨Nat.le_of_ble_eq_true rfl, Nat.le_of_ble_eq_true rfl, Nat.le_of_ble_eq_true rfl⟩ dX7_put_2 ?_
  refine x_istore (pc := 5) (i := 4) K dX7_put_5 rfl (by decide) ?_
  refine x_iload (pc := 7) (i := 4) K dX7_put_7 rfl ?_
  refine x_if_ne (pc := 9) (tgt := 33) K dX7_put_9 (by decide) (fun c_9 => ?_) (fun c_9 => ?_)
  · refine x_iload (pc := 33) (i := 4) K dX7_put_33 rfl ?_
    refine x_istore (pc := 35) (i := 4) K dX7_put_35 rfl (by decide) ?_
    refine x_iload (pc := 37) (i := 4) K dX7_put_37 rfl ?_
    refine x_if_eq (pc := 39) (tgt := 49) K dX7_put_39 (by decide) (fun c_39 => ?_) (fun c_39 => ?_)
    · exact absurd c_39 c_9
    · refine x_aload_n (pc := 42) (i := 0) K dX7_put_42 rfl rfl ?_
      refine x_iload (pc := 43) (i := 4) K dX7_put_43 rfl ?_
      refine x_V1i (pc := 45) K (c_yX7_error (nt_err c_9).1 (nt_err c_9).2) mw_yX7_error ⟨im_yX7_error, se_yX7_error⟩ mk_X7_81 rc_M rfl ⟨Nat.le_of_ble_eq_true rfl, Nat.le_of_ble_eq_true rfl, Nat.le_of_ble_eq_true rfl⟩ dX7_put_45 ?_
      exact x_iretI (pc := 48) K dX7_put_48 ⟨by simp (decide := true) only [g_put, r_errP, r_ntP, if_neg c_9, ↓reduceIte, Bool.false_eq_true, bI_t, bI_f], rfl, by simp (decide := true) only [g_put, r_errP, r_ntP, if_neg c_9, ↓reduceIte, Bool.false_eq_true, bI_t, bI_f]⟩
  · obtain ⟨s, hs4, rfl⟩ := sh_of (nt_ok c_9).1
    have hcs : (nI s).toNatClampNeg = s := nI_clamp (by omega)
    obtain ⟨ms, hms, hmes⟩ := hSz s hs4
    refine x_iload_n (pc := 12) (i := 2) K dX7_put_12 rfl rfl ?_
    refine x_iconst (pc := 13) (v := 0) K dX7_put_13 (by decide) ?_
    refine x_aload_n (pc := 14) (i := 0) K dX7_put_14 rfl rfl ?_
    refine gf_X7_25 (pc := 15)  K dX7_put_15 ?_
    refine x_iload_n (pc := 18) (i := 1) K dX7_put_18 rfl rfl ?_
    refine ib_mSize (pc := 19) (s) hs4 rfl K dX7_put_19 ?_
    refine x_iconst (pc := 20) (v := 1) K dX7_put_20 (by decide) ?_
    refine x_isub (pc := 21) K dX7_put_21 ?_
    refine x_S3i (pc := 22) K (c_yX7_in) mw_yX7_in st_yX7_in mk_X7_54 ⟨Nat.le_of_ble_eq_true rfl, Nat.le_of_ble_eq_true rfl, Nat.le_of_ble_eq_true rfl⟩ dX7_put_22 ?_
    refine x_ifne_b (pc := 25) (tgt := 33) K dX7_put_25 (by decide) (fun c_25 => ?_) (fun c_25 => ?_)
    · refine x_iload (pc := 33) (i := 4) K dX7_put_33 rfl ?_
      refine x_istore (pc := 35) (i := 4) K dX7_put_35 rfl (by decide) ?_
      refine x_iload (pc := 37) (i := 4) K dX7_put_37 rfl ?_
      refine x_if_eq (pc := 39) (tgt := 49) K dX7_put_39 (by decide) (fun c_39 => ?_) (fun c_39 => ?_)
      · refine x_aload_n (pc := 49) (i := 0) K dX7_put_49 rfl rfl ?_
        obtain ⟨j, hj, rfl⟩ := hs_of (v := i) (n := ms) (by omega) (by rw [← hmes]; exact c_25)
        have hcj : (nI j).toNatClampNeg = j := nI_clamp (by omega)
        refine gf_X7_28 (pc := 50)  K dX7_put_50 ?_
        refine x_bipush (pc := 53) (v := 24) K dX7_put_53 (by decide) ?_
        refine x_iload_n (pc := 55) (i := 1) K dX7_put_55 rfl rfl ?_
        refine x_imul (pc := 56) K dX7_put_56 ?_
        refine x_iload_n (pc := 57) (i := 2) K dX7_put_57 rfl rfl ?_
        refine x_iadd (pc := 58) K dX7_put_58 ?_
        refine x_aload_n (pc := 59) (i := 0) K dX7_put_59 rfl rfl ?_
        refine gf_X7_22 (pc := 60)  K dX7_put_60 ?_
        refine x_iload_n (pc := 63) (i := 1) K dX7_put_63 rfl rfl ?_
        refine ib_mBits (pc := 64) (s) hs4 rfl K dX7_put_64 ?_
        refine x_bipush (pc := 65) (v := 8) K dX7_put_65 (by decide) ?_
        refine x_icmp_ne (pc := 67) (tgt := 75) K dX7_put_67 (by decide) (fun c_67 => ?_) (fun c_67 => ?_)
        · refine x_aload_n (pc := 75) (i := 0) K dX7_put_75 rfl rfl ?_
          refine gf_X7_22 (pc := 76)  K dX7_put_76 ?_
          refine x_iload_n (pc := 79) (i := 1) K dX7_put_79 rfl rfl ?_
          refine ib_mBits (pc := 80) (s) hs4 rfl K dX7_put_80 ?_
          refine x_bipush (pc := 81) (v := 16) K dX7_put_81 (by decide) ?_
          refine x_icmp_ne (pc := 83) (tgt := 91) K dX7_put_83 (by decide) (fun c_83 => ?_) (fun c_83 => ?_)
          · refine x_iload_n (pc := 91) (i := 3) K dX7_put_91 rfl rfl ?_
            refine x_topi K (show _ = q_nar (ρ mBits s) x from by unfold q_nar; rw [if_neg c_67, if_neg c_83]) ?_
            refine js_mCells (pc := 92) (24 * s + j) (by omega) (by show nI 24 * nI s + nI j = _; rw [pk_mul, nI_add]) K dX7_put_92 ?_
            refine x_iconst (pc := 93) (v := 1) K dX7_put_93 (by decide) ?_
            exact x_iretI (pc := 94) K dX7_put_94 ⟨by simp (decide := true) only [g_put, r_errP, r_ntP, if_pos c_9, c_25 , ↓reduceIte, Bool.false_eq_true, bI_t, bI_f, hcs, hcj], rfl, by simp (decide := true) only [g_put, r_errP, r_ntP, if_pos c_9, c_25 , ↓reduceIte, Bool.false_eq_true, bI_t, bI_f, hcs, hcj]⟩
          · refine x_iload_n (pc := 86) (i := 3) K dX7_put_86 rfl rfl ?_
            refine x_i2s (pc := 87) K dX7_put_87 ?_
            refine x_goto (pc := 88) (tgt := 92) K dX7_put_88 (by decide) ?_
            refine x_topi K (show _ = q_nar (ρ mBits s) x from by unfold q_nar; rw [if_neg c_67, if_pos c_83]) ?_
            refine js_mCells (pc := 92) (24 * s + j) (by omega) (by show nI 24 * nI s + nI j = _; rw [pk_mul, nI_add]) K dX7_put_92 ?_
            refine x_iconst (pc := 93) (v := 1) K dX7_put_93 (by decide) ?_
            exact x_iretI (pc := 94) K dX7_put_94 ⟨by simp (decide := true) only [g_put, r_errP, r_ntP, if_pos c_9, c_25 , ↓reduceIte, Bool.false_eq_true, bI_t, bI_f, hcs, hcj], rfl, by simp (decide := true) only [g_put, r_errP, r_ntP, if_pos c_9, c_25 , ↓reduceIte, Bool.false_eq_true, bI_t, bI_f, hcs, hcj]⟩
        · refine x_iload_n (pc := 70) (i := 3) K dX7_put_70 rfl rfl ?_
          refine x_i2b (pc := 71) K dX7_put_71 ?_
          refine x_goto (pc := 72) (tgt := 92) K dX7_put_72 (by decide) ?_
          refine x_topi K (show _ = q_nar (ρ mBits s) x from by unfold q_nar; rw [if_pos c_67]) ?_
          refine js_mCells (pc := 92) (24 * s + j) (by omega) (by show nI 24 * nI s + nI j = _; rw [pk_mul, nI_add]) K dX7_put_92 ?_
          refine x_iconst (pc := 93) (v := 1) K dX7_put_93 (by decide) ?_
          exact x_iretI (pc := 94) K dX7_put_94 ⟨by simp (decide := true) only [g_put, r_errP, r_ntP, if_pos c_9, c_25 , ↓reduceIte, Bool.false_eq_true, bI_t, bI_f, hcs, hcj], rfl, by simp (decide := true) only [g_put, r_errP, r_ntP, if_pos c_9, c_25 , ↓reduceIte, Bool.false_eq_true, bI_t, bI_f, hcs, hcj]⟩
      · exact absurd c_9 c_39
    · refine x_ldc (pc := 28) K kn_X7_80 dX7_put_28 ?_
      refine x_goto (pc := 30) (tgt := 35) K dX7_put_30 (by decide) ?_
      refine x_istore (pc := 35) (i := 4) K dX7_put_35 rfl (by decide) ?_
      refine x_iload (pc := 37) (i := 4) K dX7_put_37 rfl ?_
      refine x_if_eq (pc := 39) (tgt := 49) K dX7_put_39 (by decide) (fun c_39 => ?_) (fun c_39 => ?_)
      · exact absurd c_39 (by decide)
      · refine x_aload_n (pc := 42) (i := 0) K dX7_put_42 rfl rfl ?_
        refine x_iload (pc := 43) (i := 4) K dX7_put_43 rfl ?_
        refine x_V1i (pc := 45) K (c_yX7_error (j := 1) (by decide) (by decide)) mw_yX7_error ⟨im_yX7_error, se_yX7_error⟩ mk_X7_81 rc_M rfl ⟨Nat.le_of_ble_eq_true rfl, Nat.le_of_ble_eq_true rfl, Nat.le_of_ble_eq_true rfl⟩ dX7_put_45 ?_
        exact x_iretI (pc := 48) K dX7_put_48 ⟨by simp (decide := true) only [g_put, r_errP, r_ntP, if_pos c_9, c_25, ↓reduceIte, Bool.false_eq_true, bI_t, bI_f, hcs], rfl, by simp (decide := true) only [g_put, r_errP, r_ntP, if_pos c_9, c_25, ↓reduceIte, Bool.false_eq_true, bI_t, bI_f, hcs]⟩

def r_mvOk (z1 z2 i j n : Int32) : Bool := if n < 0 then false else if i < 0 then false else if j < 0 then false else if z1 - i < n then false else if z2 - j < n then false else true
def r_nm (ρ : Af) (v i v2 j n_ : Int32) : Int32 := if q_isSheet v = true then (if q_isSheet v2 = true then (if ρ mBits v.toNatClampNeg = 0 then -1000000000 - nI 2 else if ρ mBits v2.toNatClampNeg = 0 then -1000000000 - nI 2 else if ρ mBits v.toNatClampNeg = ρ mBits v2.toNatClampNeg then (if r_mvOk (ρ mSize v.toNatClampNeg) (ρ mSize v2.toNatClampNeg) i j n_ = true then 0 else -1000000000 - nI 1) else -1000000000 - nI 5) else -1000000000 - nI 1) else -1000000000 - nI 1
def r_nmJ (ρ : Af) (v i v2 j n_ : Int32) : Nat := if q_isSheet v = true then (if q_isSheet v2 = true then (if ρ mBits v.toNatClampNeg = 0 then 2 else if ρ mBits v2.toNatClampNeg = 0 then 2 else if ρ mBits v.toNatClampNeg = ρ mBits v2.toNatClampNeg then 1 else 5) else 1) else 1
theorem nm_err {ρ : Af} {v i v2 j n_ : Int32} (h : ¬ r_nm ρ v i v2 j n_ = 0) : r_nm ρ v i v2 j n_ = -1000000000 - nI (r_nmJ ρ v i v2 j n_) ∧ r_nmJ ρ v i v2 j n_ < 7 := by
  unfold r_nm at h ⊢
  unfold r_nmJ
  by_cases c1 : q_isSheet v = true
  · rw [if_pos c1] at h ⊢
    rw [if_pos c1]
    by_cases c2 : q_isSheet v2 = true
    · rw [if_pos c2] at h ⊢
      rw [if_pos c2]
      by_cases c3 : ρ mBits v.toNatClampNeg = 0
      · rw [if_pos c3, if_pos c3]; exact ⟨rfl, by decide⟩
      rw [if_neg c3] at h ⊢
      rw [if_neg c3]
      by_cases c4 : ρ mBits v2.toNatClampNeg = 0
      · rw [if_pos c4, if_pos c4]; exact ⟨rfl, by decide⟩
      rw [if_neg c4] at h ⊢
      rw [if_neg c4]
      by_cases c5 : ρ mBits v.toNatClampNeg = ρ mBits v2.toNatClampNeg
      · rw [if_pos c5] at h ⊢
        rw [if_pos c5]
        by_cases c6 : r_mvOk (ρ mSize v.toNatClampNeg) (ρ mSize v2.toNatClampNeg) i j n_ = true
        · rw [if_pos c6] at h; exact absurd rfl h
        · rw [if_neg c6]; exact ⟨rfl, by decide⟩
      · rw [if_neg c5, if_neg c5]; exact ⟨rfl, by decide⟩
    · rw [if_neg c2, if_neg c2]; exact ⟨rfl, by decide⟩
  · rw [if_neg c1, if_neg c1]; exact ⟨rfl, by decide⟩
theorem nm_ok {ρ : Af} {v i v2 j n_ : Int32} (h : r_nm ρ v i v2 j n_ = 0) : q_isSheet v = true ∧ q_isSheet v2 = true ∧ r_mvOk (ρ mSize v.toNatClampNeg) (ρ mSize v2.toNatClampNeg) i j n_ = true := by
  unfold r_nm at h
  by_cases c1 : q_isSheet v = true
  · rw [if_pos c1] at h
    by_cases c2 : q_isSheet v2 = true
    · rw [if_pos c2] at h
      by_cases c3 : ρ mBits v.toNatClampNeg = 0
      · rw [if_pos c3] at h; exact absurd h (by decide)
      rw [if_neg c3] at h
      by_cases c4 : ρ mBits v2.toNatClampNeg = 0
      · rw [if_pos c4] at h; exact absurd h (by decide)
      rw [if_neg c4] at h
      by_cases c5 : ρ mBits v.toNatClampNeg = ρ mBits v2.toNatClampNeg
      · rw [if_pos c5] at h
        by_cases c6 : r_mvOk (ρ mSize v.toNatClampNeg) (ρ mSize v2.toNatClampNeg) i j n_ = true
        · exact ⟨c1, c2, c6⟩
        · rw [if_neg c6] at h; exact absurd h (by decide)
      · rw [if_neg c5] at h; exact absurd h (by decide)
    · rw [if_neg c2] at h; exact absurd h (by decide)
  · rw [if_neg c1] at h; exact absurd h (by decide)
theorem mvOk_of {z1 z2 : Nat} {i j n : Int32} (h1 : z1 ≤ 24) (h2 : z2 ≤ 24) (h : r_mvOk (nI z1) (nI z2) i j n = true) : ∃ a b m, i = nI a ∧ j = nI b ∧ n = nI m ∧ a + m ≤ z1 ∧ b + m ≤ z2 := by
  unfold r_mvOk at h
  by_cases c1 : n < 0
  · rw [if_pos c1] at h; cases h
  rw [if_neg c1] at h
  by_cases c2 : i < 0
  · rw [if_pos c2] at h; cases h
  rw [if_neg c2] at h
  by_cases c3 : j < 0
  · rw [if_pos c3] at h; cases h
  rw [if_neg c3] at h
  by_cases c4 : nI z1 - i < n
  · rw [if_pos c4] at h; cases h
  rw [if_neg c4] at h
  by_cases c5 : nI z2 - j < n
  · rw [if_pos c5] at h; cases h
  obtain ⟨m, hm, rfl⟩ := nI_of c1
  obtain ⟨a, ha, rfl⟩ := nI_of c2
  obtain ⟨b, hb, rfl⟩ := nI_of c3
  have key : ∀ (z a : Nat), z ≤ 24 → a < 2 ^ 31 → ¬ nI z - nI a < nI m → a + m ≤ z := by
    intro z a hz ha hc
    have e1 : (nI z - nI a).toInt = z - a := by
      rw [Int32.toInt_sub, nI_toInt (by omega), nI_toInt ha]
      rw [Int.bmod_eq_of_le (by omega) (by omega)]
    have e2 : (nI m).toInt = m := nI_toInt hm
    have := mt Int32.lt_iff_toInt_lt.mpr hc
    omega
  exact ⟨a, b, m, rfl, rfl, rfl, key z1 a h1 ha c4, key z2 b h2 hb c5⟩
set_option maxRecDepth 100000 in
set_option maxHeartbeats 4000000 in
theorem c_yX7_notMoved {k : Nat} {l : Launch} {G : Gm} {α ρ : Af} {v i v2 j n_ : Int32}  : CI k l G yX7_notMoved (Cond.code yX7_notMoved cX7_notMoved 7 (some .int)) 3 [.ref (gA G idM), .int v, .int i, .int v2, .int j, .int n_] α ρ (PI (r_nm ρ v i v2 j n_) α ρ) := by
  refine CI.of [some (.ref (gA G idM)), some (.int v), some (.int i), some (.int v2), some (.int j), some (.int n_), none] (by decide) (Nat.le_of_ble_eq_true rfl) rfl rfl (fun C K => ?_)
  have K : Ok l _ G C RX7 cX7_notMoved (some .int) 7 := K
  refine x_iload_n (pc := 0) (i := 1) K dX7_notMoved_0 rfl rfl ?_
  refine x_S1i (pc := 1) K (c_yX7_isSheet) mw_yX7_isSheet st_yX7_isSheet mk_X7_257 ⟨Nat.le_of_ble_eq_true rfl, Nat.le_of_ble_eq_true rfl, Nat.le_of_ble_eq_true rfl⟩ dX7_notMoved_1 ?_
  refine x_ifeq_b (pc := 4) (tgt := 14) K dX7_notMoved_4 (by decide) (fun c_4 => ?_) (fun c_4 => ?_)
  · refine x_ldc (pc := 14) K kn_X7_80 dX7_notMoved_14 ?_
    exact x_iretI (pc := 16) K dX7_notMoved_16 ⟨by simp (decide := true) only [r_nm, r_mvOk, c_4, ↓reduceIte, Bool.false_eq_true, bI_t, bI_f], rfl, rfl⟩
  · refine x_iload_n (pc := 7) (i := 3) K dX7_notMoved_7 rfl rfl ?_
    refine x_S1i (pc := 8) K (c_yX7_isSheet) mw_yX7_isSheet st_yX7_isSheet mk_X7_257 ⟨Nat.le_of_ble_eq_true rfl, Nat.le_of_ble_eq_true rfl, Nat.le_of_ble_eq_true rfl⟩ dX7_notMoved_8 ?_
    refine x_ifne_b (pc := 11) (tgt := 17) K dX7_notMoved_11 (by decide) (fun c_11 => ?_) (fun c_11 => ?_)
    · obtain ⟨s, hs4, rfl⟩ := sh_of c_4
      obtain ⟨s2, hs24, rfl⟩ := sh_of c_11
      have hcs : (nI s).toNatClampNeg = s := nI_clamp (by omega)
      have hcs2 : (nI s2).toNatClampNeg = s2 := nI_clamp (by omega)
      refine x_aload_n (pc := 17) (i := 0) K dX7_notMoved_17 rfl rfl ?_
      refine gf_X7_22 (pc := 18)  K dX7_notMoved_18 ?_
      refine x_iload_n (pc := 21) (i := 1) K dX7_notMoved_21 rfl rfl ?_
      refine ib_mBits (pc := 22) (s) hs4 rfl K dX7_notMoved_22 ?_
      refine x_if_eq (pc := 23) (tgt := 35) K dX7_notMoved_23 (by decide) (fun c_23 => ?_) (fun c_23 => ?_)
      · refine x_ldc (pc := 35) K kn_X7_195 dX7_notMoved_35 ?_
        exact x_iretI (pc := 37) K dX7_notMoved_37 ⟨by simp (decide := true) only [r_nm, r_mvOk, c_4 , c_11 , if_pos c_23, ↓reduceIte, Bool.false_eq_true, bI_t, bI_f, hcs, hcs2], rfl, rfl⟩
      · refine x_aload_n (pc := 26) (i := 0) K dX7_notMoved_26 rfl rfl ?_
        refine gf_X7_22 (pc := 27)  K dX7_notMoved_27 ?_
        refine x_iload_n (pc := 30) (i := 3) K dX7_notMoved_30 rfl rfl ?_
        refine ib_mBits (pc := 31) (s2) hs24 rfl K dX7_notMoved_31 ?_
        refine x_if_ne (pc := 32) (tgt := 38) K dX7_notMoved_32 (by decide) (fun c_32 => ?_) (fun c_32 => ?_)
        · refine x_aload_n (pc := 38) (i := 0) K dX7_notMoved_38 rfl rfl ?_
          refine gf_X7_22 (pc := 39)  K dX7_notMoved_39 ?_
          refine x_iload_n (pc := 42) (i := 1) K dX7_notMoved_42 rfl rfl ?_
          refine ib_mBits (pc := 43) (s) hs4 rfl K dX7_notMoved_43 ?_
          refine x_aload_n (pc := 44) (i := 0) K dX7_notMoved_44 rfl rfl ?_
          refine gf_X7_22 (pc := 45)  K dX7_notMoved_45 ?_
          refine x_iload_n (pc := 48) (i := 3) K dX7_notMoved_48 rfl rfl ?_
          refine ib_mBits (pc := 49) (s2) hs24 rfl K dX7_notMoved_49 ?_
          refine x_icmp_eq (pc := 50) (tgt := 56) K dX7_notMoved_50 (by decide) (fun c_50 => ?_) (fun c_50 => ?_)
          · refine x_iload (pc := 56) (i := 5) K dX7_notMoved_56 rfl ?_
            refine x_if_lt (pc := 58) (tgt := 101) K dX7_notMoved_58 (by decide) (fun c_58 => ?_) (fun c_58 => ?_)
            · refine x_iconst (pc := 101) (v := 0) K dX7_notMoved_101 (by decide) ?_
              refine x_istore (pc := 102) (i := 6) K dX7_notMoved_102 rfl (by decide) ?_
              refine x_iload (pc := 104) (i := 6) K dX7_notMoved_104 rfl ?_
              refine x_if_eq (pc := 106) (tgt := 113) K dX7_notMoved_106 (by decide) (fun c_106 => ?_) (fun c_106 => ?_)
              · refine x_ldc (pc := 113) K kn_X7_80 dX7_notMoved_113 ?_
                exact x_iretI (pc := 115) K dX7_notMoved_115 ⟨by simp (decide := true) only [r_nm, r_mvOk, c_4 , c_11 , if_neg c_23, if_neg c_32, if_pos c_50, if_pos c_58, ↓reduceIte, Bool.false_eq_true, bI_t, bI_f, hcs, hcs2], rfl, rfl⟩
              · exact absurd c_106 (by decide)
            · refine x_iload_n (pc := 61) (i := 2) K dX7_notMoved_61 rfl rfl ?_
              refine x_if_lt (pc := 62) (tgt := 101) K dX7_notMoved_62 (by decide) (fun c_62 => ?_) (fun c_62 => ?_)
              · refine x_iconst (pc := 101) (v := 0) K dX7_notMoved_101 (by decide) ?_
                refine x_istore (pc := 102) (i := 6) K dX7_notMoved_102 rfl (by decide) ?_
                refine x_iload (pc := 104) (i := 6) K dX7_notMoved_104 rfl ?_
                refine x_if_eq (pc := 106) (tgt := 113) K dX7_notMoved_106 (by decide) (fun c_106 => ?_) (fun c_106 => ?_)
                · refine x_ldc (pc := 113) K kn_X7_80 dX7_notMoved_113 ?_
                  exact x_iretI (pc := 115) K dX7_notMoved_115 ⟨by simp (decide := true) only [r_nm, r_mvOk, c_4 , c_11 , if_neg c_23, if_neg c_32, if_pos c_50, if_neg c_58, if_pos c_62, ↓reduceIte, Bool.false_eq_true, bI_t, bI_f, hcs, hcs2], rfl, rfl⟩
                · exact absurd c_106 (by decide)
              · refine x_iload (pc := 65) (i := 4) K dX7_notMoved_65 rfl ?_
                refine x_if_lt (pc := 67) (tgt := 101) K dX7_notMoved_67 (by decide) (fun c_67 => ?_) (fun c_67 => ?_)
                · refine x_iconst (pc := 101) (v := 0) K dX7_notMoved_101 (by decide) ?_
                  refine x_istore (pc := 102) (i := 6) K dX7_notMoved_102 rfl (by decide) ?_
                  refine x_iload (pc := 104) (i := 6) K dX7_notMoved_104 rfl ?_
                  refine x_if_eq (pc := 106) (tgt := 113) K dX7_notMoved_106 (by decide) (fun c_106 => ?_) (fun c_106 => ?_)
                  · refine x_ldc (pc := 113) K kn_X7_80 dX7_notMoved_113 ?_
                    exact x_iretI (pc := 115) K dX7_notMoved_115 ⟨by simp (decide := true) only [r_nm, r_mvOk, c_4 , c_11 , if_neg c_23, if_neg c_32, if_pos c_50, if_neg c_58, if_neg c_62, if_pos c_67, ↓reduceIte, Bool.false_eq_true, bI_t, bI_f, hcs, hcs2], rfl, rfl⟩
                  · exact absurd c_106 (by decide)
                · refine x_iload (pc := 70) (i := 5) K dX7_notMoved_70 rfl ?_
                  refine x_aload_n (pc := 72) (i := 0) K dX7_notMoved_72 rfl rfl ?_
                  refine gf_X7_25 (pc := 73)  K dX7_notMoved_73 ?_
                  refine x_iload_n (pc := 76) (i := 1) K dX7_notMoved_76 rfl rfl ?_
                  refine ib_mSize (pc := 77) (s) hs4 rfl K dX7_notMoved_77 ?_
                  refine x_iload_n (pc := 78) (i := 2) K dX7_notMoved_78 rfl rfl ?_
                  refine x_isub (pc := 79) K dX7_notMoved_79 ?_
                  refine x_icmp_gt (pc := 80) (tgt := 101) K dX7_notMoved_80 (by decide) (fun c_80 => ?_) (fun c_80 => ?_)
                  · refine x_iconst (pc := 101) (v := 0) K dX7_notMoved_101 (by decide) ?_
                    refine x_istore (pc := 102) (i := 6) K dX7_notMoved_102 rfl (by decide) ?_
                    refine x_iload (pc := 104) (i := 6) K dX7_notMoved_104 rfl ?_
                    refine x_if_eq (pc := 106) (tgt := 113) K dX7_notMoved_106 (by decide) (fun c_106 => ?_) (fun c_106 => ?_)
                    · refine x_ldc (pc := 113) K kn_X7_80 dX7_notMoved_113 ?_
                      exact x_iretI (pc := 115) K dX7_notMoved_115 ⟨by simp (decide := true) only [r_nm, r_mvOk, c_4 , c_11 , if_neg c_23, if_neg c_32, if_pos c_50, if_neg c_58, if_neg c_62, if_neg c_67, if_pos c_80, ↓reduceIte, Bool.false_eq_true, bI_t, bI_f, hcs, hcs2], rfl, rfl⟩
                    · exact absurd c_106 (by decide)
                  · refine x_iload (pc := 83) (i := 5) K dX7_notMoved_83 rfl ?_
                    refine x_aload_n (pc := 85) (i := 0) K dX7_notMoved_85 rfl rfl ?_
                    refine gf_X7_25 (pc := 86)  K dX7_notMoved_86 ?_
                    refine x_iload_n (pc := 89) (i := 3) K dX7_notMoved_89 rfl rfl ?_
                    refine ib_mSize (pc := 90) (s2) hs24 rfl K dX7_notMoved_90 ?_
                    refine x_iload (pc := 91) (i := 4) K dX7_notMoved_91 rfl ?_
                    refine x_isub (pc := 93) K dX7_notMoved_93 ?_
                    refine x_icmp_gt (pc := 94) (tgt := 101) K dX7_notMoved_94 (by decide) (fun c_94 => ?_) (fun c_94 => ?_)
                    · refine x_iconst (pc := 101) (v := 0) K dX7_notMoved_101 (by decide) ?_
                      refine x_istore (pc := 102) (i := 6) K dX7_notMoved_102 rfl (by decide) ?_
                      refine x_iload (pc := 104) (i := 6) K dX7_notMoved_104 rfl ?_
                      refine x_if_eq (pc := 106) (tgt := 113) K dX7_notMoved_106 (by decide) (fun c_106 => ?_) (fun c_106 => ?_)
                      · refine x_ldc (pc := 113) K kn_X7_80 dX7_notMoved_113 ?_
                        exact x_iretI (pc := 115) K dX7_notMoved_115 ⟨by simp (decide := true) only [r_nm, r_mvOk, c_4 , c_11 , if_neg c_23, if_neg c_32, if_pos c_50, if_neg c_58, if_neg c_62, if_neg c_67, if_neg c_80, if_pos c_94, ↓reduceIte, Bool.false_eq_true, bI_t, bI_f, hcs, hcs2], rfl, rfl⟩
                      · exact absurd c_106 (by decide)
                    · refine x_iconst (pc := 97) (v := 1) K dX7_notMoved_97 (by decide) ?_
                      refine x_goto (pc := 98) (tgt := 102) K dX7_notMoved_98 (by decide) ?_
                      refine x_istore (pc := 102) (i := 6) K dX7_notMoved_102 rfl (by decide) ?_
                      refine x_iload (pc := 104) (i := 6) K dX7_notMoved_104 rfl ?_
                      refine x_if_eq (pc := 106) (tgt := 113) K dX7_notMoved_106 (by decide) (fun c_106 => ?_) (fun c_106 => ?_)
                      · exact absurd c_106 (by decide)
                      · refine x_iconst (pc := 109) (v := 0) K dX7_notMoved_109 (by decide) ?_
                        refine x_goto (pc := 110) (tgt := 115) K dX7_notMoved_110 (by decide) ?_
                        exact x_iretI (pc := 115) K dX7_notMoved_115 ⟨by simp (decide := true) only [r_nm, r_mvOk, c_4 , c_11 , if_neg c_23, if_neg c_32, if_pos c_50, if_neg c_58, if_neg c_62, if_neg c_67, if_neg c_80, if_neg c_94, ↓reduceIte, Bool.false_eq_true, bI_t, bI_f, hcs, hcs2], rfl, rfl⟩
          · refine x_ldc (pc := 53) K kn_X7_102 dX7_notMoved_53 ?_
            exact x_iretI (pc := 55) K dX7_notMoved_55 ⟨by simp (decide := true) only [r_nm, r_mvOk, c_4 , c_11 , if_neg c_23, if_neg c_32, if_neg c_50, ↓reduceIte, Bool.false_eq_true, bI_t, bI_f, hcs, hcs2], rfl, rfl⟩
        · refine x_ldc (pc := 35) K kn_X7_195 dX7_notMoved_35 ?_
          exact x_iretI (pc := 37) K dX7_notMoved_37 ⟨by simp (decide := true) only [r_nm, r_mvOk, c_4 , c_11 , if_neg c_23, if_pos c_32, ↓reduceIte, Bool.false_eq_true, bI_t, bI_f, hcs, hcs2], rfl, rfl⟩
    · refine x_ldc (pc := 14) K kn_X7_80 dX7_notMoved_14 ?_
      exact x_iretI (pc := 16) K dX7_notMoved_16 ⟨by simp (decide := true) only [r_nm, r_mvOk, c_4 , c_11, ↓reduceIte, Bool.false_eq_true, bI_t, bI_f], rfl, rfl⟩

def r_mvO (i j n k : Nat) : Nat := if j ≤ i then k else n - 1 - k
def r_mvL (ρ : Af) (s i s2 j n : Nat) : Nat → Af
  | 0 => ρ
  | k + 1 => up (r_mvL ρ s i s2 j n k) mCells (24 * s2 + j + r_mvO i j n k) (r_mvL ρ s i s2 j n k mCells (24 * s + i + r_mvO i j n k))
set_option maxRecDepth 100000 in
set_option maxHeartbeats 4000000 in
theorem l_mv {l : Launch} {G : Gm} {C : Cx} {P : Po} {s i s2 j n : Nat} {z : Int32} {α ρ : Af} (K : Ok l 100 G C RX7 cX7_move (some .int) 9) (hs : s < 4) (hs2 : s2 < 4) (hi : i + n ≤ 24) (hj : j + n ≤ 24) : ∀ (t k : Nat) (y : Option Value), k + t = n → (∀ y, X 1 l 100 G C (P) 9 90 [some (.ref (gA G idM)), some (.int (nI s)), some (.int (nI i)), some (.int (nI s2)), some (.int (nI j)), some (.int (nI n)), some (.int z), some (.int (nI n)), y] [] α (r_mvL ρ s i s2 j n n)) → X 1 l 100 G C (P) 9 28 [some (.ref (gA G idM)), some (.int (nI s)), some (.int (nI i)), some (.int (nI s2)), some (.int (nI j)), some (.int (nI n)), some (.int z), some (.int (nI k)), y] [] α (r_mvL ρ s i s2 j n k) := by
  intro t
  induction t with
  | zero =>
    intro k y hi2 hx
    refine x_iload (pc := 28) (i := 7) K dX7_move_28 rfl ?_
    refine x_iload (pc := 30) (i := 5) K dX7_move_30 rfl ?_
    refine x_icmp_ge (pc := 32) (tgt := 90) K dX7_move_32 (by decide) (fun c_32 => ?_) (fun c_32 => ?_)
    · obtain rfl : k = n := by omega
      exact hx y
    · exact absurd (nI_le (by omega) (by omega)) c_32
  | succ t ih =>
    intro k y hi2 hx
    refine x_iload (pc := 28) (i := 7) K dX7_move_28 rfl ?_
    refine x_iload (pc := 30) (i := 5) K dX7_move_30 rfl ?_
    refine x_icmp_ge (pc := 32) (tgt := 90) K dX7_move_32 (by decide) (fun c_32 => ?_) (fun c_32 => ?_)
    · exact (nI_ge (a := k) (b := n) (by omega) (by omega) c_32).elim
    · refine x_iload_n (pc := 35) (i := 2) K dX7_move_35 rfl rfl ?_
      refine x_iload (pc := 36) (i := 4) K dX7_move_36 rfl ?_
      refine x_icmp_ge (pc := 38) (tgt := 51) K dX7_move_38 (by decide) (fun c_38 => ?_) (fun c_38 => ?_)
      · refine x_iload (pc := 51) (i := 7) K dX7_move_51 rfl ?_
        have hO : r_mvO i j n k = k := by unfold r_mvO; rw [if_pos ((nI_leI (a := j) (b := i) (by omega) (by omega)).mp c_38)]
        refine x_topi K (show _ = nI (r_mvO i j n k) from by rw [hO]) ?_
        have hOb : r_mvO i j n k < n := by rw [hO]; omega
        refine x_istore (pc := 53) (i := 8) K dX7_move_53 rfl (by decide) ?_
        refine x_aload_n (pc := 55) (i := 0) K dX7_move_55 rfl rfl ?_
        refine gf_X7_28 (pc := 56)  K dX7_move_56 ?_
        refine x_bipush (pc := 59) (v := 24) K dX7_move_59 (by decide) ?_
        refine x_iload_n (pc := 61) (i := 3) K dX7_move_61 rfl rfl ?_
        refine x_imul (pc := 62) K dX7_move_62 ?_
        refine x_iload (pc := 63) (i := 4) K dX7_move_63 rfl ?_
        refine x_iadd (pc := 65) K dX7_move_65 ?_
        refine x_iload (pc := 66) (i := 8) K dX7_move_66 rfl ?_
        refine x_iadd (pc := 68) K dX7_move_68 ?_
        refine x_aload_n (pc := 69) (i := 0) K dX7_move_69 rfl rfl ?_
        refine gf_X7_28 (pc := 70)  K dX7_move_70 ?_
        refine x_bipush (pc := 73) (v := 24) K dX7_move_73 (by decide) ?_
        refine x_iload_n (pc := 75) (i := 1) K dX7_move_75 rfl rfl ?_
        refine x_imul (pc := 76) K dX7_move_76 ?_
        refine x_iload_n (pc := 77) (i := 2) K dX7_move_77 rfl rfl ?_
        refine x_iadd (pc := 78) K dX7_move_78 ?_
        refine x_iload (pc := 79) (i := 8) K dX7_move_79 rfl ?_
        refine x_iadd (pc := 81) K dX7_move_81 ?_
        refine ib_mCells (pc := 82) (24 * s + i + r_mvO i j n k) (by have := hOb; omega) (by show nI 24 * nI s + nI i + nI (r_mvO i j n k) = _; rw [pk_mul, nI_add, nI_add]) K dX7_move_82 ?_
        refine js_mCells (pc := 83) (24 * s2 + j + r_mvO i j n k) (by have := hOb; omega) (by show nI 24 * nI s2 + nI j + nI (r_mvO i j n k) = _; rw [pk_mul, nI_add, nI_add]) K dX7_move_83 ?_
        refine x_iinc (pc := 84) (i := 7) (v := nI (k + 1)) K dX7_move_84 rfl (nI_1 _) rfl ?_
        refine x_goto (pc := 87) (tgt := 28) K dX7_move_87 (by decide) ?_
        exact ih (k + 1) _ (by omega) hx
      · refine x_iload (pc := 41) (i := 5) K dX7_move_41 rfl ?_
        refine x_iconst (pc := 43) (v := 1) K dX7_move_43 (by decide) ?_
        refine x_isub (pc := 44) K dX7_move_44 ?_
        refine x_iload (pc := 45) (i := 7) K dX7_move_45 rfl ?_
        refine x_isub (pc := 47) K dX7_move_47 ?_
        refine x_goto (pc := 48) (tgt := 53) K dX7_move_48 (by decide) ?_
        have hO : r_mvO i j n k = n - 1 - k := by unfold r_mvO; rw [if_neg (fun h => c_38 (nI_le h (by omega)))]
        refine x_topi K (show _ = nI (r_mvO i j n k) from by rw [hO]; show nI n - nI 1 - nI k = _; rw [pk_sub (a := n) (b := 1) (by omega), pk_sub (a := n - 1) (b := k) (by omega)]) ?_
        have hOb : r_mvO i j n k < n := by rw [hO]; omega
        refine x_istore (pc := 53) (i := 8) K dX7_move_53 rfl (by decide) ?_
        refine x_aload_n (pc := 55) (i := 0) K dX7_move_55 rfl rfl ?_
        refine gf_X7_28 (pc := 56)  K dX7_move_56 ?_
        refine x_bipush (pc := 59) (v := 24) K dX7_move_59 (by decide) ?_
        refine x_iload_n (pc := 61) (i := 3) K dX7_move_61 rfl rfl ?_
        refine x_imul (pc := 62) K dX7_move_62 ?_
        refine x_iload (pc := 63) (i := 4) K dX7_move_63 rfl ?_
        refine x_iadd (pc := 65) K dX7_move_65 ?_
        refine x_iload (pc := 66) (i := 8) K dX7_move_66 rfl ?_
        refine x_iadd (pc := 68) K dX7_move_68 ?_
        refine x_aload_n (pc := 69) (i := 0) K dX7_move_69 rfl rfl ?_
        refine gf_X7_28 (pc := 70)  K dX7_move_70 ?_
        refine x_bipush (pc := 73) (v := 24) K dX7_move_73 (by decide) ?_
        refine x_iload_n (pc := 75) (i := 1) K dX7_move_75 rfl rfl ?_
        refine x_imul (pc := 76) K dX7_move_76 ?_
        refine x_iload_n (pc := 77) (i := 2) K dX7_move_77 rfl rfl ?_
        refine x_iadd (pc := 78) K dX7_move_78 ?_
        refine x_iload (pc := 79) (i := 8) K dX7_move_79 rfl ?_
        refine x_iadd (pc := 81) K dX7_move_81 ?_
        refine ib_mCells (pc := 82) (24 * s + i + r_mvO i j n k) (by have := hOb; omega) (by show nI 24 * nI s + nI i + nI (r_mvO i j n k) = _; rw [pk_mul, nI_add, nI_add]) K dX7_move_82 ?_
        refine js_mCells (pc := 83) (24 * s2 + j + r_mvO i j n k) (by have := hOb; omega) (by show nI 24 * nI s2 + nI j + nI (r_mvO i j n k) = _; rw [pk_mul, nI_add, nI_add]) K dX7_move_83 ?_
        refine x_iinc (pc := 84) (i := 7) (v := nI (k + 1)) K dX7_move_84 rfl (nI_1 _) rfl ?_
        refine x_goto (pc := 87) (tgt := 28) K dX7_move_87 (by decide) ?_
        exact ih (k + 1) _ (by omega) hx

def g_move (ρ : Af) (v i v2 j n_ : Int32) : Int32 × Af := if r_nm ρ v i v2 j n_ = 0 then (n_, r_mvL ρ v.toNatClampNeg i.toNatClampNeg v2.toNatClampNeg j.toNatClampNeg n_.toNatClampNeg n_.toNatClampNeg) else (r_nm ρ v i v2 j n_, r_err ρ (r_nmJ ρ v i v2 j n_))
set_option maxRecDepth 100000 in
set_option maxHeartbeats 4000000 in
theorem c_yX7_move {l : Launch} {G : Gm} {α ρ : Af} {v i v2 j n_ : Int32} (hI : IM ρ) : CI 1 l G yX7_move (Cond.code yX7_move cX7_move 9 (some .int)) 100 [.ref (gA G idM), .int v, .int i, .int v2, .int j, .int n_] α ρ (PI (g_move ρ v i v2 j n_).1 α (g_move ρ v i v2 j n_).2) := by
  obtain ⟨⟨n, h9, hn, hE⟩, hl0, hl1, ⟨t, h60, ht⟩, ⟨w, h24, hw⟩, hSz, ⟨q, hq, hqe⟩⟩ := hI
  refine CI.of [some (.ref (gA G idM)), some (.int v), some (.int i), some (.int v2), some (.int j), some (.int n_), none, none, none] (by decide) (Nat.le_of_ble_eq_true rfl) rfl rfl (fun C K => ?_)
  have K : Ok l _ G C RX7 cX7_move (some .int) 9 := K
  refine x_aload_n (pc := 0) (i := 0) K dX7_move_0 rfl rfl ?_
  refine x_iload_n (pc := 1) (i := 1) K dX7_move_1 rfl rfl ?_
  refine x_iload_n (pc := 2) (i := 2) K dX7_move_2 rfl rfl ?_
  refine x_iload_n (pc := 3) (i := 3) K dX7_move_3 rfl rfl ?_
  refine x_iload (pc := 4) (i := 4) K dX7_move_4 rfl ?_
  refine x_iload (pc := 6) (i := 5) K dX7_move_6 rfl ?_
  refine x_V5i (pc := 8) K (c_yX7_notMoved) mw_yX7_notMoved ⟨im_yX7_notMoved, se_yX7_notMoved⟩ mk_X7_260 rc_M rfl ⟨Nat.le_of_ble_eq_true rfl, Nat.le_of_ble_eq_true rfl, Nat.le_of_ble_eq_true rfl⟩ dX7_move_8 ?_
  refine x_istore (pc := 11) (i := 6) K dX7_move_11 rfl (by decide) ?_
  refine x_iload (pc := 13) (i := 6) K dX7_move_13 rfl ?_
  refine x_if_eq (pc := 15) (tgt := 25) K dX7_move_15 (by decide) (fun c_15 => ?_) (fun c_15 => ?_)
  · obtain ⟨hb1, hb2, hb3⟩ := nm_ok c_15
    obtain ⟨s, hs4, rfl⟩ := sh_of hb1
    obtain ⟨s2, hs24, rfl⟩ := sh_of hb2
    obtain ⟨m1, hm1, hme1⟩ := hSz s hs4
    obtain ⟨m2, hm2, hme2⟩ := hSz s2 hs24
    rw [nI_clamp (by omega), nI_clamp (by omega), hme1, hme2] at hb3
    obtain ⟨p, q2, m, rfl, rfl, rfl, hp1, hp2⟩ := mvOk_of hm1 hm2 hb3
    have hcs : (nI s).toNatClampNeg = s := nI_clamp (by omega)
    have hcs2 : (nI s2).toNatClampNeg = s2 := nI_clamp (by omega)
    have hcp : (nI p).toNatClampNeg = p := nI_clamp (by omega)
    have hcq : (nI q2).toNatClampNeg = q2 := nI_clamp (by omega)
    have hcm : (nI m).toNatClampNeg = m := nI_clamp (by omega)
    refine x_iconst (pc := 25) (v := 0) K dX7_move_25 (by decide) ?_
    refine x_istore (pc := 26) (i := 7) K dX7_move_26 rfl (by decide) ?_
    refine l_mv (s := s) (i := p) (s2 := s2) (j := q2) (n := m) K hs4 hs24 (by omega) (by omega) m 0 none (by omega) (fun y => ?_)
    refine x_iload (pc := 90) (i := 5) K dX7_move_90 rfl ?_
    exact x_iretI (pc := 92) K dX7_move_92 ⟨by simp only [g_move, if_pos c_15, hcs, hcs2, hcp, hcq, hcm], rfl, by simp only [g_move, if_pos c_15, hcs, hcs2, hcp, hcq, hcm]⟩
  · refine x_aload_n (pc := 18) (i := 0) K dX7_move_18 rfl rfl ?_
    refine x_iload (pc := 19) (i := 6) K dX7_move_19 rfl ?_
    refine x_V1i (pc := 21) K (c_yX7_error (nm_err c_15).1 (nm_err c_15).2) mw_yX7_error ⟨im_yX7_error, se_yX7_error⟩ mk_X7_81 rc_M rfl ⟨Nat.le_of_ble_eq_true rfl, Nat.le_of_ble_eq_true rfl, Nat.le_of_ble_eq_true rfl⟩ dX7_move_21 ?_
    exact x_iretI (pc := 24) K dX7_move_24 ⟨by simp only [g_move, if_neg c_15], rfl, by simp only [g_move, if_neg c_15]⟩
