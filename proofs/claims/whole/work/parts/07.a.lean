section MB
variable {k : Nat} {l : Launch} {d : Nat} {G : Gm} {C : Cx} {P : Po} {own : String} {cc : ByteArray} {ret : Option FieldType} {nL pc : Nat} {ls : List (Option Value)} {st : List Value} {α ρ : Af}
theorem ib_mRow {x : Int32} (j : Nat) (hj : j < 398) (hx : x = nI j) (K : Ok l d G C own cc ret nL) (hdg : decode cc pc = .ok (.iaload, 1)) (kk : X k l d G C P nL (pc + 1) ls (.int (ρ mRow j) :: st) α ρ) : X k l d G C P nL pc ls (.int x :: .ref (gA G mRow) :: st) α ρ := by
  subst hx
  exact ia_mRow K (vp_in_nI hj (by decide)) hdg (by rw [nI_clamp (Nat.lt_trans hj (by decide))]; exact kk)
theorem js_mRow {x v : Int32} (j : Nat) (hj : j < 398) (hx : x = nI j) (K : Ok l d G C own cc ret nL) (hdg : decode cc pc = .ok (.iastore, 1)) (kk : X k l d G C P nL (pc + 1) ls st α (up ρ mRow j v)) : X k l d G C P nL pc ls (.int v :: .int x :: .ref (gA G mRow) :: st) α ρ := by
  subst hx
  exact is_mRow K (vp_in_nI hj (by decide)) hdg (by rw [nI_clamp (Nat.lt_trans hj (by decide))]; exact kk)
theorem ib_mKept {x : Int32} (j : Nat) (hj : j < 398) (hx : x = nI j) (K : Ok l d G C own cc ret nL) (hdg : decode cc pc = .ok (.iaload, 1)) (kk : X k l d G C P nL (pc + 1) ls (.int (ρ mKept j) :: st) α ρ) : X k l d G C P nL pc ls (.int x :: .ref (gA G mKept) :: st) α ρ := by
  subst hx
  exact ia_mKept K (vp_in_nI hj (by decide)) hdg (by rw [nI_clamp (Nat.lt_trans hj (by decide))]; exact kk)
theorem js_mKept {x v : Int32} (j : Nat) (hj : j < 398) (hx : x = nI j) (K : Ok l d G C own cc ret nL) (hdg : decode cc pc = .ok (.iastore, 1)) (kk : X k l d G C P nL (pc + 1) ls st α (up ρ mKept j v)) : X k l d G C P nL pc ls (.int v :: .int x :: .ref (gA G mKept) :: st) α ρ := by
  subst hx
  exact is_mKept K (vp_in_nI hj (by decide)) hdg (by rw [nI_clamp (Nat.lt_trans hj (by decide))]; exact kk)
theorem ib_mBefore {x : Int32} (j : Nat) (hj : j < 398) (hx : x = nI j) (K : Ok l d G C own cc ret nL) (hdg : decode cc pc = .ok (.iaload, 1)) (kk : X k l d G C P nL (pc + 1) ls (.int (ρ mBefore j) :: st) α ρ) : X k l d G C P nL pc ls (.int x :: .ref (gA G mBefore) :: st) α ρ := by
  subst hx
  exact ia_mBefore K (vp_in_nI hj (by decide)) hdg (by rw [nI_clamp (Nat.lt_trans hj (by decide))]; exact kk)
theorem js_mBefore {x v : Int32} (j : Nat) (hj : j < 398) (hx : x = nI j) (K : Ok l d G C own cc ret nL) (hdg : decode cc pc = .ok (.iastore, 1)) (kk : X k l d G C P nL (pc + 1) ls st α (up ρ mBefore j v)) : X k l d G C P nL pc ls (.int v :: .int x :: .ref (gA G mBefore) :: st) α ρ := by
  subst hx
  exact is_mBefore K (vp_in_nI hj (by decide)) hdg (by rw [nI_clamp (Nat.lt_trans hj (by decide))]; exact kk)
theorem ib_mErr {x : Int32} (j : Nat) (hj : j < 7) (hx : x = nI j) (K : Ok l d G C own cc ret nL) (hdg : decode cc pc = .ok (.iaload, 1)) (kk : X k l d G C P nL (pc + 1) ls (.int (ρ mErr j) :: st) α ρ) : X k l d G C P nL pc ls (.int x :: .ref (gA G mErr) :: st) α ρ := by
  subst hx
  exact ia_mErr K (vp_in_nI hj (by decide)) hdg (by rw [nI_clamp (Nat.lt_trans hj (by decide))]; exact kk)
theorem js_mErr {x v : Int32} (j : Nat) (hj : j < 7) (hx : x = nI j) (K : Ok l d G C own cc ret nL) (hdg : decode cc pc = .ok (.iastore, 1)) (kk : X k l d G C P nL (pc + 1) ls st α (up ρ mErr j v)) : X k l d G C P nL pc ls (.int v :: .int x :: .ref (gA G mErr) :: st) α ρ := by
  subst hx
  exact is_mErr K (vp_in_nI hj (by decide)) hdg (by rw [nI_clamp (Nat.lt_trans hj (by decide))]; exact kk)
theorem ib_mBits {x : Int32} (j : Nat) (hj : j < 4) (hx : x = nI j) (K : Ok l d G C own cc ret nL) (hdg : decode cc pc = .ok (.iaload, 1)) (kk : X k l d G C P nL (pc + 1) ls (.int (ρ mBits j) :: st) α ρ) : X k l d G C P nL pc ls (.int x :: .ref (gA G mBits) :: st) α ρ := by
  subst hx
  exact ia_mBits K (vp_in_nI hj (by decide)) hdg (by rw [nI_clamp (Nat.lt_trans hj (by decide))]; exact kk)
theorem js_mBits {x v : Int32} (j : Nat) (hj : j < 4) (hx : x = nI j) (K : Ok l d G C own cc ret nL) (hdg : decode cc pc = .ok (.iastore, 1)) (kk : X k l d G C P nL (pc + 1) ls st α (up ρ mBits j v)) : X k l d G C P nL pc ls (.int v :: .int x :: .ref (gA G mBits) :: st) α ρ := by
  subst hx
  exact is_mBits K (vp_in_nI hj (by decide)) hdg (by rw [nI_clamp (Nat.lt_trans hj (by decide))]; exact kk)
theorem ib_mSize {x : Int32} (j : Nat) (hj : j < 4) (hx : x = nI j) (K : Ok l d G C own cc ret nL) (hdg : decode cc pc = .ok (.iaload, 1)) (kk : X k l d G C P nL (pc + 1) ls (.int (ρ mSize j) :: st) α ρ) : X k l d G C P nL pc ls (.int x :: .ref (gA G mSize) :: st) α ρ := by
  subst hx
  exact ia_mSize K (vp_in_nI hj (by decide)) hdg (by rw [nI_clamp (Nat.lt_trans hj (by decide))]; exact kk)
theorem js_mSize {x v : Int32} (j : Nat) (hj : j < 4) (hx : x = nI j) (K : Ok l d G C own cc ret nL) (hdg : decode cc pc = .ok (.iastore, 1)) (kk : X k l d G C P nL (pc + 1) ls st α (up ρ mSize j v)) : X k l d G C P nL pc ls (.int v :: .int x :: .ref (gA G mSize) :: st) α ρ := by
  subst hx
  exact is_mSize K (vp_in_nI hj (by decide)) hdg (by rw [nI_clamp (Nat.lt_trans hj (by decide))]; exact kk)
theorem ib_mCells {x : Int32} (j : Nat) (hj : j < 96) (hx : x = nI j) (K : Ok l d G C own cc ret nL) (hdg : decode cc pc = .ok (.iaload, 1)) (kk : X k l d G C P nL (pc + 1) ls (.int (ρ mCells j) :: st) α ρ) : X k l d G C P nL pc ls (.int x :: .ref (gA G mCells) :: st) α ρ := by
  subst hx
  exact ia_mCells K (vp_in_nI hj (by decide)) hdg (by rw [nI_clamp (Nat.lt_trans hj (by decide))]; exact kk)
theorem js_mCells {x v : Int32} (j : Nat) (hj : j < 96) (hx : x = nI j) (K : Ok l d G C own cc ret nL) (hdg : decode cc pc = .ok (.iastore, 1)) (kk : X k l d G C P nL (pc + 1) ls st α (up ρ mCells j v)) : X k l d G C P nL pc ls (.int v :: .int x :: .ref (gA G mCells) :: st) α ρ := by
  subst hx
  exact is_mCells K (vp_in_nI hj (by decide)) hdg (by rw [nI_clamp (Nat.lt_trans hj (by decide))]; exact kk)
theorem ib_mAct {x : Int32} (j : Nat) (hj : j < 60) (hx : x = nI j) (K : Ok l d G C own cc ret nL) (hdg : decode cc pc = .ok (.iaload, 1)) (kk : X k l d G C P nL (pc + 1) ls (.int (ρ mAct j) :: st) α ρ) : X k l d G C P nL pc ls (.int x :: .ref (gA G mAct) :: st) α ρ := by
  subst hx
  exact ia_mAct K (vp_in_nI hj (by decide)) hdg (by rw [nI_clamp (Nat.lt_trans hj (by decide))]; exact kk)
theorem js_mAct {x v : Int32} (j : Nat) (hj : j < 60) (hx : x = nI j) (K : Ok l d G C own cc ret nL) (hdg : decode cc pc = .ok (.iastore, 1)) (kk : X k l d G C P nL (pc + 1) ls st α (up ρ mAct j v)) : X k l d G C P nL pc ls (.int v :: .int x :: .ref (gA G mAct) :: st) α ρ := by
  subst hx
  exact is_mAct K (vp_in_nI hj (by decide)) hdg (by rw [nI_clamp (Nat.lt_trans hj (by decide))]; exact kk)
theorem ib_mWith {x : Int32} (j : Nat) (hj : j < 60) (hx : x = nI j) (K : Ok l d G C own cc ret nL) (hdg : decode cc pc = .ok (.iaload, 1)) (kk : X k l d G C P nL (pc + 1) ls (.int (ρ mWith j) :: st) α ρ) : X k l d G C P nL pc ls (.int x :: .ref (gA G mWith) :: st) α ρ := by
  subst hx
  exact ia_mWith K (vp_in_nI hj (by decide)) hdg (by rw [nI_clamp (Nat.lt_trans hj (by decide))]; exact kk)
theorem js_mWith {x v : Int32} (j : Nat) (hj : j < 60) (hx : x = nI j) (K : Ok l d G C own cc ret nL) (hdg : decode cc pc = .ok (.iastore, 1)) (kk : X k l d G C P nL (pc + 1) ls st α (up ρ mWith j v)) : X k l d G C P nL pc ls (.int v :: .int x :: .ref (gA G mWith) :: st) α ρ := by
  subst hx
  exact is_mWith K (vp_in_nI hj (by decide)) hdg (by rw [nI_clamp (Nat.lt_trans hj (by decide))]; exact kk)
theorem ib_mFacts {x : Int32} (j : Nat) (hj : j < 3) (hx : x = nI j) (K : Ok l d G C own cc ret nL) (hdg : decode cc pc = .ok (.iaload, 1)) (kk : X 0 l d G C P nL (pc + 1) ls (.int (ρ mFacts j) :: st) α ρ) : X 0 l d G C P nL pc ls (.int x :: .ref (gA G mFacts) :: st) α ρ := by
  subst hx
  exact ia_mFacts K (vp_in_nI hj (by decide)) hdg (by rw [nI_clamp (Nat.lt_trans hj (by decide))]; exact kk)
theorem js_mFacts {x v : Int32} (j : Nat) (hj : j < 3) (hx : x = nI j) (K : Ok l d G C own cc ret nL) (hdg : decode cc pc = .ok (.iastore, 1)) (kk : X 0 l d G C P nL (pc + 1) ls st α (up ρ mFacts j v)) : X 0 l d G C P nL pc ls (.int v :: .int x :: .ref (gA G mFacts) :: st) α ρ := by
  subst hx
  exact is_mFacts K (vp_in_nI hj (by decide)) hdg (by rw [nI_clamp (Nat.lt_trans hj (by decide))]; exact kk)
theorem ib_mPile {x : Int32} (j : Nat) (hj : j < 60) (hx : x = nI j) (K : Ok l d G C own cc ret nL) (hdg : decode cc pc = .ok (.iaload, 1)) (kk : X 0 l d G C P nL (pc + 1) ls (.int (ρ mPile j) :: st) α ρ) : X 0 l d G C P nL pc ls (.int x :: .ref (gA G mPile) :: st) α ρ := by
  subst hx
  exact ia_mPile K (vp_in_nI hj (by decide)) hdg (by rw [nI_clamp (Nat.lt_trans hj (by decide))]; exact kk)
theorem js_mPile {x v : Int32} (j : Nat) (hj : j < 60) (hx : x = nI j) (K : Ok l d G C own cc ret nL) (hdg : decode cc pc = .ok (.iastore, 1)) (kk : X 0 l d G C P nL (pc + 1) ls st α (up ρ mPile j v)) : X 0 l d G C P nL pc ls (.int v :: .int x :: .ref (gA G mPile) :: st) α ρ := by
  subst hx
  exact is_mPile K (vp_in_nI hj (by decide)) hdg (by rw [nI_clamp (Nat.lt_trans hj (by decide))]; exact kk)
theorem ib_mBear {x : Int32} (j : Nat) (hj : j < 9) (hx : x = nI j) (K : Ok l d G C own cc ret nL) (hdg : decode cc pc = .ok (.iaload, 1)) (kk : X k l d G C P nL (pc + 1) ls (.int (ρ mBear j) :: st) α ρ) : X k l d G C P nL pc ls (.int x :: .ref (gA G mBear) :: st) α ρ := by
  subst hx
  exact ia_mBear K (vp_in_nI hj (by decide)) hdg (by rw [nI_clamp (Nat.lt_trans hj (by decide))]; exact kk)
theorem js_mBear {x v : Int32} (j : Nat) (hj : j < 9) (hx : x = nI j) (K : Ok l d G C own cc ret nL) (hdg : decode cc pc = .ok (.iastore, 1)) (kk : X k l d G C P nL (pc + 1) ls st α (up ρ mBear j v)) : X k l d G C P nL pc ls (.int v :: .int x :: .ref (gA G mBear) :: st) α ρ := by
  subst hx
  exact is_mBear K (vp_in_nI hj (by decide)) hdg (by rw [nI_clamp (Nat.lt_trans hj (by decide))]; exact kk)
theorem ib_mTrace {x : Int32} (j : Nat) (hj : j < 30) (hx : x = nI j) (K : Ok l d G C own cc ret nL) (hdg : decode cc pc = .ok (.iaload, 1)) (kk : X k l d G C P nL (pc + 1) ls (.int (ρ mTrace j) :: st) α ρ) : X k l d G C P nL pc ls (.int x :: .ref (gA G mTrace) :: st) α ρ := by
  subst hx
  exact ia_mTrace K (vp_in_nI hj (by decide)) hdg (by rw [nI_clamp (Nat.lt_trans hj (by decide))]; exact kk)
theorem js_mTrace {x v : Int32} (j : Nat) (hj : j < 30) (hx : x = nI j) (K : Ok l d G C own cc ret nL) (hdg : decode cc pc = .ok (.iastore, 1)) (kk : X k l d G C P nL (pc + 1) ls st α (up ρ mTrace j v)) : X k l d G C P nL pc ls (.int v :: .int x :: .ref (gA G mTrace) :: st) α ρ := by
  subst hx
  exact is_mTrace K (vp_in_nI hj (by decide)) hdg (by rw [nI_clamp (Nat.lt_trans hj (by decide))]; exact kk)
end MB

def mS (u w : Nat) : Nat := 9 + 7 * u + w
theorem mS_x {u w : Nat} : (9 : Int32) + 7 * nI u + nI w = nI (mS u w) := by
  show nI 9 + nI 7 * nI u + nI w = _
  rw [pk_mul, nI_add, nI_add]; rfl
def r_err (ρ : Af) (j : Nat) : Af := up ρ mErr j (ρ mErr j + 1)
def r_held (v lo hi : Int32) : Int32 := if lo ≤ v then (if v ≤ hi then v else hi) else lo
theorem lowsub (j : Nat) : (-1000000000 : Int32) - (-1000000000 - nI j) = nI j := by
  refine Int32.toBitVec_inj.mp ?_
  simp only [Int32.toBitVec_sub]
  generalize (nI j).toBitVec = y
  generalize Int32.toBitVec (-1000000000) = c
  bv_omega
set_option maxRecDepth 100000 in
set_option maxHeartbeats 4000000 in
theorem c_yX7_error {k : Nat} {l : Launch} {G : Gm} {α ρ : Af} {j : Nat} {e : Int32} (he : e = -1000000000 - nI j) (hj : j < 7) : CI k l G yX7_error (Cond.code yX7_error cX7_error 2 (some .int)) 1 [.ref (gA G idM), .int e] α ρ (PI e α (r_err ρ j)) := by
  refine CI.of [some (.ref (gA G idM)), some (.int e)] (by decide) (Nat.le_of_ble_eq_true rfl) rfl rfl (fun C K => ?_)
  have K : Ok l _ G C RX7 cX7_error (some .int) 2 := K
  refine x_aload_n (pc := 0) (i := 0) K dX7_error_0 rfl rfl ?_
  refine gf_X7_19 (pc := 1)  K dX7_error_1 ?_
  refine x_ldc (pc := 4) K kn_X7_49 dX7_error_4 ?_
  refine x_iload_n (pc := 6) (i := 1) K dX7_error_6 rfl rfl ?_
  refine x_isub (pc := 7) K dX7_error_7 ?_
  refine x_dup2 (pc := 8) K dX7_error_8 rfl rfl ?_
  refine ib_mErr (pc := 9) j hj (by rw [he]; exact lowsub j) K dX7_error_9 ?_
  refine x_iconst (pc := 10) (v := 1) K dX7_error_10 (by decide) ?_
  refine x_iadd (pc := 11) K dX7_error_11 ?_
  refine js_mErr (pc := 12) j hj (by rw [he]; exact lowsub j) K dX7_error_12 ?_
  refine x_iload_n (pc := 13) (i := 1) K dX7_error_13 rfl rfl ?_
  exact x_iretI (pc := 14) K dX7_error_14 ⟨rfl, rfl, rfl⟩

set_option maxRecDepth 100000 in
set_option maxHeartbeats 4000000 in
theorem c_yX7_in {k : Nat} {l : Launch} {G : Gm} {α ρ : Af} {v lo hi : Int32}  : CI k l G yX7_in (Cond.code yX7_in cX7_in 3 (some .boolean)) 1 [.int v, .int lo, .int hi] α ρ (PI (bI (q_within v lo hi)) α ρ) := by
  refine CI.of [some (.int v), some (.int lo), some (.int hi)] (by decide) (Nat.le_of_ble_eq_true rfl) rfl rfl (fun C K => ?_)
  have K : Ok l _ G C RX7 cX7_in (some .boolean) 3 := K
  refine x_iload_n (pc := 0) (i := 0) K dX7_in_0 rfl rfl ?_
  refine x_iload_n (pc := 1) (i := 1) K dX7_in_1 rfl rfl ?_
  refine x_icmp_lt (pc := 2) (tgt := 14) K dX7_in_2 (by decide) (fun c_2 => ?_) (fun c_2 => ?_)
  · refine x_iconst (pc := 14) (v := 0) K dX7_in_14 (by decide) ?_
    exact x_nretI (pc := 15) K dX7_in_15 rfl ⟨by simp (decide := true) only [q_within, if_pos c_2, ↓reduceIte, Bool.false_eq_true, bI_t, bI_f], rfl, rfl⟩
  · refine x_iload_n (pc := 5) (i := 0) K dX7_in_5 rfl rfl ?_
    refine x_iload_n (pc := 6) (i := 2) K dX7_in_6 rfl rfl ?_
    refine x_icmp_gt (pc := 7) (tgt := 14) K dX7_in_7 (by decide) (fun c_7 => ?_) (fun c_7 => ?_)
    · refine x_iconst (pc := 14) (v := 0) K dX7_in_14 (by decide) ?_
      exact x_nretI (pc := 15) K dX7_in_15 rfl ⟨by simp (decide := true) only [q_within, if_neg c_2, if_pos c_7, ↓reduceIte, Bool.false_eq_true, bI_t, bI_f], rfl, rfl⟩
    · refine x_iconst (pc := 10) (v := 1) K dX7_in_10 (by decide) ?_
      refine x_goto (pc := 11) (tgt := 15) K dX7_in_11 (by decide) ?_
      exact x_nretI (pc := 15) K dX7_in_15 rfl ⟨by simp (decide := true) only [q_within, if_neg c_2, if_neg c_7, ↓reduceIte, Bool.false_eq_true, bI_t, bI_f], rfl, rfl⟩

set_option maxRecDepth 100000 in
set_option maxHeartbeats 4000000 in
theorem c_yX7_held {k : Nat} {l : Launch} {G : Gm} {α ρ : Af} {v lo hi : Int32}  : CI k l G yX7_held (Cond.code yX7_held cX7_held 3 (some .int)) 1 [.int v, .int lo, .int hi] α ρ (PI (r_held v lo hi) α ρ) := by
  refine CI.of [some (.int v), some (.int lo), some (.int hi)] (by decide) (Nat.le_of_ble_eq_true rfl) rfl rfl (fun C K => ?_)
  have K : Ok l _ G C RX7 cX7_held (some .int) 3 := K
  refine x_iload_n (pc := 0) (i := 0) K dX7_held_0 rfl rfl ?_
  refine x_iload_n (pc := 1) (i := 1) K dX7_held_1 rfl rfl ?_
  refine x_icmp_ge (pc := 2) (tgt := 9) K dX7_held_2 (by decide) (fun c_2 => ?_) (fun c_2 => ?_)
  · refine x_iload_n (pc := 9) (i := 0) K dX7_held_9 rfl rfl ?_
    refine x_iload_n (pc := 10) (i := 2) K dX7_held_10 rfl rfl ?_
    refine x_icmp_le (pc := 11) (tgt := 18) K dX7_held_11 (by decide) (fun c_11 => ?_) (fun c_11 => ?_)
    · refine x_iload_n (pc := 18) (i := 0) K dX7_held_18 rfl rfl ?_
      exact x_iretI (pc := 19) K dX7_held_19 ⟨by simp (decide := true) only [r_held, if_pos c_2, if_pos c_11, ↓reduceIte, Bool.false_eq_true, bI_t, bI_f], rfl, rfl⟩
    · refine x_iload_n (pc := 14) (i := 2) K dX7_held_14 rfl rfl ?_
      refine x_goto (pc := 15) (tgt := 19) K dX7_held_15 (by decide) ?_
      exact x_iretI (pc := 19) K dX7_held_19 ⟨by simp (decide := true) only [r_held, if_pos c_2, if_neg c_11, ↓reduceIte, Bool.false_eq_true, bI_t, bI_f], rfl, rfl⟩
  · refine x_iload_n (pc := 5) (i := 1) K dX7_held_5 rfl rfl ?_
    refine x_goto (pc := 6) (tgt := 19) K dX7_held_6 (by decide) ?_
    exact x_iretI (pc := 19) K dX7_held_19 ⟨by simp (decide := true) only [r_held, if_neg c_2, ↓reduceIte, Bool.false_eq_true, bI_t, bI_f], rfl, rfl⟩

set_option maxRecDepth 100000 in
set_option maxHeartbeats 4000000 in
theorem c_yX7_isPlace {k : Nat} {l : Launch} {G : Gm} {α ρ : Af} {p : Int32}  : CI k l G yX7_isPlace (Cond.code yX7_isPlace cX7_isPlace 1 (some .boolean)) 2 [.int p] α ρ (PI (bI (q_isPlace p)) α ρ) := by
  refine CI.of [some (.int p)] (by decide) (Nat.le_of_ble_eq_true rfl) rfl rfl (fun C K => ?_)
  have K : Ok l _ G C RX7 cX7_isPlace (some .boolean) 1 := K
  refine x_iload_n (pc := 0) (i := 0) K dX7_isPlace_0 rfl rfl ?_
  refine x_iconst (pc := 1) (v := 0) K dX7_isPlace_1 (by decide) ?_
  refine x_bipush (pc := 2) (v := 7) K dX7_isPlace_2 (by decide) ?_
  refine x_S3i (pc := 4) K (c_yX7_in) mw_yX7_in st_yX7_in mk_X7_54 ⟨Nat.le_of_ble_eq_true rfl, Nat.le_of_ble_eq_true rfl, Nat.le_of_ble_eq_true rfl⟩ dX7_isPlace_4 ?_
  exact x_zretI (pc := 7) K dX7_isPlace_7 ⟨rfl, rfl, rfl⟩

set_option maxRecDepth 100000 in
set_option maxHeartbeats 4000000 in
theorem c_yX7_areTwo {k : Nat} {l : Launch} {G : Gm} {α ρ : Af} {a b : Int32}  : CI k l G yX7_areTwo (Cond.code yX7_areTwo cX7_areTwo 2 (some .boolean)) 3 [.int a, .int b] α ρ (PI (bI (q_areTwo a b)) α ρ) := by
  refine CI.of [some (.int a), some (.int b)] (by decide) (Nat.le_of_ble_eq_true rfl) rfl rfl (fun C K => ?_)
  have K : Ok l _ G C RX7 cX7_areTwo (some .boolean) 2 := K
  refine x_iload_n (pc := 0) (i := 0) K dX7_areTwo_0 rfl rfl ?_
  refine x_S1i (pc := 1) K (c_yX7_isPlace) mw_yX7_isPlace st_yX7_isPlace mk_X7_58 ⟨Nat.le_of_ble_eq_true rfl, Nat.le_of_ble_eq_true rfl, Nat.le_of_ble_eq_true rfl⟩ dX7_areTwo_1 ?_
  refine x_ifeq_b (pc := 4) (tgt := 23) K dX7_areTwo_4 (by decide) (fun c_4 => ?_) (fun c_4 => ?_)
  · refine x_iconst (pc := 23) (v := 0) K dX7_areTwo_23 (by decide) ?_
    exact x_nretI (pc := 24) K dX7_areTwo_24 rfl ⟨by simp (decide := true) only [q_areTwo, c_4, ↓reduceIte, Bool.false_eq_true, bI_t, bI_f], rfl, rfl⟩
  · refine x_iload_n (pc := 7) (i := 1) K dX7_areTwo_7 rfl rfl ?_
    refine x_S1i (pc := 8) K (c_yX7_isPlace) mw_yX7_isPlace st_yX7_isPlace mk_X7_58 ⟨Nat.le_of_ble_eq_true rfl, Nat.le_of_ble_eq_true rfl, Nat.le_of_ble_eq_true rfl⟩ dX7_areTwo_8 ?_
    refine x_ifeq_b (pc := 11) (tgt := 23) K dX7_areTwo_11 (by decide) (fun c_11 => ?_) (fun c_11 => ?_)
    · refine x_iconst (pc := 23) (v := 0) K dX7_areTwo_23 (by decide) ?_
      exact x_nretI (pc := 24) K dX7_areTwo_24 rfl ⟨by simp (decide := true) only [q_areTwo, c_4, c_11, ↓reduceIte, Bool.false_eq_true, bI_t, bI_f], rfl, rfl⟩
    · refine x_iload_n (pc := 14) (i := 0) K dX7_areTwo_14 rfl rfl ?_
      refine x_iload_n (pc := 15) (i := 1) K dX7_areTwo_15 rfl rfl ?_
      refine x_icmp_eq (pc := 16) (tgt := 23) K dX7_areTwo_16 (by decide) (fun c_16 => ?_) (fun c_16 => ?_)
      · refine x_iconst (pc := 23) (v := 0) K dX7_areTwo_23 (by decide) ?_
        exact x_nretI (pc := 24) K dX7_areTwo_24 rfl ⟨by simp (decide := true) only [q_areTwo, c_4, c_11, if_pos c_16, ↓reduceIte, Bool.false_eq_true, bI_t, bI_f], rfl, rfl⟩
      · refine x_iconst (pc := 19) (v := 1) K dX7_areTwo_19 (by decide) ?_
        refine x_goto (pc := 20) (tgt := 24) K dX7_areTwo_20 (by decide) ?_
        exact x_nretI (pc := 24) K dX7_areTwo_24 rfl ⟨by simp (decide := true) only [q_areTwo, c_4, c_11, if_neg c_16, ↓reduceIte, Bool.false_eq_true, bI_t, bI_f], rfl, rfl⟩

set_option maxRecDepth 100000 in
set_option maxHeartbeats 4000000 in
theorem c_yX7_isLoad {k : Nat} {l : Launch} {G : Gm} {α ρ : Af} {p : Int32}  : CI k l G yX7_isLoad (Cond.code yX7_isLoad cX7_isLoad 1 (some .boolean)) 2 [.int p] α ρ (PI (bI (q_isLoad p)) α ρ) := by
  refine CI.of [some (.int p)] (by decide) (Nat.le_of_ble_eq_true rfl) rfl rfl (fun C K => ?_)
  have K : Ok l _ G C RX7 cX7_isLoad (some .boolean) 1 := K
  refine x_iload_n (pc := 0) (i := 0) K dX7_isLoad_0 rfl rfl ?_
  refine x_iconst (pc := 1) (v := 0) K dX7_isLoad_1 (by decide) ?_
  refine x_bipush (pc := 2) (v := 99) K dX7_isLoad_2 (by decide) ?_
  refine x_S3i (pc := 4) K (c_yX7_in) mw_yX7_in st_yX7_in mk_X7_54 ⟨Nat.le_of_ble_eq_true rfl, Nat.le_of_ble_eq_true rfl, Nat.le_of_ble_eq_true rfl⟩ dX7_isLoad_4 ?_
  exact x_zretI (pc := 7) K dX7_isLoad_7 ⟨rfl, rfl, rfl⟩

set_option maxRecDepth 100000 in
set_option maxHeartbeats 4000000 in
theorem c_yX7_isKm {k : Nat} {l : Launch} {G : Gm} {α ρ : Af} {p : Int32}  : CI k l G yX7_isKm (Cond.code yX7_isKm cX7_isKm 1 (some .boolean)) 2 [.int p] α ρ (PI (bI (q_isKm p)) α ρ) := by
  refine CI.of [some (.int p)] (by decide) (Nat.le_of_ble_eq_true rfl) rfl rfl (fun C K => ?_)
  have K : Ok l _ G C RX7 cX7_isKm (some .boolean) 1 := K
  refine x_iload_n (pc := 0) (i := 0) K dX7_isKm_0 rfl rfl ?_
  refine x_iconst (pc := 1) (v := 0) K dX7_isKm_1 (by decide) ?_
  refine x_bipush (pc := 2) (v := 69) K dX7_isKm_2 (by decide) ?_
  refine x_S3i (pc := 4) K (c_yX7_in) mw_yX7_in st_yX7_in mk_X7_54 ⟨Nat.le_of_ble_eq_true rfl, Nat.le_of_ble_eq_true rfl, Nat.le_of_ble_eq_true rfl⟩ dX7_isKm_4 ?_
  exact x_zretI (pc := 7) K dX7_isKm_7 ⟨rfl, rfl, rfl⟩

set_option maxRecDepth 100000 in
set_option maxHeartbeats 4000000 in
theorem c_yX7_isSheet {k : Nat} {l : Launch} {G : Gm} {α ρ : Af} {p : Int32}  : CI k l G yX7_isSheet (Cond.code yX7_isSheet cX7_isSheet 1 (some .boolean)) 2 [.int p] α ρ (PI (bI (q_isSheet p)) α ρ) := by
  refine CI.of [some (.int p)] (by decide) (Nat.le_of_ble_eq_true rfl) rfl rfl (fun C K => ?_)
  have K : Ok l _ G C RX7 cX7_isSheet (some .boolean) 1 := K
  refine x_iload_n (pc := 0) (i := 0) K dX7_isSheet_0 rfl rfl ?_
  refine x_iconst (pc := 1) (v := 0) K dX7_isSheet_1 (by decide) ?_
  refine x_iconst (pc := 2) (v := 3) K dX7_isSheet_2 (by decide) ?_
  refine x_S3i (pc := 3) K (c_yX7_in) mw_yX7_in st_yX7_in mk_X7_54 ⟨Nat.le_of_ble_eq_true rfl, Nat.le_of_ble_eq_true rfl, Nat.le_of_ble_eq_true rfl⟩ dX7_isSheet_3 ?_
  exact x_zretI (pc := 6) K dX7_isSheet_6 ⟨rfl, rfl, rfl⟩

def r_copy (ρ : Af) (i1 i2 : Nat) : Nat → Af
  | 0 => ρ
  | i + 1 => up (r_copy ρ i1 i2 i) i2 i (r_copy ρ i1 i2 i i1 i)
set_option maxRecDepth 100000 in
set_option maxHeartbeats 4000000 in
theorem l_copy_rb {k : Nat} {l : Launch} {G : Gm} {C : Cx} {P : Po} {α ρ : Af} (K : Ok l 1 G C RX7 cX7_copyAll none 3)  : ∀ (j i : Nat), i + j = 398 → X k l 1 G C (P) 3 21 [some (.ref (gA G mRow)), some (.ref (gA G mBefore)), some (.int (nI 398))] [] α (r_copy ρ mRow mBefore 398) → X k l 1 G C (P) 3 2 [some (.ref (gA G mRow)), some (.ref (gA G mBefore)), some (.int (nI i))] [] α (r_copy ρ mRow mBefore i) := by
  intro j
  induction j with
  | zero =>
    intro i hi hx
    refine x_iload_n (pc := 2) (i := 2) K dX7_copyAll_2 rfl rfl ?_
    refine x_sipush (pc := 3) (v := 398) K dX7_copyAll_3 (by decide) ?_
    refine x_icmp_ge (pc := 6) (tgt := 21) K dX7_copyAll_6 (by decide) (fun c_6 => ?_) (fun c_6 => ?_)
    · obtain rfl : i = 398 := by omega
      exact hx
    · exact absurd (by rw [show i = 398 by omega]; decide) c_6
  | succ j ih =>
    intro i hi hx
    refine x_iload_n (pc := 2) (i := 2) K dX7_copyAll_2 rfl rfl ?_
    refine x_sipush (pc := 3) (v := 398) K dX7_copyAll_3 (by decide) ?_
    refine x_icmp_ge (pc := 6) (tgt := 21) K dX7_copyAll_6 (by decide) (fun c_6 => ?_) (fun c_6 => ?_)
    · exact absurd ((nI_leI (a := 398) (b := i) (by decide) (by omega)).mp c_6) (by omega)
    · refine x_aload_n (pc := 9) (i := 1) K dX7_copyAll_9 rfl rfl ?_
      refine x_iload_n (pc := 10) (i := 2) K dX7_copyAll_10 rfl rfl ?_
      refine x_aload_n (pc := 11) (i := 0) K dX7_copyAll_11 rfl rfl ?_
      refine x_iload_n (pc := 12) (i := 2) K dX7_copyAll_12 rfl rfl ?_
      refine ib_mRow (pc := 13) (i) (by omega) rfl K dX7_copyAll_13 ?_
      refine js_mBefore (pc := 14) (i) (by omega) rfl K dX7_copyAll_14 ?_
      refine x_iinc (pc := 15) (i := 2) (v := nI (i + 1)) K dX7_copyAll_15 rfl (nI_1 _) rfl ?_
      refine x_goto (pc := 18) (tgt := 2) K dX7_copyAll_18 (by decide) ?_
      exact ih (i + 1) (by omega) hx

set_option maxRecDepth 100000 in
set_option maxHeartbeats 4000000 in
theorem c_copy_rb {k : Nat} {l : Launch} {G : Gm} {α ρ : Af}   : CI k l G yX7_copyAll (Cond.code yX7_copyAll cX7_copyAll 3 none) 1 [.ref (gA G mRow), .ref (gA G mBefore)] α ρ (PV α (r_copy ρ mRow mBefore 398)) := by
  refine CI.of [some (.ref (gA G mRow)), some (.ref (gA G mBefore)), none] (by decide) (Nat.le_of_ble_eq_true rfl) rfl rfl (fun C K => ?_)
  have K : Ok l _ G C RX7 cX7_copyAll none 3 := K
  refine x_iconst (pc := 0) (v := 0) K dX7_copyAll_0 (by decide) ?_
  refine x_istore_n (pc := 1) (i := 2) K dX7_copyAll_1 rfl rfl (by decide) ?_
  refine l_copy_rb K 398 0 (by omega) ?_
  exact x_vretI (pc := 21) K dX7_copyAll_21 ⟨rfl, rfl⟩

set_option maxRecDepth 100000 in
set_option maxHeartbeats 4000000 in
theorem l_copy_br {k : Nat} {l : Launch} {G : Gm} {C : Cx} {P : Po} {α ρ : Af} (K : Ok l 1 G C RX7 cX7_copyAll none 3)  : ∀ (j i : Nat), i + j = 398 → X k l 1 G C (P) 3 21 [some (.ref (gA G mBefore)), some (.ref (gA G mRow)), some (.int (nI 398))] [] α (r_copy ρ mBefore mRow 398) → X k l 1 G C (P) 3 2 [some (.ref (gA G mBefore)), some (.ref (gA G mRow)), some (.int (nI i))] [] α (r_copy ρ mBefore mRow i) := by
  intro j
  induction j with
  | zero =>
    intro i hi hx
    refine x_iload_n (pc := 2) (i := 2) K dX7_copyAll_2 rfl rfl ?_
    refine x_sipush (pc := 3) (v := 398) K dX7_copyAll_3 (by decide) ?_
    refine x_icmp_ge (pc := 6) (tgt := 21) K dX7_copyAll_6 (by decide) (fun c_6 => ?_) (fun c_6 => ?_)
    · obtain rfl : i = 398 := by omega
      exact hx
    · exact absurd (by rw [show i = 398 by omega]; decide) c_6
  | succ j ih =>
    intro i hi hx
    refine x_iload_n (pc := 2) (i := 2) K dX7_copyAll_2 rfl rfl ?_
    refine x_sipush (pc := 3) (v := 398) K dX7_copyAll_3 (by decide) ?_
    refine x_icmp_ge (pc := 6) (tgt := 21) K dX7_copyAll_6 (by decide) (fun c_6 => ?_) (fun c_6 => ?_)
    · exact absurd ((nI_leI (a := 398) (b := i) (by decide) (by omega)).mp c_6) (by omega)
    · refine x_aload_n (pc := 9) (i := 1) K dX7_copyAll_9 rfl rfl ?_
      refine x_iload_n (pc := 10) (i := 2) K dX7_copyAll_10 rfl rfl ?_
      refine x_aload_n (pc := 11) (i := 0) K dX7_copyAll_11 rfl rfl ?_
      refine x_iload_n (pc := 12) (i := 2) K dX7_copyAll_12 rfl rfl ?_
      refine ib_mBefore (pc := 13) (i) (by omega) rfl K dX7_copyAll_13 ?_
      refine js_mRow (pc := 14) (i) (by omega) rfl K dX7_copyAll_14 ?_
      refine x_iinc (pc := 15) (i := 2) (v := nI (i + 1)) K dX7_copyAll_15 rfl (nI_1 _) rfl ?_
      refine x_goto (pc := 18) (tgt := 2) K dX7_copyAll_18 (by decide) ?_
      exact ih (i + 1) (by omega) hx

set_option maxRecDepth 100000 in
set_option maxHeartbeats 4000000 in
theorem c_copy_br {k : Nat} {l : Launch} {G : Gm} {α ρ : Af}   : CI k l G yX7_copyAll (Cond.code yX7_copyAll cX7_copyAll 3 none) 1 [.ref (gA G mBefore), .ref (gA G mRow)] α ρ (PV α (r_copy ρ mBefore mRow 398)) := by
  refine CI.of [some (.ref (gA G mBefore)), some (.ref (gA G mRow)), none] (by decide) (Nat.le_of_ble_eq_true rfl) rfl rfl (fun C K => ?_)
  have K : Ok l _ G C RX7 cX7_copyAll none 3 := K
  refine x_iconst (pc := 0) (v := 0) K dX7_copyAll_0 (by decide) ?_
  refine x_istore_n (pc := 1) (i := 2) K dX7_copyAll_1 rfl rfl (by decide) ?_
  refine l_copy_br K 398 0 (by omega) ?_
  exact x_vretI (pc := 21) K dX7_copyAll_21 ⟨rfl, rfl⟩

set_option maxRecDepth 100000 in
set_option maxHeartbeats 4000000 in
theorem l_copy_rk {k : Nat} {l : Launch} {G : Gm} {C : Cx} {P : Po} {α ρ : Af} (K : Ok l 1 G C RX7 cX7_copyAll none 3)  : ∀ (j i : Nat), i + j = 398 → X k l 1 G C (P) 3 21 [some (.ref (gA G mRow)), some (.ref (gA G mKept)), some (.int (nI 398))] [] α (r_copy ρ mRow mKept 398) → X k l 1 G C (P) 3 2 [some (.ref (gA G mRow)), some (.ref (gA G mKept)), some (.int (nI i))] [] α (r_copy ρ mRow mKept i) := by
  intro j
  induction j with
  | zero =>
    intro i hi hx
    refine x_iload_n (pc := 2) (i := 2) K dX7_copyAll_2 rfl rfl ?_
    refine x_sipush (pc := 3) (v := 398) K dX7_copyAll_3 (by decide) ?_
    refine x_icmp_ge (pc := 6) (tgt := 21) K dX7_copyAll_6 (by decide) (fun c_6 => ?_) (fun c_6 => ?_)
    · obtain rfl : i = 398 := by omega
      exact hx
    · exact absurd (by rw [show i = 398 by omega]; decide) c_6
  | succ j ih =>
    intro i hi hx
    refine x_iload_n (pc := 2) (i := 2) K dX7_copyAll_2 rfl rfl ?_
    refine x_sipush (pc := 3) (v := 398) K dX7_copyAll_3 (by decide) ?_
    refine x_icmp_ge (pc := 6) (tgt := 21) K dX7_copyAll_6 (by decide) (fun c_6 => ?_) (fun c_6 => ?_)
    · exact absurd ((nI_leI (a := 398) (b := i) (by decide) (by omega)).mp c_6) (by omega)
    · refine x_aload_n (pc := 9) (i := 1) K dX7_copyAll_9 rfl rfl ?_
      refine x_iload_n (pc := 10) (i := 2) K dX7_copyAll_10 rfl rfl ?_
      refine x_aload_n (pc := 11) (i := 0) K dX7_copyAll_11 rfl rfl ?_
      refine x_iload_n (pc := 12) (i := 2) K dX7_copyAll_12 rfl rfl ?_
      refine ib_mRow (pc := 13) (i) (by omega) rfl K dX7_copyAll_13 ?_
      refine js_mKept (pc := 14) (i) (by omega) rfl K dX7_copyAll_14 ?_
      refine x_iinc (pc := 15) (i := 2) (v := nI (i + 1)) K dX7_copyAll_15 rfl (nI_1 _) rfl ?_
      refine x_goto (pc := 18) (tgt := 2) K dX7_copyAll_18 (by decide) ?_
      exact ih (i + 1) (by omega) hx

set_option maxRecDepth 100000 in
set_option maxHeartbeats 4000000 in
theorem c_copy_rk {k : Nat} {l : Launch} {G : Gm} {α ρ : Af}   : CI k l G yX7_copyAll (Cond.code yX7_copyAll cX7_copyAll 3 none) 1 [.ref (gA G mRow), .ref (gA G mKept)] α ρ (PV α (r_copy ρ mRow mKept 398)) := by
  refine CI.of [some (.ref (gA G mRow)), some (.ref (gA G mKept)), none] (by decide) (Nat.le_of_ble_eq_true rfl) rfl rfl (fun C K => ?_)
  have K : Ok l _ G C RX7 cX7_copyAll none 3 := K
  refine x_iconst (pc := 0) (v := 0) K dX7_copyAll_0 (by decide) ?_
  refine x_istore_n (pc := 1) (i := 2) K dX7_copyAll_1 rfl rfl (by decide) ?_
  refine l_copy_rk K 398 0 (by omega) ?_
  exact x_vretI (pc := 21) K dX7_copyAll_21 ⟨rfl, rfl⟩

set_option maxRecDepth 100000 in
set_option maxHeartbeats 4000000 in
theorem l_copy_kr {k : Nat} {l : Launch} {G : Gm} {C : Cx} {P : Po} {α ρ : Af} (K : Ok l 1 G C RX7 cX7_copyAll none 3)  : ∀ (j i : Nat), i + j = 398 → X k l 1 G C (P) 3 21 [some (.ref (gA G mKept)), some (.ref (gA G mRow)), some (.int (nI 398))] [] α (r_copy ρ mKept mRow 398) → X k l 1 G C (P) 3 2 [some (.ref (gA G mKept)), some (.ref (gA G mRow)), some (.int (nI i))] [] α (r_copy ρ mKept mRow i) := by
  intro j
  induction j with
  | zero =>
    intro i hi hx
    refine x_iload_n (pc := 2) (i := 2) K dX7_copyAll_2 rfl rfl ?_
    refine x_sipush (pc := 3) (v := 398) K dX7_copyAll_3 (by decide) ?_
    refine x_icmp_ge (pc := 6) (tgt := 21) K dX7_copyAll_6 (by decide) (fun c_6 => ?_) (fun c_6 => ?_)
    · obtain rfl : i = 398 := by omega
      exact hx
    · exact absurd (by rw [show i = 398 by omega]; decide) c_6
  | succ j ih =>
    intro i hi hx
    refine x_iload_n (pc := 2) (i := 2) K dX7_copyAll_2 rfl rfl ?_
    refine x_sipush (pc := 3) (v := 398) K dX7_copyAll_3 (by decide) ?_
    refine x_icmp_ge (pc := 6) (tgt := 21) K dX7_copyAll_6 (by decide) (fun c_6 => ?_) (fun c_6 => ?_)
    · exact absurd ((nI_leI (a := 398) (b := i) (by decide) (by omega)).mp c_6) (by omega)
    · refine x_aload_n (pc := 9) (i := 1) K dX7_copyAll_9 rfl rfl ?_
      refine x_iload_n (pc := 10) (i := 2) K dX7_copyAll_10 rfl rfl ?_
      refine x_aload_n (pc := 11) (i := 0) K dX7_copyAll_11 rfl rfl ?_
      refine x_iload_n (pc := 12) (i := 2) K dX7_copyAll_12 rfl rfl ?_
      refine ib_mKept (pc := 13) (i) (by omega) rfl K dX7_copyAll_13 ?_
      refine js_mRow (pc := 14) (i) (by omega) rfl K dX7_copyAll_14 ?_
      refine x_iinc (pc := 15) (i := 2) (v := nI (i + 1)) K dX7_copyAll_15 rfl (nI_1 _) rfl ?_
      refine x_goto (pc := 18) (tgt := 2) K dX7_copyAll_18 (by decide) ?_
      exact ih (i + 1) (by omega) hx

set_option maxRecDepth 100000 in
set_option maxHeartbeats 4000000 in
theorem c_copy_kr {k : Nat} {l : Launch} {G : Gm} {α ρ : Af}   : CI k l G yX7_copyAll (Cond.code yX7_copyAll cX7_copyAll 3 none) 1 [.ref (gA G mKept), .ref (gA G mRow)] α ρ (PV α (r_copy ρ mKept mRow 398)) := by
  refine CI.of [some (.ref (gA G mKept)), some (.ref (gA G mRow)), none] (by decide) (Nat.le_of_ble_eq_true rfl) rfl rfl (fun C K => ?_)
  have K : Ok l _ G C RX7 cX7_copyAll none 3 := K
  refine x_iconst (pc := 0) (v := 0) K dX7_copyAll_0 (by decide) ?_
  refine x_istore_n (pc := 1) (i := 2) K dX7_copyAll_1 rfl rfl (by decide) ?_
  refine l_copy_kr K 398 0 (by omega) ?_
  exact x_vretI (pc := 21) K dX7_copyAll_21 ⟨rfl, rfl⟩

set_option maxRecDepth 100000 in
set_option maxHeartbeats 4000000 in
theorem c_yX7_thinks {k : Nat} {l : Launch} {G : Gm} {α ρ : Af}   : CI k l G yX7_thinks (Cond.code yX7_thinks cX7_thinks 1 none) 2 [.ref (gA G idM)] α ρ (PV α (r_copy ρ mRow mBefore 398)) := by
  refine CI.of [some (.ref (gA G idM))] (by decide) (Nat.le_of_ble_eq_true rfl) rfl rfl (fun C K => ?_)
  have K : Ok l _ G C RX7 cX7_thinks none 1 := K
  refine x_aload_n (pc := 0) (i := 0) K dX7_thinks_0 rfl rfl ?_
  refine gf_X7_9 (pc := 1)  K dX7_thinks_1 ?_
  refine x_aload_n (pc := 4) (i := 0) K dX7_thinks_4 rfl rfl ?_
  refine gf_X7_16 (pc := 5)  K dX7_thinks_5 ?_
  refine x_S2v (pc := 8) K (c_copy_rb) mw_yX7_copyAll st_yX7_copyAll mk_X7_50 ⟨Nat.le_of_ble_eq_true rfl, Nat.le_of_ble_eq_true rfl, Nat.le_of_ble_eq_true rfl⟩ dX7_thinks_8 ?_
  exact x_vretI (pc := 11) K dX7_thinks_11 ⟨rfl, rfl⟩

set_option maxRecDepth 100000 in
set_option maxHeartbeats 4000000 in
theorem c_yX7_putsBack {k : Nat} {l : Launch} {G : Gm} {α ρ : Af}   : CI k l G yX7_putsBack (Cond.code yX7_putsBack cX7_putsBack 1 none) 2 [.ref (gA G idM)] α ρ (PV α (r_copy ρ mBefore mRow 398)) := by
  refine CI.of [some (.ref (gA G idM))] (by decide) (Nat.le_of_ble_eq_true rfl) rfl rfl (fun C K => ?_)
  have K : Ok l _ G C RX7 cX7_putsBack none 1 := K
  refine x_aload_n (pc := 0) (i := 0) K dX7_putsBack_0 rfl rfl ?_
  refine gf_X7_16 (pc := 1)  K dX7_putsBack_1 ?_
  refine x_aload_n (pc := 4) (i := 0) K dX7_putsBack_4 rfl rfl ?_
  refine gf_X7_9 (pc := 5)  K dX7_putsBack_5 ?_
  refine x_S2v (pc := 8) K (c_copy_br) mw_yX7_copyAll st_yX7_copyAll mk_X7_50 ⟨Nat.le_of_ble_eq_true rfl, Nat.le_of_ble_eq_true rfl, Nat.le_of_ble_eq_true rfl⟩ dX7_putsBack_8 ?_
  exact x_vretI (pc := 11) K dX7_putsBack_11 ⟨rfl, rfl⟩

set_option maxRecDepth 100000 in
set_option maxHeartbeats 4000000 in
theorem c_yX7_isSpan {k : Nat} {l : Launch} {G : Gm} {α ρ : Af} {v : Int32}  : CI k l G yX7_isSpan (Cond.code yX7_isSpan cX7_isSpan 2 (some .boolean)) 2 [.ref (gA G idM), .int v] α ρ (PI (bI (q_within v 0 (ρ mRow 2 - 1))) α ρ) := by
  refine CI.of [some (.ref (gA G idM)), some (.int v)] (by decide) (Nat.le_of_ble_eq_true rfl) rfl rfl (fun C K => ?_)
  have K : Ok l _ G C RX7 cX7_isSpan (some .boolean) 2 := K
  refine x_iload_n (pc := 0) (i := 1) K dX7_isSpan_0 rfl rfl ?_
  refine x_iconst (pc := 1) (v := 0) K dX7_isSpan_1 (by decide) ?_
  refine x_aload_n (pc := 2) (i := 0) K dX7_isSpan_2 rfl rfl ?_
  refine gf_X7_9 (pc := 3)  K dX7_isSpan_3 ?_
  refine x_iconst (pc := 6) (v := 2) K dX7_isSpan_6 (by decide) ?_
  refine ib_mRow (pc := 7) 2 (by decide) rfl K dX7_isSpan_7 ?_
  refine x_iconst (pc := 8) (v := 1) K dX7_isSpan_8 (by decide) ?_
  refine x_isub (pc := 9) K dX7_isSpan_9 ?_
  refine x_S3i (pc := 10) K (c_yX7_in) mw_yX7_in st_yX7_in mk_X7_54 ⟨Nat.le_of_ble_eq_true rfl, Nat.le_of_ble_eq_true rfl, Nat.le_of_ble_eq_true rfl⟩ dX7_isSpan_10 ?_
  exact x_zretI (pc := 13) K dX7_isSpan_13 ⟨rfl, rfl, rfl⟩

set_option maxRecDepth 100000 in
set_option maxHeartbeats 4000000 in
theorem c_yX7_becomes {k : Nat} {l : Launch} {G : Gm} {α ρ : Af} {x v : Int32} {j : Nat} (hj : j < 398) (hx : x = nI j) : CI k l G yX7_becomes (Cond.code yX7_becomes cX7_becomes 4 (some .int)) 1 [.ref (gA G idM), .int x, .int v] α ρ (PI (ρ mRow j) α (up ρ mRow j v)) := by
  refine CI.of [some (.ref (gA G idM)), some (.int x), some (.int v), none] (by decide) (Nat.le_of_ble_eq_true rfl) rfl rfl (fun C K => ?_)
  have K : Ok l _ G C RX7 cX7_becomes (some .int) 4 := K
  refine x_aload_n (pc := 0) (i := 0) K dX7_becomes_0 rfl rfl ?_
  refine gf_X7_9 (pc := 1)  K dX7_becomes_1 ?_
  refine x_iload_n (pc := 4) (i := 1) K dX7_becomes_4 rfl rfl ?_
  refine ib_mRow (pc := 5) j hj hx K dX7_becomes_5 ?_
  refine x_istore_n (pc := 6) (i := 3) K dX7_becomes_6 rfl rfl (by decide) ?_
  refine x_aload_n (pc := 7) (i := 0) K dX7_becomes_7 rfl rfl ?_
  refine gf_X7_9 (pc := 8)  K dX7_becomes_8 ?_
  refine x_iload_n (pc := 11) (i := 1) K dX7_becomes_11 rfl rfl ?_
  refine x_iload_n (pc := 12) (i := 2) K dX7_becomes_12 rfl rfl ?_
  refine js_mRow (pc := 13) j hj hx K dX7_becomes_13 ?_
  refine x_iload_n (pc := 14) (i := 3) K dX7_becomes_14 rfl rfl ?_
  exact x_iretI (pc := 15) K dX7_becomes_15 ⟨rfl, rfl, rfl⟩

set_option maxRecDepth 100000 in
set_option maxHeartbeats 4000000 in
theorem c_yX7_of {k : Nat} {l : Launch} {G : Gm} {α ρ : Af} {u w : Nat} (hj : mS u w < 398) : CI k l G yX7_of (Cond.code yX7_of cX7_of 3 (some .int)) 1 [.ref (gA G idM), .int (nI u), .int (nI w)] α ρ (PI (ρ mRow (mS u w)) α ρ) := by
  refine CI.of [some (.ref (gA G idM)), some (.int (nI u)), some (.int (nI w))] (by decide) (Nat.le_of_ble_eq_true rfl) rfl rfl (fun C K => ?_)
  have K : Ok l _ G C RX7 cX7_of (some .int) 3 := K
  refine x_aload_n (pc := 0) (i := 0) K dX7_of_0 rfl rfl ?_
  refine gf_X7_9 (pc := 1)  K dX7_of_1 ?_
  refine x_bipush (pc := 4) (v := 9) K dX7_of_4 (by decide) ?_
  refine x_bipush (pc := 6) (v := 7) K dX7_of_6 (by decide) ?_
  refine x_iload_n (pc := 8) (i := 1) K dX7_of_8 rfl rfl ?_
  refine x_imul (pc := 9) K dX7_of_9 ?_
  refine x_iadd (pc := 10) K dX7_of_10 ?_
  refine x_iload_n (pc := 11) (i := 2) K dX7_of_11 rfl rfl ?_
  refine x_iadd (pc := 12) K dX7_of_12 ?_
  refine ib_mRow (pc := 13) (mS u w) hj mS_x K dX7_of_13 ?_
  exact x_iretI (pc := 14) K dX7_of_14 ⟨rfl, rfl, rfl⟩

set_option maxRecDepth 100000 in
set_option maxHeartbeats 4000000 in
theorem c_yX7_lets {k : Nat} {l : Launch} {G : Gm} {α ρ : Af} {u w : Nat} {v : Int32} (hj : mS u w < 398) : CI k l G yX7_lets (Cond.code yX7_lets cX7_lets 4 none) 1 [.ref (gA G idM), .int (nI u), .int (nI w), .int v] α ρ (PV α (up ρ mRow (mS u w) v)) := by
  refine CI.of [some (.ref (gA G idM)), some (.int (nI u)), some (.int (nI w)), some (.int v)] (by decide) (Nat.le_of_ble_eq_true rfl) rfl rfl (fun C K => ?_)
  have K : Ok l _ G C RX7 cX7_lets none 4 := K
  refine x_aload_n (pc := 0) (i := 0) K dX7_lets_0 rfl rfl ?_
  refine gf_X7_9 (pc := 1)  K dX7_lets_1 ?_
  refine x_bipush (pc := 4) (v := 9) K dX7_lets_4 (by decide) ?_
  refine x_bipush (pc := 6) (v := 7) K dX7_lets_6 (by decide) ?_
  refine x_iload_n (pc := 8) (i := 1) K dX7_lets_8 rfl rfl ?_
  refine x_imul (pc := 9) K dX7_lets_9 ?_
  refine x_iadd (pc := 10) K dX7_lets_10 ?_
  refine x_iload_n (pc := 11) (i := 2) K dX7_lets_11 rfl rfl ?_
  refine x_iadd (pc := 12) K dX7_lets_12 ?_
  refine x_iload_n (pc := 13) (i := 3) K dX7_lets_13 rfl rfl ?_
  refine js_mRow (pc := 14) (mS u w) hj mS_x K dX7_lets_14 ?_
  exact x_vretI (pc := 15) K dX7_lets_15 ⟨rfl, rfl⟩

theorem mS_lt {u w : Nat} (hu : u < 9) (hw : w < 7) : mS u w < 72 := by unfold mS; omega
def r_loaf (m age wet : Int32) : Int32 := r_held (20 - 2 * age - 3 * wet) 0 20 + m
def r_bri (x : Int32) : Int32 := if x ≤ 8 then 0 else x - 8
def r_bearsBy (k m age wet day : Int32) : Int32 := if k = 1 then r_loaf m age wet + 10 else if k = 2 then r_bri (r_loaf m age wet) else if k = 3 then r_held (8 + 2 * age) 0 40 else if k = 4 then (if age ≤ 10 then r_loaf m age wet + 10 else 60 + m) else if k = 5 then r_bri (r_loaf m age wet) + 2 * wet else if k = 6 then r_loaf m age wet + jrem day 7 else r_loaf m age wet
def r_bearsOf (k m age wet gone day : Int32) : Int32 := if gone = 1 then -1 else r_bearsBy k m age wet day
def r_bearsU (ρ : Af) (u : Nat) : Int32 := r_bearsOf (ρ mRow (mS u 0)) (ρ mRow (mS u 1)) (ρ mRow (mS u 4)) (ρ mRow (mS u 5)) (ρ mRow (mS u 6)) (ρ mRow 0)
def r_takesU (ρ : Af) (u : Nat) : Int32 := if ρ mRow (mS u 0) = 1 then 8 + ρ mRow (mS u 1) else if ρ mRow (mS u 0) = 2 then 10 + 2 * ρ mRow (mS u 1) else if ρ mRow (mS u 0) = 3 then 5 + ρ mRow (mS u 1) else if ρ mRow (mS u 0) = 4 then 4 + ρ mRow (mS u 1) else if ρ mRow (mS u 0) = 5 then 10 + 2 * ρ mRow (mS u 1) + jrem (ρ mRow (mS u 4)) 3 else if ρ mRow (mS u 0) = 6 then 0 else 5 + ρ mRow (mS u 1)
set_option maxRecDepth 100000 in
set_option maxHeartbeats 4000000 in
theorem c_yX7_bearsBy {k : Nat} {l : Launch} {G : Gm} {α ρ : Af} {u : Nat} {age wet : Int32} (hu : u < 9) : CI k l G yX7_bearsBy (Cond.code yX7_bearsBy cX7_bearsBy 7 (some .int)) 2 [.ref (gA G idM), .int (nI u), .int age, .int wet] α ρ (PI (r_bearsBy (ρ mRow (mS u 0)) (ρ mRow (mS u 1)) age wet (ρ mRow 0)) α ρ) := by
  refine CI.of [some (.ref (gA G idM)), some (.int (nI u)), some (.int age), some (.int wet), none, none, none] (by decide) (Nat.le_of_ble_eq_true rfl) rfl rfl (fun C K => ?_)
  have K : Ok l _ G C RX7 cX7_bearsBy (some .int) 7 := K
  refine x_aload_n (pc := 0) (i := 0) K dX7_bearsBy_0 rfl rfl ?_
  refine x_iload_n (pc := 1) (i := 1) K dX7_bearsBy_1 rfl rfl ?_
  refine x_iconst (pc := 2) (v := 1) K dX7_bearsBy_2 (by decide) ?_
  refine x_V2i (pc := 3) K (c_yX7_of (u := u) (w := 1) (Nat.lt_trans (mS_lt hu (by decide)) (by decide))) mw_yX7_of ⟨im_yX7_of, se_yX7_of⟩ mk_X7_62 rc_M rfl ⟨Nat.le_of_ble_eq_true rfl, Nat.le_of_ble_eq_true rfl, Nat.le_of_ble_eq_true rfl⟩ dX7_bearsBy_3 ?_
  refine x_istore (pc := 6) (i := 4) K dX7_bearsBy_6 rfl (by decide) ?_
  refine x_bipush (pc := 8) (v := 20) K dX7_bearsBy_8 (by decide) ?_
  refine x_iconst (pc := 10) (v := 2) K dX7_bearsBy_10 (by decide) ?_
  refine x_iload_n (pc := 11) (i := 2) K dX7_bearsBy_11 rfl rfl ?_
  refine x_imul (pc := 12) K dX7_bearsBy_12 ?_
  refine x_isub (pc := 13) K dX7_bearsBy_13 ?_
  refine x_iconst (pc := 14) (v := 3) K dX7_bearsBy_14 (by decide) ?_
  refine x_iload_n (pc := 15) (i := 3) K dX7_bearsBy_15 rfl rfl ?_
  refine x_imul (pc := 16) K dX7_bearsBy_16 ?_
  refine x_isub (pc := 17) K dX7_bearsBy_17 ?_
  refine x_iconst (pc := 18) (v := 0) K dX7_bearsBy_18 (by decide) ?_
  refine x_bipush (pc := 19) (v := 20) K dX7_bearsBy_19 (by decide) ?_
  refine x_S3i (pc := 21) K (c_yX7_held) mw_yX7_held st_yX7_held mk_X7_66 ⟨Nat.le_of_ble_eq_true rfl, Nat.le_of_ble_eq_true rfl, Nat.le_of_ble_eq_true rfl⟩ dX7_bearsBy_21 ?_
  refine x_iload (pc := 24) (i := 4) K dX7_bearsBy_24 rfl ?_
  refine x_iadd (pc := 26) K dX7_bearsBy_26 ?_
  refine x_istore (pc := 27) (i := 5) K dX7_bearsBy_27 rfl (by decide) ?_
  refine x_iload (pc := 29) (i := 5) K dX7_bearsBy_29 rfl ?_
  refine x_bipush (pc := 31) (v := 8) K dX7_bearsBy_31 (by decide) ?_
  refine x_icmp_le (pc := 33) (tgt := 44) K dX7_bearsBy_33 (by decide) (fun c_33 => ?_) (fun c_33 => ?_)
  · refine x_iconst (pc := 44) (v := 0) K dX7_bearsBy_44 (by decide) ?_
    refine x_istore (pc := 45) (i := 6) K dX7_bearsBy_45 rfl (by decide) ?_
    refine x_aload_n (pc := 47) (i := 0) K dX7_bearsBy_47 rfl rfl ?_
    refine x_iload_n (pc := 48) (i := 1) K dX7_bearsBy_48 rfl rfl ?_
    refine x_iconst (pc := 49) (v := 0) K dX7_bearsBy_49 (by decide) ?_
    refine x_V2i (pc := 50) K (c_yX7_of (u := u) (w := 0) (Nat.lt_trans (mS_lt hu (by decide)) (by decide))) mw_yX7_of ⟨im_yX7_of, se_yX7_of⟩ mk_X7_62 rc_M rfl ⟨Nat.le_of_ble_eq_true rfl, Nat.le_of_ble_eq_true rfl, Nat.le_of_ble_eq_true rfl⟩ dX7_bearsBy_50 ?_
    by_cases s_53_1 : (ρ mRow (mS u 0)) = 1
    · refine x_tableIn (pc := 53) (off := 39) (tgt := 92) K dX7_bearsBy_53 (by rw [s_53_1]; decide) (by decide) ?_
      refine x_iload (pc := 92) (i := 5) K dX7_bearsBy_92 rfl ?_
      refine x_bipush (pc := 94) (v := 10) K dX7_bearsBy_94 (by decide) ?_
      refine x_iadd (pc := 96) K dX7_bearsBy_96 ?_
      exact x_iretI (pc := 97) K dX7_bearsBy_97 ⟨by simp (decide := true) only [r_bearsBy, r_bri, show r_held (20 - 2 * age - 3 * wet) 0 20 + ρ mRow (mS u 1) = r_loaf (ρ mRow (mS u 1)) age wet from rfl, show  r_loaf (ρ mRow (mS u 1)) age wet ≤ 8 from c_33, if_pos s_53_1, ↓reduceIte], rfl, rfl⟩
    by_cases s_53_2 : (ρ mRow (mS u 0)) = 2
    · refine x_tableIn (pc := 53) (off := 45) (tgt := 98) K dX7_bearsBy_53 (by rw [s_53_2]; decide) (by decide) ?_
      refine x_iload (pc := 98) (i := 6) K dX7_bearsBy_98 rfl ?_
      exact x_iretI (pc := 100) K dX7_bearsBy_100 ⟨by simp (decide := true) only [r_bearsBy, r_bri, show r_held (20 - 2 * age - 3 * wet) 0 20 + ρ mRow (mS u 1) = r_loaf (ρ mRow (mS u 1)) age wet from rfl, show  r_loaf (ρ mRow (mS u 1)) age wet ≤ 8 from c_33, if_neg s_53_1, if_pos s_53_2, ↓reduceIte], rfl, rfl⟩
    by_cases s_53_3 : (ρ mRow (mS u 0)) = 3
    · refine x_tableIn (pc := 53) (off := 48) (tgt := 101) K dX7_bearsBy_53 (by rw [s_53_3]; decide) (by decide) ?_
      refine x_bipush (pc := 101) (v := 8) K dX7_bearsBy_101 (by decide) ?_
      refine x_iconst (pc := 103) (v := 2) K dX7_bearsBy_103 (by decide) ?_
      refine x_iload_n (pc := 104) (i := 2) K dX7_bearsBy_104 rfl rfl ?_
      refine x_imul (pc := 105) K dX7_bearsBy_105 ?_
      refine x_iadd (pc := 106) K dX7_bearsBy_106 ?_
      refine x_iconst (pc := 107) (v := 0) K dX7_bearsBy_107 (by decide) ?_
      refine x_bipush (pc := 108) (v := 40) K dX7_bearsBy_108 (by decide) ?_
      refine x_S3i (pc := 110) K (c_yX7_held) mw_yX7_held st_yX7_held mk_X7_66 ⟨Nat.le_of_ble_eq_true rfl, Nat.le_of_ble_eq_true rfl, Nat.le_of_ble_eq_true rfl⟩ dX7_bearsBy_110 ?_
      exact x_iretI (pc := 113) K dX7_bearsBy_113 ⟨by simp (decide := true) only [r_bearsBy, r_bri, show r_held (20 - 2 * age - 3 * wet) 0 20 + ρ mRow (mS u 1) = r_loaf (ρ mRow (mS u 1)) age wet from rfl, show  r_loaf (ρ mRow (mS u 1)) age wet ≤ 8 from c_33, if_neg s_53_1, if_neg s_53_2, if_pos s_53_3, ↓reduceIte], rfl, rfl⟩
    by_cases s_53_4 : (ρ mRow (mS u 0)) = 4
    · refine x_tableIn (pc := 53) (off := 61) (tgt := 114) K dX7_bearsBy_53 (by rw [s_53_4]; decide) (by decide) ?_
      refine x_iload_n (pc := 114) (i := 2) K dX7_bearsBy_114 rfl rfl ?_
      refine x_bipush (pc := 115) (v := 10) K dX7_bearsBy_115 (by decide) ?_
      refine x_icmp_le (pc := 117) (tgt := 128) K dX7_bearsBy_117 (by decide) (fun c_117 => ?_) (fun c_117 => ?_)
      · refine x_iload (pc := 128) (i := 5) K dX7_bearsBy_128 rfl ?_
        refine x_bipush (pc := 130) (v := 10) K dX7_bearsBy_130 (by decide) ?_
        refine x_iadd (pc := 132) K dX7_bearsBy_132 ?_
        exact x_iretI (pc := 133) K dX7_bearsBy_133 ⟨by simp (decide := true) only [r_bearsBy, r_bri, show r_held (20 - 2 * age - 3 * wet) 0 20 + ρ mRow (mS u 1) = r_loaf (ρ mRow (mS u 1)) age wet from rfl, show  r_loaf (ρ mRow (mS u 1)) age wet ≤ 8 from c_33, if_neg s_53_1, if_neg s_53_2, if_neg s_53_3, if_pos s_53_4, if_pos c_117, ↓reduceIte], rfl, rfl⟩
      · refine x_bipush (pc := 120) (v := 60) K dX7_bearsBy_120 (by decide) ?_
        refine x_iload (pc := 122) (i := 4) K dX7_bearsBy_122 rfl ?_
        refine x_iadd (pc := 124) K dX7_bearsBy_124 ?_
        refine x_goto (pc := 125) (tgt := 133) K dX7_bearsBy_125 (by decide) ?_
        exact x_iretI (pc := 133) K dX7_bearsBy_133 ⟨by simp (decide := true) only [r_bearsBy, r_bri, show r_held (20 - 2 * age - 3 * wet) 0 20 + ρ mRow (mS u 1) = r_loaf (ρ mRow (mS u 1)) age wet from rfl, show  r_loaf (ρ mRow (mS u 1)) age wet ≤ 8 from c_33, if_neg s_53_1, if_neg s_53_2, if_neg s_53_3, if_pos s_53_4, if_neg c_117, ↓reduceIte], rfl, rfl⟩
    by_cases s_53_5 : (ρ mRow (mS u 0)) = 5
    · refine x_tableIn (pc := 53) (off := 81) (tgt := 134) K dX7_bearsBy_53 (by rw [s_53_5]; decide) (by decide) ?_
      refine x_iload (pc := 134) (i := 6) K dX7_bearsBy_134 rfl ?_
      refine x_iconst (pc := 136) (v := 2) K dX7_bearsBy_136 (by decide) ?_
      refine x_iload_n (pc := 137) (i := 3) K dX7_bearsBy_137 rfl rfl ?_
      refine x_imul (pc := 138) K dX7_bearsBy_138 ?_
      refine x_iadd (pc := 139) K dX7_bearsBy_139 ?_
      exact x_iretI (pc := 140) K dX7_bearsBy_140 ⟨by simp (decide := true) only [r_bearsBy, r_bri, show r_held (20 - 2 * age - 3 * wet) 0 20 + ρ mRow (mS u 1) = r_loaf (ρ mRow (mS u 1)) age wet from rfl, show  r_loaf (ρ mRow (mS u 1)) age wet ≤ 8 from c_33, if_neg s_53_1, if_neg s_53_2, if_neg s_53_3, if_neg s_53_4, if_pos s_53_5, ↓reduceIte], rfl, rfl⟩
    by_cases s_53_6 : (ρ mRow (mS u 0)) = 6
    · refine x_tableIn (pc := 53) (off := 88) (tgt := 141) K dX7_bearsBy_53 (by rw [s_53_6]; decide) (by decide) ?_
      refine x_iload (pc := 141) (i := 5) K dX7_bearsBy_141 rfl ?_
      refine x_aload_n (pc := 143) (i := 0) K dX7_bearsBy_143 rfl rfl ?_
      refine gf_X7_9 (pc := 144)  K dX7_bearsBy_144 ?_
      refine x_iconst (pc := 147) (v := 0) K dX7_bearsBy_147 (by decide) ?_
      refine ib_mRow (pc := 148) 0 (by decide) rfl K dX7_bearsBy_148 ?_
      refine x_bipush (pc := 149) (v := 7) K dX7_bearsBy_149 (by decide) ?_
      refine x_irem (pc := 151) K dX7_bearsBy_151 (by decide) ?_
      refine x_iadd (pc := 152) K dX7_bearsBy_152 ?_
      exact x_iretI (pc := 153) K dX7_bearsBy_153 ⟨by simp (decide := true) only [r_bearsBy, r_bri, show r_held (20 - 2 * age - 3 * wet) 0 20 + ρ mRow (mS u 1) = r_loaf (ρ mRow (mS u 1)) age wet from rfl, show  r_loaf (ρ mRow (mS u 1)) age wet ≤ 8 from c_33, if_neg s_53_1, if_neg s_53_2, if_neg s_53_3, if_neg s_53_4, if_neg s_53_5, if_pos s_53_6, ↓reduceIte], rfl, rfl⟩
    refine x_tableOut (pc := 53) (tgt := 154) K dX7_bearsBy_53 (by have t0 : ¬ ((ρ mRow (mS u 0))).toInt = 1 := fun h => s_53_1 (Int32.toInt_inj.mp h); have t1 : ¬ ((ρ mRow (mS u 0))).toInt = 2 := fun h => s_53_2 (Int32.toInt_inj.mp h); have t2 : ¬ ((ρ mRow (mS u 0))).toInt = 3 := fun h => s_53_3 (Int32.toInt_inj.mp h); have t3 : ¬ ((ρ mRow (mS u 0))).toInt = 4 := fun h => s_53_4 (Int32.toInt_inj.mp h); have t4 : ¬ ((ρ mRow (mS u 0))).toInt = 5 := fun h => s_53_5 (Int32.toInt_inj.mp h); have t5 : ¬ ((ρ mRow (mS u 0))).toInt = 6 := fun h => s_53_6 (Int32.toInt_inj.mp h); omega) (by decide) ?_
    refine x_iload (pc := 154) (i := 5) K dX7_bearsBy_154 rfl ?_
    exact x_iretI (pc := 156) K dX7_bearsBy_156 ⟨by simp (decide := true) only [r_bearsBy, r_bri, show r_held (20 - 2 * age - 3 * wet) 0 20 + ρ mRow (mS u 1) = r_loaf (ρ mRow (mS u 1)) age wet from rfl, show  r_loaf (ρ mRow (mS u 1)) age wet ≤ 8 from c_33, if_neg s_53_1, if_neg s_53_2, if_neg s_53_3, if_neg s_53_4, if_neg s_53_5, if_neg s_53_6, ↓reduceIte], rfl, rfl⟩
  · refine x_iload (pc := 36) (i := 5) K dX7_bearsBy_36 rfl ?_
    refine x_bipush (pc := 38) (v := 8) K dX7_bearsBy_38 (by decide) ?_
    refine x_isub (pc := 40) K dX7_bearsBy_40 ?_
    refine x_goto (pc := 41) (tgt := 45) K dX7_bearsBy_41 (by decide) ?_
    refine x_istore (pc := 45) (i := 6) K dX7_bearsBy_45 rfl (by decide) ?_
    refine x_aload_n (pc := 47) (i := 0) K dX7_bearsBy_47 rfl rfl ?_
    refine x_iload_n (pc := 48) (i := 1) K dX7_bearsBy_48 rfl rfl ?_
    refine x_iconst (pc := 49) (v := 0) K dX7_bearsBy_49 (by decide) ?_
    refine x_V2i (pc := 50) K (c_yX7_of (u := u) (w := 0) (Nat.lt_trans (mS_lt hu (by decide)) (by decide))) mw_yX7_of ⟨im_yX7_of, se_yX7_of⟩ mk_X7_62 rc_M rfl ⟨Nat.le_of_ble_eq_true rfl, Nat.le_of_ble_eq_true rfl, Nat.le_of_ble_eq_true rfl⟩ dX7_bearsBy_50 ?_
    by_cases s_53_1 : (ρ mRow (mS u 0)) = 1
    · refine x_tableIn (pc := 53) (off := 39) (tgt := 92) K dX7_bearsBy_53 (by rw [s_53_1]; decide) (by decide) ?_
      refine x_iload (pc := 92) (i := 5) K dX7_bearsBy_92 rfl ?_
      refine x_bipush (pc := 94) (v := 10) K dX7_bearsBy_94 (by decide) ?_
      refine x_iadd (pc := 96) K dX7_bearsBy_96 ?_
      exact x_iretI (pc := 97) K dX7_bearsBy_97 ⟨by simp (decide := true) only [r_bearsBy, r_bri, show r_held (20 - 2 * age - 3 * wet) 0 20 + ρ mRow (mS u 1) = r_loaf (ρ mRow (mS u 1)) age wet from rfl, show ¬ r_loaf (ρ mRow (mS u 1)) age wet ≤ 8 from c_33, if_pos s_53_1, ↓reduceIte], rfl, rfl⟩
    by_cases s_53_2 : (ρ mRow (mS u 0)) = 2
    · refine x_tableIn (pc := 53) (off := 45) (tgt := 98) K dX7_bearsBy_53 (by rw [s_53_2]; decide) (by decide) ?_
      refine x_iload (pc := 98) (i := 6) K dX7_bearsBy_98 rfl ?_
      exact x_iretI (pc := 100) K dX7_bearsBy_100 ⟨by simp (decide := true) only [r_bearsBy, r_bri, show r_held (20 - 2 * age - 3 * wet) 0 20 + ρ mRow (mS u 1) = r_loaf (ρ mRow (mS u 1)) age wet from rfl, show ¬ r_loaf (ρ mRow (mS u 1)) age wet ≤ 8 from c_33, if_neg s_53_1, if_pos s_53_2, ↓reduceIte], rfl, rfl⟩
    by_cases s_53_3 : (ρ mRow (mS u 0)) = 3
    · refine x_tableIn (pc := 53) (off := 48) (tgt := 101) K dX7_bearsBy_53 (by rw [s_53_3]; decide) (by decide) ?_
      refine x_bipush (pc := 101) (v := 8) K dX7_bearsBy_101 (by decide) ?_
      refine x_iconst (pc := 103) (v := 2) K dX7_bearsBy_103 (by decide) ?_
      refine x_iload_n (pc := 104) (i := 2) K dX7_bearsBy_104 rfl rfl ?_
      refine x_imul (pc := 105) K dX7_bearsBy_105 ?_
      refine x_iadd (pc := 106) K dX7_bearsBy_106 ?_
      refine x_iconst (pc := 107) (v := 0) K dX7_bearsBy_107 (by decide) ?_
      refine x_bipush (pc := 108) (v := 40) K dX7_bearsBy_108 (by decide) ?_
      refine x_S3i (pc := 110) K (c_yX7_held) mw_yX7_held st_yX7_held mk_X7_66 ⟨Nat.le_of_ble_eq_true rfl, Nat.le_of_ble_eq_true rfl, Nat.le_of_ble_eq_true rfl⟩ dX7_bearsBy_110 ?_
      exact x_iretI (pc := 113) K dX7_bearsBy_113 ⟨by simp (decide := true) only [r_bearsBy, r_bri, show r_held (20 - 2 * age - 3 * wet) 0 20 + ρ mRow (mS u 1) = r_loaf (ρ mRow (mS u 1)) age wet from rfl, show ¬ r_loaf (ρ mRow (mS u 1)) age wet ≤ 8 from c_33, if_neg s_53_1, if_neg s_53_2, if_pos s_53_3, ↓reduceIte], rfl, rfl⟩
    by_cases s_53_4 : (ρ mRow (mS u 0)) = 4
    · refine x_tableIn (pc := 53) (off := 61) (tgt := 114) K dX7_bearsBy_53 (by rw [s_53_4]; decide) (by decide) ?_
      refine x_iload_n (pc := 114) (i := 2) K dX7_bearsBy_114 rfl rfl ?_
      refine x_bipush (pc := 115) (v := 10) K dX7_bearsBy_115 (by decide) ?_
      refine x_icmp_le (pc := 117) (tgt := 128) K dX7_bearsBy_117 (by decide) (fun c_117 => ?_) (fun c_117 => ?_)
      · refine x_iload (pc := 128) (i := 5) K dX7_bearsBy_128 rfl ?_
        refine x_bipush (pc := 130) (v := 10) K dX7_bearsBy_130 (by decide) ?_
        refine x_iadd (pc := 132) K dX7_bearsBy_132 ?_
        exact x_iretI (pc := 133) K dX7_bearsBy_133 ⟨by simp (decide := true) only [r_bearsBy, r_bri, show r_held (20 - 2 * age - 3 * wet) 0 20 + ρ mRow (mS u 1) = r_loaf (ρ mRow (mS u 1)) age wet from rfl, show ¬ r_loaf (ρ mRow (mS u 1)) age wet ≤ 8 from c_33, if_neg s_53_1, if_neg s_53_2, if_neg s_53_3, if_pos s_53_4, if_pos c_117, ↓reduceIte], rfl, rfl⟩
      · refine x_bipush (pc := 120) (v := 60) K dX7_bearsBy_120 (by decide) ?_
        refine x_iload (pc := 122) (i := 4) K dX7_bearsBy_122 rfl ?_
        refine x_iadd (pc := 124) K dX7_bearsBy_124 ?_
        refine x_goto (pc := 125) (tgt := 133) K dX7_bearsBy_125 (by decide) ?_
        exact x_iretI (pc := 133) K dX7_bearsBy_133 ⟨by simp (decide := true) only [r_bearsBy, r_bri, show r_held (20 - 2 * age - 3 * wet) 0 20 + ρ mRow (mS u 1) = r_loaf (ρ mRow (mS u 1)) age wet from rfl, show ¬ r_loaf (ρ mRow (mS u 1)) age wet ≤ 8 from c_33, if_neg s_53_1, if_neg s_53_2, if_neg s_53_3, if_pos s_53_4, if_neg c_117, ↓reduceIte], rfl, rfl⟩
    by_cases s_53_5 : (ρ mRow (mS u 0)) = 5
    · refine x_tableIn (pc := 53) (off := 81) (tgt := 134) K dX7_bearsBy_53 (by rw [s_53_5]; decide) (by decide) ?_
      refine x_iload (pc := 134) (i := 6) K dX7_bearsBy_134 rfl ?_
      refine x_iconst (pc := 136) (v := 2) K dX7_bearsBy_136 (by decide) ?_
      refine x_iload_n (pc := 137) (i := 3) K dX7_bearsBy_137 rfl rfl ?_
      refine x_imul (pc := 138) K dX7_bearsBy_138 ?_
      refine x_iadd (pc := 139) K dX7_bearsBy_139 ?_
      exact x_iretI (pc := 140) K dX7_bearsBy_140 ⟨by simp (decide := true) only [r_bearsBy, r_bri, show r_held (20 - 2 * age - 3 * wet) 0 20 + ρ mRow (mS u 1) = r_loaf (ρ mRow (mS u 1)) age wet from rfl, show ¬ r_loaf (ρ mRow (mS u 1)) age wet ≤ 8 from c_33, if_neg s_53_1, if_neg s_53_2, if_neg s_53_3, if_neg s_53_4, if_pos s_53_5, ↓reduceIte], rfl, rfl⟩
    by_cases s_53_6 : (ρ mRow (mS u 0)) = 6
    · refine x_tableIn (pc := 53) (off := 88) (tgt := 141) K dX7_bearsBy_53 (by rw [s_53_6]; decide) (by decide) ?_
      refine x_iload (pc := 141) (i := 5) K dX7_bearsBy_141 rfl ?_
      refine x_aload_n (pc := 143) (i := 0) K dX7_bearsBy_143 rfl rfl ?_
      refine gf_X7_9 (pc := 144)  K dX7_bearsBy_144 ?_
      refine x_iconst (pc := 147) (v := 0) K dX7_bearsBy_147 (by decide) ?_
      refine ib_mRow (pc := 148) 0 (by decide) rfl K dX7_bearsBy_148 ?_
      refine x_bipush (pc := 149) (v := 7) K dX7_bearsBy_149 (by decide) ?_
      refine x_irem (pc := 151) K dX7_bearsBy_151 (by decide) ?_
      refine x_iadd (pc := 152) K dX7_bearsBy_152 ?_
      exact x_iretI (pc := 153) K dX7_bearsBy_153 ⟨by simp (decide := true) only [r_bearsBy, r_bri, show r_held (20 - 2 * age - 3 * wet) 0 20 + ρ mRow (mS u 1) = r_loaf (ρ mRow (mS u 1)) age wet from rfl, show ¬ r_loaf (ρ mRow (mS u 1)) age wet ≤ 8 from c_33, if_neg s_53_1, if_neg s_53_2, if_neg s_53_3, if_neg s_53_4, if_neg s_53_5, if_pos s_53_6, ↓reduceIte], rfl, rfl⟩
    refine x_tableOut (pc := 53) (tgt := 154) K dX7_bearsBy_53 (by have t0 : ¬ ((ρ mRow (mS u 0))).toInt = 1 := fun h => s_53_1 (Int32.toInt_inj.mp h); have t1 : ¬ ((ρ mRow (mS u 0))).toInt = 2 := fun h => s_53_2 (Int32.toInt_inj.mp h); have t2 : ¬ ((ρ mRow (mS u 0))).toInt = 3 := fun h => s_53_3 (Int32.toInt_inj.mp h); have t3 : ¬ ((ρ mRow (mS u 0))).toInt = 4 := fun h => s_53_4 (Int32.toInt_inj.mp h); have t4 : ¬ ((ρ mRow (mS u 0))).toInt = 5 := fun h => s_53_5 (Int32.toInt_inj.mp h); have t5 : ¬ ((ρ mRow (mS u 0))).toInt = 6 := fun h => s_53_6 (Int32.toInt_inj.mp h); omega) (by decide) ?_
    refine x_iload (pc := 154) (i := 5) K dX7_bearsBy_154 rfl ?_
    exact x_iretI (pc := 156) K dX7_bearsBy_156 ⟨by simp (decide := true) only [r_bearsBy, r_bri, show r_held (20 - 2 * age - 3 * wet) 0 20 + ρ mRow (mS u 1) = r_loaf (ρ mRow (mS u 1)) age wet from rfl, show ¬ r_loaf (ρ mRow (mS u 1)) age wet ≤ 8 from c_33, if_neg s_53_1, if_neg s_53_2, if_neg s_53_3, if_neg s_53_4, if_neg s_53_5, if_neg s_53_6, ↓reduceIte], rfl, rfl⟩

set_option maxRecDepth 100000 in
set_option maxHeartbeats 4000000 in
theorem c_yX7_bearsOf {k : Nat} {l : Launch} {G : Gm} {α ρ : Af} {u : Nat} (hu : u < 9) : CI k l G yX7_bearsOf (Cond.code yX7_bearsOf cX7_bearsOf 2 (some .int)) 3 [.ref (gA G idM), .int (nI u)] α ρ (PI (r_bearsU ρ u) α ρ) := by
  refine CI.of [some (.ref (gA G idM)), some (.int (nI u))] (by decide) (Nat.le_of_ble_eq_true rfl) rfl rfl (fun C K => ?_)
  have K : Ok l _ G C RX7 cX7_bearsOf (some .int) 2 := K
  refine x_aload_n (pc := 0) (i := 0) K dX7_bearsOf_0 rfl rfl ?_
  refine x_iload_n (pc := 1) (i := 1) K dX7_bearsOf_1 rfl rfl ?_
  refine x_bipush (pc := 2) (v := 6) K dX7_bearsOf_2 (by decide) ?_
  refine x_V2i (pc := 4) K (c_yX7_of (u := u) (w := 6) (Nat.lt_trans (mS_lt hu (by decide)) (by decide))) mw_yX7_of ⟨im_yX7_of, se_yX7_of⟩ mk_X7_62 rc_M rfl ⟨Nat.le_of_ble_eq_true rfl, Nat.le_of_ble_eq_true rfl, Nat.le_of_ble_eq_true rfl⟩ dX7_bearsOf_4 ?_
  refine x_iconst (pc := 7) (v := 1) K dX7_bearsOf_7 (by decide) ?_
  refine x_icmp_ne (pc := 8) (tgt := 15) K dX7_bearsOf_8 (by decide) (fun c_8 => ?_) (fun c_8 => ?_)
  · refine x_aload_n (pc := 15) (i := 0) K dX7_bearsOf_15 rfl rfl ?_
    refine x_iload_n (pc := 16) (i := 1) K dX7_bearsOf_16 rfl rfl ?_
    refine x_aload_n (pc := 17) (i := 0) K dX7_bearsOf_17 rfl rfl ?_
    refine x_iload_n (pc := 18) (i := 1) K dX7_bearsOf_18 rfl rfl ?_
    refine x_iconst (pc := 19) (v := 4) K dX7_bearsOf_19 (by decide) ?_
    refine x_V2i (pc := 20) K (c_yX7_of (u := u) (w := 4) (Nat.lt_trans (mS_lt hu (by decide)) (by decide))) mw_yX7_of ⟨im_yX7_of, se_yX7_of⟩ mk_X7_62 rc_M rfl ⟨Nat.le_of_ble_eq_true rfl, Nat.le_of_ble_eq_true rfl, Nat.le_of_ble_eq_true rfl⟩ dX7_bearsOf_20 ?_
    refine x_aload_n (pc := 23) (i := 0) K dX7_bearsOf_23 rfl rfl ?_
    refine x_iload_n (pc := 24) (i := 1) K dX7_bearsOf_24 rfl rfl ?_
    refine x_iconst (pc := 25) (v := 5) K dX7_bearsOf_25 (by decide) ?_
    refine x_V2i (pc := 26) K (c_yX7_of (u := u) (w := 5) (Nat.lt_trans (mS_lt hu (by decide)) (by decide))) mw_yX7_of ⟨im_yX7_of, se_yX7_of⟩ mk_X7_62 rc_M rfl ⟨Nat.le_of_ble_eq_true rfl, Nat.le_of_ble_eq_true rfl, Nat.le_of_ble_eq_true rfl⟩ dX7_bearsOf_26 ?_
    refine x_V3i (pc := 29) K (c_yX7_bearsBy hu) mw_yX7_bearsBy ⟨im_yX7_bearsBy, se_yX7_bearsBy⟩ mk_X7_70 rc_M rfl ⟨Nat.le_of_ble_eq_true rfl, Nat.le_of_ble_eq_true rfl, Nat.le_of_ble_eq_true rfl⟩ dX7_bearsOf_29 ?_
    exact x_iretI (pc := 32) K dX7_bearsOf_32 ⟨by simp (decide := true) only [r_bearsU, r_bearsOf, if_neg c_8, ↓reduceIte, Bool.false_eq_true, bI_t, bI_f], rfl, rfl⟩
  · refine x_iconst (pc := 11) (v := (-1)) K dX7_bearsOf_11 (by decide) ?_
    refine x_goto (pc := 12) (tgt := 32) K dX7_bearsOf_12 (by decide) ?_
    exact x_iretI (pc := 32) K dX7_bearsOf_32 ⟨by simp (decide := true) only [r_bearsU, r_bearsOf, if_pos c_8, ↓reduceIte, Bool.false_eq_true, bI_t, bI_f], rfl, rfl⟩

set_option maxRecDepth 100000 in
set_option maxHeartbeats 4000000 in
theorem c_yX7_takesOf {k : Nat} {l : Launch} {G : Gm} {α ρ : Af} {u : Nat} (hu : u < 9) : CI k l G yX7_takesOf (Cond.code yX7_takesOf cX7_takesOf 3 (some .int)) 2 [.ref (gA G idM), .int (nI u)] α ρ (PI (r_takesU ρ u) α ρ) := by
  refine CI.of [some (.ref (gA G idM)), some (.int (nI u)), none] (by decide) (Nat.le_of_ble_eq_true rfl) rfl rfl (fun C K => ?_)
  have K : Ok l _ G C RX7 cX7_takesOf (some .int) 3 := K
  refine x_aload_n (pc := 0) (i := 0) K dX7_takesOf_0 rfl rfl ?_
  refine x_iload_n (pc := 1) (i := 1) K dX7_takesOf_1 rfl rfl ?_
  refine x_iconst (pc := 2) (v := 1) K dX7_takesOf_2 (by decide) ?_
  refine x_V2i (pc := 3) K (c_yX7_of (u := u) (w := 1) (Nat.lt_trans (mS_lt hu (by decide)) (by decide))) mw_yX7_of ⟨im_yX7_of, se_yX7_of⟩ mk_X7_62 rc_M rfl ⟨Nat.le_of_ble_eq_true rfl, Nat.le_of_ble_eq_true rfl, Nat.le_of_ble_eq_true rfl⟩ dX7_takesOf_3 ?_
  refine x_istore_n (pc := 6) (i := 2) K dX7_takesOf_6 rfl rfl (by decide) ?_
  refine x_aload_n (pc := 7) (i := 0) K dX7_takesOf_7 rfl rfl ?_
  refine x_iload_n (pc := 8) (i := 1) K dX7_takesOf_8 rfl rfl ?_
  refine x_iconst (pc := 9) (v := 0) K dX7_takesOf_9 (by decide) ?_
  refine x_V2i (pc := 10) K (c_yX7_of (u := u) (w := 0) (Nat.lt_trans (mS_lt hu (by decide)) (by decide))) mw_yX7_of ⟨im_yX7_of, se_yX7_of⟩ mk_X7_62 rc_M rfl ⟨Nat.le_of_ble_eq_true rfl, Nat.le_of_ble_eq_true rfl, Nat.le_of_ble_eq_true rfl⟩ dX7_takesOf_10 ?_
  by_cases s_13_1 : (ρ mRow (mS u 0)) = 1
  · refine x_tableIn (pc := 13) (off := 39) (tgt := 52) K dX7_takesOf_13 (by rw [s_13_1]; decide) (by decide) ?_
    refine x_bipush (pc := 52) (v := 8) K dX7_takesOf_52 (by decide) ?_
    refine x_iload_n (pc := 54) (i := 2) K dX7_takesOf_54 rfl rfl ?_
    refine x_iadd (pc := 55) K dX7_takesOf_55 ?_
    exact x_iretI (pc := 56) K dX7_takesOf_56 ⟨by simp (decide := true) only [r_takesU, if_pos s_13_1, ↓reduceIte, Bool.false_eq_true, bI_t, bI_f], rfl, rfl⟩
  by_cases s_13_2 : (ρ mRow (mS u 0)) = 2
  · refine x_tableIn (pc := 13) (off := 44) (tgt := 57) K dX7_takesOf_13 (by rw [s_13_2]; decide) (by decide) ?_
    refine x_bipush (pc := 57) (v := 10) K dX7_takesOf_57 (by decide) ?_
    refine x_iconst (pc := 59) (v := 2) K dX7_takesOf_59 (by decide) ?_
    refine x_iload_n (pc := 60) (i := 2) K dX7_takesOf_60 rfl rfl ?_
    refine x_imul (pc := 61) K dX7_takesOf_61 ?_
    refine x_iadd (pc := 62) K dX7_takesOf_62 ?_
    exact x_iretI (pc := 63) K dX7_takesOf_63 ⟨by simp (decide := true) only [r_takesU, if_neg s_13_1, if_pos s_13_2, ↓reduceIte, Bool.false_eq_true, bI_t, bI_f], rfl, rfl⟩
  by_cases s_13_3 : (ρ mRow (mS u 0)) = 3
  · refine x_tableIn (pc := 13) (off := 73) (tgt := 86) K dX7_takesOf_13 (by rw [s_13_3]; decide) (by decide) ?_
    refine x_iconst (pc := 86) (v := 5) K dX7_takesOf_86 (by decide) ?_
    refine x_iload_n (pc := 87) (i := 2) K dX7_takesOf_87 rfl rfl ?_
    refine x_iadd (pc := 88) K dX7_takesOf_88 ?_
    exact x_iretI (pc := 89) K dX7_takesOf_89 ⟨by simp (decide := true) only [r_takesU, if_neg s_13_1, if_neg s_13_2, if_pos s_13_3, ↓reduceIte, Bool.false_eq_true, bI_t, bI_f], rfl, rfl⟩
  by_cases s_13_4 : (ρ mRow (mS u 0)) = 4
  · refine x_tableIn (pc := 13) (off := 51) (tgt := 64) K dX7_takesOf_13 (by rw [s_13_4]; decide) (by decide) ?_
    refine x_iconst (pc := 64) (v := 4) K dX7_takesOf_64 (by decide) ?_
    refine x_iload_n (pc := 65) (i := 2) K dX7_takesOf_65 rfl rfl ?_
    refine x_iadd (pc := 66) K dX7_takesOf_66 ?_
    exact x_iretI (pc := 67) K dX7_takesOf_67 ⟨by simp (decide := true) only [r_takesU, if_neg s_13_1, if_neg s_13_2, if_neg s_13_3, if_pos s_13_4, ↓reduceIte, Bool.false_eq_true, bI_t, bI_f], rfl, rfl⟩
  by_cases s_13_5 : (ρ mRow (mS u 0)) = 5
  · refine x_tableIn (pc := 13) (off := 55) (tgt := 68) K dX7_takesOf_13 (by rw [s_13_5]; decide) (by decide) ?_
    refine x_bipush (pc := 68) (v := 10) K dX7_takesOf_68 (by decide) ?_
    refine x_iconst (pc := 70) (v := 2) K dX7_takesOf_70 (by decide) ?_
    refine x_iload_n (pc := 71) (i := 2) K dX7_takesOf_71 rfl rfl ?_
    refine x_imul (pc := 72) K dX7_takesOf_72 ?_
    refine x_iadd (pc := 73) K dX7_takesOf_73 ?_
    refine x_aload_n (pc := 74) (i := 0) K dX7_takesOf_74 rfl rfl ?_
    refine x_iload_n (pc := 75) (i := 1) K dX7_takesOf_75 rfl rfl ?_
    refine x_iconst (pc := 76) (v := 4) K dX7_takesOf_76 (by decide) ?_
    refine x_V2i (pc := 77) K (c_yX7_of (u := u) (w := 4) (Nat.lt_trans (mS_lt hu (by decide)) (by decide))) mw_yX7_of ⟨im_yX7_of, se_yX7_of⟩ mk_X7_62 rc_M rfl ⟨Nat.le_of_ble_eq_true rfl, Nat.le_of_ble_eq_true rfl, Nat.le_of_ble_eq_true rfl⟩ dX7_takesOf_77 ?_
    refine x_iconst (pc := 80) (v := 3) K dX7_takesOf_80 (by decide) ?_
    refine x_irem (pc := 81) K dX7_takesOf_81 (by decide) ?_
    refine x_iadd (pc := 82) K dX7_takesOf_82 ?_
    exact x_iretI (pc := 83) K dX7_takesOf_83 ⟨by simp (decide := true) only [r_takesU, if_neg s_13_1, if_neg s_13_2, if_neg s_13_3, if_neg s_13_4, if_pos s_13_5, ↓reduceIte, Bool.false_eq_true, bI_t, bI_f], rfl, rfl⟩
  by_cases s_13_6 : (ρ mRow (mS u 0)) = 6
  · refine x_tableIn (pc := 13) (off := 71) (tgt := 84) K dX7_takesOf_13 (by rw [s_13_6]; decide) (by decide) ?_
    refine x_iconst (pc := 84) (v := 0) K dX7_takesOf_84 (by decide) ?_
    exact x_iretI (pc := 85) K dX7_takesOf_85 ⟨by simp (decide := true) only [r_takesU, if_neg s_13_1, if_neg s_13_2, if_neg s_13_3, if_neg s_13_4, if_neg s_13_5, if_pos s_13_6, ↓reduceIte, Bool.false_eq_true, bI_t, bI_f], rfl, rfl⟩
  refine x_tableOut (pc := 13) (tgt := 86) K dX7_takesOf_13 (by have t0 : ¬ ((ρ mRow (mS u 0))).toInt = 1 := fun h => s_13_1 (Int32.toInt_inj.mp h); have t1 : ¬ ((ρ mRow (mS u 0))).toInt = 2 := fun h => s_13_2 (Int32.toInt_inj.mp h); have t2 : ¬ ((ρ mRow (mS u 0))).toInt = 3 := fun h => s_13_3 (Int32.toInt_inj.mp h); have t3 : ¬ ((ρ mRow (mS u 0))).toInt = 4 := fun h => s_13_4 (Int32.toInt_inj.mp h); have t4 : ¬ ((ρ mRow (mS u 0))).toInt = 5 := fun h => s_13_5 (Int32.toInt_inj.mp h); have t5 : ¬ ((ρ mRow (mS u 0))).toInt = 6 := fun h => s_13_6 (Int32.toInt_inj.mp h); omega) (by decide) ?_
  refine x_iconst (pc := 86) (v := 5) K dX7_takesOf_86 (by decide) ?_
  refine x_iload_n (pc := 87) (i := 2) K dX7_takesOf_87 rfl rfl ?_
  refine x_iadd (pc := 88) K dX7_takesOf_88 ?_
  exact x_iretI (pc := 89) K dX7_takesOf_89 ⟨by simp (decide := true) only [r_takesU, if_neg s_13_1, if_neg s_13_2, if_neg s_13_3, if_neg s_13_4, if_neg s_13_5, if_neg s_13_6, ↓reduceIte, Bool.false_eq_true, bI_t, bI_f], rfl, rfl⟩
