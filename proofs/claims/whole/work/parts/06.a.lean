theorem inL {x : Int32} {n : Nat} (h : (decide (0 ≤ x.toInt) && decide (x.toInt < n)) = true) : vp_in x n := by
  rw [Bool.and_eq_true, decide_eq_true_eq, decide_eq_true_eq] at h
  exact vp_in_iff.mpr h
section HE
variable {k : Nat} {l : Launch} {d : Nat} {G : Gm} {C : Cx} {P : Po} {own : String} {cc : ByteArray} {ret : Option FieldType} {nL pc : Nat} {ls : List (Option Value)} {st : List Value} {α ρ : Af}
theorem ab_Sp {e : Nat} (he : e < 3) (j : Nat) (hj : j < 9) (K : Ok l d G C own cc ret nL) (hdg : decode cc pc = .ok (.aaload, 1)) (kk : X k l d G C P nL (pc + 1) ls (.ref (gA G (idS e j)) :: st) α ρ) : X k l d G C P nL pc ls (.int (nI j) :: .ref (gA G (idSp e)) :: st) α ρ :=
  aa_Sp he K (vp_in_nI hj (by decide)) hdg (by rw [nI_clamp (Nat.lt_trans hj (by decide))]; exact kk)
theorem ab_Lw {e : Nat} (he : e < 3) (j : Nat) (hj : j < 2) (K : Ok l d G C own cc ret nL) (hdg : decode cc pc = .ok (.aaload, 1)) (kk : X k l d G C P nL (pc + 1) ls (.ref (gA G (idL e j)) :: st) α ρ) : X k l d G C P nL pc ls (.int (nI j) :: .ref (gA G (idLw e)) :: st) α ρ :=
  aa_Lw he K (vp_in_nI hj (by decide)) hdg (by rw [nI_clamp (Nat.lt_trans hj (by decide))]; exact kk)
theorem ab_Shs (j : Nat) (hj : j < 4) (K : Ok l d G C own cc ret nL) (hdg : decode cc pc = .ok (.aaload, 1)) (kk : X k l d G C P nL (pc + 1) ls (.ref (gA G (idSh j)) :: st) α ρ) : X k l d G C P nL pc ls (.int (nI j) :: .ref (gA G idShs) :: st) α ρ :=
  aa_Shs K (vp_in_nI hj (by decide)) hdg (by rw [nI_clamp (Nat.lt_trans hj (by decide))]; exact kk)
end HE

def q_within (v lo hi : Int32) : Bool := if v < lo then false else if hi < v then false else true
def q_held (v lo hi : Int32) : Int32 := if lo < (if v < hi then v else hi) then (if v < hi then v else hi) else lo
set_option maxRecDepth 100000 in
set_option maxHeartbeats 4000000 in
theorem c_yX6_within {k : Nat} {l : Launch} {G : Gm} {α ρ : Af} {v lo hi : Int32}  : CI k l G yX6_within (Cond.code yX6_within cX6_within 3 (some .boolean)) 1 [.int v, .int lo, .int hi] α ρ (PI (bI (q_within v lo hi)) α ρ) := by
  refine CI.of [some (.int v), some (.int lo), some (.int hi)] (by decide) (Nat.le_of_ble_eq_true rfl) rfl rfl (fun C K => ?_)
  have K : Ok l _ G C RX6 cX6_within (some .boolean) 3 := K
  refine x_iload_n (pc := 0) (i := 0) K dX6_within_0 rfl rfl ?_
  refine x_iload_n (pc := 1) (i := 1) K dX6_within_1 rfl rfl ?_
  refine x_icmp_lt (pc := 2) (tgt := 14) K dX6_within_2 (by decide) (fun c_2 => ?_) (fun c_2 => ?_)
  · refine x_iconst (pc := 14) (v := 0) K dX6_within_14 (by decide) ?_
    exact x_nretI (pc := 15) K dX6_within_15 rfl ⟨by simp (decide := true) only [q_within, if_pos c_2, ↓reduceIte, Bool.false_eq_true, bI_t, bI_f], rfl, rfl⟩
  · refine x_iload_n (pc := 5) (i := 0) K dX6_within_5 rfl rfl ?_
    refine x_iload_n (pc := 6) (i := 2) K dX6_within_6 rfl rfl ?_
    refine x_icmp_gt (pc := 7) (tgt := 14) K dX6_within_7 (by decide) (fun c_7 => ?_) (fun c_7 => ?_)
    · refine x_iconst (pc := 14) (v := 0) K dX6_within_14 (by decide) ?_
      exact x_nretI (pc := 15) K dX6_within_15 rfl ⟨by simp (decide := true) only [q_within, if_neg c_2, if_pos c_7, ↓reduceIte, Bool.false_eq_true, bI_t, bI_f], rfl, rfl⟩
    · refine x_iconst (pc := 10) (v := 1) K dX6_within_10 (by decide) ?_
      refine x_goto (pc := 11) (tgt := 15) K dX6_within_11 (by decide) ?_
      exact x_nretI (pc := 15) K dX6_within_15 rfl ⟨by simp (decide := true) only [q_within, if_neg c_2, if_neg c_7, ↓reduceIte, Bool.false_eq_true, bI_t, bI_f], rfl, rfl⟩

set_option maxRecDepth 100000 in
set_option maxHeartbeats 4000000 in
theorem c_yX6_held {k : Nat} {l : Launch} {G : Gm} {α ρ : Af} {v lo hi : Int32}  : CI k l G yX6_held (Cond.code yX6_held cX6_held 3 (some .int)) 2 [.int v, .int lo, .int hi] α ρ (PI (q_held v lo hi) α ρ) := by
  refine CI.of [some (.int v), some (.int lo), some (.int hi)] (by decide) (Nat.le_of_ble_eq_true rfl) rfl rfl (fun C K => ?_)
  have K : Ok l _ G C RX6 cX6_held (some .int) 3 := K
  refine x_iload_n (pc := 0) (i := 1) K dX6_held_0 rfl rfl ?_
  refine x_iload_n (pc := 1) (i := 2) K dX6_held_1 rfl rfl ?_
  refine x_iload_n (pc := 2) (i := 0) K dX6_held_2 rfl rfl ?_
  refine x_mmin (pc := 3) K mk_X6_284 ⟨Nat.le_of_ble_eq_true rfl, Nat.le_of_ble_eq_true rfl⟩ dX6_held_3 ?_
  refine x_mmax (pc := 6) K mk_X6_218 ⟨Nat.le_of_ble_eq_true rfl, Nat.le_of_ble_eq_true rfl⟩ dX6_held_6 ?_
  exact x_iretI (pc := 9) K dX6_held_9 ⟨rfl, rfl, rfl⟩

def q_isPlace (p : Int32) : Bool := q_within p 0 7
set_option maxRecDepth 100000 in
set_option maxHeartbeats 4000000 in
theorem c_yX6_isPlace {k : Nat} {l : Launch} {G : Gm} {α ρ : Af} {p : Int32}  : CI k l G yX6_isPlace (Cond.code yX6_isPlace cX6_isPlace 1 (some .boolean)) 2 [.int p] α ρ (PI (bI (q_isPlace p)) α ρ) := by
  refine CI.of [some (.int p)] (by decide) (Nat.le_of_ble_eq_true rfl) rfl rfl (fun C K => ?_)
  have K : Ok l _ G C RX6 cX6_isPlace (some .boolean) 1 := K
  refine x_iload_n (pc := 0) (i := 0) K dX6_isPlace_0 rfl rfl ?_
  refine x_iconst (pc := 1) (v := 0) K dX6_isPlace_1 (by decide) ?_
  refine x_bipush (pc := 2) (v := 7) K dX6_isPlace_2 (by decide) ?_
  refine x_S3i (pc := 4) K (c_yX6_within) mw_yX6_within st_yX6_within mk_X6_73 ⟨Nat.le_of_ble_eq_true rfl, Nat.le_of_ble_eq_true rfl, Nat.le_of_ble_eq_true rfl⟩ dX6_isPlace_4 ?_
  exact x_zretI (pc := 7) K dX6_isPlace_7 ⟨rfl, rfl, rfl⟩

def q_areTwo (a b : Int32) : Bool := if q_isPlace a = true then if q_isPlace b = true then if a = b then false else true else false else false
set_option maxRecDepth 100000 in
set_option maxHeartbeats 4000000 in
theorem c_yX6_areTwoPlaces {k : Nat} {l : Launch} {G : Gm} {α ρ : Af} {a b : Int32}  : CI k l G yX6_areTwoPlaces (Cond.code yX6_areTwoPlaces cX6_areTwoPlaces 2 (some .boolean)) 3 [.int a, .int b] α ρ (PI (bI (q_areTwo a b)) α ρ) := by
  refine CI.of [some (.int a), some (.int b)] (by decide) (Nat.le_of_ble_eq_true rfl) rfl rfl (fun C K => ?_)
  have K : Ok l _ G C RX6 cX6_areTwoPlaces (some .boolean) 2 := K
  refine x_iload_n (pc := 0) (i := 0) K dX6_areTwoPlaces_0 rfl rfl ?_
  refine x_S1i (pc := 1) K (c_yX6_isPlace) mw_yX6_isPlace st_yX6_isPlace mk_X6_187 ⟨Nat.le_of_ble_eq_true rfl, Nat.le_of_ble_eq_true rfl, Nat.le_of_ble_eq_true rfl⟩ dX6_areTwoPlaces_1 ?_
  refine x_ifeq_b (pc := 4) (tgt := 23) K dX6_areTwoPlaces_4 (by decide) (fun c_4 => ?_) (fun c_4 => ?_)
  · refine x_iconst (pc := 23) (v := 0) K dX6_areTwoPlaces_23 (by decide) ?_
    exact x_nretI (pc := 24) K dX6_areTwoPlaces_24 rfl ⟨by simp (decide := true) only [q_areTwo, c_4, ↓reduceIte, Bool.false_eq_true, bI_t, bI_f], rfl, rfl⟩
  · refine x_iload_n (pc := 7) (i := 1) K dX6_areTwoPlaces_7 rfl rfl ?_
    refine x_S1i (pc := 8) K (c_yX6_isPlace) mw_yX6_isPlace st_yX6_isPlace mk_X6_187 ⟨Nat.le_of_ble_eq_true rfl, Nat.le_of_ble_eq_true rfl, Nat.le_of_ble_eq_true rfl⟩ dX6_areTwoPlaces_8 ?_
    refine x_ifeq_b (pc := 11) (tgt := 23) K dX6_areTwoPlaces_11 (by decide) (fun c_11 => ?_) (fun c_11 => ?_)
    · refine x_iconst (pc := 23) (v := 0) K dX6_areTwoPlaces_23 (by decide) ?_
      exact x_nretI (pc := 24) K dX6_areTwoPlaces_24 rfl ⟨by simp (decide := true) only [q_areTwo, c_4, c_11, ↓reduceIte, Bool.false_eq_true, bI_t, bI_f], rfl, rfl⟩
    · refine x_iload_n (pc := 14) (i := 0) K dX6_areTwoPlaces_14 rfl rfl ?_
      refine x_iload_n (pc := 15) (i := 1) K dX6_areTwoPlaces_15 rfl rfl ?_
      refine x_icmp_eq (pc := 16) (tgt := 23) K dX6_areTwoPlaces_16 (by decide) (fun c_16 => ?_) (fun c_16 => ?_)
      · refine x_iconst (pc := 23) (v := 0) K dX6_areTwoPlaces_23 (by decide) ?_
        exact x_nretI (pc := 24) K dX6_areTwoPlaces_24 rfl ⟨by simp (decide := true) only [q_areTwo, c_4, c_11, if_pos c_16, ↓reduceIte, Bool.false_eq_true, bI_t, bI_f], rfl, rfl⟩
      · refine x_iconst (pc := 19) (v := 1) K dX6_areTwoPlaces_19 (by decide) ?_
        refine x_goto (pc := 20) (tgt := 24) K dX6_areTwoPlaces_20 (by decide) ?_
        exact x_nretI (pc := 24) K dX6_areTwoPlaces_24 rfl ⟨by simp (decide := true) only [q_areTwo, c_4, c_11, if_neg c_16, ↓reduceIte, Bool.false_eq_true, bI_t, bI_f], rfl, rfl⟩

def q_isLoad (x : Int32) : Bool := q_within x 0 99
set_option maxRecDepth 100000 in
set_option maxHeartbeats 4000000 in
theorem c_yX6_isLoad {k : Nat} {l : Launch} {G : Gm} {α ρ : Af} {p : Int32}  : CI k l G yX6_isLoad (Cond.code yX6_isLoad cX6_isLoad 1 (some .boolean)) 2 [.int p] α ρ (PI (bI (q_isLoad p)) α ρ) := by
  refine CI.of [some (.int p)] (by decide) (Nat.le_of_ble_eq_true rfl) rfl rfl (fun C K => ?_)
  have K : Ok l _ G C RX6 cX6_isLoad (some .boolean) 1 := K
  refine x_iload_n (pc := 0) (i := 0) K dX6_isLoad_0 rfl rfl ?_
  refine x_iconst (pc := 1) (v := 0) K dX6_isLoad_1 (by decide) ?_
  refine x_bipush (pc := 2) (v := 99) K dX6_isLoad_2 (by decide) ?_
  refine x_S3i (pc := 4) K (c_yX6_within) mw_yX6_within st_yX6_within mk_X6_73 ⟨Nat.le_of_ble_eq_true rfl, Nat.le_of_ble_eq_true rfl, Nat.le_of_ble_eq_true rfl⟩ dX6_isLoad_4 ?_
  exact x_zretI (pc := 7) K dX6_isLoad_7 ⟨rfl, rfl, rfl⟩

def q_isUse (x : Int32) : Bool := q_within x 0 1
set_option maxRecDepth 100000 in
set_option maxHeartbeats 4000000 in
theorem c_yX6_isUse {k : Nat} {l : Launch} {G : Gm} {α ρ : Af} {p : Int32}  : CI k l G yX6_isUse (Cond.code yX6_isUse cX6_isUse 1 (some .boolean)) 2 [.int p] α ρ (PI (bI (q_isUse p)) α ρ) := by
  refine CI.of [some (.int p)] (by decide) (Nat.le_of_ble_eq_true rfl) rfl rfl (fun C K => ?_)
  have K : Ok l _ G C RX6 cX6_isUse (some .boolean) 1 := K
  refine x_iload_n (pc := 0) (i := 0) K dX6_isUse_0 rfl rfl ?_
  refine x_iconst (pc := 1) (v := 0) K dX6_isUse_1 (by decide) ?_
  refine x_iconst (pc := 2) (v := 1) K dX6_isUse_2 (by decide) ?_
  refine x_S3i (pc := 3) K (c_yX6_within) mw_yX6_within st_yX6_within mk_X6_73 ⟨Nat.le_of_ble_eq_true rfl, Nat.le_of_ble_eq_true rfl, Nat.le_of_ble_eq_true rfl⟩ dX6_isUse_3 ?_
  exact x_zretI (pc := 6) K dX6_isUse_6 ⟨rfl, rfl, rfl⟩

def q_isSheet (x : Int32) : Bool := q_within x 0 3
set_option maxRecDepth 100000 in
set_option maxHeartbeats 4000000 in
theorem c_yX6_isSheet {k : Nat} {l : Launch} {G : Gm} {α ρ : Af} {p : Int32}  : CI k l G yX6_isSheet (Cond.code yX6_isSheet cX6_isSheet 1 (some .boolean)) 2 [.int p] α ρ (PI (bI (q_isSheet p)) α ρ) := by
  refine CI.of [some (.int p)] (by decide) (Nat.le_of_ble_eq_true rfl) rfl rfl (fun C K => ?_)
  have K : Ok l _ G C RX6 cX6_isSheet (some .boolean) 1 := K
  refine x_iload_n (pc := 0) (i := 0) K dX6_isSheet_0 rfl rfl ?_
  refine x_iconst (pc := 1) (v := 0) K dX6_isSheet_1 (by decide) ?_
  refine x_iconst (pc := 2) (v := 3) K dX6_isSheet_2 (by decide) ?_
  refine x_S3i (pc := 3) K (c_yX6_within) mw_yX6_within st_yX6_within mk_X6_73 ⟨Nat.le_of_ble_eq_true rfl, Nat.le_of_ble_eq_true rfl, Nat.le_of_ble_eq_true rfl⟩ dX6_isSheet_3 ?_
  exact x_zretI (pc := 6) K dX6_isSheet_6 ⟨rfl, rfl, rfl⟩

def q_isKm (x : Int32) : Bool := q_within x 0 69
set_option maxRecDepth 100000 in
set_option maxHeartbeats 4000000 in
theorem c_yX6_isKindAndNumber {k : Nat} {l : Launch} {G : Gm} {α ρ : Af} {p : Int32}  : CI k l G yX6_isKindAndNumber (Cond.code yX6_isKindAndNumber cX6_isKindAndNumber 1 (some .boolean)) 2 [.int p] α ρ (PI (bI (q_isKm p)) α ρ) := by
  refine CI.of [some (.int p)] (by decide) (Nat.le_of_ble_eq_true rfl) rfl rfl (fun C K => ?_)
  have K : Ok l _ G C RX6 cX6_isKindAndNumber (some .boolean) 1 := K
  refine x_iload_n (pc := 0) (i := 0) K dX6_isKindAndNumber_0 rfl rfl ?_
  refine x_iconst (pc := 1) (v := 0) K dX6_isKindAndNumber_1 (by decide) ?_
  refine x_bipush (pc := 2) (v := 69) K dX6_isKindAndNumber_2 (by decide) ?_
  refine x_S3i (pc := 4) K (c_yX6_within) mw_yX6_within st_yX6_within mk_X6_73 ⟨Nat.le_of_ble_eq_true rfl, Nat.le_of_ble_eq_true rfl, Nat.le_of_ble_eq_true rfl⟩ dX6_isKindAndNumber_4 ?_
  exact x_zretI (pc := 7) K dX6_isKindAndNumber_7 ⟨rfl, rfl, rfl⟩

def q_above (x : Int32) : Int32 := if q_within x 0 6 = true then fAb x.toNatClampNeg else -1
theorem q_within_in {x hi : Int32} {n : Nat} (h : q_within x 0 hi = true) (hn : hi.toInt < n) : vp_in x n := by
  unfold q_within at h
  by_cases c1 : x < 0
  · rw [if_pos c1] at h; cases h
  · rw [if_neg c1] at h
    by_cases c2 : hi < x
    · rw [if_pos c2] at h; cases h
    · refine vp_in_iff.mpr ⟨?_, ?_⟩
      · have := Int32.not_lt.mp c1
        have := Int32.le_iff_toInt_le.mp this
        simpa using this
      · have := Int32.not_lt.mp c2
        have := Int32.le_iff_toInt_le.mp this
        omega
set_option maxRecDepth 100000 in
set_option maxHeartbeats 4000000 in
theorem c_yX6_kindAbove {k : Nat} {l : Launch} {G : Gm} {α ρ : Af} {p : Int32}  : CI k l G yX6_kindAbove (Cond.code yX6_kindAbove cX6_kindAbove 1 (some .int)) 2 [.int p] α ρ (PI (q_above p) α ρ) := by
  refine CI.of [some (.int p)] (by decide) (Nat.le_of_ble_eq_true rfl) rfl rfl (fun C K => ?_)
  have K : Ok l _ G C RX6 cX6_kindAbove (some .int) 1 := K
  refine x_iload_n (pc := 0) (i := 0) K dX6_kindAbove_0 rfl rfl ?_
  refine x_iconst (pc := 1) (v := 0) K dX6_kindAbove_1 (by decide) ?_
  refine x_bipush (pc := 2) (v := 6) K dX6_kindAbove_2 (by decide) ?_
  refine x_S3i (pc := 4) K (c_yX6_within) mw_yX6_within st_yX6_within mk_X6_73 ⟨Nat.le_of_ble_eq_true rfl, Nat.le_of_ble_eq_true rfl, Nat.le_of_ble_eq_true rfl⟩ dX6_kindAbove_4 ?_
  refine x_ifeq_b (pc := 7) (tgt := 18) K dX6_kindAbove_7 (by decide) (fun c_7 => ?_) (fun c_7 => ?_)
  · refine x_iconst (pc := 18) (v := (-1)) K dX6_kindAbove_18 (by decide) ?_
    exact x_iretI (pc := 19) K dX6_kindAbove_19 ⟨by simp (decide := true) only [q_above, c_7, ↓reduceIte, Bool.false_eq_true, bI_t, bI_f], rfl, rfl⟩
  · refine x_gets_ab (pc := 10) K fk_X6_287 dX6_kindAbove_10 ?_
    refine x_iload_n (pc := 13) (i := 0) K dX6_kindAbove_13 rfl rfl ?_
    refine x_tab_ab (pc := 14)  K (q_within_in c_7 (by decide)) dX6_kindAbove_14 ?_
    refine x_goto (pc := 15) (tgt := 19) K dX6_kindAbove_15 (by decide) ?_
    exact x_iretI (pc := 19) K dX6_kindAbove_19 ⟨by simp (decide := true) only [q_above, c_7, ↓reduceIte, Bool.false_eq_true, bI_t, bI_f], rfl, rfl⟩

def q_err (α : Af) (j : Nat) : Af := up α idEr j (α idEr j + 1)
set_option maxRecDepth 100000 in
set_option maxHeartbeats 4000000 in
theorem c_yX6_error {k : Nat} {l : Launch} {G : Gm} {α ρ : Af} {j : Nat} (hj : j < 7) : CI k l G yX6_error (Cond.code yX6_error cX6_error 2 (some .int)) 1 [.ref (gA G idB), .int (nI j)] α ρ (PI (-1000000000 - nI j) (q_err α j) ρ) := by
  refine CI.of [some (.ref (gA G idB)), some (.int (nI j))] (by decide) (Nat.le_of_ble_eq_true rfl) rfl rfl (fun C K => ?_)
  have K : Ok l _ G C RX6 cX6_error (some .int) 2 := K
  refine x_aload_n (pc := 0) (i := 0) K dX6_error_0 rfl rfl ?_
  refine gf_X6_42 (pc := 1)  K dX6_error_1 ?_
  refine x_iload_n (pc := 4) (i := 1) K dX6_error_4 rfl rfl ?_
  refine x_dup2 (pc := 5) K dX6_error_5 rfl rfl ?_
  refine ia_Er (pc := 6)  K (vp_in_nI hj (by decide)) dX6_error_6 ?_
  refine x_iconst (pc := 7) (v := 1) K dX6_error_7 (by decide) ?_
  refine x_iadd (pc := 8) K dX6_error_8 ?_
  refine is_Er (pc := 9)  K (vp_in_nI hj (by decide)) dX6_error_9 ?_
  refine x_ldcw (pc := 10) K kn_X6_283 dX6_error_10 ?_
  refine x_iload_n (pc := 13) (i := 1) K dX6_error_13 rfl rfl ?_
  refine x_isub (pc := 14) K dX6_error_14 ?_
  exact x_iretI (pc := 15) K dX6_error_15 ⟨rfl, by rw [nI_clamp (Nat.lt_trans hj (by decide))]; rfl, rfl⟩

def q_loafB (m age wet : Int32) : Int32 := (if (0 : Int32) < 20 - 2 * age - 3 * wet then 20 - 2 * age - 3 * wet else 0) + m
def q_ryeB (m age wet : Int32) : Int32 := q_loafB m age wet + 10
def q_briB (m age wet : Int32) : Int32 := if (0 : Int32) < q_loafB m age wet - 8 then q_loafB m age wet - 8 else 0
def q_bears (k m age wet gone day : Int32) : Int32 := if gone = 0 then (if k = 1 then q_ryeB m age wet else if k = 2 then q_briB m age wet else if k = 3 then (if 8 + 2 * age < 40 then 8 + 2 * age else 40) else if k = 4 then (if age ≤ 10 then q_ryeB m age wet else 60 + m) else if k = 5 then q_briB m age wet + 2 * wet else if k = 6 then q_loafB m age wet + jrem day 7 else q_loafB m age wet) else -1
def q_takes (k m age : Int32) : Int32 := if k = 1 then 5 + m + 3 else if k = 2 then 2 * (5 + m) else if k = 3 then 5 + m else if k = 4 then 5 + m + 3 - 4 else if k = 5 then 2 * (5 + m) + jrem age 3 else if k = 6 then 0 else 5 + m
set_option maxRecDepth 100000 in
set_option maxHeartbeats 4000000 in
theorem c_yX4_bearsAsLoaf {k : Nat} {l : Launch} {G : Gm} {α ρ : Af} {e u : Nat} (he : e < 3) (hu : u < 9) : CI k l G yX4_bearsAsLoaf (Cond.code yX4_bearsAsLoaf cX4_bearsAsLoaf 1 (some .int)) 2 [.ref (gA G (idS e u))] α ρ (PI (q_loafB (α (idS e u) 1) (α (idS e u) 4) (α (idS e u) 5)) α ρ) := by
  refine CI.of [some (.ref (gA G (idS e u)))] (by decide) (Nat.le_of_ble_eq_true rfl) rfl rfl (fun C K => ?_)
  have K : Ok l _ G C RX4 cX4_bearsAsLoaf (some .int) 1 := K
  refine x_iconst (pc := 0) (v := 0) K dX4_bearsAsLoaf_0 (by decide) ?_
  refine x_bipush (pc := 1) (v := 20) K dX4_bearsAsLoaf_1 (by decide) ?_
  refine x_iconst (pc := 3) (v := 2) K dX4_bearsAsLoaf_3 (by decide) ?_
  refine x_aload_n (pc := 4) (i := 0) K dX4_bearsAsLoaf_4 rfl rfl ?_
  refine gf_X4_24 (pc := 5) he hu K dX4_bearsAsLoaf_5 ?_
  refine x_imul (pc := 8) K dX4_bearsAsLoaf_8 ?_
  refine x_isub (pc := 9) K dX4_bearsAsLoaf_9 ?_
  refine x_iconst (pc := 10) (v := 3) K dX4_bearsAsLoaf_10 (by decide) ?_
  refine x_aload_n (pc := 11) (i := 0) K dX4_bearsAsLoaf_11 rfl rfl ?_
  refine gf_X4_27 (pc := 12) he hu K dX4_bearsAsLoaf_12 ?_
  refine x_imul (pc := 15) K dX4_bearsAsLoaf_15 ?_
  refine x_isub (pc := 16) K dX4_bearsAsLoaf_16 ?_
  refine x_mmax (pc := 17) K mk_X4_50 ⟨Nat.le_of_ble_eq_true rfl, Nat.le_of_ble_eq_true rfl⟩ dX4_bearsAsLoaf_17 ?_
  refine x_aload_n (pc := 20) (i := 0) K dX4_bearsAsLoaf_20 rfl rfl ?_
  refine gf_X4_15 (pc := 21) he hu K dX4_bearsAsLoaf_21 ?_
  refine x_iadd (pc := 24) K dX4_bearsAsLoaf_24 ?_
  exact x_iretI (pc := 25) K dX4_bearsAsLoaf_25 ⟨rfl, rfl, rfl⟩

set_option maxRecDepth 100000 in
set_option maxHeartbeats 4000000 in
theorem c_yX4_bearsAsRye {k : Nat} {l : Launch} {G : Gm} {α ρ : Af} {e u : Nat} (he : e < 3) (hu : u < 9) : CI k l G yX4_bearsAsRye (Cond.code yX4_bearsAsRye cX4_bearsAsRye 1 (some .int)) 3 [.ref (gA G (idS e u))] α ρ (PI (q_ryeB (α (idS e u) 1) (α (idS e u) 4) (α (idS e u) 5)) α ρ) := by
  refine CI.of [some (.ref (gA G (idS e u)))] (by decide) (Nat.le_of_ble_eq_true rfl) rfl rfl (fun C K => ?_)
  have K : Ok l _ G C RX4 cX4_bearsAsRye (some .int) 1 := K
  refine x_aload_n (pc := 0) (i := 0) K dX4_bearsAsRye_0 rfl rfl ?_
  refine x_V0i (pc := 1) K (c_yX4_bearsAsLoaf he hu) mw_yX4_bearsAsLoaf ⟨im_yX4_bearsAsLoaf, se_yX4_bearsAsLoaf⟩ mk_X4_47 (rc_S he hu) rfl ⟨Nat.le_of_ble_eq_true rfl, Nat.le_of_ble_eq_true rfl, Nat.le_of_ble_eq_true rfl⟩ dX4_bearsAsRye_1 ?_
  refine x_bipush (pc := 4) (v := 10) K dX4_bearsAsRye_4 (by decide) ?_
  refine x_iadd (pc := 6) K dX4_bearsAsRye_6 ?_
  exact x_iretI (pc := 7) K dX4_bearsAsRye_7 ⟨rfl, rfl, rfl⟩

set_option maxRecDepth 100000 in
set_option maxHeartbeats 4000000 in
theorem c_yX4_bearsAsBrioche {k : Nat} {l : Launch} {G : Gm} {α ρ : Af} {e u : Nat} (he : e < 3) (hu : u < 9) : CI k l G yX4_bearsAsBrioche (Cond.code yX4_bearsAsBrioche cX4_bearsAsBrioche 1 (some .int)) 3 [.ref (gA G (idS e u))] α ρ (PI (q_briB (α (idS e u) 1) (α (idS e u) 4) (α (idS e u) 5)) α ρ) := by
  refine CI.of [some (.ref (gA G (idS e u)))] (by decide) (Nat.le_of_ble_eq_true rfl) rfl rfl (fun C K => ?_)
  have K : Ok l _ G C RX4 cX4_bearsAsBrioche (some .int) 1 := K
  refine x_iconst (pc := 0) (v := 0) K dX4_bearsAsBrioche_0 (by decide) ?_
  refine x_aload_n (pc := 1) (i := 0) K dX4_bearsAsBrioche_1 rfl rfl ?_
  refine x_V0i (pc := 2) K (c_yX4_bearsAsLoaf he hu) mw_yX4_bearsAsLoaf ⟨im_yX4_bearsAsLoaf, se_yX4_bearsAsLoaf⟩ mk_X4_47 (rc_S he hu) rfl ⟨Nat.le_of_ble_eq_true rfl, Nat.le_of_ble_eq_true rfl, Nat.le_of_ble_eq_true rfl⟩ dX4_bearsAsBrioche_2 ?_
  refine x_bipush (pc := 5) (v := 8) K dX4_bearsAsBrioche_5 (by decide) ?_
  refine x_isub (pc := 7) K dX4_bearsAsBrioche_7 ?_
  refine x_mmax (pc := 8) K mk_X4_50 ⟨Nat.le_of_ble_eq_true rfl, Nat.le_of_ble_eq_true rfl⟩ dX4_bearsAsBrioche_8 ?_
  exact x_iretI (pc := 11) K dX4_bearsAsBrioche_11 ⟨rfl, rfl, rfl⟩

set_option maxRecDepth 100000 in
set_option maxHeartbeats 4000000 in
theorem c_yX4_bearsOn {k : Nat} {l : Launch} {G : Gm} {α ρ : Af} {e u : Nat} {day : Int32} (he : e < 3) (hu : u < 9) : CI k l G yX4_bearsOn (Cond.code yX4_bearsOn cX4_bearsOn 2 (some .int)) 4 [.ref (gA G (idS e u)), .int day] α ρ (PI (q_bears (α (idS e u) 0) (α (idS e u) 1) (α (idS e u) 4) (α (idS e u) 5) (α (idS e u) 6) day) α ρ) := by
  refine CI.of [some (.ref (gA G (idS e u))), some (.int day)] (by decide) (Nat.le_of_ble_eq_true rfl) rfl rfl (fun C K => ?_)
  have K : Ok l _ G C RX4 cX4_bearsOn (some .int) 2 := K
  refine x_aload_n (pc := 0) (i := 0) K dX4_bearsOn_0 rfl rfl ?_
  refine gf_X4_30 (pc := 1) he hu K dX4_bearsOn_1 ?_
  refine x_if_eq (pc := 4) (tgt := 9) K dX4_bearsOn_4 (by decide) (fun c_4 => ?_) (fun c_4 => ?_)
  · refine x_aload_n (pc := 9) (i := 0) K dX4_bearsOn_9 rfl rfl ?_
    refine gf_X4_9 (pc := 10) he hu K dX4_bearsOn_10 ?_
    by_cases s_13_1 : (α (idS e u) 0) = 1
    · refine x_tableIn (pc := 13) (off := 39) (tgt := 52) K dX4_bearsOn_13 (by rw [s_13_1]; decide) (by decide) ?_
      refine x_aload_n (pc := 52) (i := 0) K dX4_bearsOn_52 rfl rfl ?_
      refine x_V0i (pc := 53) K (c_yX4_bearsAsRye he hu) mw_yX4_bearsAsRye ⟨im_yX4_bearsAsRye, se_yX4_bearsAsRye⟩ mk_X4_34 (rc_S he hu) rfl ⟨Nat.le_of_ble_eq_true rfl, Nat.le_of_ble_eq_true rfl, Nat.le_of_ble_eq_true rfl⟩ dX4_bearsOn_53 ?_
      exact x_iretI (pc := 56) K dX4_bearsOn_56 ⟨by simp (decide := true) only [q_bears, if_pos c_4, if_pos s_13_1, ↓reduceIte, Bool.false_eq_true, bI_t, bI_f], rfl, rfl⟩
    by_cases s_13_2 : (α (idS e u) 0) = 2
    · refine x_tableIn (pc := 13) (off := 44) (tgt := 57) K dX4_bearsOn_13 (by rw [s_13_2]; decide) (by decide) ?_
      refine x_aload_n (pc := 57) (i := 0) K dX4_bearsOn_57 rfl rfl ?_
      refine x_V0i (pc := 58) K (c_yX4_bearsAsBrioche he hu) mw_yX4_bearsAsBrioche ⟨im_yX4_bearsAsBrioche, se_yX4_bearsAsBrioche⟩ mk_X4_38 (rc_S he hu) rfl ⟨Nat.le_of_ble_eq_true rfl, Nat.le_of_ble_eq_true rfl, Nat.le_of_ble_eq_true rfl⟩ dX4_bearsOn_58 ?_
      exact x_iretI (pc := 61) K dX4_bearsOn_61 ⟨by simp (decide := true) only [q_bears, if_pos c_4, if_neg s_13_1, if_pos s_13_2, ↓reduceIte, Bool.false_eq_true, bI_t, bI_f], rfl, rfl⟩
    by_cases s_13_3 : (α (idS e u) 0) = 3
    · refine x_tableIn (pc := 13) (off := 49) (tgt := 62) K dX4_bearsOn_13 (by rw [s_13_3]; decide) (by decide) ?_
      refine x_bipush (pc := 62) (v := 40) K dX4_bearsOn_62 (by decide) ?_
      refine x_bipush (pc := 64) (v := 8) K dX4_bearsOn_64 (by decide) ?_
      refine x_iconst (pc := 66) (v := 2) K dX4_bearsOn_66 (by decide) ?_
      refine x_aload_n (pc := 67) (i := 0) K dX4_bearsOn_67 rfl rfl ?_
      refine gf_X4_24 (pc := 68) he hu K dX4_bearsOn_68 ?_
      refine x_imul (pc := 71) K dX4_bearsOn_71 ?_
      refine x_iadd (pc := 72) K dX4_bearsOn_72 ?_
      refine x_mmin (pc := 73) K mk_X4_41 ⟨Nat.le_of_ble_eq_true rfl, Nat.le_of_ble_eq_true rfl⟩ dX4_bearsOn_73 ?_
      exact x_iretI (pc := 76) K dX4_bearsOn_76 ⟨by simp (decide := true) only [q_bears, if_pos c_4, if_neg s_13_1, if_neg s_13_2, if_pos s_13_3, ↓reduceIte, Bool.false_eq_true, bI_t, bI_f], rfl, rfl⟩
    by_cases s_13_4 : (α (idS e u) 0) = 4
    · refine x_tableIn (pc := 13) (off := 64) (tgt := 77) K dX4_bearsOn_13 (by rw [s_13_4]; decide) (by decide) ?_
      refine x_aload_n (pc := 77) (i := 0) K dX4_bearsOn_77 rfl rfl ?_
      refine gf_X4_24 (pc := 78) he hu K dX4_bearsOn_78 ?_
      refine x_bipush (pc := 81) (v := 10) K dX4_bearsOn_81 (by decide) ?_
      refine x_icmp_le (pc := 83) (tgt := 96) K dX4_bearsOn_83 (by decide) (fun c_83 => ?_) (fun c_83 => ?_)
      · refine x_aload_n (pc := 96) (i := 0) K dX4_bearsOn_96 rfl rfl ?_
        refine x_V0i (pc := 97) K (c_yX4_bearsAsRye he hu) mw_yX4_bearsAsRye ⟨im_yX4_bearsAsRye, se_yX4_bearsAsRye⟩ mk_X4_34 (rc_S he hu) rfl ⟨Nat.le_of_ble_eq_true rfl, Nat.le_of_ble_eq_true rfl, Nat.le_of_ble_eq_true rfl⟩ dX4_bearsOn_97 ?_
        exact x_iretI (pc := 100) K dX4_bearsOn_100 ⟨by simp (decide := true) only [q_bears, if_pos c_4, if_neg s_13_1, if_neg s_13_2, if_neg s_13_3, if_pos s_13_4, if_pos c_83, ↓reduceIte, Bool.false_eq_true, bI_t, bI_f], rfl, rfl⟩
      · refine x_bipush (pc := 86) (v := 60) K dX4_bearsOn_86 (by decide) ?_
        refine x_aload_n (pc := 88) (i := 0) K dX4_bearsOn_88 rfl rfl ?_
        refine gf_X4_15 (pc := 89) he hu K dX4_bearsOn_89 ?_
        refine x_iadd (pc := 92) K dX4_bearsOn_92 ?_
        refine x_goto (pc := 93) (tgt := 100) K dX4_bearsOn_93 (by decide) ?_
        exact x_iretI (pc := 100) K dX4_bearsOn_100 ⟨by simp (decide := true) only [q_bears, if_pos c_4, if_neg s_13_1, if_neg s_13_2, if_neg s_13_3, if_pos s_13_4, if_neg c_83, ↓reduceIte, Bool.false_eq_true, bI_t, bI_f], rfl, rfl⟩
    by_cases s_13_5 : (α (idS e u) 0) = 5
    · refine x_tableIn (pc := 13) (off := 88) (tgt := 101) K dX4_bearsOn_13 (by rw [s_13_5]; decide) (by decide) ?_
      refine x_aload_n (pc := 101) (i := 0) K dX4_bearsOn_101 rfl rfl ?_
      refine x_V0i (pc := 102) K (c_yX4_bearsAsBrioche he hu) mw_yX4_bearsAsBrioche ⟨im_yX4_bearsAsBrioche, se_yX4_bearsAsBrioche⟩ mk_X4_38 (rc_S he hu) rfl ⟨Nat.le_of_ble_eq_true rfl, Nat.le_of_ble_eq_true rfl, Nat.le_of_ble_eq_true rfl⟩ dX4_bearsOn_102 ?_
      refine x_iconst (pc := 105) (v := 2) K dX4_bearsOn_105 (by decide) ?_
      refine x_aload_n (pc := 106) (i := 0) K dX4_bearsOn_106 rfl rfl ?_
      refine gf_X4_27 (pc := 107) he hu K dX4_bearsOn_107 ?_
      refine x_imul (pc := 110) K dX4_bearsOn_110 ?_
      refine x_iadd (pc := 111) K dX4_bearsOn_111 ?_
      exact x_iretI (pc := 112) K dX4_bearsOn_112 ⟨by simp (decide := true) only [q_bears, if_pos c_4, if_neg s_13_1, if_neg s_13_2, if_neg s_13_3, if_neg s_13_4, if_pos s_13_5, ↓reduceIte, Bool.false_eq_true, bI_t, bI_f], rfl, rfl⟩
    by_cases s_13_6 : (α (idS e u) 0) = 6
    · refine x_tableIn (pc := 13) (off := 100) (tgt := 113) K dX4_bearsOn_13 (by rw [s_13_6]; decide) (by decide) ?_
      refine x_aload_n (pc := 113) (i := 0) K dX4_bearsOn_113 rfl rfl ?_
      refine x_V0i (pc := 114) K (c_yX4_bearsAsLoaf he hu) mw_yX4_bearsAsLoaf ⟨im_yX4_bearsAsLoaf, se_yX4_bearsAsLoaf⟩ mk_X4_47 (rc_S he hu) rfl ⟨Nat.le_of_ble_eq_true rfl, Nat.le_of_ble_eq_true rfl, Nat.le_of_ble_eq_true rfl⟩ dX4_bearsOn_114 ?_
      refine x_iload_n (pc := 117) (i := 1) K dX4_bearsOn_117 rfl rfl ?_
      refine x_bipush (pc := 118) (v := 7) K dX4_bearsOn_118 (by decide) ?_
      refine x_irem (pc := 120) K dX4_bearsOn_120 (by decide) ?_
      refine x_iadd (pc := 121) K dX4_bearsOn_121 ?_
      exact x_iretI (pc := 122) K dX4_bearsOn_122 ⟨by simp (decide := true) only [q_bears, if_pos c_4, if_neg s_13_1, if_neg s_13_2, if_neg s_13_3, if_neg s_13_4, if_neg s_13_5, if_pos s_13_6, ↓reduceIte, Bool.false_eq_true, bI_t, bI_f], rfl, rfl⟩
    refine x_tableOut (pc := 13) (tgt := 123) K dX4_bearsOn_13 (by have t0 : ¬ ((α (idS e u) 0)).toInt = 1 := fun h => s_13_1 (Int32.toInt_inj.mp h); have t1 : ¬ ((α (idS e u) 0)).toInt = 2 := fun h => s_13_2 (Int32.toInt_inj.mp h); have t2 : ¬ ((α (idS e u) 0)).toInt = 3 := fun h => s_13_3 (Int32.toInt_inj.mp h); have t3 : ¬ ((α (idS e u) 0)).toInt = 4 := fun h => s_13_4 (Int32.toInt_inj.mp h); have t4 : ¬ ((α (idS e u) 0)).toInt = 5 := fun h => s_13_5 (Int32.toInt_inj.mp h); have t5 : ¬ ((α (idS e u) 0)).toInt = 6 := fun h => s_13_6 (Int32.toInt_inj.mp h); omega) (by decide) ?_
    refine x_aload_n (pc := 123) (i := 0) K dX4_bearsOn_123 rfl rfl ?_
    refine x_V0i (pc := 124) K (c_yX4_bearsAsLoaf he hu) mw_yX4_bearsAsLoaf ⟨im_yX4_bearsAsLoaf, se_yX4_bearsAsLoaf⟩ mk_X4_47 (rc_S he hu) rfl ⟨Nat.le_of_ble_eq_true rfl, Nat.le_of_ble_eq_true rfl, Nat.le_of_ble_eq_true rfl⟩ dX4_bearsOn_124 ?_
    exact x_iretI (pc := 127) K dX4_bearsOn_127 ⟨by simp (decide := true) only [q_bears, if_pos c_4, if_neg s_13_1, if_neg s_13_2, if_neg s_13_3, if_neg s_13_4, if_neg s_13_5, if_neg s_13_6, ↓reduceIte, Bool.false_eq_true, bI_t, bI_f], rfl, rfl⟩
  · refine x_iconst (pc := 7) (v := (-1)) K dX4_bearsOn_7 (by decide) ?_
    exact x_iretI (pc := 8) K dX4_bearsOn_8 ⟨by simp (decide := true) only [q_bears, if_neg c_4, ↓reduceIte, Bool.false_eq_true, bI_t, bI_f], rfl, rfl⟩

set_option maxRecDepth 100000 in
set_option maxHeartbeats 4000000 in
theorem c_yX4_takes {k : Nat} {l : Launch} {G : Gm} {α ρ : Af} {e u : Nat} (he : e < 3) (hu : u < 9) : CI k l G yX4_takes (Cond.code yX4_takes cX4_takes 2 (some .int)) 1 [.ref (gA G (idS e u))] α ρ (PI (q_takes (α (idS e u) 0) (α (idS e u) 1) (α (idS e u) 4)) α ρ) := by
  refine CI.of [some (.ref (gA G (idS e u))), none] (by decide) (Nat.le_of_ble_eq_true rfl) rfl rfl (fun C K => ?_)
  have K : Ok l _ G C RX4 cX4_takes (some .int) 2 := K
  refine x_iconst (pc := 0) (v := 5) K dX4_takes_0 (by decide) ?_
  refine x_aload_n (pc := 1) (i := 0) K dX4_takes_1 rfl rfl ?_
  refine gf_X4_15 (pc := 2) he hu K dX4_takes_2 ?_
  refine x_iadd (pc := 5) K dX4_takes_5 ?_
  refine x_istore_n (pc := 6) (i := 1) K dX4_takes_6 rfl rfl (by decide) ?_
  refine x_aload_n (pc := 7) (i := 0) K dX4_takes_7 rfl rfl ?_
  refine gf_X4_9 (pc := 8) he hu K dX4_takes_8 ?_
  by_cases s_11_1 : (α (idS e u) 0) = 1
  · refine x_tableIn (pc := 11) (off := 37) (tgt := 48) K dX4_takes_11 (by rw [s_11_1]; decide) (by decide) ?_
    refine x_iload_n (pc := 48) (i := 1) K dX4_takes_48 rfl rfl ?_
    refine x_iconst (pc := 49) (v := 3) K dX4_takes_49 (by decide) ?_
    refine x_iadd (pc := 50) K dX4_takes_50 ?_
    exact x_iretI (pc := 51) K dX4_takes_51 ⟨by simp (decide := true) only [q_takes, if_pos s_11_1, ↓reduceIte, Bool.false_eq_true, bI_t, bI_f], rfl, rfl⟩
  by_cases s_11_2 : (α (idS e u) 0) = 2
  · refine x_tableIn (pc := 11) (off := 41) (tgt := 52) K dX4_takes_11 (by rw [s_11_2]; decide) (by decide) ?_
    refine x_iconst (pc := 52) (v := 2) K dX4_takes_52 (by decide) ?_
    refine x_iload_n (pc := 53) (i := 1) K dX4_takes_53 rfl rfl ?_
    refine x_imul (pc := 54) K dX4_takes_54 ?_
    exact x_iretI (pc := 55) K dX4_takes_55 ⟨by simp (decide := true) only [q_takes, if_neg s_11_1, if_pos s_11_2, ↓reduceIte, Bool.false_eq_true, bI_t, bI_f], rfl, rfl⟩
  by_cases s_11_3 : (α (idS e u) 0) = 3
  · refine x_tableIn (pc := 11) (off := 64) (tgt := 75) K dX4_takes_11 (by rw [s_11_3]; decide) (by decide) ?_
    refine x_iload_n (pc := 75) (i := 1) K dX4_takes_75 rfl rfl ?_
    exact x_iretI (pc := 76) K dX4_takes_76 ⟨by simp (decide := true) only [q_takes, if_neg s_11_1, if_neg s_11_2, if_pos s_11_3, ↓reduceIte, Bool.false_eq_true, bI_t, bI_f], rfl, rfl⟩
  by_cases s_11_4 : (α (idS e u) 0) = 4
  · refine x_tableIn (pc := 11) (off := 45) (tgt := 56) K dX4_takes_11 (by rw [s_11_4]; decide) (by decide) ?_
    refine x_iload_n (pc := 56) (i := 1) K dX4_takes_56 rfl rfl ?_
    refine x_iconst (pc := 57) (v := 3) K dX4_takes_57 (by decide) ?_
    refine x_iadd (pc := 58) K dX4_takes_58 ?_
    refine x_iconst (pc := 59) (v := 4) K dX4_takes_59 (by decide) ?_
    refine x_isub (pc := 60) K dX4_takes_60 ?_
    exact x_iretI (pc := 61) K dX4_takes_61 ⟨by simp (decide := true) only [q_takes, if_neg s_11_1, if_neg s_11_2, if_neg s_11_3, if_pos s_11_4, ↓reduceIte, Bool.false_eq_true, bI_t, bI_f], rfl, rfl⟩
  by_cases s_11_5 : (α (idS e u) 0) = 5
  · refine x_tableIn (pc := 11) (off := 51) (tgt := 62) K dX4_takes_11 (by rw [s_11_5]; decide) (by decide) ?_
    refine x_iconst (pc := 62) (v := 2) K dX4_takes_62 (by decide) ?_
    refine x_iload_n (pc := 63) (i := 1) K dX4_takes_63 rfl rfl ?_
    refine x_imul (pc := 64) K dX4_takes_64 ?_
    refine x_aload_n (pc := 65) (i := 0) K dX4_takes_65 rfl rfl ?_
    refine gf_X4_24 (pc := 66) he hu K dX4_takes_66 ?_
    refine x_iconst (pc := 69) (v := 3) K dX4_takes_69 (by decide) ?_
    refine x_irem (pc := 70) K dX4_takes_70 (by decide) ?_
    refine x_iadd (pc := 71) K dX4_takes_71 ?_
    exact x_iretI (pc := 72) K dX4_takes_72 ⟨by simp (decide := true) only [q_takes, if_neg s_11_1, if_neg s_11_2, if_neg s_11_3, if_neg s_11_4, if_pos s_11_5, ↓reduceIte, Bool.false_eq_true, bI_t, bI_f], rfl, rfl⟩
  by_cases s_11_6 : (α (idS e u) 0) = 6
  · refine x_tableIn (pc := 11) (off := 62) (tgt := 73) K dX4_takes_11 (by rw [s_11_6]; decide) (by decide) ?_
    refine x_iconst (pc := 73) (v := 0) K dX4_takes_73 (by decide) ?_
    exact x_iretI (pc := 74) K dX4_takes_74 ⟨by simp (decide := true) only [q_takes, if_neg s_11_1, if_neg s_11_2, if_neg s_11_3, if_neg s_11_4, if_neg s_11_5, if_pos s_11_6, ↓reduceIte, Bool.false_eq_true, bI_t, bI_f], rfl, rfl⟩
  refine x_tableOut (pc := 11) (tgt := 75) K dX4_takes_11 (by have t0 : ¬ ((α (idS e u) 0)).toInt = 1 := fun h => s_11_1 (Int32.toInt_inj.mp h); have t1 : ¬ ((α (idS e u) 0)).toInt = 2 := fun h => s_11_2 (Int32.toInt_inj.mp h); have t2 : ¬ ((α (idS e u) 0)).toInt = 3 := fun h => s_11_3 (Int32.toInt_inj.mp h); have t3 : ¬ ((α (idS e u) 0)).toInt = 4 := fun h => s_11_4 (Int32.toInt_inj.mp h); have t4 : ¬ ((α (idS e u) 0)).toInt = 5 := fun h => s_11_5 (Int32.toInt_inj.mp h); have t5 : ¬ ((α (idS e u) 0)).toInt = 6 := fun h => s_11_6 (Int32.toInt_inj.mp h); omega) (by decide) ?_
  refine x_iload_n (pc := 75) (i := 1) K dX4_takes_75 rfl rfl ?_
  exact x_iretI (pc := 76) K dX4_takes_76 ⟨by simp (decide := true) only [q_takes, if_neg s_11_1, if_neg s_11_2, if_neg s_11_3, if_neg s_11_4, if_neg s_11_5, if_neg s_11_6, ↓reduceIte, Bool.false_eq_true, bI_t, bI_f], rfl, rfl⟩

def q_ends (a b : Int32) : Int32 := jshl 1 a ||| jshl 1 b
set_option maxRecDepth 100000 in
set_option maxHeartbeats 4000000 in
theorem c_yX4_ends {k : Nat} {l : Launch} {G : Gm} {α ρ : Af} {e u : Nat} (he : e < 3) (hu : u < 9) : CI k l G yX4_ends (Cond.code yX4_ends cX4_ends 1 (some .int)) 1 [.ref (gA G (idS e u))] α ρ (PI (q_ends (α (idS e u) 2) (α (idS e u) 3)) α ρ) := by
  refine CI.of [some (.ref (gA G (idS e u)))] (by decide) (Nat.le_of_ble_eq_true rfl) rfl rfl (fun C K => ?_)
  have K : Ok l _ G C RX4 cX4_ends (some .int) 1 := K
  refine x_iconst (pc := 0) (v := 1) K dX4_ends_0 (by decide) ?_
  refine x_aload_n (pc := 1) (i := 0) K dX4_ends_1 rfl rfl ?_
  refine gf_X4_18 (pc := 2) he hu K dX4_ends_2 ?_
  refine x_ishl (pc := 5) K dX4_ends_5 ?_
  refine x_iconst (pc := 6) (v := 1) K dX4_ends_6 (by decide) ?_
  refine x_aload_n (pc := 7) (i := 0) K dX4_ends_7 rfl rfl ?_
  refine gf_X4_21 (pc := 8) he hu K dX4_ends_8 ?_
  refine x_ishl (pc := 11) K dX4_ends_11 ?_
  refine x_ior (pc := 12) K dX4_ends_12 ?_
  exact x_iretI (pc := 13) K dX4_ends_13 ⟨rfl, rfl, rfl⟩

def q_bake (α : Af) (i : Nat) : Af := up (up (up α i 4 0) i 5 0) i 6 0
set_option maxRecDepth 100000 in
set_option maxHeartbeats 4000000 in
theorem c_yX4_bakeAnew {k : Nat} {l : Launch} {G : Gm} {α ρ : Af} {e u : Nat} (he : e < 3) (hu : u < 9) : CI k l G yX4_bakeAnew (Cond.code yX4_bakeAnew cX4_bakeAnew 1 none) 1 [.ref (gA G (idS e u))] α ρ (PV (q_bake α (idS e u)) ρ) := by
  refine CI.of [some (.ref (gA G (idS e u)))] (by decide) (Nat.le_of_ble_eq_true rfl) rfl rfl (fun C K => ?_)
  have K : Ok l _ G C RX4 cX4_bakeAnew none 1 := K
  refine x_aload_n (pc := 0) (i := 0) K dX4_bakeAnew_0 rfl rfl ?_
  refine x_iconst (pc := 1) (v := 0) K dX4_bakeAnew_1 (by decide) ?_
  refine pf_X4_24 (pc := 2) he hu K dX4_bakeAnew_2 ?_
  refine x_aload_n (pc := 5) (i := 0) K dX4_bakeAnew_5 rfl rfl ?_
  refine x_iconst (pc := 6) (v := 0) K dX4_bakeAnew_6 (by decide) ?_
  refine pf_X4_27 (pc := 7) he hu K dX4_bakeAnew_7 ?_
  refine x_aload_n (pc := 10) (i := 0) K dX4_bakeAnew_10 rfl rfl ?_
  refine x_iconst (pc := 11) (v := 0) K dX4_bakeAnew_11 (by decide) ?_
  refine pf_X4_30 (pc := 12) he hu K ⟨rfl, rfl⟩ dX4_bakeAnew_12 ?_
  exact x_vretI (pc := 15) K dX4_bakeAnew_15 ⟨rfl, rfl⟩

def q_under : Nat → Int32 → Int32 → Bool
  | 0, _, _ => false
  | s + 1, k, a => if k < 0 then false else if k = a then true else q_under s (q_above k) a
set_option maxRecDepth 100000 in
set_option maxHeartbeats 4000000 in
theorem l_under {k : Nat} {l : Launch} {G : Gm} {C : Cx} {v a : Int32} {α ρ : Af} (K : Ok l (2 + 1) G C RX6 cX6_isUnder (some .boolean) 4)  : ∀ (j i : Nat) (x : Int32), i + j = 7 → ∀ B, q_under j x a = B → X k l (2 + 1) G C (PI (bI B) α ρ) 4 4 [some (.int v), some (.int a), some (.int x), some (.int (nI i))] [] α ρ := by
  intro j
  induction j with
  | zero =>
    intro i x hi B hT
    refine x_iload_n (pc := 4) (i := 3) K dX6_isUnder_4 rfl rfl ?_
    refine x_bipush (pc := 5) (v := 6) K dX6_isUnder_5 (by decide) ?_
    refine x_icmp_gt (pc := 7) (tgt := 32) K dX6_isUnder_7 (by decide) (fun c_7 => ?_) (fun c_7 => ?_)
    · refine x_iconst (pc := 32) (v := 0) K dX6_isUnder_32 (by decide) ?_
      exact x_nretI (pc := 33) K dX6_isUnder_33 rfl ⟨by rw [← hT]; rfl, rfl, rfl⟩
    · exact absurd (by rw [show i = 7 by omega]; decide) c_7
  | succ j ih =>
    intro i x hi B hT
    refine x_iload_n (pc := 4) (i := 3) K dX6_isUnder_4 rfl rfl ?_
    refine x_bipush (pc := 5) (v := 6) K dX6_isUnder_5 (by decide) ?_
    refine x_icmp_gt (pc := 7) (tgt := 32) K dX6_isUnder_7 (by decide) (fun c_7 => ?_) (fun c_7 => ?_)
    · exact absurd c_7 (by have := nI_leI (a := i) (b := 6) (by omega) (by decide); exact Int32.not_lt.mpr (this.mpr (by omega)))
    · refine x_iload_n (pc := 10) (i := 2) K dX6_isUnder_10 rfl rfl ?_
      refine x_if_lt (pc := 11) (tgt := 32) K dX6_isUnder_11 (by decide) (fun c_11 => ?_) (fun c_11 => ?_)
      · refine x_iconst (pc := 32) (v := 0) K dX6_isUnder_32 (by decide) ?_
        exact x_nretI (pc := 33) K dX6_isUnder_33 rfl ⟨by rw [← hT]; simp (decide := true) only [q_under, if_neg c_7, if_pos c_11, ↓reduceIte, Bool.false_eq_true, bI_t, bI_f], rfl, rfl⟩
      · refine x_iload_n (pc := 14) (i := 2) K dX6_isUnder_14 rfl rfl ?_
        refine x_iload_n (pc := 15) (i := 1) K dX6_isUnder_15 rfl rfl ?_
        refine x_icmp_ne (pc := 16) (tgt := 21) K dX6_isUnder_16 (by decide) (fun c_16 => ?_) (fun c_16 => ?_)
        · refine x_iload_n (pc := 21) (i := 2) K dX6_isUnder_21 rfl rfl ?_
          refine x_S1i (pc := 22) K (c_yX6_kindAbove) mw_yX6_kindAbove st_yX6_kindAbove mk_X6_290 ⟨Nat.le_of_ble_eq_true rfl, Nat.le_of_ble_eq_true rfl, Nat.le_of_ble_eq_true rfl⟩ dX6_isUnder_22 ?_
          refine x_istore_n (pc := 25) (i := 2) K dX6_isUnder_25 rfl rfl (by decide) ?_
          refine x_iinc (pc := 26) (i := 3) (v := nI (i + 1)) K dX6_isUnder_26 rfl (nI_1 _) rfl ?_
          refine x_goto (pc := 29) (tgt := 4) K dX6_isUnder_29 (by decide) ?_
          exact ih (i + 1) (q_above x) (by omega) B (by rw [← hT]; simp (decide := true) only [q_under, if_neg c_7, if_neg c_11, if_neg c_16, ↓reduceIte, Bool.false_eq_true, bI_t, bI_f])
        · refine x_iconst (pc := 19) (v := 1) K dX6_isUnder_19 (by decide) ?_
          exact x_nretI (pc := 20) K dX6_isUnder_20 rfl ⟨by rw [← hT]; simp (decide := true) only [q_under, if_neg c_7, if_neg c_11, if_pos c_16, ↓reduceIte, Bool.false_eq_true, bI_t, bI_f], rfl, rfl⟩

set_option maxRecDepth 100000 in
set_option maxHeartbeats 4000000 in
theorem c_yX6_isUnder {k : Nat} {l : Launch} {G : Gm} {α ρ : Af} {v a : Int32}  : CI k l G yX6_isUnder (Cond.code yX6_isUnder cX6_isUnder 4 (some .boolean)) 3 [.int v, .int a] α ρ (PI (bI (q_under 7 v a)) α ρ) := by
  refine CI.of [some (.int v), some (.int a), none, none] (by decide) (Nat.le_of_ble_eq_true rfl) rfl rfl (fun C K => ?_)
  have K : Ok l _ G C RX6 cX6_isUnder (some .boolean) 4 := K
  refine x_iload_n (pc := 0) (i := 0) K dX6_isUnder_0 rfl rfl ?_
  refine x_istore_n (pc := 1) (i := 2) K dX6_isUnder_1 rfl rfl (by decide) ?_
  refine x_iconst (pc := 2) (v := 0) K dX6_isUnder_2 (by decide) ?_
  refine x_istore_n (pc := 3) (i := 3) K dX6_isUnder_3 rfl rfl (by decide) ?_
  exact l_under K 7 0 v rfl _ rfl

def q_gcd (a b : Int32) : Nat → Int32
  | 0 => 1
  | m + 1 => if nI (m + 1) ≤ 1 then 1 else if jrem a (nI (m + 1)) = 0 then (if jrem b (nI (m + 1)) = 0 then nI (m + 1) else q_gcd a b m) else q_gcd a b m
set_option maxRecDepth 100000 in
set_option maxHeartbeats 4000000 in
theorem l_gcd {k : Nat} {l : Launch} {G : Gm} {C : Cx} {a b : Int32} {α ρ : Af} (K : Ok l 1 G C RX6 cX6_greatestCommon (some .int) 3)  : ∀ (m : Nat), m < 2 ^ 31 → ∀ T, q_gcd a b m = T → X k l 1 G C (PI T α ρ) 3 2 [some (.int a), some (.int b), some (.int (nI m))] [] α ρ := by
  intro m
  induction m with
  | zero =>
    intro hm T hT
    refine x_iload_n (pc := 2) (i := 2) K dX6_greatestCommon_2 rfl rfl ?_
    refine x_iconst (pc := 3) (v := 1) K dX6_greatestCommon_3 (by decide) ?_
    refine x_icmp_le (pc := 4) (tgt := 27) K dX6_greatestCommon_4 (by decide) (fun c_4 => ?_) (fun c_4 => ?_)
    · refine x_iconst (pc := 27) (v := 1) K dX6_greatestCommon_27 (by decide) ?_
      exact x_iretI (pc := 28) K dX6_greatestCommon_28 ⟨by rw [← hT]; simp (decide := true) only [q_gcd, if_pos c_4, ↓reduceIte, Bool.false_eq_true, bI_t, bI_f], rfl, rfl⟩
    · exact absurd (by decide) c_4
  | succ m ih =>
    intro hm T hT
    refine x_iload_n (pc := 2) (i := 2) K dX6_greatestCommon_2 rfl rfl ?_
    refine x_iconst (pc := 3) (v := 1) K dX6_greatestCommon_3 (by decide) ?_
    refine x_icmp_le (pc := 4) (tgt := 27) K dX6_greatestCommon_4 (by decide) (fun c_4 => ?_) (fun c_4 => ?_)
    · refine x_iconst (pc := 27) (v := 1) K dX6_greatestCommon_27 (by decide) ?_
      exact x_iretI (pc := 28) K dX6_greatestCommon_28 ⟨by rw [← hT]; simp (decide := true) only [q_gcd, if_pos c_4, ↓reduceIte, Bool.false_eq_true, bI_t, bI_f], rfl, rfl⟩
    · refine x_iload_n (pc := 7) (i := 0) K dX6_greatestCommon_7 rfl rfl ?_
      refine x_iload_n (pc := 8) (i := 2) K dX6_greatestCommon_8 rfl rfl ?_
      refine x_irem (pc := 9) K dX6_greatestCommon_9 (fun h => c_4 (by rw [h]; decide)) ?_
      refine x_if_ne (pc := 10) (tgt := 21) K dX6_greatestCommon_10 (by decide) (fun c_10 => ?_) (fun c_10 => ?_)
      · refine x_iinc (pc := 21) (i := 2) (v := nI m) K dX6_greatestCommon_21 rfl (pk_m1 m) rfl ?_
        refine x_goto (pc := 24) (tgt := 2) K dX6_greatestCommon_24 (by decide) ?_
        exact ih (by omega) T (by rw [← hT]; simp (decide := true) only [q_gcd, if_neg c_4, if_neg c_10, ↓reduceIte, Bool.false_eq_true, bI_t, bI_f])
      · refine x_iload_n (pc := 13) (i := 1) K dX6_greatestCommon_13 rfl rfl ?_
        refine x_iload_n (pc := 14) (i := 2) K dX6_greatestCommon_14 rfl rfl ?_
        refine x_irem (pc := 15) K dX6_greatestCommon_15 (fun h => c_4 (by rw [h]; decide)) ?_
        refine x_if_ne (pc := 16) (tgt := 21) K dX6_greatestCommon_16 (by decide) (fun c_16 => ?_) (fun c_16 => ?_)
        · refine x_iinc (pc := 21) (i := 2) (v := nI m) K dX6_greatestCommon_21 rfl (pk_m1 m) rfl ?_
          refine x_goto (pc := 24) (tgt := 2) K dX6_greatestCommon_24 (by decide) ?_
          exact ih (by omega) T (by rw [← hT]; simp (decide := true) only [q_gcd, if_neg c_4, if_pos c_10, if_neg c_16, ↓reduceIte, Bool.false_eq_true, bI_t, bI_f])
        · refine x_iload_n (pc := 19) (i := 2) K dX6_greatestCommon_19 rfl rfl ?_
          exact x_iretI (pc := 20) K dX6_greatestCommon_20 ⟨by rw [← hT]; simp (decide := true) only [q_gcd, if_neg c_4, if_pos c_10, if_pos c_16, ↓reduceIte, Bool.false_eq_true, bI_t, bI_f], rfl, rfl⟩

set_option maxRecDepth 100000 in
set_option maxHeartbeats 4000000 in
theorem c_yX6_greatestCommon {k : Nat} {l : Launch} {G : Gm} {α ρ : Af} {a : Int32} {m : Nat} (hm : m < 2 ^ 31) : CI k l G yX6_greatestCommon (Cond.code yX6_greatestCommon cX6_greatestCommon 3 (some .int)) 1 [.int a, .int (nI m)] α ρ (PI (q_gcd a (nI m) m) α ρ) := by
  refine CI.of [some (.int a), some (.int (nI m)), none] (by decide) (Nat.le_of_ble_eq_true rfl) rfl rfl (fun C K => ?_)
  have K : Ok l _ G C RX6 cX6_greatestCommon (some .int) 3 := K
  refine x_iload_n (pc := 0) (i := 1) K dX6_greatestCommon_0 rfl rfl ?_
  refine x_istore_n (pc := 1) (i := 2) K dX6_greatestCommon_1 rfl rfl (by decide) ?_
  exact l_gcd K m hm _ rfl
