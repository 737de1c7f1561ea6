theorem ahead_in {α : Af} (hr : Rk α) (c1 : ¬ α idR 2 < 0) (c2 : ¬ α idR 4 ≤ α idR 2) : vp_in (α idR 2) 60 := by
  obtain ⟨⟨n, h1, h2⟩, -, -⟩ := hr
  obtain ⟨a, ha, e⟩ := nI_of c1
  rw [e] at c2 ⊢
  rw [h2] at c2
  exact vp_in_nI (by have := mt (nI_leI (a := n) (b := a) (by omega) ha).mpr c2; omega) (by decide)
theorem ahead_nar {α : Af} (hr : Rk α) (c1 : ¬ α idR 2 < 0) (c2 : ¬ α idR 4 ≤ α idR 2) : narrow .char (.int (α idRb (α idR 2).toNatClampNeg)) = .int (α idRb (α idR 2).toNatClampNeg) := by
  obtain ⟨j, hj, e⟩ := vp_in_of (ahead_in hr c1 c2) (by decide)
  rw [e, nI_clamp (by omega)]
  exact hr.2.2 j hj
set_option maxRecDepth 100000 in
set_option maxHeartbeats 4000000 in
theorem c_yX2_ahead {k : Nat} {l : Launch} {G : Gm} {α ρ : Af}  (hr : Rk α) : CI k l G yX2_ahead (Cond.code yX2_ahead cX2_ahead 1 (some .char)) 1 [.ref (gA G idR)] α ρ (PI (q_ahead α) α ρ) := by
  refine CI.of [some (.ref (gA G idR))] (by decide) (Nat.le_of_ble_eq_true rfl) rfl rfl (fun C K => ?_)
  have K : Ok l _ G C RX2 cX2_ahead (some .char) 1 := K
  refine x_aload_n (pc := 0) (i := 0) K dX2_ahead_0 rfl rfl ?_
  refine gf_X2_19 (pc := 1)  K dX2_ahead_1 ?_
  refine x_if_lt (pc := 4) (tgt := 30) K dX2_ahead_4 (by decide) (fun c_4 => ?_) (fun c_4 => ?_)
  · refine x_iconst (pc := 30) (v := 0) K dX2_ahead_30 (by decide) ?_
    exact x_nretI (pc := 31) K dX2_ahead_31 rfl ⟨by unfold q_ahead; rw [if_pos c_4], rfl, rfl⟩
  · refine x_aload_n (pc := 7) (i := 0) K dX2_ahead_7 rfl rfl ?_
    refine gf_X2_19 (pc := 8)  K dX2_ahead_8 ?_
    refine x_aload_n (pc := 11) (i := 0) K dX2_ahead_11 rfl rfl ?_
    refine gf_X2_26 (pc := 12)  K dX2_ahead_12 ?_
    refine x_icmp_ge (pc := 15) (tgt := 30) K dX2_ahead_15 (by decide) (fun c_15 => ?_) (fun c_15 => ?_)
    · refine x_iconst (pc := 30) (v := 0) K dX2_ahead_30 (by decide) ?_
      exact x_nretI (pc := 31) K dX2_ahead_31 rfl ⟨by unfold q_ahead; rw [if_neg c_4, if_pos c_15], rfl, rfl⟩
    · refine x_aload_n (pc := 18) (i := 0) K dX2_ahead_18 rfl rfl ?_
      refine gf_X2_22 (pc := 19)  K dX2_ahead_19 ?_
      refine x_aload_n (pc := 22) (i := 0) K dX2_ahead_22 rfl rfl ?_
      refine gf_X2_19 (pc := 23)  K dX2_ahead_23 ?_
      refine ca_Rb (pc := 26)  K (ahead_in hr c_4 c_15) dX2_ahead_26 ?_
      refine x_goto (pc := 27) (tgt := 31) K dX2_ahead_27 (by decide) ?_
      exact x_nretI (pc := 31) K dX2_ahead_31 (ahead_nar hr c_4 c_15) ⟨by unfold q_ahead; rw [if_neg c_4, if_neg c_15], rfl, rfl⟩

set_option maxRecDepth 100000 in
set_option maxHeartbeats 4000000 in
theorem c_yX2_make {k : Nat} {l : Launch} {G : Gm} {α ρ : Af} {x : Int32} (hr : Rk α) : CI k l G yX2_make (Cond.code yX2_make cX2_make 2 none) 1 [.ref (gA G idR), .int x] α ρ (PV (q_make α x) ρ) := by
  refine CI.of [some (.ref (gA G idR)), some (.int x)] (by decide) (Nat.le_of_ble_eq_true rfl) rfl rfl (fun C K => ?_)
  have K : Ok l _ G C RX2 cX2_make none 2 := K
  refine x_aload_n (pc := 0) (i := 0) K dX2_make_0 rfl rfl ?_
  refine gf_X2_15 (pc := 1)  K dX2_make_1 ?_
  refine x_bipush (pc := 4) (v := 60) K dX2_make_4 (by decide) ?_
  refine x_icmp_ge (pc := 6) (tgt := 29) K dX2_make_6 (by decide) (fun c_6 => ?_) (fun c_6 => ?_)
  · exact x_vretI (pc := 29) K dX2_make_29 ⟨by unfold q_make; rw [if_pos c_6], rfl⟩
  · refine x_aload_n (pc := 9) (i := 0) K dX2_make_9 rfl rfl ?_
    refine gf_X2_9 (pc := 10)  K dX2_make_10 ?_
    refine x_aload_n (pc := 13) (i := 0) K dX2_make_13 rfl rfl ?_
    refine gf_X2_15 (pc := 14)  K dX2_make_14 ?_
    refine x_iload_n (pc := 17) (i := 1) K dX2_make_17 rfl rfl ?_
    refine is_Rc (pc := 18)  K (by obtain ⟨-, ⟨m, h1, h2⟩, -⟩ := hr; rw [h2] at c_6 ⊢; exact vp_in_nI (by have := mt (nI_leI (a := 60) (b := m) (by decide) (by omega)).mpr c_6; omega) (by decide)) dX2_make_18 ?_
    refine x_aload_n (pc := 19) (i := 0) K dX2_make_19 rfl rfl ?_
    refine x_dup (pc := 20) K dX2_make_20 rfl ?_
    refine gf_X2_15 (pc := 21)  K dX2_make_21 ?_
    refine x_iconst (pc := 24) (v := 1) K dX2_make_24 (by decide) ?_
    refine x_iadd (pc := 25) K dX2_make_25 ?_
    refine pf_X2_15 (pc := 26)  K dX2_make_26 ?_
    exact x_vretI (pc := 29) K dX2_make_29 ⟨by unfold q_make; rw [if_neg c_6], rfl⟩

set_option maxRecDepth 100000 in
set_option maxHeartbeats 4000000 in
theorem c_yX2_isDigit {k : Nat} {l : Launch} {G : Gm} {α ρ : Af} {p : Int32}  : CI k l G yX2_isDigit (Cond.code yX2_isDigit cX2_isDigit 1 (some .boolean)) 1 [.int p] α ρ (PI (bI (q_isDigit p)) α ρ) := by
  refine CI.of [some (.int p)] (by decide) (Nat.le_of_ble_eq_true rfl) rfl rfl (fun C K => ?_)
  have K : Ok l _ G C RX2 cX2_isDigit (some .boolean) 1 := K
  refine x_iload_n (pc := 0) (i := 0) K dX2_isDigit_0 rfl rfl ?_
  refine x_bipush (pc := 1) (v := 48) K dX2_isDigit_1 (by decide) ?_
  refine x_icmp_lt (pc := 3) (tgt := 16) K dX2_isDigit_3 (by decide) (fun c_3 => ?_) (fun c_3 => ?_)
  · refine x_iconst (pc := 16) (v := 0) K dX2_isDigit_16 (by decide) ?_
    exact x_nretI (pc := 17) K dX2_isDigit_17 rfl ⟨by simp (decide := true) only [q_isDigit, if_pos c_3, ↓reduceIte, Bool.false_eq_true, bI_t, bI_f], rfl, rfl⟩
  · refine x_iload_n (pc := 6) (i := 0) K dX2_isDigit_6 rfl rfl ?_
    refine x_bipush (pc := 7) (v := 57) K dX2_isDigit_7 (by decide) ?_
    refine x_icmp_gt (pc := 9) (tgt := 16) K dX2_isDigit_9 (by decide) (fun c_9 => ?_) (fun c_9 => ?_)
    · refine x_iconst (pc := 16) (v := 0) K dX2_isDigit_16 (by decide) ?_
      exact x_nretI (pc := 17) K dX2_isDigit_17 rfl ⟨by simp (decide := true) only [q_isDigit, if_neg c_3, if_pos c_9, ↓reduceIte, Bool.false_eq_true, bI_t, bI_f], rfl, rfl⟩
    · refine x_iconst (pc := 12) (v := 1) K dX2_isDigit_12 (by decide) ?_
      refine x_goto (pc := 13) (tgt := 17) K dX2_isDigit_13 (by decide) ?_
      exact x_nretI (pc := 17) K dX2_isDigit_17 rfl ⟨by simp (decide := true) only [q_isDigit, if_neg c_3, if_neg c_9, ↓reduceIte, Bool.false_eq_true, bI_t, bI_f], rfl, rfl⟩

set_option maxRecDepth 100000 in
set_option maxHeartbeats 4000000 in
theorem c_yX2_isOfProducts {k : Nat} {l : Launch} {G : Gm} {α ρ : Af} {p : Int32}  : CI k l G yX2_isOfProducts (Cond.code yX2_isOfProducts cX2_isOfProducts 1 (some .boolean)) 1 [.int p] α ρ (PI (bI (q_isProd p)) α ρ) := by
  refine CI.of [some (.int p)] (by decide) (Nat.le_of_ble_eq_true rfl) rfl rfl (fun C K => ?_)
  have K : Ok l _ G C RX2 cX2_isOfProducts (some .boolean) 1 := K
  refine x_iload_n (pc := 0) (i := 0) K dX2_isOfProducts_0 rfl rfl ?_
  refine x_bipush (pc := 1) (v := 42) K dX2_isOfProducts_1 (by decide) ?_
  refine x_icmp_eq (pc := 3) (tgt := 18) K dX2_isOfProducts_3 (by decide) (fun c_3 => ?_) (fun c_3 => ?_)
  · refine x_iconst (pc := 18) (v := 1) K dX2_isOfProducts_18 (by decide) ?_
    refine x_goto (pc := 19) (tgt := 23) K dX2_isOfProducts_19 (by decide) ?_
    exact x_nretI (pc := 23) K dX2_isOfProducts_23 rfl ⟨by unfold q_isProd; rw [if_pos c_3]; rfl, rfl, rfl⟩
  · refine x_iload_n (pc := 6) (i := 0) K dX2_isOfProducts_6 rfl rfl ?_
    refine x_bipush (pc := 7) (v := 47) K dX2_isOfProducts_7 (by decide) ?_
    refine x_icmp_eq (pc := 9) (tgt := 18) K dX2_isOfProducts_9 (by decide) (fun c_9 => ?_) (fun c_9 => ?_)
    · refine x_iconst (pc := 18) (v := 1) K dX2_isOfProducts_18 (by decide) ?_
      refine x_goto (pc := 19) (tgt := 23) K dX2_isOfProducts_19 (by decide) ?_
      exact x_nretI (pc := 23) K dX2_isOfProducts_23 rfl ⟨by unfold q_isProd; rw [if_neg c_3, if_pos c_9]; rfl, rfl, rfl⟩
    · refine x_iload_n (pc := 12) (i := 0) K dX2_isOfProducts_12 rfl rfl ?_
      refine x_bipush (pc := 13) (v := 37) K dX2_isOfProducts_13 (by decide) ?_
      refine x_icmp_ne (pc := 15) (tgt := 22) K dX2_isOfProducts_15 (by decide) (fun c_15 => ?_) (fun c_15 => ?_)
      · refine x_iconst (pc := 22) (v := 0) K dX2_isOfProducts_22 (by decide) ?_
        exact x_nretI (pc := 23) K dX2_isOfProducts_23 rfl ⟨by unfold q_isProd; rw [if_neg c_3, if_neg c_9, if_neg c_15]; rfl, rfl, rfl⟩
      · refine x_iconst (pc := 18) (v := 1) K dX2_isOfProducts_18 (by decide) ?_
        refine x_goto (pc := 19) (tgt := 23) K dX2_isOfProducts_19 (by decide) ?_
        exact x_nretI (pc := 23) K dX2_isOfProducts_23 rfl ⟨by unfold q_isProd; rw [if_neg c_3, if_neg c_9, if_pos c_15]; rfl, rfl, rfl⟩

set_option maxRecDepth 100000 in
set_option maxHeartbeats 4000000 in
theorem l_num {k : Nat} {l : Launch} {G : Gm} {C : Cx} {ρ : Af} (K : Ok l 2 G C RX2 cX2_readNumber none 3)  : ∀ (j i : Nat) (v : Int32) (α : Af), Rk α → i + j = 4 → ∀ T, q_make (q_num j v α).2 (q_num j v α).1 = T → X k l 2 G C (PV T ρ) 3 4 [some (.ref (gA G idR)), some (.int v), some (.int (nI i))] [] α ρ := by
  intro j
  induction j with
  | zero =>
    intro i v α hr hi T hT
    refine x_iload_n (pc := 4) (i := 2) K dX2_readNumber_4 rfl rfl ?_
    refine x_iconst (pc := 5) (v := 4) K dX2_readNumber_5 (by decide) ?_
    refine x_icmp_ge (pc := 6) (tgt := 48) K dX2_readNumber_6 (by decide) (fun c_6 => ?_) (fun c_6 => ?_)
    · refine x_aload_n (pc := 48) (i := 0) K dX2_readNumber_48 rfl rfl ?_
      refine x_iload_n (pc := 49) (i := 1) K dX2_readNumber_49 rfl rfl ?_
      refine x_V1v (pc := 50) K (c_yX2_make hr) mw_yX2_make ⟨im_yX2_make, se_yX2_make⟩ mk_X2_64 rc_R rfl ⟨Nat.le_of_ble_eq_true rfl, Nat.le_of_ble_eq_true rfl, Nat.le_of_ble_eq_true rfl⟩ dX2_readNumber_50 ?_
      exact x_vretI (pc := 53) K dX2_readNumber_53 ⟨by rw [← hT]; rfl, rfl⟩
    · exact absurd (by rw [show i = 4 by omega]; decide) c_6
  | succ j ih =>
    intro i v α hr hi T hT
    refine x_iload_n (pc := 4) (i := 2) K dX2_readNumber_4 rfl rfl ?_
    refine x_iconst (pc := 5) (v := 4) K dX2_readNumber_5 (by decide) ?_
    refine x_icmp_ge (pc := 6) (tgt := 48) K dX2_readNumber_6 (by decide) (fun c_6 => ?_) (fun c_6 => ?_)
    · exact absurd ((nI_leI (a := 4) (b := i) (by decide) (by omega)).mp c_6) (by omega)
    · refine x_aload_n (pc := 9) (i := 0) K dX2_readNumber_9 rfl rfl ?_
      refine x_V0i (pc := 10) K (c_yX2_ahead hr) mw_yX2_ahead ⟨im_yX2_ahead, se_yX2_ahead⟩ mk_X2_60 rc_R rfl ⟨Nat.le_of_ble_eq_true rfl, Nat.le_of_ble_eq_true rfl, Nat.le_of_ble_eq_true rfl⟩ dX2_readNumber_10 ?_
      refine x_S1i (pc := 13) K (c_yX2_isDigit) mw_yX2_isDigit st_yX2_isDigit mk_X2_90 ⟨Nat.le_of_ble_eq_true rfl, Nat.le_of_ble_eq_true rfl, Nat.le_of_ble_eq_true rfl⟩ dX2_readNumber_13 ?_
      refine x_ifeq_b (pc := 16) (tgt := 48) K dX2_readNumber_16 (by decide) (fun c_16 => ?_) (fun c_16 => ?_)
      · refine x_aload_n (pc := 48) (i := 0) K dX2_readNumber_48 rfl rfl ?_
        refine x_iload_n (pc := 49) (i := 1) K dX2_readNumber_49 rfl rfl ?_
        refine x_V1v (pc := 50) K (c_yX2_make hr) mw_yX2_make ⟨im_yX2_make, se_yX2_make⟩ mk_X2_64 rc_R rfl ⟨Nat.le_of_ble_eq_true rfl, Nat.le_of_ble_eq_true rfl, Nat.le_of_ble_eq_true rfl⟩ dX2_readNumber_50 ?_
        exact x_vretI (pc := 53) K dX2_readNumber_53 ⟨by rw [← hT]; simp only [q_num, c_16, Bool.false_eq_true, ↓reduceIte], rfl⟩
      · refine x_iload_n (pc := 19) (i := 1) K dX2_readNumber_19 rfl rfl ?_
        refine x_bipush (pc := 20) (v := 10) K dX2_readNumber_20 (by decide) ?_
        refine x_imul (pc := 22) K dX2_readNumber_22 ?_
        refine x_aload_n (pc := 23) (i := 0) K dX2_readNumber_23 rfl rfl ?_
        refine x_V0i (pc := 24) K (c_yX2_ahead hr) mw_yX2_ahead ⟨im_yX2_ahead, se_yX2_ahead⟩ mk_X2_60 rc_R rfl ⟨Nat.le_of_ble_eq_true rfl, Nat.le_of_ble_eq_true rfl, Nat.le_of_ble_eq_true rfl⟩ dX2_readNumber_24 ?_
        refine x_bipush (pc := 27) (v := 48) K dX2_readNumber_27 (by decide) ?_
        refine x_isub (pc := 29) K dX2_readNumber_29 ?_
        refine x_iadd (pc := 30) K dX2_readNumber_30 ?_
        refine x_istore_n (pc := 31) (i := 1) K dX2_readNumber_31 rfl rfl (by decide) ?_
        refine x_aload_n (pc := 32) (i := 0) K dX2_readNumber_32 rfl rfl ?_
        refine x_dup (pc := 33) K dX2_readNumber_33 rfl ?_
        refine gf_X2_19 (pc := 34)  K dX2_readNumber_34 ?_
        refine x_iconst (pc := 37) (v := 1) K dX2_readNumber_37 (by decide) ?_
        refine x_iadd (pc := 38) K dX2_readNumber_38 ?_
        refine pf_X2_19 (pc := 39)  K dX2_readNumber_39 ?_
        refine x_st (a := q_step α) rfl rfl ?_
        refine x_iinc (pc := 42) (i := 2) (v := nI (i + 1)) K dX2_readNumber_42 rfl (nI_1 _) rfl ?_
        refine x_goto (pc := 45) (tgt := 4) K dX2_readNumber_45 (by decide) ?_
        exact ih (i + 1) _ _ hr.step (by omega) T (by rw [← hT]; simp only [q_num, c_16, ↓reduceIte])

set_option maxRecDepth 100000 in
set_option maxHeartbeats 4000000 in
theorem c_yX2_readNumber {k : Nat} {l : Launch} {G : Gm} {α ρ : Af}  (hr : Rk α) : CI k l G yX2_readNumber (Cond.code yX2_readNumber cX2_readNumber 3 none) 2 [.ref (gA G idR)] α ρ (PV (q_number α) ρ) := by
  refine CI.of [some (.ref (gA G idR)), none, none] (by decide) (Nat.le_of_ble_eq_true rfl) rfl rfl (fun C K => ?_)
  have K : Ok l _ G C RX2 cX2_readNumber none 3 := K
  refine x_iconst (pc := 0) (v := 0) K dX2_readNumber_0 (by decide) ?_
  refine x_istore_n (pc := 1) (i := 1) K dX2_readNumber_1 rfl rfl (by decide) ?_
  refine x_iconst (pc := 2) (v := 0) K dX2_readNumber_2 (by decide) ?_
  refine x_istore_n (pc := 3) (i := 2) K dX2_readNumber_3 rfl rfl (by decide) ?_
  exact l_num K 4 0 0 α hr (by omega) _ rfl

theorem isAny_t {c : Int32} (h : c = 124) : q_isAny c = true := by unfold q_isAny; rw [if_pos h]
theorem isAny_f {c : Int32} (h : ¬ c = 124) : q_isAny c = false := by unfold q_isAny; rw [if_neg h]
theorem isAll_t {c : Int32} (h : c = 38) : q_isAll c = true := by unfold q_isAll; rw [if_pos h]
theorem isAll_f {c : Int32} (h : ¬ c = 38) : q_isAll c = false := by unfold q_isAll; rw [if_neg h]
set_option maxRecDepth 100000 in
set_option maxHeartbeats 4000000 in
theorem l_readProduct {k : Nat} {l : Launch} {G : Gm} {C : Cx} {sub : Pr} {ds : Nat} {op : Int32} {ρ : Af} (K : Ok l (ds + 1) G C RX2 cX2_readProduct (some .boolean) 4) (hsub : ∀ (α ρ : Af), Rk α → CI k l G yX2_readOne (Cond.code yX2_readOne cX2_readOne 4 (some .boolean)) ds [.ref (gA G idR), .int op] α ρ (PI (bI (sub α).1) (sub α).2 ρ)) (hK : PrK sub) (hds : 8 ≤ ds) : ∀ (j i : Nat) (y : Option Value) (α : Af), Rk α → i + j = 60 → ∀ T, q_binL sub q_isProd j α = T → X k l (ds + 1) G C (PI (bI T.1) T.2 ρ) 4 12 [some (.ref (gA G idR)), some (.int op), some (.int (nI i)), y] [] α ρ := by
  intro j
  induction j with
  | zero =>
    intro i y α hr hi T hT
    refine x_iload_n (pc := 12) (i := 2) K dX2_readProduct_12 rfl rfl ?_
    refine x_bipush (pc := 13) (v := 60) K dX2_readProduct_13 (by decide) ?_
    refine x_icmp_ge (pc := 15) (tgt := 65) K dX2_readProduct_15 (by decide) (fun c_15 => ?_) (fun c_15 => ?_)
    · refine x_iconst (pc := 65) (v := 1) K dX2_readProduct_65 (by decide) ?_
      exact x_nretI (pc := 66) K dX2_readProduct_66 rfl ⟨by rw [← hT]; rfl, by rw [← hT]; rfl, rfl⟩
    · exact absurd (by rw [show i = 60 by omega]; decide) c_15
  | succ j ih =>
    intro i y α hr hi T hT
    refine x_iload_n (pc := 12) (i := 2) K dX2_readProduct_12 rfl rfl ?_
    refine x_bipush (pc := 13) (v := 60) K dX2_readProduct_13 (by decide) ?_
    refine x_icmp_ge (pc := 15) (tgt := 65) K dX2_readProduct_15 (by decide) (fun c_15 => ?_) (fun c_15 => ?_)
    · exact absurd ((nI_leI (a := 60) (b := i) (by decide) (by omega)).mp c_15) (by omega)
    · refine x_aload_n (pc := 18) (i := 0) K dX2_readProduct_18 rfl rfl ?_
      refine x_V0i (pc := 19) K (c_yX2_ahead hr) mw_yX2_ahead ⟨im_yX2_ahead, se_yX2_ahead⟩ mk_X2_60 rc_R rfl ⟨(by omega), Nat.le_of_ble_eq_true rfl, Nat.le_of_ble_eq_true rfl⟩ dX2_readProduct_19 ?_
      refine x_S1i (pc := 22) K (c_yX2_isOfProducts) mw_yX2_isOfProducts st_yX2_isOfProducts mk_X2_80 ⟨(by omega), Nat.le_of_ble_eq_true rfl, Nat.le_of_ble_eq_true rfl⟩ dX2_readProduct_22 ?_
      refine x_ifeq_b (pc := 25) (tgt := 65) K dX2_readProduct_25 (by decide) (fun c_25 => ?_) (fun c_25 => ?_)
      · refine x_iconst (pc := 65) (v := 1) K dX2_readProduct_65 (by decide) ?_
        exact x_nretI (pc := 66) K dX2_readProduct_66 rfl ⟨by rw [← hT]; simp only [q_binL, c_25, Bool.false_eq_true, ↓reduceIte]; rfl, by rw [← hT]; simp only [q_binL, c_25, Bool.false_eq_true, ↓reduceIte], rfl⟩
      · refine x_aload_n (pc := 28) (i := 0) K dX2_readProduct_28 rfl rfl ?_
        refine x_V0i (pc := 29) K (c_yX2_ahead hr) mw_yX2_ahead ⟨im_yX2_ahead, se_yX2_ahead⟩ mk_X2_60 rc_R rfl ⟨(by omega), Nat.le_of_ble_eq_true rfl, Nat.le_of_ble_eq_true rfl⟩ dX2_readProduct_29 ?_
        refine x_istore_n (pc := 32) (i := 3) K dX2_readProduct_32 rfl rfl (by decide) ?_
        refine x_aload_n (pc := 33) (i := 0) K dX2_readProduct_33 rfl rfl ?_
        refine x_dup (pc := 34) K dX2_readProduct_34 rfl ?_
        refine gf_X2_19 (pc := 35)  K dX2_readProduct_35 ?_
        refine x_iconst (pc := 38) (v := 1) K dX2_readProduct_38 (by decide) ?_
        refine x_iadd (pc := 39) K dX2_readProduct_39 ?_
        refine pf_X2_19 (pc := 40)  K dX2_readProduct_40 ?_
        refine x_st (a := q_step α) rfl rfl ?_
        refine x_aload_n (pc := 43) (i := 0) K dX2_readProduct_43 rfl rfl ?_
        refine x_iload_n (pc := 44) (i := 1) K dX2_readProduct_44 rfl rfl ?_
        refine x_V1i (pc := 45) K (hsub _ _ hr.step) mw_yX2_readOne ⟨im_yX2_readOne, se_yX2_readOne⟩ mk_X2_77 rc_R rfl ⟨(by omega), Nat.le_of_ble_eq_true rfl, Nat.le_of_ble_eq_true rfl⟩ dX2_readProduct_45 ?_
        refine x_ifne_b (pc := 48) (tgt := 53) K dX2_readProduct_48 (by decide) (fun c_48 => ?_) (fun c_48 => ?_)
        · refine x_aload_n (pc := 53) (i := 0) K dX2_readProduct_53 rfl rfl ?_
          refine x_iload_n (pc := 54) (i := 3) K dX2_readProduct_54 rfl rfl ?_
          refine x_ineg (pc := 55) K dX2_readProduct_55 ?_
          refine x_V1v (pc := 56) K (c_yX2_make (hK _ hr.step)) mw_yX2_make ⟨im_yX2_make, se_yX2_make⟩ mk_X2_64 rc_R rfl ⟨(by omega), Nat.le_of_ble_eq_true rfl, Nat.le_of_ble_eq_true rfl⟩ dX2_readProduct_56 ?_
          refine x_iinc (pc := 59) (i := 2) (v := nI (i + 1)) K dX2_readProduct_59 rfl (nI_1 _) rfl ?_
          refine x_goto (pc := 62) (tgt := 12) K dX2_readProduct_62 (by decide) ?_
          exact ih (i + 1) _ _ (hK _ hr.step).make (by omega) T (by rw [← hT]; simp only [q_binL, c_25, c_48, ↓reduceIte])
        · refine x_iconst (pc := 51) (v := 0) K dX2_readProduct_51 (by decide) ?_
          exact x_nretI (pc := 52) K dX2_readProduct_52 rfl ⟨by rw [← hT]; simp only [q_binL, c_25, c_48, Bool.false_eq_true, ↓reduceIte]; rfl, by rw [← hT]; simp only [q_binL, c_25, c_48, Bool.false_eq_true, ↓reduceIte], rfl⟩

set_option maxRecDepth 100000 in
set_option maxHeartbeats 4000000 in
theorem c_yX2_readProduct {k : Nat} {l : Launch} {G : Gm} {α ρ : Af} {sub : Pr} {ds : Nat} {op : Int32} (hsub : ∀ (α ρ : Af), Rk α → CI k l G yX2_readOne (Cond.code yX2_readOne cX2_readOne 4 (some .boolean)) ds [.ref (gA G idR), .int op] α ρ (PI (bI (sub α).1) (sub α).2 ρ)) (hK : PrK sub) (hds : 8 ≤ ds) (hr : Rk α) : CI k l G yX2_readProduct (Cond.code yX2_readProduct cX2_readProduct 4 (some .boolean)) (ds + 1) [.ref (gA G idR), .int op] α ρ (PI (bI (q_bin sub q_isProd α).1) (q_bin sub q_isProd α).2 ρ) := by
  refine CI.of [some (.ref (gA G idR)), some (.int op), none, none] (by decide) (Nat.le_of_ble_eq_true rfl) rfl rfl (fun C K => ?_)
  have K : Ok l _ G C RX2 cX2_readProduct (some .boolean) 4 := K
  refine x_aload_n (pc := 0) (i := 0) K dX2_readProduct_0 rfl rfl ?_
  refine x_iload_n (pc := 1) (i := 1) K dX2_readProduct_1 rfl rfl ?_
  refine x_V1i (pc := 2) K (hsub _ _ hr) mw_yX2_readOne ⟨im_yX2_readOne, se_yX2_readOne⟩ mk_X2_77 rc_R rfl ⟨(by omega), Nat.le_of_ble_eq_true rfl, Nat.le_of_ble_eq_true rfl⟩ dX2_readProduct_2 ?_
  refine x_ifne_b (pc := 5) (tgt := 10) K dX2_readProduct_5 (by decide) (fun c_5 => ?_) (fun c_5 => ?_)
  · refine x_iconst (pc := 10) (v := 0) K dX2_readProduct_10 (by decide) ?_
    refine x_istore_n (pc := 11) (i := 2) K dX2_readProduct_11 rfl rfl (by decide) ?_
    exact l_readProduct K hsub hK hds 60 0 none  _ (hK _ hr) (by omega) _ (by simp only [q_bin, c_5, ↓reduceIte])
  · refine x_iconst (pc := 8) (v := 0) K dX2_readProduct_8 (by decide) ?_
    exact x_nretI (pc := 9) K dX2_readProduct_9 rfl ⟨by simp only [q_bin, c_5, Bool.false_eq_true, ↓reduceIte]; rfl, by simp only [q_bin, c_5, Bool.false_eq_true, ↓reduceIte], rfl⟩

set_option maxRecDepth 100000 in
set_option maxHeartbeats 4000000 in
theorem l_readSum {k : Nat} {l : Launch} {G : Gm} {C : Cx} {sub : Pr} {ds : Nat} {op : Int32} {ρ : Af} (K : Ok l (ds + 1) G C RX2 cX2_readSum (some .boolean) 4) (hsub : ∀ (α ρ : Af), Rk α → CI k l G yX2_readProduct (Cond.code yX2_readProduct cX2_readProduct 4 (some .boolean)) ds [.ref (gA G idR), .int op] α ρ (PI (bI (sub α).1) (sub α).2 ρ)) (hK : PrK sub) (hds : 8 ≤ ds) : ∀ (j i : Nat) (y : Option Value) (α : Af), Rk α → i + j = 60 → ∀ T, q_binL sub q_isSum j α = T → X k l (ds + 1) G C (PI (bI T.1) T.2 ρ) 4 12 [some (.ref (gA G idR)), some (.int op), some (.int (nI i)), y] [] α ρ := by
  intro j
  induction j with
  | zero =>
    intro i y α hr hi T hT
    refine x_iload_n (pc := 12) (i := 2) K dX2_readSum_12 rfl rfl ?_
    refine x_bipush (pc := 13) (v := 60) K dX2_readSum_13 (by decide) ?_
    refine x_icmp_ge (pc := 15) (tgt := 73) K dX2_readSum_15 (by decide) (fun c_15 => ?_) (fun c_15 => ?_)
    · refine x_iconst (pc := 73) (v := 1) K dX2_readSum_73 (by decide) ?_
      exact x_nretI (pc := 74) K dX2_readSum_74 rfl ⟨by rw [← hT]; rfl, by rw [← hT]; rfl, rfl⟩
    · exact absurd (by rw [show i = 60 by omega]; decide) c_15
  | succ j ih =>
    intro i y α hr hi T hT
    refine x_iload_n (pc := 12) (i := 2) K dX2_readSum_12 rfl rfl ?_
    refine x_bipush (pc := 13) (v := 60) K dX2_readSum_13 (by decide) ?_
    refine x_icmp_ge (pc := 15) (tgt := 73) K dX2_readSum_15 (by decide) (fun c_15 => ?_) (fun c_15 => ?_)
    · exact absurd ((nI_leI (a := 60) (b := i) (by decide) (by omega)).mp c_15) (by omega)
    · refine x_aload_n (pc := 18) (i := 0) K dX2_readSum_18 rfl rfl ?_
      refine x_V0i (pc := 19) K (c_yX2_ahead hr) mw_yX2_ahead ⟨im_yX2_ahead, se_yX2_ahead⟩ mk_X2_60 rc_R rfl ⟨(by omega), Nat.le_of_ble_eq_true rfl, Nat.le_of_ble_eq_true rfl⟩ dX2_readSum_19 ?_
      refine x_bipush (pc := 22) (v := 43) K dX2_readSum_22 (by decide) ?_
      refine x_icmp_eq (pc := 24) (tgt := 36) K dX2_readSum_24 (by decide) (fun c_24 => ?_) (fun c_24 => ?_)
      · refine x_aload_n (pc := 36) (i := 0) K dX2_readSum_36 rfl rfl ?_
        refine x_V0i (pc := 37) K (c_yX2_ahead hr) mw_yX2_ahead ⟨im_yX2_ahead, se_yX2_ahead⟩ mk_X2_60 rc_R rfl ⟨(by omega), Nat.le_of_ble_eq_true rfl, Nat.le_of_ble_eq_true rfl⟩ dX2_readSum_37 ?_
        refine x_istore_n (pc := 40) (i := 3) K dX2_readSum_40 rfl rfl (by decide) ?_
        refine x_aload_n (pc := 41) (i := 0) K dX2_readSum_41 rfl rfl ?_
        refine x_dup (pc := 42) K dX2_readSum_42 rfl ?_
        refine gf_X2_19 (pc := 43)  K dX2_readSum_43 ?_
        refine x_iconst (pc := 46) (v := 1) K dX2_readSum_46 (by decide) ?_
        refine x_iadd (pc := 47) K dX2_readSum_47 ?_
        refine pf_X2_19 (pc := 48)  K dX2_readSum_48 ?_
        refine x_st (a := q_step α) rfl rfl ?_
        refine x_aload_n (pc := 51) (i := 0) K dX2_readSum_51 rfl rfl ?_
        refine x_iload_n (pc := 52) (i := 1) K dX2_readSum_52 rfl rfl ?_
        refine x_V1i (pc := 53) K (hsub _ _ hr.step) mw_yX2_readProduct ⟨im_yX2_readProduct, se_yX2_readProduct⟩ mk_X2_74 rc_R rfl ⟨(by omega), Nat.le_of_ble_eq_true rfl, Nat.le_of_ble_eq_true rfl⟩ dX2_readSum_53 ?_
        refine x_ifne_b (pc := 56) (tgt := 61) K dX2_readSum_56 (by decide) (fun c_56 => ?_) (fun c_56 => ?_)
        · refine x_aload_n (pc := 61) (i := 0) K dX2_readSum_61 rfl rfl ?_
          refine x_iload_n (pc := 62) (i := 3) K dX2_readSum_62 rfl rfl ?_
          refine x_ineg (pc := 63) K dX2_readSum_63 ?_
          refine x_V1v (pc := 64) K (c_yX2_make (hK _ hr.step)) mw_yX2_make ⟨im_yX2_make, se_yX2_make⟩ mk_X2_64 rc_R rfl ⟨(by omega), Nat.le_of_ble_eq_true rfl, Nat.le_of_ble_eq_true rfl⟩ dX2_readSum_64 ?_
          refine x_iinc (pc := 67) (i := 2) (v := nI (i + 1)) K dX2_readSum_67 rfl (nI_1 _) rfl ?_
          refine x_goto (pc := 70) (tgt := 12) K dX2_readSum_70 (by decide) ?_
          exact ih (i + 1) _ _ (hK _ hr.step).make (by omega) T (by rw [← hT]; simp only [q_binL, show q_isSum (q_ahead α) = true from (by unfold q_isSum; rw [if_pos c_24]), c_56, ↓reduceIte])
        · refine x_iconst (pc := 59) (v := 0) K dX2_readSum_59 (by decide) ?_
          exact x_nretI (pc := 60) K dX2_readSum_60 rfl ⟨by rw [← hT]; simp only [q_binL, show q_isSum (q_ahead α) = true from (by unfold q_isSum; rw [if_pos c_24]), c_56, Bool.false_eq_true, ↓reduceIte]; rfl, by rw [← hT]; simp only [q_binL, show q_isSum (q_ahead α) = true from (by unfold q_isSum; rw [if_pos c_24]), c_56, Bool.false_eq_true, ↓reduceIte], rfl⟩
      · refine x_aload_n (pc := 27) (i := 0) K dX2_readSum_27 rfl rfl ?_
        refine x_V0i (pc := 28) K (c_yX2_ahead hr) mw_yX2_ahead ⟨im_yX2_ahead, se_yX2_ahead⟩ mk_X2_60 rc_R rfl ⟨(by omega), Nat.le_of_ble_eq_true rfl, Nat.le_of_ble_eq_true rfl⟩ dX2_readSum_28 ?_
        refine x_bipush (pc := 31) (v := 45) K dX2_readSum_31 (by decide) ?_
        refine x_icmp_ne (pc := 33) (tgt := 73) K dX2_readSum_33 (by decide) (fun c_33 => ?_) (fun c_33 => ?_)
        · refine x_iconst (pc := 73) (v := 1) K dX2_readSum_73 (by decide) ?_
          exact x_nretI (pc := 74) K dX2_readSum_74 rfl ⟨by rw [← hT]; simp only [q_binL, show q_isSum (q_ahead α) = false from (by unfold q_isSum; rw [if_neg c_24, if_neg c_33]), Bool.false_eq_true, ↓reduceIte]; rfl, by rw [← hT]; simp only [q_binL, show q_isSum (q_ahead α) = false from (by unfold q_isSum; rw [if_neg c_24, if_neg c_33]), Bool.false_eq_true, ↓reduceIte], rfl⟩
        · refine x_aload_n (pc := 36) (i := 0) K dX2_readSum_36 rfl rfl ?_
          refine x_V0i (pc := 37) K (c_yX2_ahead hr) mw_yX2_ahead ⟨im_yX2_ahead, se_yX2_ahead⟩ mk_X2_60 rc_R rfl ⟨(by omega), Nat.le_of_ble_eq_true rfl, Nat.le_of_ble_eq_true rfl⟩ dX2_readSum_37 ?_
          refine x_istore_n (pc := 40) (i := 3) K dX2_readSum_40 rfl rfl (by decide) ?_
          refine x_aload_n (pc := 41) (i := 0) K dX2_readSum_41 rfl rfl ?_
          refine x_dup (pc := 42) K dX2_readSum_42 rfl ?_
          refine gf_X2_19 (pc := 43)  K dX2_readSum_43 ?_
          refine x_iconst (pc := 46) (v := 1) K dX2_readSum_46 (by decide) ?_
          refine x_iadd (pc := 47) K dX2_readSum_47 ?_
          refine pf_X2_19 (pc := 48)  K dX2_readSum_48 ?_
          refine x_st (a := q_step α) rfl rfl ?_
          refine x_aload_n (pc := 51) (i := 0) K dX2_readSum_51 rfl rfl ?_
          refine x_iload_n (pc := 52) (i := 1) K dX2_readSum_52 rfl rfl ?_
          refine x_V1i (pc := 53) K (hsub _ _ hr.step) mw_yX2_readProduct ⟨im_yX2_readProduct, se_yX2_readProduct⟩ mk_X2_74 rc_R rfl ⟨(by omega), Nat.le_of_ble_eq_true rfl, Nat.le_of_ble_eq_true rfl⟩ dX2_readSum_53 ?_
          refine x_ifne_b (pc := 56) (tgt := 61) K dX2_readSum_56 (by decide) (fun c_56 => ?_) (fun c_56 => ?_)
          · refine x_aload_n (pc := 61) (i := 0) K dX2_readSum_61 rfl rfl ?_
            refine x_iload_n (pc := 62) (i := 3) K dX2_readSum_62 rfl rfl ?_
            refine x_ineg (pc := 63) K dX2_readSum_63 ?_
            refine x_V1v (pc := 64) K (c_yX2_make (hK _ hr.step)) mw_yX2_make ⟨im_yX2_make, se_yX2_make⟩ mk_X2_64 rc_R rfl ⟨(by omega), Nat.le_of_ble_eq_true rfl, Nat.le_of_ble_eq_true rfl⟩ dX2_readSum_64 ?_
            refine x_iinc (pc := 67) (i := 2) (v := nI (i + 1)) K dX2_readSum_67 rfl (nI_1 _) rfl ?_
            refine x_goto (pc := 70) (tgt := 12) K dX2_readSum_70 (by decide) ?_
            exact ih (i + 1) _ _ (hK _ hr.step).make (by omega) T (by rw [← hT]; simp only [q_binL, show q_isSum (q_ahead α) = true from (by unfold q_isSum; rw [if_neg c_24, if_pos c_33]), c_56, ↓reduceIte])
          · refine x_iconst (pc := 59) (v := 0) K dX2_readSum_59 (by decide) ?_
            exact x_nretI (pc := 60) K dX2_readSum_60 rfl ⟨by rw [← hT]; simp only [q_binL, show q_isSum (q_ahead α) = true from (by unfold q_isSum; rw [if_neg c_24, if_pos c_33]), c_56, Bool.false_eq_true, ↓reduceIte]; rfl, by rw [← hT]; simp only [q_binL, show q_isSum (q_ahead α) = true from (by unfold q_isSum; rw [if_neg c_24, if_pos c_33]), c_56, Bool.false_eq_true, ↓reduceIte], rfl⟩

set_option maxRecDepth 100000 in
set_option maxHeartbeats 4000000 in
theorem c_yX2_readSum {k : Nat} {l : Launch} {G : Gm} {α ρ : Af} {sub : Pr} {ds : Nat} {op : Int32} (hsub : ∀ (α ρ : Af), Rk α → CI k l G yX2_readProduct (Cond.code yX2_readProduct cX2_readProduct 4 (some .boolean)) ds [.ref (gA G idR), .int op] α ρ (PI (bI (sub α).1) (sub α).2 ρ)) (hK : PrK sub) (hds : 8 ≤ ds) (hr : Rk α) : CI k l G yX2_readSum (Cond.code yX2_readSum cX2_readSum 4 (some .boolean)) (ds + 1) [.ref (gA G idR), .int op] α ρ (PI (bI (q_bin sub q_isSum α).1) (q_bin sub q_isSum α).2 ρ) := by
  refine CI.of [some (.ref (gA G idR)), some (.int op), none, none] (by decide) (Nat.le_of_ble_eq_true rfl) rfl rfl (fun C K => ?_)
  have K : Ok l _ G C RX2 cX2_readSum (some .boolean) 4 := K
  refine x_aload_n (pc := 0) (i := 0) K dX2_readSum_0 rfl rfl ?_
  refine x_iload_n (pc := 1) (i := 1) K dX2_readSum_1 rfl rfl ?_
  refine x_V1i (pc := 2) K (hsub _ _ hr) mw_yX2_readProduct ⟨im_yX2_readProduct, se_yX2_readProduct⟩ mk_X2_74 rc_R rfl ⟨(by omega), Nat.le_of_ble_eq_true rfl, Nat.le_of_ble_eq_true rfl⟩ dX2_readSum_2 ?_
  refine x_ifne_b (pc := 5) (tgt := 10) K dX2_readSum_5 (by decide) (fun c_5 => ?_) (fun c_5 => ?_)
  · refine x_iconst (pc := 10) (v := 0) K dX2_readSum_10 (by decide) ?_
    refine x_istore_n (pc := 11) (i := 2) K dX2_readSum_11 rfl rfl (by decide) ?_
    exact l_readSum K hsub hK hds 60 0 none  _ (hK _ hr) (by omega) _ (by simp only [q_bin, c_5, ↓reduceIte])
  · refine x_iconst (pc := 8) (v := 0) K dX2_readSum_8 (by decide) ?_
    exact x_nretI (pc := 9) K dX2_readSum_9 rfl ⟨by simp only [q_bin, c_5, Bool.false_eq_true, ↓reduceIte]; rfl, by simp only [q_bin, c_5, Bool.false_eq_true, ↓reduceIte], rfl⟩

set_option maxRecDepth 100000 in
set_option maxHeartbeats 4000000 in
theorem c_yX2_readCompared {k : Nat} {l : Launch} {G : Gm} {α ρ : Af} {sub : Pr} {ds : Nat} {op : Int32} (hsub : ∀ (α ρ : Af), Rk α → CI k l G yX2_readSum (Cond.code yX2_readSum cX2_readSum 4 (some .boolean)) ds [.ref (gA G idR), .int op] α ρ (PI (bI (sub α).1) (sub α).2 ρ)) (hK : PrK sub) (hds : 8 ≤ ds) (hr : Rk α) : CI k l G yX2_readCompared (Cond.code yX2_readCompared cX2_readCompared 3 (some .boolean)) (ds + 1) [.ref (gA G idR), .int op] α ρ (PI (bI (q_cmp sub α).1) (q_cmp sub α).2 ρ) := by
  refine CI.of [some (.ref (gA G idR)), some (.int op), none] (by decide) (Nat.le_of_ble_eq_true rfl) rfl rfl (fun C K => ?_)
  have K : Ok l _ G C RX2 cX2_readCompared (some .boolean) 3 := K
  refine x_aload_n (pc := 0) (i := 0) K dX2_readCompared_0 rfl rfl ?_
  refine x_iload_n (pc := 1) (i := 1) K dX2_readCompared_1 rfl rfl ?_
  refine x_V1i (pc := 2) K (hsub _ _ hr) mw_yX2_readSum ⟨im_yX2_readSum, se_yX2_readSum⟩ mk_X2_71 rc_R rfl ⟨(by omega), Nat.le_of_ble_eq_true rfl, Nat.le_of_ble_eq_true rfl⟩ dX2_readCompared_2 ?_
  refine x_ifne_b (pc := 5) (tgt := 10) K dX2_readCompared_5 (by decide) (fun c_5 => ?_) (fun c_5 => ?_)
  · refine x_aload_n (pc := 10) (i := 0) K dX2_readCompared_10 rfl rfl ?_
    refine x_V0i (pc := 11) K (c_yX2_ahead (hK _ hr)) mw_yX2_ahead ⟨im_yX2_ahead, se_yX2_ahead⟩ mk_X2_60 rc_R rfl ⟨(by omega), Nat.le_of_ble_eq_true rfl, Nat.le_of_ble_eq_true rfl⟩ dX2_readCompared_11 ?_
    refine x_istore_n (pc := 14) (i := 2) K dX2_readCompared_14 rfl rfl (by decide) ?_
    refine x_iload_n (pc := 15) (i := 2) K dX2_readCompared_15 rfl rfl ?_
    refine x_bipush (pc := 16) (v := 60) K dX2_readCompared_16 (by decide) ?_
    refine x_icmp_eq (pc := 18) (tgt := 35) K dX2_readCompared_18 (by decide) (fun c_18 => ?_) (fun c_18 => ?_)
    · refine x_aload_n (pc := 35) (i := 0) K dX2_readCompared_35 rfl rfl ?_
      refine x_dup (pc := 36) K dX2_readCompared_36 rfl ?_
      refine gf_X2_19 (pc := 37)  K dX2_readCompared_37 ?_
      refine x_iconst (pc := 40) (v := 1) K dX2_readCompared_40 (by decide) ?_
      refine x_iadd (pc := 41) K dX2_readCompared_41 ?_
      refine pf_X2_19 (pc := 42)  K dX2_readCompared_42 ?_
      refine x_st (a := q_step (sub α).2) rfl rfl ?_
      refine x_aload_n (pc := 45) (i := 0) K dX2_readCompared_45 rfl rfl ?_
      refine x_iload_n (pc := 46) (i := 1) K dX2_readCompared_46 rfl rfl ?_
      refine x_V1i (pc := 47) K (hsub _ _ (hK _ hr).step) mw_yX2_readSum ⟨im_yX2_readSum, se_yX2_readSum⟩ mk_X2_71 rc_R rfl ⟨(by omega), Nat.le_of_ble_eq_true rfl, Nat.le_of_ble_eq_true rfl⟩ dX2_readCompared_47 ?_
      refine x_ifne_b (pc := 50) (tgt := 55) K dX2_readCompared_50 (by decide) (fun c_50 => ?_) (fun c_50 => ?_)
      · refine x_aload_n (pc := 55) (i := 0) K dX2_readCompared_55 rfl rfl ?_
        refine x_iload_n (pc := 56) (i := 2) K dX2_readCompared_56 rfl rfl ?_
        refine x_ineg (pc := 57) K dX2_readCompared_57 ?_
        refine x_V1v (pc := 58) K (c_yX2_make (hK _ (hK _ hr).step)) mw_yX2_make ⟨im_yX2_make, se_yX2_make⟩ mk_X2_64 rc_R rfl ⟨(by omega), Nat.le_of_ble_eq_true rfl, Nat.le_of_ble_eq_true rfl⟩ dX2_readCompared_58 ?_
        refine x_iconst (pc := 61) (v := 1) K dX2_readCompared_61 (by decide) ?_
        exact x_nretI (pc := 62) K dX2_readCompared_62 rfl ⟨by simp only [q_cmp, c_5, show q_isCmp (q_ahead (sub α).2) = true from (by unfold q_isCmp; rw [if_pos c_18]), c_50, Bool.false_eq_true, ↓reduceIte]; rfl, by simp only [q_cmp, c_5, show q_isCmp (q_ahead (sub α).2) = true from (by unfold q_isCmp; rw [if_pos c_18]), c_50, Bool.false_eq_true, ↓reduceIte], rfl⟩
      · refine x_iconst (pc := 53) (v := 0) K dX2_readCompared_53 (by decide) ?_
        exact x_nretI (pc := 54) K dX2_readCompared_54 rfl ⟨by simp only [q_cmp, c_5, show q_isCmp (q_ahead (sub α).2) = true from (by unfold q_isCmp; rw [if_pos c_18]), c_50, Bool.false_eq_true, ↓reduceIte]; rfl, by simp only [q_cmp, c_5, show q_isCmp (q_ahead (sub α).2) = true from (by unfold q_isCmp; rw [if_pos c_18]), c_50, Bool.false_eq_true, ↓reduceIte], rfl⟩
    · refine x_iload_n (pc := 21) (i := 2) K dX2_readCompared_21 rfl rfl ?_
      refine x_bipush (pc := 22) (v := 61) K dX2_readCompared_22 (by decide) ?_
      refine x_icmp_eq (pc := 24) (tgt := 35) K dX2_readCompared_24 (by decide) (fun c_24 => ?_) (fun c_24 => ?_)
      · refine x_aload_n (pc := 35) (i := 0) K dX2_readCompared_35 rfl rfl ?_
        refine x_dup (pc := 36) K dX2_readCompared_36 rfl ?_
        refine gf_X2_19 (pc := 37)  K dX2_readCompared_37 ?_
        refine x_iconst (pc := 40) (v := 1) K dX2_readCompared_40 (by decide) ?_
        refine x_iadd (pc := 41) K dX2_readCompared_41 ?_
        refine pf_X2_19 (pc := 42)  K dX2_readCompared_42 ?_
        refine x_st (a := q_step (sub α).2) rfl rfl ?_
        refine x_aload_n (pc := 45) (i := 0) K dX2_readCompared_45 rfl rfl ?_
        refine x_iload_n (pc := 46) (i := 1) K dX2_readCompared_46 rfl rfl ?_
        refine x_V1i (pc := 47) K (hsub _ _ (hK _ hr).step) mw_yX2_readSum ⟨im_yX2_readSum, se_yX2_readSum⟩ mk_X2_71 rc_R rfl ⟨(by omega), Nat.le_of_ble_eq_true rfl, Nat.le_of_ble_eq_true rfl⟩ dX2_readCompared_47 ?_
        refine x_ifne_b (pc := 50) (tgt := 55) K dX2_readCompared_50 (by decide) (fun c_50 => ?_) (fun c_50 => ?_)
        · refine x_aload_n (pc := 55) (i := 0) K dX2_readCompared_55 rfl rfl ?_
          refine x_iload_n (pc := 56) (i := 2) K dX2_readCompared_56 rfl rfl ?_
          refine x_ineg (pc := 57) K dX2_readCompared_57 ?_
          refine x_V1v (pc := 58) K (c_yX2_make (hK _ (hK _ hr).step)) mw_yX2_make ⟨im_yX2_make, se_yX2_make⟩ mk_X2_64 rc_R rfl ⟨(by omega), Nat.le_of_ble_eq_true rfl, Nat.le_of_ble_eq_true rfl⟩ dX2_readCompared_58 ?_
          refine x_iconst (pc := 61) (v := 1) K dX2_readCompared_61 (by decide) ?_
          exact x_nretI (pc := 62) K dX2_readCompared_62 rfl ⟨by simp only [q_cmp, c_5, show q_isCmp (q_ahead (sub α).2) = true from (by unfold q_isCmp; rw [if_neg c_18, if_pos c_24]), c_50, Bool.false_eq_true, ↓reduceIte]; rfl, by simp only [q_cmp, c_5, show q_isCmp (q_ahead (sub α).2) = true from (by unfold q_isCmp; rw [if_neg c_18, if_pos c_24]), c_50, Bool.false_eq_true, ↓reduceIte], rfl⟩
        · refine x_iconst (pc := 53) (v := 0) K dX2_readCompared_53 (by decide) ?_
          exact x_nretI (pc := 54) K dX2_readCompared_54 rfl ⟨by simp only [q_cmp, c_5, show q_isCmp (q_ahead (sub α).2) = true from (by unfold q_isCmp; rw [if_neg c_18, if_pos c_24]), c_50, Bool.false_eq_true, ↓reduceIte]; rfl, by simp only [q_cmp, c_5, show q_isCmp (q_ahead (sub α).2) = true from (by unfold q_isCmp; rw [if_neg c_18, if_pos c_24]), c_50, Bool.false_eq_true, ↓reduceIte], rfl⟩
      · refine x_iload_n (pc := 27) (i := 2) K dX2_readCompared_27 rfl rfl ?_
        refine x_bipush (pc := 28) (v := 62) K dX2_readCompared_28 (by decide) ?_
        refine x_icmp_eq (pc := 30) (tgt := 35) K dX2_readCompared_30 (by decide) (fun c_30 => ?_) (fun c_30 => ?_)
        · refine x_aload_n (pc := 35) (i := 0) K dX2_readCompared_35 rfl rfl ?_
          refine x_dup (pc := 36) K dX2_readCompared_36 rfl ?_
          refine gf_X2_19 (pc := 37)  K dX2_readCompared_37 ?_
          refine x_iconst (pc := 40) (v := 1) K dX2_readCompared_40 (by decide) ?_
          refine x_iadd (pc := 41) K dX2_readCompared_41 ?_
          refine pf_X2_19 (pc := 42)  K dX2_readCompared_42 ?_
          refine x_st (a := q_step (sub α).2) rfl rfl ?_
          refine x_aload_n (pc := 45) (i := 0) K dX2_readCompared_45 rfl rfl ?_
          refine x_iload_n (pc := 46) (i := 1) K dX2_readCompared_46 rfl rfl ?_
          refine x_V1i (pc := 47) K (hsub _ _ (hK _ hr).step) mw_yX2_readSum ⟨im_yX2_readSum, se_yX2_readSum⟩ mk_X2_71 rc_R rfl ⟨(by omega), Nat.le_of_ble_eq_true rfl, Nat.le_of_ble_eq_true rfl⟩ dX2_readCompared_47 ?_
          refine x_ifne_b (pc := 50) (tgt := 55) K dX2_readCompared_50 (by decide) (fun c_50 => ?_) (fun c_50 => ?_)
          · refine x_aload_n (pc := 55) (i := 0) K dX2_readCompared_55 rfl rfl ?_
            refine x_iload_n (pc := 56) (i := 2) K dX2_readCompared_56 rfl rfl ?_
            refine x_ineg (pc := 57) K dX2_readCompared_57 ?_
            refine x_V1v (pc := 58) K (c_yX2_make (hK _ (hK _ hr).step)) mw_yX2_make ⟨im_yX2_make, se_yX2_make⟩ mk_X2_64 rc_R rfl ⟨(by omega), Nat.le_of_ble_eq_true rfl, Nat.le_of_ble_eq_true rfl⟩ dX2_readCompared_58 ?_
            refine x_iconst (pc := 61) (v := 1) K dX2_readCompared_61 (by decide) ?_
            exact x_nretI (pc := 62) K dX2_readCompared_62 rfl ⟨by simp only [q_cmp, c_5, show q_isCmp (q_ahead (sub α).2) = true from (by unfold q_isCmp; rw [if_neg c_18, if_neg c_24, if_pos c_30]), c_50, Bool.false_eq_true, ↓reduceIte]; rfl, by simp only [q_cmp, c_5, show q_isCmp (q_ahead (sub α).2) = true from (by unfold q_isCmp; rw [if_neg c_18, if_neg c_24, if_pos c_30]), c_50, Bool.false_eq_true, ↓reduceIte], rfl⟩
          · refine x_iconst (pc := 53) (v := 0) K dX2_readCompared_53 (by decide) ?_
            exact x_nretI (pc := 54) K dX2_readCompared_54 rfl ⟨by simp only [q_cmp, c_5, show q_isCmp (q_ahead (sub α).2) = true from (by unfold q_isCmp; rw [if_neg c_18, if_neg c_24, if_pos c_30]), c_50, Bool.false_eq_true, ↓reduceIte]; rfl, by simp only [q_cmp, c_5, show q_isCmp (q_ahead (sub α).2) = true from (by unfold q_isCmp; rw [if_neg c_18, if_neg c_24, if_pos c_30]), c_50, Bool.false_eq_true, ↓reduceIte], rfl⟩
        · refine x_iconst (pc := 33) (v := 1) K dX2_readCompared_33 (by decide) ?_
          exact x_nretI (pc := 34) K dX2_readCompared_34 rfl ⟨by simp only [q_cmp, c_5, show q_isCmp (q_ahead (sub α).2) = false from (by unfold q_isCmp; rw [if_neg c_18, if_neg c_24, if_neg c_30]), Bool.false_eq_true, ↓reduceIte]; rfl, by simp only [q_cmp, c_5, show q_isCmp (q_ahead (sub α).2) = false from (by unfold q_isCmp; rw [if_neg c_18, if_neg c_24, if_neg c_30]), Bool.false_eq_true, ↓reduceIte], rfl⟩
  · refine x_iconst (pc := 8) (v := 0) K dX2_readCompared_8 (by decide) ?_
    exact x_nretI (pc := 9) K dX2_readCompared_9 rfl ⟨by simp only [q_cmp, c_5, Bool.false_eq_true, ↓reduceIte]; rfl, by simp only [q_cmp, c_5, Bool.false_eq_true, ↓reduceIte], rfl⟩

set_option maxRecDepth 100000 in
set_option maxHeartbeats 4000000 in
theorem l_readAll {k : Nat} {l : Launch} {G : Gm} {C : Cx} {sub : Pr} {ds : Nat} {op : Int32} {ρ : Af} (K : Ok l (ds + 1) G C RX2 cX2_readAll (some .boolean) 3) (hsub : ∀ (α ρ : Af), Rk α → CI k l G yX2_readCompared (Cond.code yX2_readCompared cX2_readCompared 3 (some .boolean)) ds [.ref (gA G idR), .int op] α ρ (PI (bI (sub α).1) (sub α).2 ρ)) (hK : PrK sub) (hds : 8 ≤ ds) : ∀ (j i : Nat)  (α : Af), Rk α → i + j = 60 → ∀ T, q_binL sub q_isAll j α = T → X k l (ds + 1) G C (PI (bI T.1) T.2 ρ) 3 12 [some (.ref (gA G idR)), some (.int op), some (.int (nI i))] [] α ρ := by
  intro j
  induction j with
  | zero =>
    intro i  α hr hi T hT
    refine x_iload_n (pc := 12) (i := 2) K dX2_readAll_12 rfl rfl ?_
    refine x_bipush (pc := 13) (v := 60) K dX2_readAll_13 (by decide) ?_
    refine x_icmp_ge (pc := 15) (tgt := 59) K dX2_readAll_15 (by decide) (fun c_15 => ?_) (fun c_15 => ?_)
    · refine x_iconst (pc := 59) (v := 1) K dX2_readAll_59 (by decide) ?_
      exact x_nretI (pc := 60) K dX2_readAll_60 rfl ⟨by rw [← hT]; rfl, by rw [← hT]; rfl, rfl⟩
    · exact absurd (by rw [show i = 60 by omega]; decide) c_15
  | succ j ih =>
    intro i  α hr hi T hT
    refine x_iload_n (pc := 12) (i := 2) K dX2_readAll_12 rfl rfl ?_
    refine x_bipush (pc := 13) (v := 60) K dX2_readAll_13 (by decide) ?_
    refine x_icmp_ge (pc := 15) (tgt := 59) K dX2_readAll_15 (by decide) (fun c_15 => ?_) (fun c_15 => ?_)
    · exact absurd ((nI_leI (a := 60) (b := i) (by decide) (by omega)).mp c_15) (by omega)
    · refine x_aload_n (pc := 18) (i := 0) K dX2_readAll_18 rfl rfl ?_
      refine x_V0i (pc := 19) K (c_yX2_ahead hr) mw_yX2_ahead ⟨im_yX2_ahead, se_yX2_ahead⟩ mk_X2_60 rc_R rfl ⟨(by omega), Nat.le_of_ble_eq_true rfl, Nat.le_of_ble_eq_true rfl⟩ dX2_readAll_19 ?_
      refine x_bipush (pc := 22) (v := 38) K dX2_readAll_22 (by decide) ?_
      refine x_icmp_ne (pc := 24) (tgt := 59) K dX2_readAll_24 (by decide) (fun c_24 => ?_) (fun c_24 => ?_)
      · refine x_iconst (pc := 59) (v := 1) K dX2_readAll_59 (by decide) ?_
        exact x_nretI (pc := 60) K dX2_readAll_60 rfl ⟨by rw [← hT]; simp only [q_binL, isAll_f c_24, Bool.false_eq_true, ↓reduceIte]; rfl, by rw [← hT]; simp only [q_binL, isAll_f c_24, Bool.false_eq_true, ↓reduceIte], rfl⟩
      · refine x_aload_n (pc := 27) (i := 0) K dX2_readAll_27 rfl rfl ?_
        refine x_dup (pc := 28) K dX2_readAll_28 rfl ?_
        refine gf_X2_19 (pc := 29)  K dX2_readAll_29 ?_
        refine x_iconst (pc := 32) (v := 1) K dX2_readAll_32 (by decide) ?_
        refine x_iadd (pc := 33) K dX2_readAll_33 ?_
        refine pf_X2_19 (pc := 34)  K dX2_readAll_34 ?_
        refine x_st (a := q_step α) rfl rfl ?_
        refine x_aload_n (pc := 37) (i := 0) K dX2_readAll_37 rfl rfl ?_
        refine x_iload_n (pc := 38) (i := 1) K dX2_readAll_38 rfl rfl ?_
        refine x_V1i (pc := 39) K (hsub _ _ hr.step) mw_yX2_readCompared ⟨im_yX2_readCompared, se_yX2_readCompared⟩ mk_X2_68 rc_R rfl ⟨(by omega), Nat.le_of_ble_eq_true rfl, Nat.le_of_ble_eq_true rfl⟩ dX2_readAll_39 ?_
        refine x_ifne_b (pc := 42) (tgt := 47) K dX2_readAll_42 (by decide) (fun c_42 => ?_) (fun c_42 => ?_)
        · refine x_aload_n (pc := 47) (i := 0) K dX2_readAll_47 rfl rfl ?_
          refine x_bipush (pc := 48) (v := (-38)) K dX2_readAll_48 (by decide) ?_
          refine x_V1v (pc := 50) K (c_yX2_make (hK _ hr.step)) mw_yX2_make ⟨im_yX2_make, se_yX2_make⟩ mk_X2_64 rc_R rfl ⟨(by omega), Nat.le_of_ble_eq_true rfl, Nat.le_of_ble_eq_true rfl⟩ dX2_readAll_50 ?_
          refine x_iinc (pc := 53) (i := 2) (v := nI (i + 1)) K dX2_readAll_53 rfl (nI_1 _) rfl ?_
          refine x_goto (pc := 56) (tgt := 12) K dX2_readAll_56 (by decide) ?_
          exact ih (i + 1) _ (hK _ hr.step).make (by omega) T (by rw [← hT]; simp only [q_binL, isAll_t c_24, c_42, ↓reduceIte]; rw [show -(q_ahead α) = -38 from by rw [c_24]])
        · refine x_iconst (pc := 45) (v := 0) K dX2_readAll_45 (by decide) ?_
          exact x_nretI (pc := 46) K dX2_readAll_46 rfl ⟨by rw [← hT]; simp only [q_binL, isAll_t c_24, c_42, Bool.false_eq_true, ↓reduceIte]; rfl, by rw [← hT]; simp only [q_binL, isAll_t c_24, c_42, Bool.false_eq_true, ↓reduceIte], rfl⟩

set_option maxRecDepth 100000 in
set_option maxHeartbeats 4000000 in
theorem c_yX2_readAll {k : Nat} {l : Launch} {G : Gm} {α ρ : Af} {sub : Pr} {ds : Nat} {op : Int32} (hsub : ∀ (α ρ : Af), Rk α → CI k l G yX2_readCompared (Cond.code yX2_readCompared cX2_readCompared 3 (some .boolean)) ds [.ref (gA G idR), .int op] α ρ (PI (bI (sub α).1) (sub α).2 ρ)) (hK : PrK sub) (hds : 8 ≤ ds) (hr : Rk α) : CI k l G yX2_readAll (Cond.code yX2_readAll cX2_readAll 3 (some .boolean)) (ds + 1) [.ref (gA G idR), .int op] α ρ (PI (bI (q_bin sub q_isAll α).1) (q_bin sub q_isAll α).2 ρ) := by
  refine CI.of [some (.ref (gA G idR)), some (.int op), none] (by decide) (Nat.le_of_ble_eq_true rfl) rfl rfl (fun C K => ?_)
  have K : Ok l _ G C RX2 cX2_readAll (some .boolean) 3 := K
  refine x_aload_n (pc := 0) (i := 0) K dX2_readAll_0 rfl rfl ?_
  refine x_iload_n (pc := 1) (i := 1) K dX2_readAll_1 rfl rfl ?_
  refine x_V1i (pc := 2) K (hsub _ _ hr) mw_yX2_readCompared ⟨im_yX2_readCompared, se_yX2_readCompared⟩ mk_X2_68 rc_R rfl ⟨(by omega), Nat.le_of_ble_eq_true rfl, Nat.le_of_ble_eq_true rfl⟩ dX2_readAll_2 ?_
  refine x_ifne_b (pc := 5) (tgt := 10) K dX2_readAll_5 (by decide) (fun c_5 => ?_) (fun c_5 => ?_)
  · refine x_iconst (pc := 10) (v := 0) K dX2_readAll_10 (by decide) ?_
    refine x_istore_n (pc := 11) (i := 2) K dX2_readAll_11 rfl rfl (by decide) ?_
    exact l_readAll K hsub hK hds 60 0  _ (hK _ hr) (by omega) _ (by simp only [q_bin, c_5, ↓reduceIte])
  · refine x_iconst (pc := 8) (v := 0) K dX2_readAll_8 (by decide) ?_
    exact x_nretI (pc := 9) K dX2_readAll_9 rfl ⟨by simp only [q_bin, c_5, Bool.false_eq_true, ↓reduceIte]; rfl, by simp only [q_bin, c_5, Bool.false_eq_true, ↓reduceIte], rfl⟩

set_option maxRecDepth 100000 in
set_option maxHeartbeats 4000000 in
theorem l_readAny {k : Nat} {l : Launch} {G : Gm} {C : Cx} {sub : Pr} {ds : Nat} {op : Int32} {ρ : Af} (K : Ok l (ds + 1) G C RX2 cX2_readAny (some .boolean) 3) (hsub : ∀ (α ρ : Af), Rk α → CI k l G yX2_readAll (Cond.code yX2_readAll cX2_readAll 3 (some .boolean)) ds [.ref (gA G idR), .int op] α ρ (PI (bI (sub α).1) (sub α).2 ρ)) (hK : PrK sub) (hds : 8 ≤ ds) : ∀ (j i : Nat)  (α : Af), Rk α → i + j = 60 → ∀ T, q_binL sub q_isAny j α = T → X k l (ds + 1) G C (PI (bI T.1) T.2 ρ) 3 12 [some (.ref (gA G idR)), some (.int op), some (.int (nI i))] [] α ρ := by
  intro j
  induction j with
  | zero =>
    intro i  α hr hi T hT
    refine x_iload_n (pc := 12) (i := 2) K dX2_readAny_12 rfl rfl ?_
    refine x_bipush (pc := 13) (v := 60) K dX2_readAny_13 (by decide) ?_
    refine x_icmp_ge (pc := 15) (tgt := 59) K dX2_readAny_15 (by decide) (fun c_15 => ?_) (fun c_15 => ?_)
    · refine x_iconst (pc := 59) (v := 1) K dX2_readAny_59 (by decide) ?_
      exact x_nretI (pc := 60) K dX2_readAny_60 rfl ⟨by rw [← hT]; rfl, by rw [← hT]; rfl, rfl⟩
    · exact absurd (by rw [show i = 60 by omega]; decide) c_15
  | succ j ih =>
    intro i  α hr hi T hT
    refine x_iload_n (pc := 12) (i := 2) K dX2_readAny_12 rfl rfl ?_
    refine x_bipush (pc := 13) (v := 60) K dX2_readAny_13 (by decide) ?_
    refine x_icmp_ge (pc := 15) (tgt := 59) K dX2_readAny_15 (by decide) (fun c_15 => ?_) (fun c_15 => ?_)
    · exact absurd ((nI_leI (a := 60) (b := i) (by decide) (by omega)).mp c_15) (by omega)
    · refine x_aload_n (pc := 18) (i := 0) K dX2_readAny_18 rfl rfl ?_
      refine x_V0i (pc := 19) K (c_yX2_ahead hr) mw_yX2_ahead ⟨im_yX2_ahead, se_yX2_ahead⟩ mk_X2_60 rc_R rfl ⟨(by omega), Nat.le_of_ble_eq_true rfl, Nat.le_of_ble_eq_true rfl⟩ dX2_readAny_19 ?_
      refine x_bipush (pc := 22) (v := 124) K dX2_readAny_22 (by decide) ?_
      refine x_icmp_ne (pc := 24) (tgt := 59) K dX2_readAny_24 (by decide) (fun c_24 => ?_) (fun c_24 => ?_)
      · refine x_iconst (pc := 59) (v := 1) K dX2_readAny_59 (by decide) ?_
        exact x_nretI (pc := 60) K dX2_readAny_60 rfl ⟨by rw [← hT]; simp only [q_binL, isAny_f c_24, Bool.false_eq_true, ↓reduceIte]; rfl, by rw [← hT]; simp only [q_binL, isAny_f c_24, Bool.false_eq_true, ↓reduceIte], rfl⟩
      · refine x_aload_n (pc := 27) (i := 0) K dX2_readAny_27 rfl rfl ?_
        refine x_dup (pc := 28) K dX2_readAny_28 rfl ?_
        refine gf_X2_19 (pc := 29)  K dX2_readAny_29 ?_
        refine x_iconst (pc := 32) (v := 1) K dX2_readAny_32 (by decide) ?_
        refine x_iadd (pc := 33) K dX2_readAny_33 ?_
        refine pf_X2_19 (pc := 34)  K dX2_readAny_34 ?_
        refine x_st (a := q_step α) rfl rfl ?_
        refine x_aload_n (pc := 37) (i := 0) K dX2_readAny_37 rfl rfl ?_
        refine x_iload_n (pc := 38) (i := 1) K dX2_readAny_38 rfl rfl ?_
        refine x_V1i (pc := 39) K (hsub _ _ hr.step) mw_yX2_readAll ⟨im_yX2_readAll, se_yX2_readAll⟩ mk_X2_57 rc_R rfl ⟨(by omega), Nat.le_of_ble_eq_true rfl, Nat.le_of_ble_eq_true rfl⟩ dX2_readAny_39 ?_
        refine x_ifne_b (pc := 42) (tgt := 47) K dX2_readAny_42 (by decide) (fun c_42 => ?_) (fun c_42 => ?_)
        · refine x_aload_n (pc := 47) (i := 0) K dX2_readAny_47 rfl rfl ?_
          refine x_bipush (pc := 48) (v := (-124)) K dX2_readAny_48 (by decide) ?_
          refine x_V1v (pc := 50) K (c_yX2_make (hK _ hr.step)) mw_yX2_make ⟨im_yX2_make, se_yX2_make⟩ mk_X2_64 rc_R rfl ⟨(by omega), Nat.le_of_ble_eq_true rfl, Nat.le_of_ble_eq_true rfl⟩ dX2_readAny_50 ?_
          refine x_iinc (pc := 53) (i := 2) (v := nI (i + 1)) K dX2_readAny_53 rfl (nI_1 _) rfl ?_
          refine x_goto (pc := 56) (tgt := 12) K dX2_readAny_56 (by decide) ?_
          exact ih (i + 1) _ (hK _ hr.step).make (by omega) T (by rw [← hT]; simp only [q_binL, isAny_t c_24, c_42, ↓reduceIte]; rw [show -(q_ahead α) = -124 from by rw [c_24]])
        · refine x_iconst (pc := 45) (v := 0) K dX2_readAny_45 (by decide) ?_
          exact x_nretI (pc := 46) K dX2_readAny_46 rfl ⟨by rw [← hT]; simp only [q_binL, isAny_t c_24, c_42, Bool.false_eq_true, ↓reduceIte]; rfl, by rw [← hT]; simp only [q_binL, isAny_t c_24, c_42, Bool.false_eq_true, ↓reduceIte], rfl⟩

set_option maxRecDepth 100000 in
set_option maxHeartbeats 4000000 in
theorem c_yX2_readAny {k : Nat} {l : Launch} {G : Gm} {α ρ : Af} {sub : Pr} {ds : Nat} {op : Int32} (hsub : ∀ (α ρ : Af), Rk α → CI k l G yX2_readAll (Cond.code yX2_readAll cX2_readAll 3 (some .boolean)) ds [.ref (gA G idR), .int op] α ρ (PI (bI (sub α).1) (sub α).2 ρ)) (hK : PrK sub) (hds : 8 ≤ ds) (hr : Rk α) : CI k l G yX2_readAny (Cond.code yX2_readAny cX2_readAny 3 (some .boolean)) (ds + 1) [.ref (gA G idR), .int op] α ρ (PI (bI (q_bin sub q_isAny α).1) (q_bin sub q_isAny α).2 ρ) := by
  refine CI.of [some (.ref (gA G idR)), some (.int op), none] (by decide) (Nat.le_of_ble_eq_true rfl) rfl rfl (fun C K => ?_)
  have K : Ok l _ G C RX2 cX2_readAny (some .boolean) 3 := K
  refine x_aload_n (pc := 0) (i := 0) K dX2_readAny_0 rfl rfl ?_
  refine x_iload_n (pc := 1) (i := 1) K dX2_readAny_1 rfl rfl ?_
  refine x_V1i (pc := 2) K (hsub _ _ hr) mw_yX2_readAll ⟨im_yX2_readAll, se_yX2_readAll⟩ mk_X2_57 rc_R rfl ⟨(by omega), Nat.le_of_ble_eq_true rfl, Nat.le_of_ble_eq_true rfl⟩ dX2_readAny_2 ?_
  refine x_ifne_b (pc := 5) (tgt := 10) K dX2_readAny_5 (by decide) (fun c_5 => ?_) (fun c_5 => ?_)
  · refine x_iconst (pc := 10) (v := 0) K dX2_readAny_10 (by decide) ?_
    refine x_istore_n (pc := 11) (i := 2) K dX2_readAny_11 rfl rfl (by decide) ?_
    exact l_readAny K hsub hK hds 60 0  _ (hK _ hr) (by omega) _ (by simp only [q_bin, c_5, ↓reduceIte])
  · refine x_iconst (pc := 8) (v := 0) K dX2_readAny_8 (by decide) ?_
    exact x_nretI (pc := 9) K dX2_readAny_9 rfl ⟨by simp only [q_bin, c_5, Bool.false_eq_true, ↓reduceIte]; rfl, by simp only [q_bin, c_5, Bool.false_eq_true, ↓reduceIte], rfl⟩

set_option maxRecDepth 100000 in
set_option maxHeartbeats 4000000 in
theorem c_yX2_readNot {k : Nat} {l : Launch} {G : Gm} {α ρ : Af} {sub : Pr} {ds : Nat} {op : Int32} (hsub : ∀ (α ρ : Af), Rk α → CI k l G yX2_readOne (Cond.code yX2_readOne cX2_readOne 4 (some .boolean)) ds [.ref (gA G idR), .int op] α ρ (PI (bI (sub α).1) (sub α).2 ρ)) (hK : PrK sub) (hds : 8 ≤ ds) (hr : Rk α) : CI k l G yX2_readNot (Cond.code yX2_readNot cX2_readNot 2 (some .boolean)) (ds + 1) [.ref (gA G idR), .int op] α ρ (PI (bI (q_not_ sub α).1) (q_not_ sub α).2 ρ) := by
  refine CI.of [some (.ref (gA G idR)), some (.int op)] (by decide) (Nat.le_of_ble_eq_true rfl) rfl rfl (fun C K => ?_)
  have K : Ok l _ G C RX2 cX2_readNot (some .boolean) 2 := K
  refine x_aload_n (pc := 0) (i := 0) K dX2_readNot_0 rfl rfl ?_
  refine x_iload_n (pc := 1) (i := 1) K dX2_readNot_1 rfl rfl ?_
  refine x_V1i (pc := 2) K (hsub _ _ hr) mw_yX2_readOne ⟨im_yX2_readOne, se_yX2_readOne⟩ mk_X2_77 rc_R rfl ⟨(by omega), Nat.le_of_ble_eq_true rfl, Nat.le_of_ble_eq_true rfl⟩ dX2_readNot_2 ?_
  refine x_ifne_b (pc := 5) (tgt := 10) K dX2_readNot_5 (by decide) (fun c_5 => ?_) (fun c_5 => ?_)
  · refine x_aload_n (pc := 10) (i := 0) K dX2_readNot_10 rfl rfl ?_
    refine x_bipush (pc := 11) (v := (-33)) K dX2_readNot_11 (by decide) ?_
    refine x_V1v (pc := 13) K (c_yX2_make (hK _ hr)) mw_yX2_make ⟨im_yX2_make, se_yX2_make⟩ mk_X2_64 rc_R rfl ⟨(by omega), Nat.le_of_ble_eq_true rfl, Nat.le_of_ble_eq_true rfl⟩ dX2_readNot_13 ?_
    refine x_iconst (pc := 16) (v := 1) K dX2_readNot_16 (by decide) ?_
    exact x_nretI (pc := 17) K dX2_readNot_17 rfl ⟨by simp only [q_not_, c_5, Bool.false_eq_true, ↓reduceIte]; rfl, by simp only [q_not_, c_5, Bool.false_eq_true, ↓reduceIte], rfl⟩
  · refine x_iconst (pc := 8) (v := 0) K dX2_readNot_8 (by decide) ?_
    exact x_nretI (pc := 9) K dX2_readNot_9 rfl ⟨by simp only [q_not_, c_5, Bool.false_eq_true, ↓reduceIte]; rfl, by simp only [q_not_, c_5, Bool.false_eq_true, ↓reduceIte], rfl⟩

set_option maxRecDepth 100000 in
set_option maxHeartbeats 4000000 in
theorem c_yX2_readWithin {k : Nat} {l : Launch} {G : Gm} {α ρ : Af} {one : Pr} {ds : Nat} {op : Int32} (hsub : ∀ (α ρ : Af), Rk α → CI k l G yX2_readAny (Cond.code yX2_readAny cX2_readAny 3 (some .boolean)) ds [.ref (gA G idR), .int op] α ρ (PI (bI (q_anyP one α).1) (q_anyP one α).2 ρ)) (hK : PrK one) (hds : 8 ≤ ds) (hr : Rk α) : CI k l G yX2_readWithin (Cond.code yX2_readWithin cX2_readWithin 2 (some .boolean)) (ds + 1) [.ref (gA G idR), .int op] α ρ (PI (bI (q_within_ one α).1) (q_within_ one α).2 ρ) := by
  refine CI.of [some (.ref (gA G idR)), some (.int op)] (by decide) (Nat.le_of_ble_eq_true rfl) rfl rfl (fun C K => ?_)
  have K : Ok l _ G C RX2 cX2_readWithin (some .boolean) 2 := K
  refine x_aload_n (pc := 0) (i := 0) K dX2_readWithin_0 rfl rfl ?_
  refine x_iload_n (pc := 1) (i := 1) K dX2_readWithin_1 rfl rfl ?_
  refine x_V1i (pc := 2) K (hsub _ _ hr) mw_yX2_readAny ⟨im_yX2_readAny, se_yX2_readAny⟩ mk_X2_53 rc_R rfl ⟨(by omega), Nat.le_of_ble_eq_true rfl, Nat.le_of_ble_eq_true rfl⟩ dX2_readWithin_2 ?_
  refine x_ifeq_b (pc := 5) (tgt := 17) K dX2_readWithin_5 (by decide) (fun c_5 => ?_) (fun c_5 => ?_)
  · refine x_iconst (pc := 17) (v := 0) K dX2_readWithin_17 (by decide) ?_
    exact x_nretI (pc := 18) K dX2_readWithin_18 rfl ⟨by simp only [q_within_, c_5, Bool.false_eq_true, ↓reduceIte]; rfl, by simp only [q_within_, c_5, Bool.false_eq_true, ↓reduceIte], rfl⟩
  · refine x_aload_n (pc := 8) (i := 0) K dX2_readWithin_8 rfl rfl ?_
    refine x_V0i (pc := 9) K (c_yX2_ahead (hK.anyP _ hr)) mw_yX2_ahead ⟨im_yX2_ahead, se_yX2_ahead⟩ mk_X2_60 rc_R rfl ⟨(by omega), Nat.le_of_ble_eq_true rfl, Nat.le_of_ble_eq_true rfl⟩ dX2_readWithin_9 ?_
    refine x_bipush (pc := 12) (v := 41) K dX2_readWithin_12 (by decide) ?_
    refine x_icmp_eq (pc := 14) (tgt := 19) K dX2_readWithin_14 (by decide) (fun c_14 => ?_) (fun c_14 => ?_)
    · refine x_aload_n (pc := 19) (i := 0) K dX2_readWithin_19 rfl rfl ?_
      refine x_dup (pc := 20) K dX2_readWithin_20 rfl ?_
      refine gf_X2_19 (pc := 21)  K dX2_readWithin_21 ?_
      refine x_iconst (pc := 24) (v := 1) K dX2_readWithin_24 (by decide) ?_
      refine x_iadd (pc := 25) K dX2_readWithin_25 ?_
      refine pf_X2_19 (pc := 26)  K dX2_readWithin_26 ?_
      refine x_st (a := q_step (q_anyP one α).2) rfl rfl ?_
      refine x_iconst (pc := 29) (v := 1) K dX2_readWithin_29 (by decide) ?_
      exact x_nretI (pc := 30) K dX2_readWithin_30 rfl ⟨by simp only [q_within_, c_5, if_pos c_14, Bool.false_eq_true, ↓reduceIte]; rfl, by simp only [q_within_, c_5, if_pos c_14, Bool.false_eq_true, ↓reduceIte], rfl⟩
    · refine x_iconst (pc := 17) (v := 0) K dX2_readWithin_17 (by decide) ?_
      exact x_nretI (pc := 18) K dX2_readWithin_18 rfl ⟨by simp only [q_within_, c_5, if_neg c_14, Bool.false_eq_true, ↓reduceIte]; rfl, by simp only [q_within_, c_5, if_neg c_14, Bool.false_eq_true, ↓reduceIte], rfl⟩

theorem c_anyOf {k : Nat} {l : Launch} {G : Gm} {one : Pr} {ds : Nat} {op : Int32} (h : ∀ (α ρ : Af), Rk α → CI k l G yX2_readOne (Cond.code yX2_readOne cX2_readOne 4 (some .boolean)) ds [.ref (gA G idR), .int op] α ρ (PI (bI (one α).1) (one α).2 ρ)) (hK : PrK one) (hds : 8 ≤ ds) {α ρ : Af} (hr : Rk α) : CI k l G yX2_readAny (Cond.code yX2_readAny cX2_readAny 3 (some .boolean)) (ds + 5) [.ref (gA G idR), .int op] α ρ (PI (bI (q_anyP one α).1) (q_anyP one α).2 ρ) :=
  c_yX2_readAny (ds := ds + 4) (fun _ _ h4 => c_yX2_readAll (ds := ds + 3) (fun _ _ h3 => c_yX2_readCompared (ds := ds + 2) (fun _ _ h2 => c_yX2_readSum (ds := ds + 1) (fun _ _ h1 => c_yX2_readProduct h hK hds h1) hK.bin (by omega) h2) hK.bin.bin (by omega) h3) hK.bin.bin.cmp (by omega) h4) hK.bin.bin.cmp.bin (by omega) hr
set_option maxRecDepth 100000 in
set_option maxHeartbeats 4000000 in
theorem c_one {k : Nat} {l : Launch} {G : Gm} : ∀ (m : Nat) {α ρ : Af}, m ≤ 5 → Rk α → CI k l G yX2_readOne (Cond.code yX2_readOne cX2_readOne 4 (some .boolean)) (8 + 7 * m) [.ref (gA G idR), .int (nI (5 - m))] α ρ (PI (bI (q_one m α).1) (q_one m α).2 ρ) := by
  intro m
  induction m with
  | zero =>
    intro α ρ hm hr
    refine CI.of [some (.ref (gA G idR)), some (.int (nI (5 - 0))), none, none] (by decide) (Nat.le_of_ble_eq_true rfl) rfl rfl (fun C K => ?_)
    have K : Ok l _ G C RX2 cX2_readOne (some .boolean) 4 := K
    refine x_aload_n (pc := 0) (i := 0) K dX2_readOne_0 rfl rfl ?_
    refine x_V0i (pc := 1) K (c_yX2_ahead hr) mw_yX2_ahead ⟨im_yX2_ahead, se_yX2_ahead⟩ mk_X2_60 rc_R rfl ⟨(by omega), Nat.le_of_ble_eq_true rfl, Nat.le_of_ble_eq_true rfl⟩ dX2_readOne_1 ?_
    refine x_istore_n (pc := 4) (i := 2) K dX2_readOne_4 rfl rfl (by decide) ?_
    refine x_iload_n (pc := 5) (i := 2) K dX2_readOne_5 rfl rfl ?_
    refine x_bipush (pc := 6) (v := 33) K dX2_readOne_6 (by decide) ?_
    refine x_icmp_eq (pc := 8) (tgt := 17) K dX2_readOne_8 (by decide) (fun c_8 => ?_) (fun c_8 => ?_)
    · refine x_iload_n (pc := 17) (i := 1) K dX2_readOne_17 rfl rfl ?_
      refine x_iconst (pc := 18) (v := 5) K dX2_readOne_18 (by decide) ?_
      refine x_icmp_lt (pc := 19) (tgt := 24) K dX2_readOne_19 (by decide) (fun c_19 => ?_) (fun c_19 => ?_)
      · exact absurd c_19 (by decide)
      · refine x_iconst (pc := 22) (v := 0) K dX2_readOne_22 (by decide) ?_
        exact x_nretI (pc := 23) K dX2_readOne_23 rfl ⟨by simp only [q_one, show q_isOpen (q_ahead α) = true from (by unfold q_isOpen; rw [if_pos c_8]), ↓reduceIte]; rfl, by simp only [q_one, show q_isOpen (q_ahead α) = true from (by unfold q_isOpen; rw [if_pos c_8]), ↓reduceIte], rfl⟩
    · refine x_iload_n (pc := 11) (i := 2) K dX2_readOne_11 rfl rfl ?_
      refine x_bipush (pc := 12) (v := 40) K dX2_readOne_12 (by decide) ?_
      refine x_icmp_ne (pc := 14) (tgt := 58) K dX2_readOne_14 (by decide) (fun c_14 => ?_) (fun c_14 => ?_)
      · refine x_iload_n (pc := 58) (i := 2) K dX2_readOne_58 rfl rfl ?_
        refine x_S1i (pc := 59) K (c_yX2_isDigit) mw_yX2_isDigit st_yX2_isDigit mk_X2_90 ⟨(by omega), Nat.le_of_ble_eq_true rfl, Nat.le_of_ble_eq_true rfl⟩ dX2_readOne_59 ?_
        refine x_ifeq_b (pc := 62) (tgt := 71) K dX2_readOne_62 (by decide) (fun c_62 => ?_) (fun c_62 => ?_)
        · refine x_aload_n (pc := 71) (i := 0) K dX2_readOne_71 rfl rfl ?_
          refine gf_X2_31 (pc := 72)  K dX2_readOne_72 ?_
          refine x_top (v' := .ref (gX G (2 + q_nm α))) (by unfold q_nm; split <;> rfl) ?_
          refine x_iload_n (pc := 75) (i := 2) K dX2_readOne_75 rfl rfl ?_
          refine x_T1i (pc := 76) K (c_yJ0_indexOf_0f7a4 (by unfold q_nm; split <;> decide)) mw_yJ0_indexOf_0f7a4 ⟨im_yJ0_indexOf_0f7a4, se_yJ0_indexOf_0f7a4⟩ mk_X2_96 (by unfold q_nm; split <;> decide) ⟨(by omega), Nat.le_of_ble_eq_true rfl, Nat.le_of_ble_eq_true rfl⟩ dX2_readOne_76 ?_
          refine x_istore_n (pc := 79) (i := 3) K dX2_readOne_79 rfl rfl (by decide) ?_
          refine x_iload_n (pc := 80) (i := 3) K dX2_readOne_80 rfl rfl ?_
          refine x_if_ge (pc := 81) (tgt := 86) K dX2_readOne_81 (by decide) (fun c_81 => ?_) (fun c_81 => ?_)
          · refine x_aload_n (pc := 86) (i := 0) K dX2_readOne_86 rfl rfl ?_
            refine x_dup (pc := 87) K dX2_readOne_87 rfl ?_
            refine gf_X2_19 (pc := 88)  K dX2_readOne_88 ?_
            refine x_iconst (pc := 91) (v := 1) K dX2_readOne_91 (by decide) ?_
            refine x_iadd (pc := 92) K dX2_readOne_92 ?_
            refine pf_X2_19 (pc := 93)  K dX2_readOne_93 ?_
            refine x_st (a := q_step α) rfl rfl ?_
            refine x_aload_n (pc := 96) (i := 0) K dX2_readOne_96 rfl rfl ?_
            refine x_iconst (pc := 97) (v := (-1)) K dX2_readOne_97 (by decide) ?_
            refine x_iload_n (pc := 98) (i := 3) K dX2_readOne_98 rfl rfl ?_
            refine x_isub (pc := 99) K dX2_readOne_99 ?_
            refine x_V1v (pc := 100) K (c_yX2_make hr.step) mw_yX2_make ⟨im_yX2_make, se_yX2_make⟩ mk_X2_64 rc_R rfl ⟨(by omega), Nat.le_of_ble_eq_true rfl, Nat.le_of_ble_eq_true rfl⟩ dX2_readOne_100 ?_
            refine x_iconst (pc := 103) (v := 1) K dX2_readOne_103 (by decide) ?_
            exact x_nretI (pc := 104) K dX2_readOne_104 rfl ⟨by simp only [q_one, q_plain, show q_isOpen (q_ahead α) = false from (by unfold q_isOpen; rw [if_neg c_8, if_neg c_14]), c_62, if_pos c_81, Bool.false_eq_true, ↓reduceIte]; rfl, by simp only [q_one, q_plain, show q_isOpen (q_ahead α) = false from (by unfold q_isOpen; rw [if_neg c_8, if_neg c_14]), c_62, if_pos c_81, Bool.false_eq_true, ↓reduceIte], rfl⟩
          · refine x_iconst (pc := 84) (v := 0) K dX2_readOne_84 (by decide) ?_
            exact x_nretI (pc := 85) K dX2_readOne_85 rfl ⟨by simp only [q_one, q_plain, show q_isOpen (q_ahead α) = false from (by unfold q_isOpen; rw [if_neg c_8, if_neg c_14]), c_62, if_neg c_81, Bool.false_eq_true, ↓reduceIte]; rfl, by simp only [q_one, q_plain, show q_isOpen (q_ahead α) = false from (by unfold q_isOpen; rw [if_neg c_8, if_neg c_14]), c_62, if_neg c_81, Bool.false_eq_true, ↓reduceIte], rfl⟩
        · refine x_aload_n (pc := 65) (i := 0) K dX2_readOne_65 rfl rfl ?_
          refine x_V0v (pc := 66) K (c_yX2_readNumber hr) mw_yX2_readNumber ⟨im_yX2_readNumber, se_yX2_readNumber⟩ mk_X2_93 rc_R rfl ⟨(by omega), Nat.le_of_ble_eq_true rfl, Nat.le_of_ble_eq_true rfl⟩ dX2_readOne_66 ?_
          refine x_iconst (pc := 69) (v := 1) K dX2_readOne_69 (by decide) ?_
          exact x_nretI (pc := 70) K dX2_readOne_70 rfl ⟨by simp only [q_one, q_plain, show q_isOpen (q_ahead α) = false from (by unfold q_isOpen; rw [if_neg c_8, if_neg c_14]), c_62, Bool.false_eq_true, ↓reduceIte]; rfl, by simp only [q_one, q_plain, show q_isOpen (q_ahead α) = false from (by unfold q_isOpen; rw [if_neg c_8, if_neg c_14]), c_62, Bool.false_eq_true, ↓reduceIte], rfl⟩
      · refine x_iload_n (pc := 17) (i := 1) K dX2_readOne_17 rfl rfl ?_
        refine x_iconst (pc := 18) (v := 5) K dX2_readOne_18 (by decide) ?_
        refine x_icmp_lt (pc := 19) (tgt := 24) K dX2_readOne_19 (by decide) (fun c_19 => ?_) (fun c_19 => ?_)
        · exact absurd c_19 (by decide)
        · refine x_iconst (pc := 22) (v := 0) K dX2_readOne_22 (by decide) ?_
          exact x_nretI (pc := 23) K dX2_readOne_23 rfl ⟨by simp only [q_one, show q_isOpen (q_ahead α) = true from (by unfold q_isOpen; rw [if_neg c_8, if_pos c_14]), ↓reduceIte]; rfl, by simp only [q_one, show q_isOpen (q_ahead α) = true from (by unfold q_isOpen; rw [if_neg c_8, if_pos c_14]), ↓reduceIte], rfl⟩
  | succ m ih =>
    intro α ρ hm hr
    refine CI.of [some (.ref (gA G idR)), some (.int (nI (5 - (m + 1)))), none, none] (by decide) (Nat.le_of_ble_eq_true rfl) rfl rfl (fun C K => ?_)
    have K : Ok l _ G C RX2 cX2_readOne (some .boolean) 4 := K
    refine x_aload_n (pc := 0) (i := 0) K dX2_readOne_0 rfl rfl ?_
    refine x_V0i (pc := 1) K (c_yX2_ahead hr) mw_yX2_ahead ⟨im_yX2_ahead, se_yX2_ahead⟩ mk_X2_60 rc_R rfl ⟨(by omega), Nat.le_of_ble_eq_true rfl, Nat.le_of_ble_eq_true rfl⟩ dX2_readOne_1 ?_
    refine x_istore_n (pc := 4) (i := 2) K dX2_readOne_4 rfl rfl (by decide) ?_
    refine x_iload_n (pc := 5) (i := 2) K dX2_readOne_5 rfl rfl ?_
    refine x_bipush (pc := 6) (v := 33) K dX2_readOne_6 (by decide) ?_
    refine x_icmp_eq (pc := 8) (tgt := 17) K dX2_readOne_8 (by decide) (fun c_8 => ?_) (fun c_8 => ?_)
    · refine x_iload_n (pc := 17) (i := 1) K dX2_readOne_17 rfl rfl ?_
      refine x_iconst (pc := 18) (v := 5) K dX2_readOne_18 (by decide) ?_
      refine x_icmp_lt (pc := 19) (tgt := 24) K dX2_readOne_19 (by decide) (fun c_19 => ?_) (fun c_19 => ?_)
      · refine x_aload_n (pc := 24) (i := 0) K dX2_readOne_24 rfl rfl ?_
        refine x_dup (pc := 25) K dX2_readOne_25 rfl ?_
        refine gf_X2_19 (pc := 26)  K dX2_readOne_26 ?_
        refine x_iconst (pc := 29) (v := 1) K dX2_readOne_29 (by decide) ?_
        refine x_iadd (pc := 30) K dX2_readOne_30 ?_
        refine pf_X2_19 (pc := 31)  K dX2_readOne_31 ?_
        refine x_st (a := q_step α) rfl rfl ?_
        refine x_iload_n (pc := 34) (i := 2) K dX2_readOne_34 rfl rfl ?_
        refine x_bipush (pc := 35) (v := 33) K dX2_readOne_35 (by decide) ?_
        refine x_icmp_ne (pc := 37) (tgt := 50) K dX2_readOne_37 (by decide) (fun c_37 => ?_) (fun c_37 => ?_)
        · refine x_aload_n (pc := 50) (i := 0) K dX2_readOne_50 rfl rfl ?_
          refine x_iload_n (pc := 51) (i := 1) K dX2_readOne_51 rfl rfl ?_
          refine x_iconst (pc := 52) (v := 1) K dX2_readOne_52 (by decide) ?_
          refine x_iadd (pc := 53) K dX2_readOne_53 ?_
          refine x_topi K (show nI (5 - (m + 1)) + 1 = nI (5 - m) from by rw [nI_1, show 5 - (m + 1) + 1 = 5 - m by omega]) ?_
          refine x_V1i (pc := 54) K (c_yX2_readWithin (one := q_one m) (ds := 8 + 7 * m + 5) (fun _ _ h => c_anyOf (fun _ _ h => ih (by omega) h) (PrK.one m) (by omega) h) (PrK.one m) (by omega) hr.step) mw_yX2_readWithin ⟨im_yX2_readWithin, se_yX2_readWithin⟩ mk_X2_87 rc_R rfl ⟨(by omega), Nat.le_of_ble_eq_true rfl, Nat.le_of_ble_eq_true rfl⟩ dX2_readOne_54 ?_
          exact x_zretI (pc := 57) K dX2_readOne_57 ⟨by simp only [q_one, show q_isOpen (q_ahead α) = true from (by unfold q_isOpen; rw [if_pos c_8]), if_neg c_37, ↓reduceIte], by simp only [q_one, show q_isOpen (q_ahead α) = true from (by unfold q_isOpen; rw [if_pos c_8]), if_neg c_37, ↓reduceIte], rfl⟩
        · refine x_aload_n (pc := 40) (i := 0) K dX2_readOne_40 rfl rfl ?_
          refine x_iload_n (pc := 41) (i := 1) K dX2_readOne_41 rfl rfl ?_
          refine x_iconst (pc := 42) (v := 1) K dX2_readOne_42 (by decide) ?_
          refine x_iadd (pc := 43) K dX2_readOne_43 ?_
          refine x_topi K (show nI (5 - (m + 1)) + 1 = nI (5 - m) from by rw [nI_1, show 5 - (m + 1) + 1 = 5 - m by omega]) ?_
          refine x_V1i (pc := 44) K (c_yX2_readNot (sub := q_one m) (ds := 8 + 7 * m) (fun _ _ h => ih (by omega) h) (PrK.one m) (by omega) hr.step) mw_yX2_readNot ⟨im_yX2_readNot, se_yX2_readNot⟩ mk_X2_84 rc_R rfl ⟨(by omega), Nat.le_of_ble_eq_true rfl, Nat.le_of_ble_eq_true rfl⟩ dX2_readOne_44 ?_
          refine x_goto (pc := 47) (tgt := 57) K dX2_readOne_47 (by decide) ?_
          exact x_zretI (pc := 57) K dX2_readOne_57 ⟨by simp only [q_one, show q_isOpen (q_ahead α) = true from (by unfold q_isOpen; rw [if_pos c_8]), if_pos c_37, ↓reduceIte], by simp only [q_one, show q_isOpen (q_ahead α) = true from (by unfold q_isOpen; rw [if_pos c_8]), if_pos c_37, ↓reduceIte], rfl⟩
      · exact absurd ((nI_ltI (a := 5 - (m + 1)) (b := 5) (by omega) (by decide)).mpr (by omega)) c_19
    · refine x_iload_n (pc := 11) (i := 2) K dX2_readOne_11 rfl rfl ?_
      refine x_bipush (pc := 12) (v := 40) K dX2_readOne_12 (by decide) ?_
      refine x_icmp_ne (pc := 14) (tgt := 58) K dX2_readOne_14 (by decide) (fun c_14 => ?_) (fun c_14 => ?_)
      · refine x_iload_n (pc := 58) (i := 2) K dX2_readOne_58 rfl rfl ?_
        refine x_S1i (pc := 59) K (c_yX2_isDigit) mw_yX2_isDigit st_yX2_isDigit mk_X2_90 ⟨(by omega), Nat.le_of_ble_eq_true rfl, Nat.le_of_ble_eq_true rfl⟩ dX2_readOne_59 ?_
        refine x_ifeq_b (pc := 62) (tgt := 71) K dX2_readOne_62 (by decide) (fun c_62 => ?_) (fun c_62 => ?_)
        · refine x_aload_n (pc := 71) (i := 0) K dX2_readOne_71 rfl rfl ?_
          refine gf_X2_31 (pc := 72)  K dX2_readOne_72 ?_
          refine x_top (v' := .ref (gX G (2 + q_nm α))) (by unfold q_nm; split <;> rfl) ?_
          refine x_iload_n (pc := 75) (i := 2) K dX2_readOne_75 rfl rfl ?_
          refine x_T1i (pc := 76) K (c_yJ0_indexOf_0f7a4 (by unfold q_nm; split <;> decide)) mw_yJ0_indexOf_0f7a4 ⟨im_yJ0_indexOf_0f7a4, se_yJ0_indexOf_0f7a4⟩ mk_X2_96 (by unfold q_nm; split <;> decide) ⟨(by omega), Nat.le_of_ble_eq_true rfl, Nat.le_of_ble_eq_true rfl⟩ dX2_readOne_76 ?_
          refine x_istore_n (pc := 79) (i := 3) K dX2_readOne_79 rfl rfl (by decide) ?_
          refine x_iload_n (pc := 80) (i := 3) K dX2_readOne_80 rfl rfl ?_
          refine x_if_ge (pc := 81) (tgt := 86) K dX2_readOne_81 (by decide) (fun c_81 => ?_) (fun c_81 => ?_)
          · refine x_aload_n (pc := 86) (i := 0) K dX2_readOne_86 rfl rfl ?_
            refine x_dup (pc := 87) K dX2_readOne_87 rfl ?_
            refine gf_X2_19 (pc := 88)  K dX2_readOne_88 ?_
            refine x_iconst (pc := 91) (v := 1) K dX2_readOne_91 (by decide) ?_
            refine x_iadd (pc := 92) K dX2_readOne_92 ?_
            refine pf_X2_19 (pc := 93)  K dX2_readOne_93 ?_
            refine x_st (a := q_step α) rfl rfl ?_
            refine x_aload_n (pc := 96) (i := 0) K dX2_readOne_96 rfl rfl ?_
            refine x_iconst (pc := 97) (v := (-1)) K dX2_readOne_97 (by decide) ?_
            refine x_iload_n (pc := 98) (i := 3) K dX2_readOne_98 rfl rfl ?_
            refine x_isub (pc := 99) K dX2_readOne_99 ?_
            refine x_V1v (pc := 100) K (c_yX2_make hr.step) mw_yX2_make ⟨im_yX2_make, se_yX2_make⟩ mk_X2_64 rc_R rfl ⟨(by omega), Nat.le_of_ble_eq_true rfl, Nat.le_of_ble_eq_true rfl⟩ dX2_readOne_100 ?_
            refine x_iconst (pc := 103) (v := 1) K dX2_readOne_103 (by decide) ?_
            exact x_nretI (pc := 104) K dX2_readOne_104 rfl ⟨by simp only [q_one, q_plain, show q_isOpen (q_ahead α) = false from (by unfold q_isOpen; rw [if_neg c_8, if_neg c_14]), c_62, if_pos c_81, Bool.false_eq_true, ↓reduceIte]; rfl, by simp only [q_one, q_plain, show q_isOpen (q_ahead α) = false from (by unfold q_isOpen; rw [if_neg c_8, if_neg c_14]), c_62, if_pos c_81, Bool.false_eq_true, ↓reduceIte], rfl⟩
          · refine x_iconst (pc := 84) (v := 0) K dX2_readOne_84 (by decide) ?_
            exact x_nretI (pc := 85) K dX2_readOne_85 rfl ⟨by simp only [q_one, q_plain, show q_isOpen (q_ahead α) = false from (by unfold q_isOpen; rw [if_neg c_8, if_neg c_14]), c_62, if_neg c_81, Bool.false_eq_true, ↓reduceIte]; rfl, by simp only [q_one, q_plain, show q_isOpen (q_ahead α) = false from (by unfold q_isOpen; rw [if_neg c_8, if_neg c_14]), c_62, if_neg c_81, Bool.false_eq_true, ↓reduceIte], rfl⟩
        · refine x_aload_n (pc := 65) (i := 0) K dX2_readOne_65 rfl rfl ?_
          refine x_V0v (pc := 66) K (c_yX2_readNumber hr) mw_yX2_readNumber ⟨im_yX2_readNumber, se_yX2_readNumber⟩ mk_X2_93 rc_R rfl ⟨(by omega), Nat.le_of_ble_eq_true rfl, Nat.le_of_ble_eq_true rfl⟩ dX2_readOne_66 ?_
          refine x_iconst (pc := 69) (v := 1) K dX2_readOne_69 (by decide) ?_
          exact x_nretI (pc := 70) K dX2_readOne_70 rfl ⟨by simp only [q_one, q_plain, show q_isOpen (q_ahead α) = false from (by unfold q_isOpen; rw [if_neg c_8, if_neg c_14]), c_62, Bool.false_eq_true, ↓reduceIte]; rfl, by simp only [q_one, q_plain, show q_isOpen (q_ahead α) = false from (by unfold q_isOpen; rw [if_neg c_8, if_neg c_14]), c_62, Bool.false_eq_true, ↓reduceIte], rfl⟩
      · refine x_iload_n (pc := 17) (i := 1) K dX2_readOne_17 rfl rfl ?_
        refine x_iconst (pc := 18) (v := 5) K dX2_readOne_18 (by decide) ?_
        refine x_icmp_lt (pc := 19) (tgt := 24) K dX2_readOne_19 (by decide) (fun c_19 => ?_) (fun c_19 => ?_)
        · refine x_aload_n (pc := 24) (i := 0) K dX2_readOne_24 rfl rfl ?_
          refine x_dup (pc := 25) K dX2_readOne_25 rfl ?_
          refine gf_X2_19 (pc := 26)  K dX2_readOne_26 ?_
          refine x_iconst (pc := 29) (v := 1) K dX2_readOne_29 (by decide) ?_
          refine x_iadd (pc := 30) K dX2_readOne_30 ?_
          refine pf_X2_19 (pc := 31)  K dX2_readOne_31 ?_
          refine x_st (a := q_step α) rfl rfl ?_
          refine x_iload_n (pc := 34) (i := 2) K dX2_readOne_34 rfl rfl ?_
          refine x_bipush (pc := 35) (v := 33) K dX2_readOne_35 (by decide) ?_
          refine x_icmp_ne (pc := 37) (tgt := 50) K dX2_readOne_37 (by decide) (fun c_37 => ?_) (fun c_37 => ?_)
          · refine x_aload_n (pc := 50) (i := 0) K dX2_readOne_50 rfl rfl ?_
            refine x_iload_n (pc := 51) (i := 1) K dX2_readOne_51 rfl rfl ?_
            refine x_iconst (pc := 52) (v := 1) K dX2_readOne_52 (by decide) ?_
            refine x_iadd (pc := 53) K dX2_readOne_53 ?_
            refine x_topi K (show nI (5 - (m + 1)) + 1 = nI (5 - m) from by rw [nI_1, show 5 - (m + 1) + 1 = 5 - m by omega]) ?_
            refine x_V1i (pc := 54) K (c_yX2_readWithin (one := q_one m) (ds := 8 + 7 * m + 5) (fun _ _ h => c_anyOf (fun _ _ h => ih (by omega) h) (PrK.one m) (by omega) h) (PrK.one m) (by omega) hr.step) mw_yX2_readWithin ⟨im_yX2_readWithin, se_yX2_readWithin⟩ mk_X2_87 rc_R rfl ⟨(by omega), Nat.le_of_ble_eq_true rfl, Nat.le_of_ble_eq_true rfl⟩ dX2_readOne_54 ?_
            exact x_zretI (pc := 57) K dX2_readOne_57 ⟨by simp only [q_one, show q_isOpen (q_ahead α) = true from (by unfold q_isOpen; rw [if_neg c_8, if_pos c_14]), if_neg c_37, ↓reduceIte], by simp only [q_one, show q_isOpen (q_ahead α) = true from (by unfold q_isOpen; rw [if_neg c_8, if_pos c_14]), if_neg c_37, ↓reduceIte], rfl⟩
          · refine x_aload_n (pc := 40) (i := 0) K dX2_readOne_40 rfl rfl ?_
            refine x_iload_n (pc := 41) (i := 1) K dX2_readOne_41 rfl rfl ?_
            refine x_iconst (pc := 42) (v := 1) K dX2_readOne_42 (by decide) ?_
            refine x_iadd (pc := 43) K dX2_readOne_43 ?_
            refine x_topi K (show nI (5 - (m + 1)) + 1 = nI (5 - m) from by rw [nI_1, show 5 - (m + 1) + 1 = 5 - m by omega]) ?_
            refine x_V1i (pc := 44) K (c_yX2_readNot (sub := q_one m) (ds := 8 + 7 * m) (fun _ _ h => ih (by omega) h) (PrK.one m) (by omega) hr.step) mw_yX2_readNot ⟨im_yX2_readNot, se_yX2_readNot⟩ mk_X2_84 rc_R rfl ⟨(by omega), Nat.le_of_ble_eq_true rfl, Nat.le_of_ble_eq_true rfl⟩ dX2_readOne_44 ?_
            refine x_goto (pc := 47) (tgt := 57) K dX2_readOne_47 (by decide) ?_
            exact x_zretI (pc := 57) K dX2_readOne_57 ⟨by simp only [q_one, show q_isOpen (q_ahead α) = true from (by unfold q_isOpen; rw [if_neg c_8, if_pos c_14]), if_pos c_37, ↓reduceIte], by simp only [q_one, show q_isOpen (q_ahead α) = true from (by unfold q_isOpen; rw [if_neg c_8, if_pos c_14]), if_pos c_37, ↓reduceIte], rfl⟩
        · exact absurd ((nI_ltI (a := 5 - (m + 1)) (b := 5) (by omega) (by decide)).mpr (by omega)) c_19
