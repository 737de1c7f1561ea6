set_option maxRecDepth 100000 in
set_option maxHeartbeats 4000000 in
theorem l_eating {l : Launch} {G : Gm} {C : Cx} {P : Po} {n : Nat} {a b load what A : Int32} {α ρ : Af} (K : Ok l 100 G C RX6 cX6_eating (some .int) 10) (hn : α (idD 0) 1 = nI n) (h9 : n ≤ 9) : ∀ (j i : Nat) (y : Option Value), i + j = 2 ^ n → (∀ y, X 1 l 100 G C (P) 10 112 [some (.ref (gA G idB)), some (.int a), some (.int b), some (.int load), some (.int what), some (.int A), some (.int (q_et α n A a b (2 ^ n)).1), some (.int (q_et α n A a b (2 ^ n)).2), some (.int (nI (2 ^ n))), y] [] α ρ) → X 1 l 100 G C (P) 10 51 [some (.ref (gA G idB)), some (.int a), some (.int b), some (.int load), some (.int what), some (.int A), some (.int (q_et α n A a b i).1), some (.int (q_et α n A a b i).2), some (.int (nI i)), y] [] α ρ := by
  have hp := pow9 h9
  intro j
  induction j with
  | zero =>
    intro i y hi hx
    refine x_iload (pc := 51) (i := 8) K dX6_eating_51 rfl ?_
    refine x_iconst (pc := 53) (v := 1) K dX6_eating_53 (by decide) ?_
    refine x_aload_n (pc := 54) (i := 0) K dX6_eating_54 rfl rfl ?_
    refine gf_X6_10 (pc := 55)  K dX6_eating_55 ?_
    refine gf_X6_63 (pc := 58) (by decide) K dX6_eating_58 ?_
    refine x_ishl (pc := 61) K dX6_eating_61 ?_
    refine x_topi K (show jshl 1 (α (idD 0) 1) = nI (2 ^ n) from by rw [hn]; exact shl1 h9) ?_
    refine x_icmp_ge (pc := 62) (tgt := 112) K dX6_eating_62 (by decide) (fun c_62 => ?_) (fun c_62 => ?_)
    · obtain rfl : i = 2 ^ n := by omega
      exact hx y
    · exact absurd (by rw [show i = 2 ^ n by omega]; exact Int32.le_refl _) c_62
  | succ j ih =>
    intro i y hi hx
    refine x_iload (pc := 51) (i := 8) K dX6_eating_51 rfl ?_
    refine x_iconst (pc := 53) (v := 1) K dX6_eating_53 (by decide) ?_
    refine x_aload_n (pc := 54) (i := 0) K dX6_eating_54 rfl rfl ?_
    refine gf_X6_10 (pc := 55)  K dX6_eating_55 ?_
    refine gf_X6_63 (pc := 58) (by decide) K dX6_eating_58 ?_
    refine x_ishl (pc := 61) K dX6_eating_61 ?_
    refine x_topi K (show jshl 1 (α (idD 0) 1) = nI (2 ^ n) from by rw [hn]; exact shl1 h9) ?_
    refine x_icmp_ge (pc := 62) (tgt := 112) K dX6_eating_62 (by decide) (fun c_62 => ?_) (fun c_62 => ?_)
    · exact (nI_ge (a := i) (b := 2 ^ n) (by omega) (by omega) c_62).elim
    · refine x_iload (pc := 65) (i := 8) K dX6_eating_65 rfl ?_
      refine x_S1i (pc := 67) K (c_yJ6_bitCount_0f7a4) mw_yJ6_bitCount_0f7a4 st_yJ6_bitCount_0f7a4 mk_X6_210 ⟨Nat.le_of_ble_eq_true rfl, Nat.le_of_ble_eq_true rfl, Nat.le_of_ble_eq_true rfl⟩ dX6_eating_67 ?_
      refine x_istore (pc := 70) (i := 9) K dX6_eating_70 rfl (by decide) ?_
      refine x_iload (pc := 72) (i := 9) K dX6_eating_72 rfl ?_
      refine x_iload (pc := 74) (i := 7) K dX6_eating_74 rfl ?_
      refine x_icmp_ge (pc := 76) (tgt := 106) K dX6_eating_76 (by decide) (fun c_76 => ?_) (fun c_76 => ?_)
      · refine x_iinc (pc := 106) (i := 8) (v := nI (i + 1)) K dX6_eating_106 rfl (nI_1 _) rfl ?_
        refine x_goto (pc := 109) (tgt := 51) K dX6_eating_109 (by decide) ?_
        have e1 : (q_et α n A a b (i + 1)) = (q_et α n A a b i) := by simp only [q_et]; rw [if_pos c_76]
        have h2 := ih (i + 1) (some (.int (q_bitCount (nI i)))) (by omega) hx
        rw [e1] at h2
        exact h2
      · refine x_aload_n (pc := 79) (i := 0) K dX6_eating_79 rfl rfl ?_
        refine gf_X6_10 (pc := 80)  K dX6_eating_80 ?_
        refine x_iload_n (pc := 83) (i := 1) K dX6_eating_83 rfl rfl ?_
        refine x_iload_n (pc := 84) (i := 2) K dX6_eating_84 rfl rfl ?_
        refine x_iload (pc := 85) (i := 5) K dX6_eating_85 rfl ?_
        refine x_iload (pc := 87) (i := 8) K dX6_eating_87 rfl ?_
        refine x_iconst (pc := 89) (v := (-1)) K dX6_eating_89 (by decide) ?_
        refine x_ixor (pc := 90) K dX6_eating_90 ?_
        refine x_iand (pc := 91) K dX6_eating_91 ?_
        refine x_V3i (pc := 92) K (c_yX0_joins (by decide) hn h9) mw_yX0_joins ⟨im_yX0_joins, se_yX0_joins⟩ mk_X6_197 (rc_D (by decide)) rfl ⟨Nat.le_of_ble_eq_true rfl, Nat.le_of_ble_eq_true rfl, Nat.le_of_ble_eq_true rfl⟩ dX6_eating_92 ?_
        refine x_ifne_b (pc := 95) (tgt := 106) K dX6_eating_95 (by decide) (fun c_95 => ?_) (fun c_95 => ?_)
        · refine x_iinc (pc := 106) (i := 8) (v := nI (i + 1)) K dX6_eating_106 rfl (nI_1 _) rfl ?_
          refine x_goto (pc := 109) (tgt := 51) K dX6_eating_109 (by decide) ?_
          have h2 := ih (i + 1) (some (.int (q_bitCount (nI i)))) (by omega) hx
          simp only [q_et] at h2
          rw [if_neg c_76] at h2
          simp only [c_95, ↓reduceIte, Bool.false_eq_true] at h2
          exact h2
        · refine x_iload (pc := 98) (i := 8) K dX6_eating_98 rfl ?_
          refine x_istore (pc := 100) (i := 6) K dX6_eating_100 rfl (by decide) ?_
          refine x_iload (pc := 102) (i := 9) K dX6_eating_102 rfl ?_
          refine x_istore (pc := 104) (i := 7) K dX6_eating_104 rfl (by decide) ?_
          refine x_iinc (pc := 106) (i := 8) (v := nI (i + 1)) K dX6_eating_106 rfl (nI_1 _) rfl ?_
          refine x_goto (pc := 109) (tgt := 51) K dX6_eating_109 (by decide) ?_
          have h2 := ih (i + 1) (some (.int (q_bitCount (nI i)))) (by omega) hx
          simp only [q_et] at h2
          rw [if_neg c_76] at h2
          simp only [c_95, ↓reduceIte, Bool.false_eq_true] at h2
          exact h2

def f_eating (α : Af) (a b load what : Int32) : Int32 × Af := if q_areTwo a b = true then (if q_isLoad load = true then (if q_within what 0 1 = true then (if what = 0 then (q_et α (α (idD 0) 1).toNatClampNeg (q_bset α 0 load (α (idD 0) 1).toNatClampNeg) a b (2 ^ (α (idD 0) 1).toNatClampNeg)).2 else (q_et α (α (idD 0) 1).toNatClampNeg (q_bset α 0 load (α (idD 0) 1).toNatClampNeg) a b (2 ^ (α (idD 0) 1).toNatClampNeg)).1, α) else q_errP α 1) else q_errP α 1) else q_errP α 1
set_option maxRecDepth 100000 in
set_option maxHeartbeats 4000000 in
theorem c_yX6_eating {l : Launch} {G : Gm} {α ρ : Af} {a b load what : Int32} (hI : IC α) : CI 1 l G yX6_eating (Cond.code yX6_eating cX6_eating 10 (some .int)) 100 [.ref (gA G idB), .int a, .int b, .int load, .int what] α ρ (PI (f_eating α a b load what).1 (f_eating α a b load what).2 ρ) := by
  obtain ⟨⟨n, h9, hn⟩, hLk, hBk, hV, ⟨t, h60, ht⟩, ⟨w, h24, hw⟩, hSh, hRb, hTp⟩ := hI
  refine CI.of [some (.ref (gA G idB)), some (.int a), some (.int b), some (.int load), some (.int what), none, none, none, none, none] (by decide) (Nat.le_of_ble_eq_true rfl) rfl rfl (fun C K => ?_)
  have K : Ok l _ G C RX6 cX6_eating (some .int) 10 := K
  refine x_iload_n (pc := 0) (i := 1) K dX6_eating_0 rfl rfl ?_
  refine x_iload_n (pc := 1) (i := 2) K dX6_eating_1 rfl rfl ?_
  refine x_S2i (pc := 2) K (c_yX6_areTwoPlaces) mw_yX6_areTwoPlaces st_yX6_areTwoPlaces mk_X6_55 ⟨Nat.le_of_ble_eq_true rfl, Nat.le_of_ble_eq_true rfl, Nat.le_of_ble_eq_true rfl⟩ dX6_eating_2 ?_
  refine x_ifeq_b (pc := 5) (tgt := 25) K dX6_eating_5 (by decide) (fun c_5 => ?_) (fun c_5 => ?_)
  · refine x_aload_n (pc := 25) (i := 0) K dX6_eating_25 rfl rfl ?_
    refine x_iconst (pc := 26) (v := 1) K dX6_eating_26 (by decide) ?_
    refine x_V1i (pc := 27) K (c_yX6_error (j := 1) (by decide)) mw_yX6_error ⟨im_yX6_error, se_yX6_error⟩ mk_X6_59 rc_B rfl ⟨Nat.le_of_ble_eq_true rfl, Nat.le_of_ble_eq_true rfl, Nat.le_of_ble_eq_true rfl⟩ dX6_eating_27 ?_
    exact x_iretI (pc := 30) K dX6_eating_30 ⟨by simp (decide := true) only [f_eating, q_errP, c_5, ↓reduceIte, Bool.false_eq_true, bI_t, bI_f], by simp (decide := true) only [f_eating, q_errP, c_5, ↓reduceIte, Bool.false_eq_true, bI_t, bI_f], rfl⟩
  · refine x_iload_n (pc := 8) (i := 3) K dX6_eating_8 rfl rfl ?_
    refine x_S1i (pc := 9) K (c_yX6_isLoad) mw_yX6_isLoad st_yX6_isLoad mk_X6_127 ⟨Nat.le_of_ble_eq_true rfl, Nat.le_of_ble_eq_true rfl, Nat.le_of_ble_eq_true rfl⟩ dX6_eating_9 ?_
    refine x_ifeq_b (pc := 12) (tgt := 25) K dX6_eating_12 (by decide) (fun c_12 => ?_) (fun c_12 => ?_)
    · refine x_aload_n (pc := 25) (i := 0) K dX6_eating_25 rfl rfl ?_
      refine x_iconst (pc := 26) (v := 1) K dX6_eating_26 (by decide) ?_
      refine x_V1i (pc := 27) K (c_yX6_error (j := 1) (by decide)) mw_yX6_error ⟨im_yX6_error, se_yX6_error⟩ mk_X6_59 rc_B rfl ⟨Nat.le_of_ble_eq_true rfl, Nat.le_of_ble_eq_true rfl, Nat.le_of_ble_eq_true rfl⟩ dX6_eating_27 ?_
      exact x_iretI (pc := 30) K dX6_eating_30 ⟨by simp (decide := true) only [f_eating, q_errP, c_5, c_12, ↓reduceIte, Bool.false_eq_true, bI_t, bI_f], by simp (decide := true) only [f_eating, q_errP, c_5, c_12, ↓reduceIte, Bool.false_eq_true, bI_t, bI_f], rfl⟩
    · refine x_iload (pc := 15) (i := 4) K dX6_eating_15 rfl ?_
      refine x_iconst (pc := 17) (v := 0) K dX6_eating_17 (by decide) ?_
      refine x_iconst (pc := 18) (v := 1) K dX6_eating_18 (by decide) ?_
      refine x_S3i (pc := 19) K (c_yX6_within) mw_yX6_within st_yX6_within mk_X6_73 ⟨Nat.le_of_ble_eq_true rfl, Nat.le_of_ble_eq_true rfl, Nat.le_of_ble_eq_true rfl⟩ dX6_eating_19 ?_
      refine x_ifne_b (pc := 22) (tgt := 31) K dX6_eating_22 (by decide) (fun c_22 => ?_) (fun c_22 => ?_)
      · refine x_aload_n (pc := 31) (i := 0) K dX6_eating_31 rfl rfl ?_
        refine gf_X6_10 (pc := 32)  K dX6_eating_32 ?_
        refine x_iload_n (pc := 35) (i := 3) K dX6_eating_35 rfl rfl ?_
        refine x_V1i (pc := 36) K (c_yX0_bearing (by decide) hn h9) mw_yX0_bearing ⟨im_yX0_bearing, se_yX0_bearing⟩ mk_X6_190 (rc_D (by decide)) rfl ⟨Nat.le_of_ble_eq_true rfl, Nat.le_of_ble_eq_true rfl, Nat.le_of_ble_eq_true rfl⟩ dX6_eating_36 ?_
        refine x_istore (pc := 39) (i := 5) K dX6_eating_39 rfl (by decide) ?_
        refine x_iconst (pc := 41) (v := 0) K dX6_eating_41 (by decide) ?_
        refine x_istore (pc := 42) (i := 6) K dX6_eating_42 rfl (by decide) ?_
        refine x_bipush (pc := 44) (v := 10) K dX6_eating_44 (by decide) ?_
        refine x_istore (pc := 46) (i := 7) K dX6_eating_46 rfl (by decide) ?_
        refine x_iconst (pc := 48) (v := 0) K dX6_eating_48 (by decide) ?_
        refine x_istore (pc := 49) (i := 8) K dX6_eating_49 rfl (by decide) ?_
        have hnc : (α (idD 0) 1).toNatClampNeg = n := by rw [hn]; exact nI_clamp (by omega)
        refine l_eating K hn h9 (2 ^ n) 0 none (by omega) (fun y => ?_)
        refine x_iload (pc := 112) (i := 4) K dX6_eating_112 rfl ?_
        refine x_if_ne (pc := 114) (tgt := 122) K dX6_eating_114 (by decide) (fun c_114 => ?_) (fun c_114 => ?_)
        · refine x_iload (pc := 122) (i := 6) K dX6_eating_122 rfl ?_
          exact x_iretI (pc := 124) K dX6_eating_124 ⟨by simp (decide := true) only [f_eating, q_errP, c_5, c_12, c_22, if_neg c_114, ↓reduceIte, Bool.false_eq_true, bI_t, bI_f, hnc], by simp (decide := true) only [f_eating, q_errP, c_5, c_12, c_22, if_neg c_114, ↓reduceIte, Bool.false_eq_true, bI_t, bI_f, hnc], rfl⟩
        · refine x_iload (pc := 117) (i := 7) K dX6_eating_117 rfl ?_
          refine x_goto (pc := 119) (tgt := 124) K dX6_eating_119 (by decide) ?_
          exact x_iretI (pc := 124) K dX6_eating_124 ⟨by simp (decide := true) only [f_eating, q_errP, c_5, c_12, c_22, if_pos c_114, ↓reduceIte, Bool.false_eq_true, bI_t, bI_f, hnc], by simp (decide := true) only [f_eating, q_errP, c_5, c_12, c_22, if_pos c_114, ↓reduceIte, Bool.false_eq_true, bI_t, bI_f, hnc], rfl⟩
      · refine x_aload_n (pc := 25) (i := 0) K dX6_eating_25 rfl rfl ?_
        refine x_iconst (pc := 26) (v := 1) K dX6_eating_26 (by decide) ?_
        refine x_V1i (pc := 27) K (c_yX6_error (j := 1) (by decide)) mw_yX6_error ⟨im_yX6_error, se_yX6_error⟩ mk_X6_59 rc_B rfl ⟨Nat.le_of_ble_eq_true rfl, Nat.le_of_ble_eq_true rfl, Nat.le_of_ble_eq_true rfl⟩ dX6_eating_27 ?_
        exact x_iretI (pc := 30) K dX6_eating_30 ⟨by simp (decide := true) only [f_eating, q_errP, c_5, c_12, c_22, ↓reduceIte, Bool.false_eq_true, bI_t, bI_f], by simp (decide := true) only [f_eating, q_errP, c_5, c_12, c_22, ↓reduceIte, Bool.false_eq_true, bI_t, bI_f], rfl⟩

set_option maxRecDepth 100000 in
set_option maxHeartbeats 4000000 in
theorem l_baking {l : Launch} {G : Gm} {C : Cx} {P : Po} {n : Nat} {a b load what A B : Int32} {T ρ : Af} (K : Ok l 100 G C RX6 cX6_baking (some .int) 11) (hn : T (idD 0) 1 = nI n) (h9 : n ≤ 9) : ∀ (j i : Nat) (y : Option Value), i + j = 2 ^ n → (∀ y, X 1 l 100 G C (P) 11 154 [some (.ref (gA G idB)), some (.int a), some (.int b), some (.int load), some (.int what), some (.int A), some (.int B), some (.int (q_bk T n A B a b (2 ^ n)).1), some (.int (q_bk T n A B a b (2 ^ n)).2), some (.int (nI (2 ^ n))), y] [] T ρ) → X 1 l 100 G C (P) 11 78 [some (.ref (gA G idB)), some (.int a), some (.int b), some (.int load), some (.int what), some (.int A), some (.int B), some (.int (q_bk T n A B a b i).1), some (.int (q_bk T n A B a b i).2), some (.int (nI i)), y] [] T ρ := by
  have hp := pow9 h9
  intro j
  induction j with
  | zero =>
    intro i y hi hx
    refine x_iload (pc := 78) (i := 9) K dX6_baking_78 rfl ?_
    refine x_iconst (pc := 80) (v := 1) K dX6_baking_80 (by decide) ?_
    refine x_aload_n (pc := 81) (i := 0) K dX6_baking_81 rfl rfl ?_
    refine gf_X6_10 (pc := 82)  K dX6_baking_82 ?_
    refine gf_X6_63 (pc := 85) (by decide) K dX6_baking_85 ?_
    refine x_ishl (pc := 88) K dX6_baking_88 ?_
    refine x_topi K (show jshl 1 (T (idD 0) 1) = nI (2 ^ n) from by rw [hn]; exact shl1 h9) ?_
    refine x_icmp_ge (pc := 89) (tgt := 154) K dX6_baking_89 (by decide) (fun c_89 => ?_) (fun c_89 => ?_)
    · obtain rfl : i = 2 ^ n := by omega
      exact hx y
    · exact absurd (by rw [show i = 2 ^ n by omega]; exact Int32.le_refl _) c_89
  | succ j ih =>
    intro i y hi hx
    refine x_iload (pc := 78) (i := 9) K dX6_baking_78 rfl ?_
    refine x_iconst (pc := 80) (v := 1) K dX6_baking_80 (by decide) ?_
    refine x_aload_n (pc := 81) (i := 0) K dX6_baking_81 rfl rfl ?_
    refine gf_X6_10 (pc := 82)  K dX6_baking_82 ?_
    refine gf_X6_63 (pc := 85) (by decide) K dX6_baking_85 ?_
    refine x_ishl (pc := 88) K dX6_baking_88 ?_
    refine x_topi K (show jshl 1 (T (idD 0) 1) = nI (2 ^ n) from by rw [hn]; exact shl1 h9) ?_
    refine x_icmp_ge (pc := 89) (tgt := 154) K dX6_baking_89 (by decide) (fun c_89 => ?_) (fun c_89 => ?_)
    · exact (nI_ge (a := i) (b := 2 ^ n) (by omega) (by omega) c_89).elim
    · refine x_aload_n (pc := 92) (i := 0) K dX6_baking_92 rfl rfl ?_
      refine gf_X6_10 (pc := 93)  K dX6_baking_93 ?_
      refine x_iload (pc := 96) (i := 9) K dX6_baking_96 rfl ?_
      refine x_V1i (pc := 98) K (c_yX0_flourFor (by decide) hn h9) mw_yX0_flourFor ⟨im_yX0_flourFor, se_yX0_flourFor⟩ mk_X6_207 (rc_D (by decide)) rfl ⟨Nat.le_of_ble_eq_true rfl, Nat.le_of_ble_eq_true rfl, Nat.le_of_ble_eq_true rfl⟩ dX6_baking_98 ?_
      refine x_istore (pc := 101) (i := 10) K dX6_baking_101 rfl (by decide) ?_
      refine x_iload (pc := 103) (i := 7) K dX6_baking_103 rfl ?_
      refine x_if_lt (pc := 105) (tgt := 115) K dX6_baking_105 (by decide) (fun c_105 => ?_) (fun c_105 => ?_)
      · refine x_aload_n (pc := 115) (i := 0) K dX6_baking_115 rfl rfl ?_
        refine gf_X6_10 (pc := 116)  K dX6_baking_116 ?_
        refine x_iload_n (pc := 119) (i := 1) K dX6_baking_119 rfl rfl ?_
        refine x_iload_n (pc := 120) (i := 2) K dX6_baking_120 rfl rfl ?_
        refine x_iload (pc := 121) (i := 5) K dX6_baking_121 rfl ?_
        refine x_iload (pc := 123) (i := 9) K dX6_baking_123 rfl ?_
        refine x_iconst (pc := 125) (v := (-1)) K dX6_baking_125 (by decide) ?_
        refine x_ixor (pc := 126) K dX6_baking_126 ?_
        refine x_iand (pc := 127) K dX6_baking_127 ?_
        refine x_iload (pc := 128) (i := 6) K dX6_baking_128 rfl ?_
        refine x_iload (pc := 130) (i := 9) K dX6_baking_130 rfl ?_
        refine x_iand (pc := 132) K dX6_baking_132 ?_
        refine x_ior (pc := 133) K dX6_baking_133 ?_
        refine x_V3i (pc := 134) K (c_yX0_joins (by decide) hn h9) mw_yX0_joins ⟨im_yX0_joins, se_yX0_joins⟩ mk_X6_197 (rc_D (by decide)) rfl ⟨Nat.le_of_ble_eq_true rfl, Nat.le_of_ble_eq_true rfl, Nat.le_of_ble_eq_true rfl⟩ dX6_baking_134 ?_
        refine x_ifeq_b (pc := 137) (tgt := 148) K dX6_baking_137 (by decide) (fun c_137 => ?_) (fun c_137 => ?_)
        · refine x_iinc (pc := 148) (i := 9) (v := nI (i + 1)) K dX6_baking_148 rfl (nI_1 _) rfl ?_
          refine x_goto (pc := 151) (tgt := 78) K dX6_baking_151 (by decide) ?_
          have h2 := ih (i + 1) (some (.int (q_flour T 0 (nI i) n))) (by omega) hx
          simp only [q_bk] at h2
          rw [if_pos c_105] at h2
          simp only [c_137, ↓reduceIte, Bool.false_eq_true] at h2
          exact h2
        · refine x_iload (pc := 140) (i := 9) K dX6_baking_140 rfl ?_
          refine x_istore (pc := 142) (i := 7) K dX6_baking_142 rfl (by decide) ?_
          refine x_iload (pc := 144) (i := 10) K dX6_baking_144 rfl ?_
          refine x_istore (pc := 146) (i := 8) K dX6_baking_146 rfl (by decide) ?_
          refine x_iinc (pc := 148) (i := 9) (v := nI (i + 1)) K dX6_baking_148 rfl (nI_1 _) rfl ?_
          refine x_goto (pc := 151) (tgt := 78) K dX6_baking_151 (by decide) ?_
          have h2 := ih (i + 1) (some (.int (q_flour T 0 (nI i) n))) (by omega) hx
          simp only [q_bk] at h2
          rw [if_pos c_105] at h2
          simp only [c_137, ↓reduceIte, Bool.false_eq_true] at h2
          exact h2
      · refine x_iload (pc := 108) (i := 10) K dX6_baking_108 rfl ?_
        refine x_iload (pc := 110) (i := 8) K dX6_baking_110 rfl ?_
        refine x_icmp_ge (pc := 112) (tgt := 148) K dX6_baking_112 (by decide) (fun c_112 => ?_) (fun c_112 => ?_)
        · refine x_iinc (pc := 148) (i := 9) (v := nI (i + 1)) K dX6_baking_148 rfl (nI_1 _) rfl ?_
          refine x_goto (pc := 151) (tgt := 78) K dX6_baking_151 (by decide) ?_
          have h2 := ih (i + 1) (some (.int (q_flour T 0 (nI i) n))) (by omega) hx
          simp only [q_bk] at h2
          rw [if_neg c_105, if_pos c_112] at h2
          exact h2
        · refine x_aload_n (pc := 115) (i := 0) K dX6_baking_115 rfl rfl ?_
          refine gf_X6_10 (pc := 116)  K dX6_baking_116 ?_
          refine x_iload_n (pc := 119) (i := 1) K dX6_baking_119 rfl rfl ?_
          refine x_iload_n (pc := 120) (i := 2) K dX6_baking_120 rfl rfl ?_
          refine x_iload (pc := 121) (i := 5) K dX6_baking_121 rfl ?_
          refine x_iload (pc := 123) (i := 9) K dX6_baking_123 rfl ?_
          refine x_iconst (pc := 125) (v := (-1)) K dX6_baking_125 (by decide) ?_
          refine x_ixor (pc := 126) K dX6_baking_126 ?_
          refine x_iand (pc := 127) K dX6_baking_127 ?_
          refine x_iload (pc := 128) (i := 6) K dX6_baking_128 rfl ?_
          refine x_iload (pc := 130) (i := 9) K dX6_baking_130 rfl ?_
          refine x_iand (pc := 132) K dX6_baking_132 ?_
          refine x_ior (pc := 133) K dX6_baking_133 ?_
          refine x_V3i (pc := 134) K (c_yX0_joins (by decide) hn h9) mw_yX0_joins ⟨im_yX0_joins, se_yX0_joins⟩ mk_X6_197 (rc_D (by decide)) rfl ⟨Nat.le_of_ble_eq_true rfl, Nat.le_of_ble_eq_true rfl, Nat.le_of_ble_eq_true rfl⟩ dX6_baking_134 ?_
          refine x_ifeq_b (pc := 137) (tgt := 148) K dX6_baking_137 (by decide) (fun c_137 => ?_) (fun c_137 => ?_)
          · refine x_iinc (pc := 148) (i := 9) (v := nI (i + 1)) K dX6_baking_148 rfl (nI_1 _) rfl ?_
            refine x_goto (pc := 151) (tgt := 78) K dX6_baking_151 (by decide) ?_
            have h2 := ih (i + 1) (some (.int (q_flour T 0 (nI i) n))) (by omega) hx
            simp only [q_bk] at h2
            rw [if_neg c_105, if_neg c_112] at h2
            simp only [c_137, ↓reduceIte, Bool.false_eq_true] at h2
            exact h2
          · refine x_iload (pc := 140) (i := 9) K dX6_baking_140 rfl ?_
            refine x_istore (pc := 142) (i := 7) K dX6_baking_142 rfl (by decide) ?_
            refine x_iload (pc := 144) (i := 10) K dX6_baking_144 rfl ?_
            refine x_istore (pc := 146) (i := 8) K dX6_baking_146 rfl (by decide) ?_
            refine x_iinc (pc := 148) (i := 9) (v := nI (i + 1)) K dX6_baking_148 rfl (nI_1 _) rfl ?_
            refine x_goto (pc := 151) (tgt := 78) K dX6_baking_151 (by decide) ?_
            have h2 := ih (i + 1) (some (.int (q_flour T 0 (nI i) n))) (by omega) hx
            simp only [q_bk] at h2
            rw [if_neg c_105, if_neg c_112] at h2
            simp only [c_137, ↓reduceIte, Bool.false_eq_true] at h2
            exact h2

def q_bkT (α : Af) (n : Nat) : Af := q_bakes (q_take α 2 0) 2 n
def q_bkR (α : Af) (n : Nat) (a b load : Int32) : Int32 × Int32 := q_bk (q_bkT α n) n (q_bset α 0 load n) (q_bset (q_bkT α n) 2 load n) a b (2 ^ n)
theorem q_bkT_D {α : Af} {n : Nat} : q_bkT α n (idD 0) 1 = α (idD 0) 1 := by
  unfold q_bkT
  rw [q_bakes_ne (fun _ _ => nS_D (by decide)), q_take_ne (by decide) (fun _ _ => nS_D (by decide)) (fun u hu => ⟨nL_D (by decide), nLc_D (by decide)⟩) (by decide) (by decide)]
theorem q_take_1 {α : Af} : q_take α 2 0 (idD 2) 1 = α (idD 0) 1 := q_take_D (by decide) (by decide) (by decide) (Or.inl rfl)
theorem q_bkT_2 {α : Af} {n : Nat} : q_bkT α n (idD 2) 1 = α (idD 0) 1 := by
  unfold q_bkT
  rw [q_bakes_ne (fun _ _ => nS_D (by decide)), q_take_1]
def f_baking (α : Af) (a b load what : Int32) : Int32 × Af := if q_areTwo a b = true then (if q_isLoad load = true then (if q_within what 0 1 = true then (if 0 ≤ (q_bkR α (α (idD 0) 1).toNatClampNeg a b load).1 then (if what = 0 then (q_bkR α (α (idD 0) 1).toNatClampNeg a b load).2 else (q_bkR α (α (idD 0) 1).toNatClampNeg a b load).1, q_bkT α (α (idD 0) 1).toNatClampNeg) else q_errP (q_bkT α (α (idD 0) 1).toNatClampNeg) 2) else q_errP α 1) else q_errP α 1) else q_errP α 1
set_option maxRecDepth 100000 in
set_option maxHeartbeats 4000000 in
theorem c_yX6_baking {l : Launch} {G : Gm} {α ρ : Af} {a b load what : Int32} (hI : IC α) : CI 1 l G yX6_baking (Cond.code yX6_baking cX6_baking 11 (some .int)) 100 [.ref (gA G idB), .int a, .int b, .int load, .int what] α ρ (PI (f_baking α a b load what).1 (f_baking α a b load what).2 ρ) := by
  obtain ⟨⟨n, h9, hn⟩, hLk, hBk, hV, ⟨t, h60, ht⟩, ⟨w, h24, hw⟩, hSh, hRb, hTp⟩ := hI
  refine CI.of [some (.ref (gA G idB)), some (.int a), some (.int b), some (.int load), some (.int what), none, none, none, none, none, none] (by decide) (Nat.le_of_ble_eq_true rfl) rfl rfl (fun C K => ?_)
  have K : Ok l _ G C RX6 cX6_baking (some .int) 11 := K
  refine x_iload_n (pc := 0) (i := 1) K dX6_baking_0 rfl rfl ?_
  refine x_iload_n (pc := 1) (i := 2) K dX6_baking_1 rfl rfl ?_
  refine x_S2i (pc := 2) K (c_yX6_areTwoPlaces) mw_yX6_areTwoPlaces st_yX6_areTwoPlaces mk_X6_55 ⟨Nat.le_of_ble_eq_true rfl, Nat.le_of_ble_eq_true rfl, Nat.le_of_ble_eq_true rfl⟩ dX6_baking_2 ?_
  refine x_ifeq_b (pc := 5) (tgt := 25) K dX6_baking_5 (by decide) (fun c_5 => ?_) (fun c_5 => ?_)
  · refine x_aload_n (pc := 25) (i := 0) K dX6_baking_25 rfl rfl ?_
    refine x_iconst (pc := 26) (v := 1) K dX6_baking_26 (by decide) ?_
    refine x_V1i (pc := 27) K (c_yX6_error (j := 1) (by decide)) mw_yX6_error ⟨im_yX6_error, se_yX6_error⟩ mk_X6_59 rc_B rfl ⟨Nat.le_of_ble_eq_true rfl, Nat.le_of_ble_eq_true rfl, Nat.le_of_ble_eq_true rfl⟩ dX6_baking_27 ?_
    exact x_iretI (pc := 30) K dX6_baking_30 ⟨by simp (decide := true) only [f_baking, q_errP, c_5, ↓reduceIte, Bool.false_eq_true, bI_t, bI_f], by simp (decide := true) only [f_baking, q_errP, c_5, ↓reduceIte, Bool.false_eq_true, bI_t, bI_f], rfl⟩
  · refine x_iload_n (pc := 8) (i := 3) K dX6_baking_8 rfl rfl ?_
    refine x_S1i (pc := 9) K (c_yX6_isLoad) mw_yX6_isLoad st_yX6_isLoad mk_X6_127 ⟨Nat.le_of_ble_eq_true rfl, Nat.le_of_ble_eq_true rfl, Nat.le_of_ble_eq_true rfl⟩ dX6_baking_9 ?_
    refine x_ifeq_b (pc := 12) (tgt := 25) K dX6_baking_12 (by decide) (fun c_12 => ?_) (fun c_12 => ?_)
    · refine x_aload_n (pc := 25) (i := 0) K dX6_baking_25 rfl rfl ?_
      refine x_iconst (pc := 26) (v := 1) K dX6_baking_26 (by decide) ?_
      refine x_V1i (pc := 27) K (c_yX6_error (j := 1) (by decide)) mw_yX6_error ⟨im_yX6_error, se_yX6_error⟩ mk_X6_59 rc_B rfl ⟨Nat.le_of_ble_eq_true rfl, Nat.le_of_ble_eq_true rfl, Nat.le_of_ble_eq_true rfl⟩ dX6_baking_27 ?_
      exact x_iretI (pc := 30) K dX6_baking_30 ⟨by simp (decide := true) only [f_baking, q_errP, c_5, c_12, ↓reduceIte, Bool.false_eq_true, bI_t, bI_f], by simp (decide := true) only [f_baking, q_errP, c_5, c_12, ↓reduceIte, Bool.false_eq_true, bI_t, bI_f], rfl⟩
    · refine x_iload (pc := 15) (i := 4) K dX6_baking_15 rfl ?_
      refine x_iconst (pc := 17) (v := 0) K dX6_baking_17 (by decide) ?_
      refine x_iconst (pc := 18) (v := 1) K dX6_baking_18 (by decide) ?_
      refine x_S3i (pc := 19) K (c_yX6_within) mw_yX6_within st_yX6_within mk_X6_73 ⟨Nat.le_of_ble_eq_true rfl, Nat.le_of_ble_eq_true rfl, Nat.le_of_ble_eq_true rfl⟩ dX6_baking_19 ?_
      refine x_ifne_b (pc := 22) (tgt := 31) K dX6_baking_22 (by decide) (fun c_22 => ?_) (fun c_22 => ?_)
      · refine x_aload_n (pc := 31) (i := 0) K dX6_baking_31 rfl rfl ?_
        refine gf_X6_10 (pc := 32)  K dX6_baking_32 ?_
        refine x_iload_n (pc := 35) (i := 3) K dX6_baking_35 rfl rfl ?_
        refine x_V1i (pc := 36) K (c_yX0_bearing (by decide) hn h9) mw_yX0_bearing ⟨im_yX0_bearing, se_yX0_bearing⟩ mk_X6_190 (rc_D (by decide)) rfl ⟨Nat.le_of_ble_eq_true rfl, Nat.le_of_ble_eq_true rfl, Nat.le_of_ble_eq_true rfl⟩ dX6_baking_36 ?_
        refine x_istore (pc := 39) (i := 5) K dX6_baking_39 rfl (by decide) ?_
        refine x_aload_n (pc := 41) (i := 0) K dX6_baking_41 rfl rfl ?_
        refine gf_X6_19 (pc := 42)  K dX6_baking_42 ?_
        refine x_aload_n (pc := 45) (i := 0) K dX6_baking_45 rfl rfl ?_
        refine gf_X6_10 (pc := 46)  K dX6_baking_46 ?_
        refine x_V1v (pc := 49) K (c_yX0_takeFrom (by decide) (by decide) (by decide) (hBk 0 (by decide))) mw_yX0_takeFrom ⟨im_yX0_takeFrom, se_yX0_takeFrom⟩ mk_X6_200 (rc_D (by decide)) rfl ⟨Nat.le_of_ble_eq_true rfl, Nat.le_of_ble_eq_true rfl, Nat.le_of_ble_eq_true rfl⟩ dX6_baking_49 ?_
        refine x_aload_n (pc := 52) (i := 0) K dX6_baking_52 rfl rfl ?_
        refine gf_X6_19 (pc := 53)  K dX6_baking_53 ?_
        refine x_V0v (pc := 56) K (c_yX0_bakeAllAnew (by decide) (q_take_1.trans hn) h9) mw_yX0_bakeAllAnew ⟨im_yX0_bakeAllAnew, se_yX0_bakeAllAnew⟩ mk_X6_204 (rc_D (by decide)) rfl ⟨Nat.le_of_ble_eq_true rfl, Nat.le_of_ble_eq_true rfl, Nat.le_of_ble_eq_true rfl⟩ dX6_baking_56 ?_
        refine x_aload_n (pc := 59) (i := 0) K dX6_baking_59 rfl rfl ?_
        refine gf_X6_19 (pc := 60)  K dX6_baking_60 ?_
        refine x_iload_n (pc := 63) (i := 3) K dX6_baking_63 rfl rfl ?_
        refine x_V1i (pc := 64) K (c_yX0_bearing (α := q_bkT α n) (by decide) (q_bkT_2.trans hn) h9) mw_yX0_bearing ⟨im_yX0_bearing, se_yX0_bearing⟩ mk_X6_190 (rc_D (by decide)) rfl ⟨Nat.le_of_ble_eq_true rfl, Nat.le_of_ble_eq_true rfl, Nat.le_of_ble_eq_true rfl⟩ dX6_baking_64 ?_
        refine x_istore (pc := 67) (i := 6) K dX6_baking_67 rfl (by decide) ?_
        refine x_iconst (pc := 69) (v := (-1)) K dX6_baking_69 (by decide) ?_
        refine x_istore (pc := 70) (i := 7) K dX6_baking_70 rfl (by decide) ?_
        refine x_iconst (pc := 72) (v := 0) K dX6_baking_72 (by decide) ?_
        refine x_istore (pc := 73) (i := 8) K dX6_baking_73 rfl (by decide) ?_
        refine x_iconst (pc := 75) (v := 0) K dX6_baking_75 (by decide) ?_
        refine x_istore (pc := 76) (i := 9) K dX6_baking_76 rfl (by decide) ?_
        have hnc : (α (idD 0) 1).toNatClampNeg = n := by rw [hn]; exact nI_clamp (by omega)
        refine l_baking (T := q_bkT α n) K (q_bkT_D.trans hn) h9 (2 ^ n) 0 none (by omega) (fun y => ?_)
        rw [show q_bk (q_bkT α n) n (q_bset α 0 load n) (q_bset (q_bkT α n) 2 load n) a b (2 ^ n) = q_bkR α n a b load from rfl]
        refine x_iload (pc := 154) (i := 7) K dX6_baking_154 rfl ?_
        refine x_if_ge (pc := 156) (tgt := 165) K dX6_baking_156 (by decide) (fun c_156 => ?_) (fun c_156 => ?_)
        · refine x_iload (pc := 165) (i := 4) K dX6_baking_165 rfl ?_
          refine x_if_ne (pc := 167) (tgt := 175) K dX6_baking_167 (by decide) (fun c_167 => ?_) (fun c_167 => ?_)
          · refine x_iload (pc := 175) (i := 7) K dX6_baking_175 rfl ?_
            exact x_iretI (pc := 177) K dX6_baking_177 ⟨by simp (decide := true) only [f_baking, q_errP, c_5, c_12, c_22, if_pos c_156, if_neg c_167, ↓reduceIte, Bool.false_eq_true, bI_t, bI_f, hnc], by simp (decide := true) only [f_baking, q_errP, c_5, c_12, c_22, if_pos c_156, if_neg c_167, ↓reduceIte, Bool.false_eq_true, bI_t, bI_f, hnc], rfl⟩
          · refine x_iload (pc := 170) (i := 8) K dX6_baking_170 rfl ?_
            refine x_goto (pc := 172) (tgt := 177) K dX6_baking_172 (by decide) ?_
            exact x_iretI (pc := 177) K dX6_baking_177 ⟨by simp (decide := true) only [f_baking, q_errP, c_5, c_12, c_22, if_pos c_156, if_pos c_167, ↓reduceIte, Bool.false_eq_true, bI_t, bI_f, hnc], by simp (decide := true) only [f_baking, q_errP, c_5, c_12, c_22, if_pos c_156, if_pos c_167, ↓reduceIte, Bool.false_eq_true, bI_t, bI_f, hnc], rfl⟩
        · refine x_aload_n (pc := 159) (i := 0) K dX6_baking_159 rfl rfl ?_
          refine x_iconst (pc := 160) (v := 2) K dX6_baking_160 (by decide) ?_
          refine x_V1i (pc := 161) K (c_yX6_error (j := 2) (by decide)) mw_yX6_error ⟨im_yX6_error, se_yX6_error⟩ mk_X6_59 rc_B rfl ⟨Nat.le_of_ble_eq_true rfl, Nat.le_of_ble_eq_true rfl, Nat.le_of_ble_eq_true rfl⟩ dX6_baking_161 ?_
          exact x_iretI (pc := 164) K dX6_baking_164 ⟨by simp (decide := true) only [f_baking, q_errP, c_5, c_12, c_22, if_neg c_156, ↓reduceIte, Bool.false_eq_true, bI_t, bI_f, hnc], by simp (decide := true) only [f_baking, q_errP, c_5, c_12, c_22, if_neg c_156, ↓reduceIte, Bool.false_eq_true, bI_t, bI_f, hnc], rfl⟩
      · refine x_aload_n (pc := 25) (i := 0) K dX6_baking_25 rfl rfl ?_
        refine x_iconst (pc := 26) (v := 1) K dX6_baking_26 (by decide) ?_
        refine x_V1i (pc := 27) K (c_yX6_error (j := 1) (by decide)) mw_yX6_error ⟨im_yX6_error, se_yX6_error⟩ mk_X6_59 rc_B rfl ⟨Nat.le_of_ble_eq_true rfl, Nat.le_of_ble_eq_true rfl, Nat.le_of_ble_eq_true rfl⟩ dX6_baking_27 ?_
        exact x_iretI (pc := 30) K dX6_baking_30 ⟨by simp (decide := true) only [f_baking, q_errP, c_5, c_12, c_22, ↓reduceIte, Bool.false_eq_true, bI_t, bI_f], by simp (decide := true) only [f_baking, q_errP, c_5, c_12, c_22, ↓reduceIte, Bool.false_eq_true, bI_t, bI_f], rfl⟩

set_option maxRecDepth 100000 in
set_option maxHeartbeats 4000000 in
theorem l_lasts {l : Launch} {G : Gm} {C : Cx} {n : Nat} {a b load : Int32} {ρ : Af} (K : Ok l 100 G C RX6 cX6_lasts (some .int) 5) (h9 : n ≤ 9) : ∀ (j i : Nat) (β : Af), β (idD 2) 1 = nI n → Lk β 2 → i + j = 61 → ∀ T, q_la n load a b j i β = T → X 1 l 100 G C (PI T.1 T.2 ρ) 5 35 [some (.ref (gA G idB)), some (.int a), some (.int b), some (.int load), some (.int (nI i))] [] β ρ := by
  intro j
  induction j with
  | zero =>
    intro i β hn hk hi T hT
    refine x_iload (pc := 35) (i := 4) K dX6_lasts_35 rfl ?_
    refine x_bipush (pc := 37) (v := 60) K dX6_lasts_37 (by decide) ?_
    refine x_icmp_gt (pc := 39) (tgt := 78) K dX6_lasts_39 (by decide) (fun c_39 => ?_) (fun c_39 => ?_)
    · refine x_aload_n (pc := 78) (i := 0) K dX6_lasts_78 rfl rfl ?_
      refine x_iconst (pc := 79) (v := 2) K dX6_lasts_79 (by decide) ?_
      refine x_V1i (pc := 80) K (c_yX6_error (j := 2) (by decide)) mw_yX6_error ⟨im_yX6_error, se_yX6_error⟩ mk_X6_59 rc_B rfl ⟨Nat.le_of_ble_eq_true rfl, Nat.le_of_ble_eq_true rfl, Nat.le_of_ble_eq_true rfl⟩ dX6_lasts_80 ?_
      exact x_iretI (pc := 83) K dX6_lasts_83 ⟨by rw [← hT]; rfl, by rw [← hT]; rfl, rfl⟩
    · exact absurd (by rw [show i = 61 by omega]; decide) c_39
  | succ j ih =>
    intro i β hn hk hi T hT
    refine x_iload (pc := 35) (i := 4) K dX6_lasts_35 rfl ?_
    refine x_bipush (pc := 37) (v := 60) K dX6_lasts_37 (by decide) ?_
    refine x_icmp_gt (pc := 39) (tgt := 78) K dX6_lasts_39 (by decide) (fun c_39 => ?_) (fun c_39 => ?_)
    · exact absurd ((nI_ltI (a := 60) (b := i) (by decide) (by omega)).mp c_39) (by omega)
    · refine x_aload_n (pc := 42) (i := 0) K dX6_lasts_42 rfl rfl ?_
      refine gf_X6_19 (pc := 43)  K dX6_lasts_43 ?_
      refine x_iload_n (pc := 46) (i := 1) K dX6_lasts_46 rfl rfl ?_
      refine x_iload_n (pc := 47) (i := 2) K dX6_lasts_47 rfl rfl ?_
      refine x_aload_n (pc := 48) (i := 0) K dX6_lasts_48 rfl rfl ?_
      refine gf_X6_19 (pc := 49)  K dX6_lasts_49 ?_
      refine x_iload_n (pc := 52) (i := 3) K dX6_lasts_52 rfl rfl ?_
      refine x_V1i (pc := 53) K (c_yX0_bearing (by decide) hn h9) mw_yX0_bearing ⟨im_yX0_bearing, se_yX0_bearing⟩ mk_X6_190 (rc_D (by decide)) rfl ⟨Nat.le_of_ble_eq_true rfl, Nat.le_of_ble_eq_true rfl, Nat.le_of_ble_eq_true rfl⟩ dX6_lasts_53 ?_
      refine x_V3i (pc := 56) K (c_yX0_joins (by decide) hn h9) mw_yX0_joins ⟨im_yX0_joins, se_yX0_joins⟩ mk_X6_197 (rc_D (by decide)) rfl ⟨Nat.le_of_ble_eq_true rfl, Nat.le_of_ble_eq_true rfl, Nat.le_of_ble_eq_true rfl⟩ dX6_lasts_56 ?_
      refine x_ifne_b (pc := 59) (tgt := 65) K dX6_lasts_59 (by decide) (fun c_59 => ?_) (fun c_59 => ?_)
      · refine x_aload_n (pc := 65) (i := 0) K dX6_lasts_65 rfl rfl ?_
        refine gf_X6_19 (pc := 66)  K dX6_lasts_66 ?_
        refine x_V0v (pc := 69) K (c_yX0_passDay (by decide) hn h9 hk) mw_yX0_passDay ⟨im_yX0_passDay, se_yX0_passDay⟩ mk_X6_178 (rc_D (by decide)) rfl ⟨Nat.le_of_ble_eq_true rfl, Nat.le_of_ble_eq_true rfl, Nat.le_of_ble_eq_true rfl⟩ dX6_lasts_69 ?_
        refine x_iinc (pc := 72) (i := 4) (v := nI (i + 1)) K dX6_lasts_72 rfl (nI_1 _) rfl ?_
        refine x_goto (pc := 75) (tgt := 35) K dX6_lasts_75 (by decide) ?_
        exact ih (i + 1) (q_day β 2 n) ((q_day_D (by decide) (by decide)).trans hn) (hk.day (by decide)) (by omega) T (by rw [← hT]; simp only [q_la, c_59, ↓reduceIte])
      · refine x_iload (pc := 62) (i := 4) K dX6_lasts_62 rfl ?_
        exact x_iretI (pc := 64) K dX6_lasts_64 ⟨by rw [← hT]; simp only [q_la, c_59, ↓reduceIte, Bool.false_eq_true], by rw [← hT]; simp only [q_la, c_59, ↓reduceIte, Bool.false_eq_true], rfl⟩

def f_lasts (α : Af) (a b load : Int32) : Int32 × Af := if q_areTwo a b = true then (if q_isLoad load = true then q_la (α (idD 0) 1).toNatClampNeg load a b 61 0 (q_take α 2 0) else q_errP α 1) else q_errP α 1
set_option maxRecDepth 100000 in
set_option maxHeartbeats 4000000 in
theorem c_yX6_lasts {l : Launch} {G : Gm} {α ρ : Af} {a b load : Int32} (hI : IC α) : CI 1 l G yX6_lasts (Cond.code yX6_lasts cX6_lasts 5 (some .int)) 100 [.ref (gA G idB), .int a, .int b, .int load] α ρ (PI (f_lasts α a b load).1 (f_lasts α a b load).2 ρ) := by
  obtain ⟨⟨n, h9, hn⟩, hLk, hBk, hV, ⟨t, h60, ht⟩, ⟨w, h24, hw⟩, hSh, hRb, hTp⟩ := hI
  refine CI.of [some (.ref (gA G idB)), some (.int a), some (.int b), some (.int load), none] (by decide) (Nat.le_of_ble_eq_true rfl) rfl rfl (fun C K => ?_)
  have K : Ok l _ G C RX6 cX6_lasts (some .int) 5 := K
  refine x_iload_n (pc := 0) (i := 1) K dX6_lasts_0 rfl rfl ?_
  refine x_iload_n (pc := 1) (i := 2) K dX6_lasts_1 rfl rfl ?_
  refine x_S2i (pc := 2) K (c_yX6_areTwoPlaces) mw_yX6_areTwoPlaces st_yX6_areTwoPlaces mk_X6_55 ⟨Nat.le_of_ble_eq_true rfl, Nat.le_of_ble_eq_true rfl, Nat.le_of_ble_eq_true rfl⟩ dX6_lasts_2 ?_
  refine x_ifeq_b (pc := 5) (tgt := 15) K dX6_lasts_5 (by decide) (fun c_5 => ?_) (fun c_5 => ?_)
  · refine x_aload_n (pc := 15) (i := 0) K dX6_lasts_15 rfl rfl ?_
    refine x_iconst (pc := 16) (v := 1) K dX6_lasts_16 (by decide) ?_
    refine x_V1i (pc := 17) K (c_yX6_error (j := 1) (by decide)) mw_yX6_error ⟨im_yX6_error, se_yX6_error⟩ mk_X6_59 rc_B rfl ⟨Nat.le_of_ble_eq_true rfl, Nat.le_of_ble_eq_true rfl, Nat.le_of_ble_eq_true rfl⟩ dX6_lasts_17 ?_
    exact x_iretI (pc := 20) K dX6_lasts_20 ⟨by simp (decide := true) only [f_lasts, q_errP, c_5, ↓reduceIte, Bool.false_eq_true, bI_t, bI_f], by simp (decide := true) only [f_lasts, q_errP, c_5, ↓reduceIte, Bool.false_eq_true, bI_t, bI_f], rfl⟩
  · refine x_iload_n (pc := 8) (i := 3) K dX6_lasts_8 rfl rfl ?_
    refine x_S1i (pc := 9) K (c_yX6_isLoad) mw_yX6_isLoad st_yX6_isLoad mk_X6_127 ⟨Nat.le_of_ble_eq_true rfl, Nat.le_of_ble_eq_true rfl, Nat.le_of_ble_eq_true rfl⟩ dX6_lasts_9 ?_
    refine x_ifne_b (pc := 12) (tgt := 21) K dX6_lasts_12 (by decide) (fun c_12 => ?_) (fun c_12 => ?_)
    · refine x_aload_n (pc := 21) (i := 0) K dX6_lasts_21 rfl rfl ?_
      refine gf_X6_19 (pc := 22)  K dX6_lasts_22 ?_
      refine x_aload_n (pc := 25) (i := 0) K dX6_lasts_25 rfl rfl ?_
      refine gf_X6_10 (pc := 26)  K dX6_lasts_26 ?_
      refine x_V1v (pc := 29) K (c_yX0_takeFrom (by decide) (by decide) (by decide) (hBk 0 (by decide))) mw_yX0_takeFrom ⟨im_yX0_takeFrom, se_yX0_takeFrom⟩ mk_X6_200 (rc_D (by decide)) rfl ⟨Nat.le_of_ble_eq_true rfl, Nat.le_of_ble_eq_true rfl, Nat.le_of_ble_eq_true rfl⟩ dX6_lasts_29 ?_
      refine x_iconst (pc := 32) (v := 0) K dX6_lasts_32 (by decide) ?_
      refine x_istore (pc := 33) (i := 4) K dX6_lasts_33 rfl (by decide) ?_
      have hnc : (α (idD 0) 1).toNatClampNeg = n := by rw [hn]; exact nI_clamp (by omega)
      exact l_lasts K h9 61 0 (q_take α 2 0) (q_take_1.trans hn) ((hLk 0 (by decide)).take (by decide) (by decide) (by decide)) (by omega) _ (by simp only [f_lasts, c_5, c_12, hnc, ↓reduceIte])
    · refine x_aload_n (pc := 15) (i := 0) K dX6_lasts_15 rfl rfl ?_
      refine x_iconst (pc := 16) (v := 1) K dX6_lasts_16 (by decide) ?_
      refine x_V1i (pc := 17) K (c_yX6_error (j := 1) (by decide)) mw_yX6_error ⟨im_yX6_error, se_yX6_error⟩ mk_X6_59 rc_B rfl ⟨Nat.le_of_ble_eq_true rfl, Nat.le_of_ble_eq_true rfl, Nat.le_of_ble_eq_true rfl⟩ dX6_lasts_17 ?_
      exact x_iretI (pc := 20) K dX6_lasts_20 ⟨by simp (decide := true) only [f_lasts, q_errP, c_5, c_12, ↓reduceIte, Bool.false_eq_true, bI_t, bI_f], by simp (decide := true) only [f_lasts, q_errP, c_5, c_12, ↓reduceIte, Bool.false_eq_true, bI_t, bI_f], rfl⟩

set_option maxRecDepth 100000 in
set_option maxHeartbeats 4000000 in
theorem l_then {l : Launch} {G : Gm} {C : Cx} {P : Po} {n m : Nat} {v : Int32} {β ρ : Af} (K : Ok l 100 G C RX6 cX6_then (some .int) 4) (hn : β (idD 2) 1 = nI n) (h9 : n ≤ 9) (hk : Lk β 2) (hm : m ≤ 60) : ∀ (j i : Nat), i + j = m → X 1 l 100 G C (P) 4 58 [some (.ref (gA G idB)), some (.int v), some (.int (nI m)), some (.int (nI m))] [] (q_dayN β 2 n m) ρ → X 1 l 100 G C (P) 4 40 [some (.ref (gA G idB)), some (.int v), some (.int (nI m)), some (.int (nI i))] [] (q_dayN β 2 n i) ρ := by
  intro j
  induction j with
  | zero =>
    intro i hi hx
    refine x_iload_n (pc := 40) (i := 3) K dX6_then_40 rfl rfl ?_
    refine x_iload_n (pc := 41) (i := 2) K dX6_then_41 rfl rfl ?_
    refine x_icmp_ge (pc := 42) (tgt := 58) K dX6_then_42 (by decide) (fun c_42 => ?_) (fun c_42 => ?_)
    · obtain rfl : i = m := by omega
      exact hx
    · exact absurd (nI_le (by omega) (by omega)) c_42
  | succ j ih =>
    intro i hi hx
    refine x_iload_n (pc := 40) (i := 3) K dX6_then_40 rfl rfl ?_
    refine x_iload_n (pc := 41) (i := 2) K dX6_then_41 rfl rfl ?_
    refine x_icmp_ge (pc := 42) (tgt := 58) K dX6_then_42 (by decide) (fun c_42 => ?_) (fun c_42 => ?_)
    · exact (nI_ge (a := i) (b := m) (by omega) (by omega) c_42).elim
    · refine x_aload_n (pc := 45) (i := 0) K dX6_then_45 rfl rfl ?_
      refine gf_X6_19 (pc := 46)  K dX6_then_46 ?_
      refine x_V0v (pc := 49) K (c_yX0_passDay (α := q_dayN β 2 n i) (by decide) ((q_dayN_D (by decide) (by decide) i).trans hn) h9 (hk.dayN (by decide))) mw_yX0_passDay ⟨im_yX0_passDay, se_yX0_passDay⟩ mk_X6_178 (rc_D (by decide)) rfl ⟨Nat.le_of_ble_eq_true rfl, Nat.le_of_ble_eq_true rfl, Nat.le_of_ble_eq_true rfl⟩ dX6_then_49 ?_
      refine x_iinc (pc := 52) (i := 3) (v := nI (i + 1)) K dX6_then_52 rfl (nI_1 _) rfl ?_
      refine x_goto (pc := 55) (tgt := 40) K dX6_then_55 (by decide) ?_
      exact ih (i + 1) (by omega) hx

def f_then (α : Af) (span v : Int32) : Int32 × Af := if q_within span 0 (α (idD 0) 1 - 1) = true then (if q_within v 0 60 = true then (q_bearsU (q_dayN (q_take α 2 0) 2 (α (idD 0) 1).toNatClampNeg v.toNatClampNeg) 2 span.toNatClampNeg, q_dayN (q_take α 2 0) 2 (α (idD 0) 1).toNatClampNeg v.toNatClampNeg) else q_errP α 1) else q_errP α 1
set_option maxRecDepth 100000 in
set_option maxHeartbeats 4000000 in
theorem c_yX6_then {l : Launch} {G : Gm} {α ρ : Af} {span v : Int32} (hI : IC α) : CI 1 l G yX6_then (Cond.code yX6_then cX6_then 4 (some .int)) 100 [.ref (gA G idB), .int span, .int v] α ρ (PI (f_then α span v).1 (f_then α span v).2 ρ) := by
  obtain ⟨⟨n, h9, hn⟩, hLk, hBk, hV, ⟨t, h60, ht⟩, ⟨w, h24, hw⟩, hSh, hRb, hTp⟩ := hI
  refine CI.of [some (.ref (gA G idB)), some (.int span), some (.int v), none] (by decide) (Nat.le_of_ble_eq_true rfl) rfl rfl (fun C K => ?_)
  have K : Ok l _ G C RX6 cX6_then (some .int) 4 := K
  refine x_aload_n (pc := 0) (i := 0) K dX6_then_0 rfl rfl ?_
  refine gf_X6_10 (pc := 1)  K dX6_then_1 ?_
  refine x_iload_n (pc := 4) (i := 1) K dX6_then_4 rfl rfl ?_
  refine x_V1i (pc := 5) K (c_yX0_hasSpan (by decide)) mw_yX0_hasSpan ⟨im_yX0_hasSpan, se_yX0_hasSpan⟩ mk_X6_70 (rc_D (by decide)) rfl ⟨Nat.le_of_ble_eq_true rfl, Nat.le_of_ble_eq_true rfl, Nat.le_of_ble_eq_true rfl⟩ dX6_then_5 ?_
  refine x_ifeq_b (pc := 8) (tgt := 21) K dX6_then_8 (by decide) (fun c_8 => ?_) (fun c_8 => ?_)
  · refine x_aload_n (pc := 21) (i := 0) K dX6_then_21 rfl rfl ?_
    refine x_iconst (pc := 22) (v := 1) K dX6_then_22 (by decide) ?_
    refine x_V1i (pc := 23) K (c_yX6_error (j := 1) (by decide)) mw_yX6_error ⟨im_yX6_error, se_yX6_error⟩ mk_X6_59 rc_B rfl ⟨Nat.le_of_ble_eq_true rfl, Nat.le_of_ble_eq_true rfl, Nat.le_of_ble_eq_true rfl⟩ dX6_then_23 ?_
    exact x_iretI (pc := 26) K dX6_then_26 ⟨by simp (decide := true) only [f_then, q_errP, c_8, ↓reduceIte, Bool.false_eq_true, bI_t, bI_f], by simp (decide := true) only [f_then, q_errP, c_8, ↓reduceIte, Bool.false_eq_true, bI_t, bI_f], rfl⟩
  · refine x_iload_n (pc := 11) (i := 2) K dX6_then_11 rfl rfl ?_
    refine x_iconst (pc := 12) (v := 0) K dX6_then_12 (by decide) ?_
    refine x_bipush (pc := 13) (v := 60) K dX6_then_13 (by decide) ?_
    refine x_S3i (pc := 15) K (c_yX6_within) mw_yX6_within st_yX6_within mk_X6_73 ⟨Nat.le_of_ble_eq_true rfl, Nat.le_of_ble_eq_true rfl, Nat.le_of_ble_eq_true rfl⟩ dX6_then_15 ?_
    refine x_ifne_b (pc := 18) (tgt := 27) K dX6_then_18 (by decide) (fun c_18 => ?_) (fun c_18 => ?_)
    · obtain ⟨j, hj, rfl⟩ := hs_of (v := span) (n := n) (by omega) (by rw [← hn]; exact c_8)
      have hj9 : j < 9 := by omega
      have hjc : (nI j).toNatClampNeg = j := nI_clamp (by omega)
      obtain ⟨m, hlom, hhim, rfl⟩ := wi_of (v := v) (a := 0) (b := 60) rfl rfl (by decide) (by decide) c_18
      have hcm : (nI m).toNatClampNeg = m := nI_clamp (by omega)
      refine x_aload_n (pc := 27) (i := 0) K dX6_then_27 rfl rfl ?_
      refine gf_X6_19 (pc := 28)  K dX6_then_28 ?_
      refine x_aload_n (pc := 31) (i := 0) K dX6_then_31 rfl rfl ?_
      refine gf_X6_10 (pc := 32)  K dX6_then_32 ?_
      refine x_V1v (pc := 35) K (c_yX0_takeFrom (by decide) (by decide) (by decide) (hBk 0 (by decide))) mw_yX0_takeFrom ⟨im_yX0_takeFrom, se_yX0_takeFrom⟩ mk_X6_200 (rc_D (by decide)) rfl ⟨Nat.le_of_ble_eq_true rfl, Nat.le_of_ble_eq_true rfl, Nat.le_of_ble_eq_true rfl⟩ dX6_then_35 ?_
      refine x_iconst (pc := 38) (v := 0) K dX6_then_38 (by decide) ?_
      refine x_istore_n (pc := 39) (i := 3) K dX6_then_39 rfl rfl (by decide) ?_
      have hnc : (α (idD 0) 1).toNatClampNeg = n := by rw [hn]; exact nI_clamp (by omega)
      refine l_then K (q_take_1.trans hn) h9 ((hLk 0 (by decide)).take (by decide) (by decide) (by decide)) hhim m 0 (by omega) ?_
      refine x_aload_n (pc := 58) (i := 0) K dX6_then_58 rfl rfl ?_
      refine gf_X6_19 (pc := 59)  K dX6_then_59 ?_
      refine gf_X6_77 (pc := 62) (by decide) K dX6_then_62 ?_
      refine x_iload_n (pc := 65) (i := 1) K dX6_then_65 rfl rfl ?_
      refine ab_Sp (pc := 66) (by decide) j hj9 K dX6_then_66 ?_
      refine x_aload_n (pc := 67) (i := 0) K dX6_then_67 rfl rfl ?_
      refine gf_X6_19 (pc := 68)  K dX6_then_68 ?_
      refine gf_X6_105 (pc := 71) (by decide) K dX6_then_71 ?_
      refine x_V1i (pc := 74) K (c1_bears (by decide) hj9) mw_yX4_bearsOn ⟨im_yX4_bearsOn, se_yX4_bearsOn⟩ mk_X6_108 (rc_S (by decide) hj9) rfl ⟨Nat.le_of_ble_eq_true rfl, Nat.le_of_ble_eq_true rfl, Nat.le_of_ble_eq_true rfl⟩ dX6_then_74 ?_
      exact x_iretI (pc := 77) K dX6_then_77 ⟨by simp (decide := true) only [f_then, q_errP, c_8, c_18, ↓reduceIte, Bool.false_eq_true, bI_t, bI_f, hnc, hjc, hcm], by simp (decide := true) only [f_then, q_errP, c_8, c_18, ↓reduceIte, Bool.false_eq_true, bI_t, bI_f, hnc, hjc, hcm], rfl⟩
    · refine x_aload_n (pc := 21) (i := 0) K dX6_then_21 rfl rfl ?_
      refine x_iconst (pc := 22) (v := 1) K dX6_then_22 (by decide) ?_
      refine x_V1i (pc := 23) K (c_yX6_error (j := 1) (by decide)) mw_yX6_error ⟨im_yX6_error, se_yX6_error⟩ mk_X6_59 rc_B rfl ⟨Nat.le_of_ble_eq_true rfl, Nat.le_of_ble_eq_true rfl, Nat.le_of_ble_eq_true rfl⟩ dX6_then_23 ?_
      exact x_iretI (pc := 26) K dX6_then_26 ⟨by simp (decide := true) only [f_then, q_errP, c_8, c_18, ↓reduceIte, Bool.false_eq_true, bI_t, bI_f], by simp (decide := true) only [f_then, q_errP, c_8, c_18, ↓reduceIte, Bool.false_eq_true, bI_t, bI_f], rfl⟩

/-- what odds keeps from round to round -/
def Kp (α : Af) (n : Nat) : Prop := α (idD 0) 1 = nI n ∧ Lk α 0 ∧ Bk α 0
theorem q_odT_ne {β : Af} {n i k : Nat} (h1 : k ≠ idD 2) (h2 : ∀ u, u < 9 → k ≠ idS 2 u) (h3 : ∀ u, u < 2 → k ≠ idL 2 u ∧ k ≠ idLc 2 u) (h4 : k ≠ idTp 2) (h5 : k ≠ idWt 2) (h9 : n ≤ 9) : q_odT β n i k = β k := by
  unfold q_odT
  rw [q_day_ne h1 (fun u hu => h2 u (by omega)), up_ne h1, q_take_ne h1 h2 h3 h4 h5]
theorem Kp.odT {β : Af} {n i : Nat} (h9 : n ≤ 9) (h : Kp β n) : Kp (q_odT β n i) n := by
  obtain ⟨h1, h2, h3, h4, h5⟩ := h
  refine ⟨?_, h2.of (fun u hu => ?_), fun u hu => ?_, fun u hu => ?_, fun j hj => ?_⟩
  · rw [q_odT_ne (by decide) (fun _ _ => nS_D (by decide)) (fun u hu => ⟨nL_D (by decide), nLc_D (by decide)⟩) (by decide) (by decide) h9]; exact h1
  · exact q_odT_ne (nD_L (by decide)) (fun _ _ => nS_L (by decide) hu) (fun v hv => ⟨by unfold idL; omega, by unfold idL idLc; omega⟩) (by unfold idL idTp; omega) (by unfold idL idWt; omega) h9
  · rw [q_odT_ne (nD_S (by decide)) (fun v hv => nSS (by decide) hu hv) (fun v hv => ⟨by unfold idS idL; omega, by unfold idS idLc; omega⟩) (by unfold idS idTp; omega) (by unfold idS idWt; omega) h9]; exact h3 u hu
  · rw [q_odT_ne (nD_L (by decide)) (fun _ _ => nS_L (by decide) hu) (fun v hv => ⟨by unfold idL; omega, by unfold idL idLc; omega⟩) (by unfold idL idTp; omega) (by unfold idL idWt; omega) h9]; exact h4 u hu
  · rw [q_odT_ne (by decide) (fun v hv => by unfold idS idTp; omega) (fun v hv => ⟨by unfold idL idTp; omega, by unfold idLc idTp; omega⟩) (by decide) (by decide) h9]; exact h5 j hj
theorem Kp.od {α : Af} {n : Nat} {load a b : Int32} (h9 : n ≤ 9) (h : Kp α n) : ∀ i, Kp (q_od α n load a b i).2 n
  | 0 => h
  | i + 1 => by simp only [q_od]; exact (Kp.od h9 h i).odT h9
def q_od1 (β : Af) (i : Nat) : Af := up (q_take β 2 0) (idD 2) 2 (nI i)
theorem q_od1_1 {β : Af} {n i : Nat} (h : Kp β n) : q_od1 β i (idD 2) 1 = nI n := by unfold q_od1; rw [up_ne2 (by decide), q_take_1]; exact h.1
theorem q_od1_L {β : Af} {n i : Nat} (h : Kp β n) : Lk (q_od1 β i) 2 := (h.2.1.take (e := 2) (by decide) (by decide) (by decide)).of (fun u hu => up_ne (nD_L (by decide)))
theorem q_odT_1 {β : Af} {n i : Nat} (h : Kp β n) : q_odT β n i (idD 2) 1 = nI n := (q_day_D (by decide) (by decide)).trans (q_od1_1 h)
def q_gcdM (x : Int32) : Int32 := if 1 < q_gcd x 10 10 then q_gcd x 10 10 else 1
theorem q_gcdM_0 {x : Int32} : ¬ q_gcdM x = 0 := by
  unfold q_gcdM
  by_cases c : 1 < q_gcd x 10 10
  · rw [if_pos c]
    intro h
    rw [h] at c
    exact absurd c (by decide)
  · rw [if_neg c]; decide
set_option maxRecDepth 100000 in
set_option maxHeartbeats 4000000 in
theorem l_odds {l : Launch} {G : Gm} {C : Cx} {P : Po} {n : Nat} {a b load part : Int32} {α ρ : Af} (K : Ok l 100 G C RX6 cX6_odds (some .int) 8) (hK : Kp α n) (h9 : n ≤ 9) : ∀ (j i : Nat), i + j = 10 → X 1 l 100 G C (P) 8 100 [some (.ref (gA G idB)), some (.int a), some (.int b), some (.int load), some (.int part), some (.int (q_od α n load a b 10).1), some (.int (nI 10)), none] [] (q_od α n load a b 10).2 ρ → X 1 l 100 G C (P) 8 37 [some (.ref (gA G idB)), some (.int a), some (.int b), some (.int load), some (.int part), some (.int (q_od α n load a b i).1), some (.int (nI i)), none] [] (q_od α n load a b i).2 ρ := by
  intro j
  induction j with
  | zero =>
    intro i hi hx
    refine x_iload (pc := 37) (i := 6) K dX6_odds_37 rfl ?_
    refine x_bipush (pc := 39) (v := 9) K dX6_odds_39 (by decide) ?_
    refine x_icmp_gt (pc := 41) (tgt := 100) K dX6_odds_41 (by decide) (fun c_41 => ?_) (fun c_41 => ?_)
    · obtain rfl : i = 10 := by omega
      exact hx
    · exact absurd (by rw [show i = 10 by omega]; decide) c_41
  | succ j ih =>
    intro i hi hx
    refine x_iload (pc := 37) (i := 6) K dX6_odds_37 rfl ?_
    refine x_bipush (pc := 39) (v := 9) K dX6_odds_39 (by decide) ?_
    refine x_icmp_gt (pc := 41) (tgt := 100) K dX6_odds_41 (by decide) (fun c_41 => ?_) (fun c_41 => ?_)
    · exact absurd ((nI_ltI (a := 9) (b := i) (by decide) (by omega)).mp c_41) (by omega)
    · have hk : Kp (q_od α n load a b i).2 n := hK.od h9 i
      refine x_aload_n (pc := 44) (i := 0) K dX6_odds_44 rfl rfl ?_
      refine gf_X6_19 (pc := 45)  K dX6_odds_45 ?_
      refine x_aload_n (pc := 48) (i := 0) K dX6_odds_48 rfl rfl ?_
      refine gf_X6_10 (pc := 49)  K dX6_odds_49 ?_
      refine x_V1v (pc := 52) K (c_yX0_takeFrom (by decide) (by decide) (by decide) hk.2.2) mw_yX0_takeFrom ⟨im_yX0_takeFrom, se_yX0_takeFrom⟩ mk_X6_200 (rc_D (by decide)) rfl ⟨Nat.le_of_ble_eq_true rfl, Nat.le_of_ble_eq_true rfl, Nat.le_of_ble_eq_true rfl⟩ dX6_odds_52 ?_
      refine x_aload_n (pc := 55) (i := 0) K dX6_odds_55 rfl rfl ?_
      refine gf_X6_19 (pc := 56)  K dX6_odds_56 ?_
      refine x_iload (pc := 59) (i := 6) K dX6_odds_59 rfl ?_
      refine pf_X6_124 (pc := 61) (by decide) K dX6_odds_61 ?_
      refine x_st (a := q_od1 (q_od α n load a b i).2 i) rfl rfl ?_
      refine x_aload_n (pc := 64) (i := 0) K dX6_odds_64 rfl rfl ?_
      refine gf_X6_19 (pc := 65)  K dX6_odds_65 ?_
      refine x_V0v (pc := 68) K (c_yX0_passDay (by decide) (q_od1_1 hk) h9 (q_od1_L hk)) mw_yX0_passDay ⟨im_yX0_passDay, se_yX0_passDay⟩ mk_X6_178 (rc_D (by decide)) rfl ⟨Nat.le_of_ble_eq_true rfl, Nat.le_of_ble_eq_true rfl, Nat.le_of_ble_eq_true rfl⟩ dX6_odds_68 ?_
      refine x_st (a := q_odT (q_od α n load a b i).2 n i) rfl rfl ?_
      refine x_aload_n (pc := 71) (i := 0) K dX6_odds_71 rfl rfl ?_
      refine gf_X6_19 (pc := 72)  K dX6_odds_72 ?_
      refine x_iload_n (pc := 75) (i := 1) K dX6_odds_75 rfl rfl ?_
      refine x_iload_n (pc := 76) (i := 2) K dX6_odds_76 rfl rfl ?_
      refine x_aload_n (pc := 77) (i := 0) K dX6_odds_77 rfl rfl ?_
      refine gf_X6_19 (pc := 78)  K dX6_odds_78 ?_
      refine x_iload_n (pc := 81) (i := 3) K dX6_odds_81 rfl rfl ?_
      refine x_V1i (pc := 82) K (c_yX0_bearing (by decide) (q_odT_1 hk) h9) mw_yX0_bearing ⟨im_yX0_bearing, se_yX0_bearing⟩ mk_X6_190 (rc_D (by decide)) rfl ⟨Nat.le_of_ble_eq_true rfl, Nat.le_of_ble_eq_true rfl, Nat.le_of_ble_eq_true rfl⟩ dX6_odds_82 ?_
      refine x_V3i (pc := 85) K (c_yX0_joins (by decide) (q_odT_1 hk) h9) mw_yX0_joins ⟨im_yX0_joins, se_yX0_joins⟩ mk_X6_197 (rc_D (by decide)) rfl ⟨Nat.le_of_ble_eq_true rfl, Nat.le_of_ble_eq_true rfl, Nat.le_of_ble_eq_true rfl⟩ dX6_odds_85 ?_
      refine x_ifeq_b (pc := 88) (tgt := 94) K dX6_odds_88 (by decide) (fun c_88 => ?_) (fun c_88 => ?_)
      · refine x_iinc (pc := 94) (i := 6) (v := nI (i + 1)) K dX6_odds_94 rfl (nI_1 _) rfl ?_
        refine x_goto (pc := 97) (tgt := 37) K dX6_odds_97 (by decide) ?_
        have e1 : q_od α n load a b (i + 1) = ((q_od α n load a b i).1, q_odT (q_od α n load a b i).2 n i) := by simp only [q_od, c_88, ↓reduceIte, Bool.false_eq_true]
        have h2 := ih (i + 1) (by omega) hx
        rw [e1] at h2
        exact h2
      · refine x_iinc (pc := 91) (i := 5) K dX6_odds_91 rfl rfl rfl ?_
        refine x_iinc (pc := 94) (i := 6) (v := nI (i + 1)) K dX6_odds_94 rfl (nI_1 _) rfl ?_
        refine x_goto (pc := 97) (tgt := 37) K dX6_odds_97 (by decide) ?_
        have e1 : q_od α n load a b (i + 1) = ((q_od α n load a b i).1 + 1, q_odT (q_od α n load a b i).2 n i) := by simp only [q_od, c_88, ↓reduceIte, Bool.false_eq_true]
        have h2 := ih (i + 1) (by omega) hx
        rw [e1] at h2
        exact h2

def f_odds (α : Af) (a b load part : Int32) : Int32 × Af := if q_areTwo a b = true then (if q_isLoad load = true then (if q_within part 0 1 = true then (if part = 0 then (q_od α (α (idD 0) 1).toNatClampNeg load a b 10).1 / q_gcdM (q_od α (α (idD 0) 1).toNatClampNeg load a b 10).1 else 10 / q_gcdM (q_od α (α (idD 0) 1).toNatClampNeg load a b 10).1, (q_od α (α (idD 0) 1).toNatClampNeg load a b 10).2) else q_errP α 1) else q_errP α 1) else q_errP α 1
set_option maxRecDepth 100000 in
set_option maxHeartbeats 4000000 in
theorem c_yX6_odds {l : Launch} {G : Gm} {α ρ : Af} {a b load part : Int32} (hI : IC α) : CI 1 l G yX6_odds (Cond.code yX6_odds cX6_odds 8 (some .int)) 100 [.ref (gA G idB), .int a, .int b, .int load, .int part] α ρ (PI (f_odds α a b load part).1 (f_odds α a b load part).2 ρ) := by
  obtain ⟨⟨n, h9, hn⟩, hLk, hBk, hV, ⟨t, h60, ht⟩, ⟨w, h24, hw⟩, hSh, hRb, hTp⟩ := hI
  refine CI.of [some (.ref (gA G idB)), some (.int a), some (.int b), some (.int load), some (.int part), none, none, none] (by decide) (Nat.le_of_ble_eq_true rfl) rfl rfl (fun C K => ?_)
  have K : Ok l _ G C RX6 cX6_odds (some .int) 8 := K
  refine x_iload_n (pc := 0) (i := 1) K dX6_odds_0 rfl rfl ?_
  refine x_iload_n (pc := 1) (i := 2) K dX6_odds_1 rfl rfl ?_
  refine x_S2i (pc := 2) K (c_yX6_areTwoPlaces) mw_yX6_areTwoPlaces st_yX6_areTwoPlaces mk_X6_55 ⟨Nat.le_of_ble_eq_true rfl, Nat.le_of_ble_eq_true rfl, Nat.le_of_ble_eq_true rfl⟩ dX6_odds_2 ?_
  refine x_ifeq_b (pc := 5) (tgt := 25) K dX6_odds_5 (by decide) (fun c_5 => ?_) (fun c_5 => ?_)
  · refine x_aload_n (pc := 25) (i := 0) K dX6_odds_25 rfl rfl ?_
    refine x_iconst (pc := 26) (v := 1) K dX6_odds_26 (by decide) ?_
    refine x_V1i (pc := 27) K (c_yX6_error (j := 1) (by decide)) mw_yX6_error ⟨im_yX6_error, se_yX6_error⟩ mk_X6_59 rc_B rfl ⟨Nat.le_of_ble_eq_true rfl, Nat.le_of_ble_eq_true rfl, Nat.le_of_ble_eq_true rfl⟩ dX6_odds_27 ?_
    exact x_iretI (pc := 30) K dX6_odds_30 ⟨by simp (decide := true) only [f_odds, q_errP, c_5, ↓reduceIte, Bool.false_eq_true, bI_t, bI_f], by simp (decide := true) only [f_odds, q_errP, c_5, ↓reduceIte, Bool.false_eq_true, bI_t, bI_f], rfl⟩
  · refine x_iload_n (pc := 8) (i := 3) K dX6_odds_8 rfl rfl ?_
    refine x_S1i (pc := 9) K (c_yX6_isLoad) mw_yX6_isLoad st_yX6_isLoad mk_X6_127 ⟨Nat.le_of_ble_eq_true rfl, Nat.le_of_ble_eq_true rfl, Nat.le_of_ble_eq_true rfl⟩ dX6_odds_9 ?_
    refine x_ifeq_b (pc := 12) (tgt := 25) K dX6_odds_12 (by decide) (fun c_12 => ?_) (fun c_12 => ?_)
    · refine x_aload_n (pc := 25) (i := 0) K dX6_odds_25 rfl rfl ?_
      refine x_iconst (pc := 26) (v := 1) K dX6_odds_26 (by decide) ?_
      refine x_V1i (pc := 27) K (c_yX6_error (j := 1) (by decide)) mw_yX6_error ⟨im_yX6_error, se_yX6_error⟩ mk_X6_59 rc_B rfl ⟨Nat.le_of_ble_eq_true rfl, Nat.le_of_ble_eq_true rfl, Nat.le_of_ble_eq_true rfl⟩ dX6_odds_27 ?_
      exact x_iretI (pc := 30) K dX6_odds_30 ⟨by simp (decide := true) only [f_odds, q_errP, c_5, c_12, ↓reduceIte, Bool.false_eq_true, bI_t, bI_f], by simp (decide := true) only [f_odds, q_errP, c_5, c_12, ↓reduceIte, Bool.false_eq_true, bI_t, bI_f], rfl⟩
    · refine x_iload (pc := 15) (i := 4) K dX6_odds_15 rfl ?_
      refine x_iconst (pc := 17) (v := 0) K dX6_odds_17 (by decide) ?_
      refine x_iconst (pc := 18) (v := 1) K dX6_odds_18 (by decide) ?_
      refine x_S3i (pc := 19) K (c_yX6_within) mw_yX6_within st_yX6_within mk_X6_73 ⟨Nat.le_of_ble_eq_true rfl, Nat.le_of_ble_eq_true rfl, Nat.le_of_ble_eq_true rfl⟩ dX6_odds_19 ?_
      refine x_ifne_b (pc := 22) (tgt := 31) K dX6_odds_22 (by decide) (fun c_22 => ?_) (fun c_22 => ?_)
      · refine x_iconst (pc := 31) (v := 0) K dX6_odds_31 (by decide) ?_
        refine x_istore (pc := 32) (i := 5) K dX6_odds_32 rfl (by decide) ?_
        refine x_iconst (pc := 34) (v := 0) K dX6_odds_34 (by decide) ?_
        refine x_istore (pc := 35) (i := 6) K dX6_odds_35 rfl (by decide) ?_
        have hnc : (α (idD 0) 1).toNatClampNeg = n := by rw [hn]; exact nI_clamp (by omega)
        refine l_odds K ⟨hn, hLk 0 (by decide), hBk 0 (by decide)⟩ h9 10 0 (by omega) ?_
        refine x_bipush (pc := 100) (v := 10) K dX6_odds_100 (by decide) ?_
        refine x_istore (pc := 102) (i := 6) K dX6_odds_102 rfl (by decide) ?_
        refine x_iconst (pc := 104) (v := 1) K dX6_odds_104 (by decide) ?_
        refine x_iload (pc := 105) (i := 5) K dX6_odds_105 rfl ?_
        refine x_iload (pc := 107) (i := 6) K dX6_odds_107 rfl ?_
        refine x_S2i (pc := 109) K (c_yX6_greatestCommon (m := 10) (by decide)) mw_yX6_greatestCommon st_yX6_greatestCommon mk_X6_215 ⟨Nat.le_of_ble_eq_true rfl, Nat.le_of_ble_eq_true rfl, Nat.le_of_ble_eq_true rfl⟩ dX6_odds_109 ?_
        refine x_mmax (pc := 112) K mk_X6_218 ⟨Nat.le_of_ble_eq_true rfl, Nat.le_of_ble_eq_true rfl⟩ dX6_odds_112 ?_
        refine x_topi K (show _ = q_gcdM (q_od α n load a b 10).1 from rfl) ?_
        refine x_istore (pc := 115) (i := 7) K dX6_odds_115 rfl (by decide) ?_
        refine x_iload (pc := 117) (i := 4) K dX6_odds_117 rfl ?_
        refine x_if_ne (pc := 119) (tgt := 130) K dX6_odds_119 (by decide) (fun c_119 => ?_) (fun c_119 => ?_)
        · refine x_iload (pc := 130) (i := 6) K dX6_odds_130 rfl ?_
          refine x_iload (pc := 132) (i := 7) K dX6_odds_132 rfl ?_
          refine x_idiv (pc := 134) K dX6_odds_134 q_gcdM_0 ?_
          exact x_iretI (pc := 135) K dX6_odds_135 ⟨by simp (decide := true) only [f_odds, q_errP, c_5, c_12, c_22, if_neg c_119, ↓reduceIte, Bool.false_eq_true, bI_t, bI_f, hnc], by simp (decide := true) only [f_odds, q_errP, c_5, c_12, c_22, if_neg c_119, ↓reduceIte, Bool.false_eq_true, bI_t, bI_f, hnc], rfl⟩
        · refine x_iload (pc := 122) (i := 5) K dX6_odds_122 rfl ?_
          refine x_iload (pc := 124) (i := 7) K dX6_odds_124 rfl ?_
          refine x_idiv (pc := 126) K dX6_odds_126 q_gcdM_0 ?_
          refine x_goto (pc := 127) (tgt := 135) K dX6_odds_127 (by decide) ?_
          exact x_iretI (pc := 135) K dX6_odds_135 ⟨by simp (decide := true) only [f_odds, q_errP, c_5, c_12, c_22, if_pos c_119, ↓reduceIte, Bool.false_eq_true, bI_t, bI_f, hnc], by simp (decide := true) only [f_odds, q_errP, c_5, c_12, c_22, if_pos c_119, ↓reduceIte, Bool.false_eq_true, bI_t, bI_f, hnc], rfl⟩
      · refine x_aload_n (pc := 25) (i := 0) K dX6_odds_25 rfl rfl ?_
        refine x_iconst (pc := 26) (v := 1) K dX6_odds_26 (by decide) ?_
        refine x_V1i (pc := 27) K (c_yX6_error (j := 1) (by decide)) mw_yX6_error ⟨im_yX6_error, se_yX6_error⟩ mk_X6_59 rc_B rfl ⟨Nat.le_of_ble_eq_true rfl, Nat.le_of_ble_eq_true rfl, Nat.le_of_ble_eq_true rfl⟩ dX6_odds_27 ?_
        exact x_iretI (pc := 30) K dX6_odds_30 ⟨by simp (decide := true) only [f_odds, q_errP, c_5, c_12, c_22, ↓reduceIte, Bool.false_eq_true, bI_t, bI_f], by simp (decide := true) only [f_odds, q_errP, c_5, c_12, c_22, ↓reduceIte, Bool.false_eq_true, bI_t, bI_f], rfl⟩
