theorem r_bearsU_of {r ρ : Af} {u : Nat} (h : r mRow = ρ mRow) : r_bearsU r u = r_bearsU ρ u := by unfold r_bearsU; rw [h]
theorem r_takesU_of {r ρ : Af} {u : Nat} (h : r mRow = ρ mRow) : r_takesU r u = r_takesU ρ u := by unfold r_takesU; rw [h]
theorem r_endsU_of {r ρ : Af} (h : r mRow = ρ mRow) : r_endsU r = r_endsU ρ := by funext u; unfold r_endsU; rw [h]
theorem r_flour_of {r ρ : Af} {set : Int32} (h : r mRow = ρ mRow) : ∀ n, r_flour r set n = r_flour ρ set n
  | 0 => rfl
  | n + 1 => by simp only [r_flour]; rw [r_flour_of h n, r_takesU_of h]
/-! baking -/
def r_bkB (ρ : Af) (set : Int32) (i : Nat) : Int32 := if jshr set (nI i) &&& 1 = 1 then r_bearsBy (ρ mRow (mS i 0)) (ρ mRow (mS i 1)) 0 0 (ρ mRow 0) else r_bearsU ρ i
def r_etB (ρ : Af) (set : Int32) (i : Nat) : Int32 := if jshr set (nI i) &&& 1 = 1 then -1 else r_bearsU ρ i
def r_fill (B : Nat → Int32) (ρ : Af) : Nat → Af
  | 0 => ρ
  | i + 1 => up (r_fill B ρ i) mBear i (B i)
theorem r_fill_ne {B : Nat → Int32} {ρ : Af} {i : Nat} (h : i ≠ mBear) : ∀ n, r_fill B ρ n i = ρ i
  | 0 => rfl
  | n + 1 => by simp only [r_fill]; rw [up_ne h, r_fill_ne h n]
def r_bkT (n : Nat) (a b load : Int32) (s : (Int32 × Int32) × Af) (i : Nat) : (Int32 × Int32) × Af := (if r_joins (r_endsU s.2) (r_fill (r_bkB s.2 (nI i)) s.2 n mBear) load n a b = true then (nI i, r_flour s.2 (nI i) n) else s.1, r_fill (r_bkB s.2 (nI i)) s.2 n)
def r_bk (ρ : Af) (n : Nat) (a b load : Int32) : Nat → (Int32 × Int32) × Af
  | 0 => ((-1, 0), ρ)
  | i + 1 => if (r_bk ρ n a b load i).1.1 < 0 then r_bkT n a b load (r_bk ρ n a b load i) i else if (r_bk ρ n a b load i).1.2 ≤ r_flour (r_bk ρ n a b load i).2 (nI i) n then r_bk ρ n a b load i else r_bkT n a b load (r_bk ρ n a b load i) i
theorem r_bk_ne {ρ : Af} {n : Nat} {a b load : Int32} {k : Nat} (h : k ≠ mBear) : ∀ i, (r_bk ρ n a b load i).2 k = ρ k
  | 0 => rfl
  | i + 1 => by
    simp only [r_bk]
    split
    · exact (r_fill_ne h n).trans (r_bk_ne h i)
    · split
      · exact r_bk_ne h i
      · exact (r_fill_ne h n).trans (r_bk_ne h i)
set_option maxRecDepth 100000 in
set_option maxHeartbeats 4000000 in
theorem l_bkF {l : Launch} {G : Gm} {C : Cx} {P : Po} {n a : Nat} {b load what x5 x6 x8 set : Int32} {α ρ : Af} (K : Ok l 100 G C RX7 cX7_baking (some .int) 10) (hn : ρ mRow 2 = nI n) (h9 : n ≤ 9) (ha : a < 8) : ∀ (j i : Nat), i + j = n → X 1 l 100 G C (P) 10 129 [some (.ref (gA G idM)), some (.int (nI a)), some (.int b), some (.int load), some (.int what), some (.int x5), some (.int x6), some (.int set), some (.int x8), some (.int (nI n))] [] α (r_fill (r_bkB ρ set) ρ n) → X 1 l 100 G C (P) 10 77 [some (.ref (gA G idM)), some (.int (nI a)), some (.int b), some (.int load), some (.int what), some (.int x5), some (.int x6), some (.int set), some (.int x8), some (.int (nI i))] [] α (r_fill (r_bkB ρ set) ρ i) := by
  intro j
  induction j with
  | zero =>
    intro i hi hx
    have hr : r_fill (r_bkB ρ set) ρ i mRow = ρ mRow := r_fill_ne (by decide) i
    have hm : r_fill (r_bkB ρ set) ρ i mRow 2 = nI n := by rw [hr]; exact hn
    refine x_iload (pc := 77) (i := 9) K dX7_baking_77 rfl ?_
    refine x_aload_n (pc := 79) (i := 0) K dX7_baking_79 rfl rfl ?_
    refine gf_X7_9 (pc := 80)  K dX7_baking_80 ?_
    refine x_iconst (pc := 83) (v := 2) K dX7_baking_83 (by decide) ?_
    refine ib_mRow (pc := 84) 2 (by decide) rfl K dX7_baking_84 ?_
    refine x_icmp_ge (pc := 85) (tgt := 129) K dX7_baking_85 (by decide) (fun c_85 => ?_) (fun c_85 => ?_)
    · obtain rfl : i = n := by omega
      exact hx
    · exact absurd (by rw [hm]; exact nI_le (by omega) (by omega)) c_85
  | succ j ih =>
    intro i hi hx
    have hr : r_fill (r_bkB ρ set) ρ i mRow = ρ mRow := r_fill_ne (by decide) i
    have hm : r_fill (r_bkB ρ set) ρ i mRow 2 = nI n := by rw [hr]; exact hn
    refine x_iload (pc := 77) (i := 9) K dX7_baking_77 rfl ?_
    refine x_aload_n (pc := 79) (i := 0) K dX7_baking_79 rfl rfl ?_
    refine gf_X7_9 (pc := 80)  K dX7_baking_80 ?_
    refine x_iconst (pc := 83) (v := 2) K dX7_baking_83 (by decide) ?_
    refine ib_mRow (pc := 84) 2 (by decide) rfl K dX7_baking_84 ?_
    refine x_icmp_ge (pc := 85) (tgt := 129) K dX7_baking_85 (by decide) (fun c_85 => ?_) (fun c_85 => ?_)
    · exact (nI_ge (a := i) (b := n) (by omega) (by omega) (by rw [hm] at c_85; exact c_85)).elim
    · refine x_aload_n (pc := 88) (i := 0) K dX7_baking_88 rfl rfl ?_
      refine gf_X7_43 (pc := 89)  K dX7_baking_89 ?_
      refine x_iload (pc := 92) (i := 9) K dX7_baking_92 rfl ?_
      refine x_iload (pc := 94) (i := 7) K dX7_baking_94 rfl ?_
      refine x_iload (pc := 96) (i := 9) K dX7_baking_96 rfl ?_
      refine x_ishr (pc := 98) K dX7_baking_98 ?_
      refine x_iconst (pc := 99) (v := 1) K dX7_baking_99 (by decide) ?_
      refine x_iand (pc := 100) K dX7_baking_100 ?_
      refine x_iconst (pc := 101) (v := 1) K dX7_baking_101 (by decide) ?_
      refine x_icmp_ne (pc := 102) (tgt := 116) K dX7_baking_102 (by decide) (fun c_102 => ?_) (fun c_102 => ?_)
      · refine x_aload_n (pc := 116) (i := 0) K dX7_baking_116 rfl rfl ?_
        refine x_iload (pc := 117) (i := 9) K dX7_baking_117 rfl ?_
        refine x_V1i (pc := 119) K (c_yX7_bearsOf (u := i) (by omega)) mw_yX7_bearsOf ⟨im_yX7_bearsOf, se_yX7_bearsOf⟩ mk_X7_93 rc_M rfl ⟨Nat.le_of_ble_eq_true rfl, Nat.le_of_ble_eq_true rfl, Nat.le_of_ble_eq_true rfl⟩ dX7_baking_119 ?_
        refine x_topi K (show _ = r_bearsU ρ i from r_bearsU_of hr) ?_
        refine js_mBear (pc := 122) i (by omega) rfl K dX7_baking_122 ?_
        refine x_iinc (pc := 123) (i := 9) (v := nI (i + 1)) K dX7_baking_123 rfl (nI_1 _) rfl ?_
        refine x_goto (pc := 126) (tgt := 77) K dX7_baking_126 (by decide) ?_
        have e1 : r_fill (r_bkB ρ set) ρ (i + 1) = up (r_fill (r_bkB ρ set) ρ i) mBear i (r_bearsU ρ i) := by simp only [r_fill]; unfold r_bkB; rw [if_neg c_102]
        have h2 := ih (i + 1) (by omega) hx
        rw [e1] at h2
        exact h2
      · refine x_aload_n (pc := 105) (i := 0) K dX7_baking_105 rfl rfl ?_
        refine x_iload (pc := 106) (i := 9) K dX7_baking_106 rfl ?_
        refine x_iconst (pc := 108) (v := 0) K dX7_baking_108 (by decide) ?_
        refine x_iconst (pc := 109) (v := 0) K dX7_baking_109 (by decide) ?_
        refine x_V3i (pc := 110) K (c_yX7_bearsBy (u := i) (by omega)) mw_yX7_bearsBy ⟨im_yX7_bearsBy, se_yX7_bearsBy⟩ mk_X7_70 rc_M rfl ⟨Nat.le_of_ble_eq_true rfl, Nat.le_of_ble_eq_true rfl, Nat.le_of_ble_eq_true rfl⟩ dX7_baking_110 ?_
        refine x_topi K (show _ = r_bearsBy (ρ mRow (mS i 0)) (ρ mRow (mS i 1)) 0 0 (ρ mRow 0) from by rw [hr]) ?_
        refine x_goto (pc := 113) (tgt := 122) K dX7_baking_113 (by decide) ?_
        refine js_mBear (pc := 122) i (by omega) rfl K dX7_baking_122 ?_
        refine x_iinc (pc := 123) (i := 9) (v := nI (i + 1)) K dX7_baking_123 rfl (nI_1 _) rfl ?_
        refine x_goto (pc := 126) (tgt := 77) K dX7_baking_126 (by decide) ?_
        have e1 : r_fill (r_bkB ρ set) ρ (i + 1) = up (r_fill (r_bkB ρ set) ρ i) mBear i (r_bearsBy (ρ mRow (mS i 0)) (ρ mRow (mS i 1)) 0 0 (ρ mRow 0)) := by simp only [r_fill]; unfold r_bkB; rw [if_pos c_102]
        have h2 := ih (i + 1) (by omega) hx
        rw [e1] at h2
        exact h2

set_option maxRecDepth 100000 in
set_option maxHeartbeats 4000000 in
theorem l_bk {l : Launch} {G : Gm} {C : Cx} {P : Po} {n a : Nat} {b load what : Int32} {α ρ : Af} (K : Ok l 100 G C RX7 cX7_baking (some .int) 10) (hn : ρ mRow 2 = nI n) (h9 : n ≤ 9) (ha : a < 8) (hE : Eb (r_endsU ρ) n) : ∀ (j i : Nat) (y8 y9 : Option Value), i + j = 2 ^ n → (∀ y8 y9, X 1 l 100 G C (P) 10 172 [some (.ref (gA G idM)), some (.int (nI a)), some (.int b), some (.int load), some (.int what), some (.int (r_bk ρ n (nI a) b load (2 ^ n)).1.1), some (.int (r_bk ρ n (nI a) b load (2 ^ n)).1.2), some (.int (nI (2 ^ n))), y8, y9] [] α (r_bk ρ n (nI a) b load (2 ^ n)).2) → X 1 l 100 G C (P) 10 41 [some (.ref (gA G idM)), some (.int (nI a)), some (.int b), some (.int load), some (.int what), some (.int (r_bk ρ n (nI a) b load i).1.1), some (.int (r_bk ρ n (nI a) b load i).1.2), some (.int (nI i)), y8, y9] [] α (r_bk ρ n (nI a) b load i).2 := by
  have hp := pow9 h9
  intro j
  induction j with
  | zero =>
    intro i y8 y9 hi hx
    have hr : (r_bk ρ n (nI a) b load i).2 mRow = ρ mRow := r_bk_ne (by decide) i
    have hm : (r_bk ρ n (nI a) b load i).2 mRow 2 = nI n := by rw [hr]; exact hn
    refine x_iload (pc := 41) (i := 7) K dX7_baking_41 rfl ?_
    refine x_iconst (pc := 43) (v := 1) K dX7_baking_43 (by decide) ?_
    refine x_aload_n (pc := 44) (i := 0) K dX7_baking_44 rfl rfl ?_
    refine gf_X7_9 (pc := 45)  K dX7_baking_45 ?_
    refine x_iconst (pc := 48) (v := 2) K dX7_baking_48 (by decide) ?_
    refine ib_mRow (pc := 49) 2 (by decide) rfl K dX7_baking_49 ?_
    refine x_ishl (pc := 50) K dX7_baking_50 ?_
    refine x_topi K (show jshl 1 ((r_bk ρ n (nI a) b load i).2 mRow 2) = nI (2 ^ n) from by rw [hm]; exact shl1 h9) ?_
    refine x_icmp_ge (pc := 51) (tgt := 172) K dX7_baking_51 (by decide) (fun c_51 => ?_) (fun c_51 => ?_)
    · obtain rfl : i = 2 ^ n := by omega
      exact hx y8 y9
    · exact absurd (by rw [show i = 2 ^ n by omega]; exact Int32.le_refl _) c_51
  | succ j ih =>
    intro i y8 y9 hi hx
    have hr : (r_bk ρ n (nI a) b load i).2 mRow = ρ mRow := r_bk_ne (by decide) i
    have hm : (r_bk ρ n (nI a) b load i).2 mRow 2 = nI n := by rw [hr]; exact hn
    refine x_iload (pc := 41) (i := 7) K dX7_baking_41 rfl ?_
    refine x_iconst (pc := 43) (v := 1) K dX7_baking_43 (by decide) ?_
    refine x_aload_n (pc := 44) (i := 0) K dX7_baking_44 rfl rfl ?_
    refine gf_X7_9 (pc := 45)  K dX7_baking_45 ?_
    refine x_iconst (pc := 48) (v := 2) K dX7_baking_48 (by decide) ?_
    refine ib_mRow (pc := 49) 2 (by decide) rfl K dX7_baking_49 ?_
    refine x_ishl (pc := 50) K dX7_baking_50 ?_
    refine x_topi K (show jshl 1 ((r_bk ρ n (nI a) b load i).2 mRow 2) = nI (2 ^ n) from by rw [hm]; exact shl1 h9) ?_
    refine x_icmp_ge (pc := 51) (tgt := 172) K dX7_baking_51 (by decide) (fun c_51 => ?_) (fun c_51 => ?_)
    · exact (nI_ge (a := i) (b := 2 ^ n) (by omega) (by omega) c_51).elim
    · refine x_aload_n (pc := 54) (i := 0) K dX7_baking_54 rfl rfl ?_
      refine x_iload (pc := 55) (i := 7) K dX7_baking_55 rfl ?_
      refine x_V1i (pc := 57) K (c_yX7_flourFor hm h9) mw_yX7_flourFor ⟨im_yX7_flourFor, se_yX7_flourFor⟩ mk_X7_196 rc_M rfl ⟨Nat.le_of_ble_eq_true rfl, Nat.le_of_ble_eq_true rfl, Nat.le_of_ble_eq_true rfl⟩ dX7_baking_57 ?_
      refine x_istore (pc := 60) (i := 8) K dX7_baking_60 rfl (by decide) ?_
      refine x_iload (pc := 62) (i := 5) K dX7_baking_62 rfl ?_
      refine x_if_lt (pc := 64) (tgt := 74) K dX7_baking_64 (by decide) (fun c_64 => ?_) (fun c_64 => ?_)
      · refine x_iconst (pc := 74) (v := 0) K dX7_baking_74 (by decide) ?_
        refine x_istore (pc := 75) (i := 9) K dX7_baking_75 rfl (by decide) ?_
        refine l_bkF (ρ := (r_bk ρ n (nI a) b load i).2) K hm h9 ha n 0 (by omega) ?_
        refine x_aload_n (pc := 129) (i := 0) K dX7_baking_129 rfl rfl ?_
        refine x_iload_n (pc := 130) (i := 1) K dX7_baking_130 rfl rfl ?_
        refine x_iload_n (pc := 131) (i := 2) K dX7_baking_131 rfl rfl ?_
        refine x_iload_n (pc := 132) (i := 3) K dX7_baking_132 rfl rfl ?_
        refine x_V3i (pc := 133) K (c_yX7_areJoinedBy (ρ := r_fill (r_bkB (r_bk ρ n (nI a) b load i).2 (nI i)) (r_bk ρ n (nI a) b load i).2 n) (by rw [r_fill_ne (by decide)]; exact hm) h9 ha (by rw [r_endsU_of (ρ := ρ) ((r_fill_ne (by decide) n).trans hr)]; exact hE)) mw_yX7_areJoinedBy ⟨im_yX7_areJoinedBy, se_yX7_areJoinedBy⟩ mk_X7_192 rc_M rfl ⟨Nat.le_of_ble_eq_true rfl, Nat.le_of_ble_eq_true rfl, Nat.le_of_ble_eq_true rfl⟩ dX7_baking_133 ?_
        refine x_istore (pc := 136) (i := 9) K dX7_baking_136 rfl (by decide) ?_
        refine x_iload (pc := 138) (i := 9) K dX7_baking_138 rfl ?_
        refine x_ifeq_b (pc := 140) (tgt := 148) K dX7_baking_140 (by decide) (fun c_140 => ?_) (fun c_140 => ?_)
        · have hj : ¬ r_joins (r_endsU (r_bk ρ n (nI a) b load i).2) (r_fill (r_bkB (r_bk ρ n (nI a) b load i).2 (nI i)) (r_bk ρ n (nI a) b load i).2 n mBear) load n (nI a) b = true := by rw [← r_endsU_of (r := r_fill (r_bkB (r_bk ρ n (nI a) b load i).2 (nI i)) (r_bk ρ n (nI a) b load i).2 n) (r_fill_ne (by decide) n), c_140]; decide
          refine x_iload (pc := 148) (i := 5) K dX7_baking_148 rfl ?_
          refine x_istore (pc := 150) (i := 5) K dX7_baking_150 rfl (by decide) ?_
          refine x_iload (pc := 152) (i := 9) K dX7_baking_152 rfl ?_
          refine x_ifeq_b (pc := 154) (tgt := 162) K dX7_baking_154 (by decide) (fun c_154 => ?_) (fun c_154 => ?_)
          · refine x_iload (pc := 162) (i := 6) K dX7_baking_162 rfl ?_
            refine x_istore (pc := 164) (i := 6) K dX7_baking_164 rfl (by decide) ?_
            refine x_iinc (pc := 166) (i := 7) (v := nI (i + 1)) K dX7_baking_166 rfl (nI_1 _) rfl ?_
            refine x_goto (pc := 169) (tgt := 41) K dX7_baking_169 (by decide) ?_
            have e1 : (r_bk ρ n (nI a) b load (i + 1)) = ((r_bk ρ n (nI a) b load i).1, r_fill (r_bkB (r_bk ρ n (nI a) b load i).2 (nI i)) (r_bk ρ n (nI a) b load i).2 n) := by simp only [r_bk]; rw [if_pos c_64]; unfold r_bkT; rw [if_neg hj]
            have h2 := ih (i + 1) (some (.int (r_flour (r_bk ρ n (nI a) b load i).2 (nI i) n))) (some (.int (bI (r_joins (r_endsU (r_fill (r_bkB (r_bk ρ n (nI a) b load i).2 (nI i)) (r_bk ρ n (nI a) b load i).2 n)) (r_fill (r_bkB (r_bk ρ n (nI a) b load i).2 (nI i)) (r_bk ρ n (nI a) b load i).2 n mBear) load n (nI a) b)))) (by omega) hx
            rw [e1] at h2
            exact h2
          · exact absurd (c_140.symm.trans c_154) (by decide)
        · refine x_iload (pc := 143) (i := 7) K dX7_baking_143 rfl ?_
          have hj : r_joins (r_endsU (r_bk ρ n (nI a) b load i).2) (r_fill (r_bkB (r_bk ρ n (nI a) b load i).2 (nI i)) (r_bk ρ n (nI a) b load i).2 n mBear) load n (nI a) b = true := by rw [← r_endsU_of (r := r_fill (r_bkB (r_bk ρ n (nI a) b load i).2 (nI i)) (r_bk ρ n (nI a) b load i).2 n) (r_fill_ne (by decide) n)]; exact c_140
          refine x_goto (pc := 145) (tgt := 150) K dX7_baking_145 (by decide) ?_
          refine x_istore (pc := 150) (i := 5) K dX7_baking_150 rfl (by decide) ?_
          refine x_iload (pc := 152) (i := 9) K dX7_baking_152 rfl ?_
          refine x_ifeq_b (pc := 154) (tgt := 162) K dX7_baking_154 (by decide) (fun c_154 => ?_) (fun c_154 => ?_)
          · exact absurd (c_140.symm.trans c_154) (by decide)
          · refine x_iload (pc := 157) (i := 8) K dX7_baking_157 rfl ?_
            refine x_goto (pc := 159) (tgt := 164) K dX7_baking_159 (by decide) ?_
            refine x_istore (pc := 164) (i := 6) K dX7_baking_164 rfl (by decide) ?_
            refine x_iinc (pc := 166) (i := 7) (v := nI (i + 1)) K dX7_baking_166 rfl (nI_1 _) rfl ?_
            refine x_goto (pc := 169) (tgt := 41) K dX7_baking_169 (by decide) ?_
            have e1 : (r_bk ρ n (nI a) b load (i + 1)) = ((nI i, r_flour (r_bk ρ n (nI a) b load i).2 (nI i) n), r_fill (r_bkB (r_bk ρ n (nI a) b load i).2 (nI i)) (r_bk ρ n (nI a) b load i).2 n) := by simp only [r_bk]; rw [if_pos c_64]; unfold r_bkT; rw [if_pos hj]
            have h2 := ih (i + 1) (some (.int (r_flour (r_bk ρ n (nI a) b load i).2 (nI i) n))) (some (.int (bI (r_joins (r_endsU (r_fill (r_bkB (r_bk ρ n (nI a) b load i).2 (nI i)) (r_bk ρ n (nI a) b load i).2 n)) (r_fill (r_bkB (r_bk ρ n (nI a) b load i).2 (nI i)) (r_bk ρ n (nI a) b load i).2 n mBear) load n (nI a) b)))) (by omega) hx
            rw [e1] at h2
            exact h2
      · refine x_iload (pc := 67) (i := 8) K dX7_baking_67 rfl ?_
        refine x_iload (pc := 69) (i := 6) K dX7_baking_69 rfl ?_
        refine x_icmp_ge (pc := 71) (tgt := 166) K dX7_baking_71 (by decide) (fun c_71 => ?_) (fun c_71 => ?_)
        · refine x_iinc (pc := 166) (i := 7) (v := nI (i + 1)) K dX7_baking_166 rfl (nI_1 _) rfl ?_
          refine x_goto (pc := 169) (tgt := 41) K dX7_baking_169 (by decide) ?_
          have e1 : (r_bk ρ n (nI a) b load (i + 1)) = (r_bk ρ n (nI a) b load i) := by simp only [r_bk]; rw [if_neg c_64, if_pos c_71]
          have h2 := ih (i + 1) (some (.int (r_flour (r_bk ρ n (nI a) b load i).2 (nI i) n))) y9 (by omega) hx
          rw [e1] at h2
          exact h2
        · refine x_iconst (pc := 74) (v := 0) K dX7_baking_74 (by decide) ?_
          refine x_istore (pc := 75) (i := 9) K dX7_baking_75 rfl (by decide) ?_
          refine l_bkF (ρ := (r_bk ρ n (nI a) b load i).2) K hm h9 ha n 0 (by omega) ?_
          refine x_aload_n (pc := 129) (i := 0) K dX7_baking_129 rfl rfl ?_
          refine x_iload_n (pc := 130) (i := 1) K dX7_baking_130 rfl rfl ?_
          refine x_iload_n (pc := 131) (i := 2) K dX7_baking_131 rfl rfl ?_
          refine x_iload_n (pc := 132) (i := 3) K dX7_baking_132 rfl rfl ?_
          refine x_V3i (pc := 133) K (c_yX7_areJoinedBy (ρ := r_fill (r_bkB (r_bk ρ n (nI a) b load i).2 (nI i)) (r_bk ρ n (nI a) b load i).2 n) (by rw [r_fill_ne (by decide)]; exact hm) h9 ha (by rw [r_endsU_of (ρ := ρ) ((r_fill_ne (by decide) n).trans hr)]; exact hE)) mw_yX7_areJoinedBy ⟨im_yX7_areJoinedBy, se_yX7_areJoinedBy⟩ mk_X7_192 rc_M rfl ⟨Nat.le_of_ble_eq_true rfl, Nat.le_of_ble_eq_true rfl, Nat.le_of_ble_eq_true rfl⟩ dX7_baking_133 ?_
          refine x_istore (pc := 136) (i := 9) K dX7_baking_136 rfl (by decide) ?_
          refine x_iload (pc := 138) (i := 9) K dX7_baking_138 rfl ?_
          refine x_ifeq_b (pc := 140) (tgt := 148) K dX7_baking_140 (by decide) (fun c_140 => ?_) (fun c_140 => ?_)
          · have hj : ¬ r_joins (r_endsU (r_bk ρ n (nI a) b load i).2) (r_fill (r_bkB (r_bk ρ n (nI a) b load i).2 (nI i)) (r_bk ρ n (nI a) b load i).2 n mBear) load n (nI a) b = true := by rw [← r_endsU_of (r := r_fill (r_bkB (r_bk ρ n (nI a) b load i).2 (nI i)) (r_bk ρ n (nI a) b load i).2 n) (r_fill_ne (by decide) n), c_140]; decide
            refine x_iload (pc := 148) (i := 5) K dX7_baking_148 rfl ?_
            refine x_istore (pc := 150) (i := 5) K dX7_baking_150 rfl (by decide) ?_
            refine x_iload (pc := 152) (i := 9) K dX7_baking_152 rfl ?_
            refine x_ifeq_b (pc := 154) (tgt := 162) K dX7_baking_154 (by decide) (fun c_154 => ?_) (fun c_154 => ?_)
            · refine x_iload (pc := 162) (i := 6) K dX7_baking_162 rfl ?_
              refine x_istore (pc := 164) (i := 6) K dX7_baking_164 rfl (by decide) ?_
              refine x_iinc (pc := 166) (i := 7) (v := nI (i + 1)) K dX7_baking_166 rfl (nI_1 _) rfl ?_
              refine x_goto (pc := 169) (tgt := 41) K dX7_baking_169 (by decide) ?_
              have e1 : (r_bk ρ n (nI a) b load (i + 1)) = ((r_bk ρ n (nI a) b load i).1, r_fill (r_bkB (r_bk ρ n (nI a) b load i).2 (nI i)) (r_bk ρ n (nI a) b load i).2 n) := by simp only [r_bk]; rw [if_neg c_64, if_neg c_71]; unfold r_bkT; rw [if_neg hj]
              have h2 := ih (i + 1) (some (.int (r_flour (r_bk ρ n (nI a) b load i).2 (nI i) n))) (some (.int (bI (r_joins (r_endsU (r_fill (r_bkB (r_bk ρ n (nI a) b load i).2 (nI i)) (r_bk ρ n (nI a) b load i).2 n)) (r_fill (r_bkB (r_bk ρ n (nI a) b load i).2 (nI i)) (r_bk ρ n (nI a) b load i).2 n mBear) load n (nI a) b)))) (by omega) hx
              rw [e1] at h2
              exact h2
            · exact absurd (c_140.symm.trans c_154) (by decide)
          · refine x_iload (pc := 143) (i := 7) K dX7_baking_143 rfl ?_
            have hj : r_joins (r_endsU (r_bk ρ n (nI a) b load i).2) (r_fill (r_bkB (r_bk ρ n (nI a) b load i).2 (nI i)) (r_bk ρ n (nI a) b load i).2 n mBear) load n (nI a) b = true := by rw [← r_endsU_of (r := r_fill (r_bkB (r_bk ρ n (nI a) b load i).2 (nI i)) (r_bk ρ n (nI a) b load i).2 n) (r_fill_ne (by decide) n)]; exact c_140
            refine x_goto (pc := 145) (tgt := 150) K dX7_baking_145 (by decide) ?_
            refine x_istore (pc := 150) (i := 5) K dX7_baking_150 rfl (by decide) ?_
            refine x_iload (pc := 152) (i := 9) K dX7_baking_152 rfl ?_
            refine x_ifeq_b (pc := 154) (tgt := 162) K dX7_baking_154 (by decide) (fun c_154 => ?_) (fun c_154 => ?_)
            · exact absurd (c_140.symm.trans c_154) (by decide)
            · refine x_iload (pc := 157) (i := 8) K dX7_baking_157 rfl ?_
              refine x_goto (pc := 159) (tgt := 164) K dX7_baking_159 (by decide) ?_
              refine x_istore (pc := 164) (i := 6) K dX7_baking_164 rfl (by decide) ?_
              refine x_iinc (pc := 166) (i := 7) (v := nI (i + 1)) K dX7_baking_166 rfl (nI_1 _) rfl ?_
              refine x_goto (pc := 169) (tgt := 41) K dX7_baking_169 (by decide) ?_
              have e1 : (r_bk ρ n (nI a) b load (i + 1)) = ((nI i, r_flour (r_bk ρ n (nI a) b load i).2 (nI i) n), r_fill (r_bkB (r_bk ρ n (nI a) b load i).2 (nI i)) (r_bk ρ n (nI a) b load i).2 n) := by simp only [r_bk]; rw [if_neg c_64, if_neg c_71]; unfold r_bkT; rw [if_pos hj]
              have h2 := ih (i + 1) (some (.int (r_flour (r_bk ρ n (nI a) b load i).2 (nI i) n))) (some (.int (bI (r_joins (r_endsU (r_fill (r_bkB (r_bk ρ n (nI a) b load i).2 (nI i)) (r_bk ρ n (nI a) b load i).2 n)) (r_fill (r_bkB (r_bk ρ n (nI a) b load i).2 (nI i)) (r_bk ρ n (nI a) b load i).2 n mBear) load n (nI a) b)))) (by omega) hx
              rw [e1] at h2
              exact h2

def g_baking (ρ : Af) (a b load what : Int32) : Int32 × Af := if q_areTwo a b = true then (if q_isLoad load = true then (if q_within what 0 1 = true then (if 0 ≤ (r_bk ρ (ρ mRow 2).toNatClampNeg a b load (2 ^ (ρ mRow 2).toNatClampNeg)).1.1 then (if what = 0 then (r_bk ρ (ρ mRow 2).toNatClampNeg a b load (2 ^ (ρ mRow 2).toNatClampNeg)).1.2 else (r_bk ρ (ρ mRow 2).toNatClampNeg a b load (2 ^ (ρ mRow 2).toNatClampNeg)).1.1, (r_bk ρ (ρ mRow 2).toNatClampNeg a b load (2 ^ (ρ mRow 2).toNatClampNeg)).2) else r_errP (r_bk ρ (ρ mRow 2).toNatClampNeg a b load (2 ^ (ρ mRow 2).toNatClampNeg)).2 2) else r_errP ρ 1) else r_errP ρ 1) else r_errP ρ 1
set_option maxRecDepth 100000 in
set_option maxHeartbeats 4000000 in
theorem c_yX7_baking {l : Launch} {G : Gm} {α ρ : Af} {a b load what : Int32} (hI : IM ρ) : CI 1 l G yX7_baking (Cond.code yX7_baking cX7_baking 10 (some .int)) 100 [.ref (gA G idM), .int a, .int b, .int load, .int what] α ρ (PI (g_baking ρ a b load what).1 α (g_baking ρ a b load what).2) := by
  obtain ⟨⟨n, h9, hn, hE⟩, hl0, hl1, ⟨t, h60, ht⟩, ⟨w, h24, hw⟩, hSz, ⟨q, hq, hqe⟩⟩ := hI
  refine CI.of [some (.ref (gA G idM)), some (.int a), some (.int b), some (.int load), some (.int what), none, none, none, none, none] (by decide) (Nat.le_of_ble_eq_true rfl) rfl rfl (fun C K => ?_)
  have K : Ok l _ G C RX7 cX7_baking (some .int) 10 := K
  refine x_iload_n (pc := 0) (i := 1) K dX7_baking_0 rfl rfl ?_
  refine x_iload_n (pc := 1) (i := 2) K dX7_baking_1 rfl rfl ?_
  refine x_S2i (pc := 2) K (c_yX7_areTwo) mw_yX7_areTwo st_yX7_areTwo mk_X7_76 ⟨Nat.le_of_ble_eq_true rfl, Nat.le_of_ble_eq_true rfl, Nat.le_of_ble_eq_true rfl⟩ dX7_baking_2 ?_
  refine x_ifeq_b (pc := 5) (tgt := 25) K dX7_baking_5 (by decide) (fun c_5 => ?_) (fun c_5 => ?_)
  · refine x_aload_n (pc := 25) (i := 0) K dX7_baking_25 rfl rfl ?_
    refine x_ldc (pc := 26) K kn_X7_80 dX7_baking_26 ?_
    refine x_V1i (pc := 28) K (c_yX7_error (j := 1) (by decide) (by decide)) mw_yX7_error ⟨im_yX7_error, se_yX7_error⟩ mk_X7_81 rc_M rfl ⟨Nat.le_of_ble_eq_true rfl, Nat.le_of_ble_eq_true rfl, Nat.le_of_ble_eq_true rfl⟩ dX7_baking_28 ?_
    exact x_iretI (pc := 31) K dX7_baking_31 ⟨by simp (decide := true) only [g_baking, r_errP, c_5, ↓reduceIte, Bool.false_eq_true, bI_t, bI_f], rfl, by simp (decide := true) only [g_baking, r_errP, c_5, ↓reduceIte, Bool.false_eq_true, bI_t, bI_f]⟩
  · refine x_iload_n (pc := 8) (i := 3) K dX7_baking_8 rfl rfl ?_
    refine x_S1i (pc := 9) K (c_yX7_isLoad) mw_yX7_isLoad st_yX7_isLoad mk_X7_109 ⟨Nat.le_of_ble_eq_true rfl, Nat.le_of_ble_eq_true rfl, Nat.le_of_ble_eq_true rfl⟩ dX7_baking_9 ?_
    refine x_ifeq_b (pc := 12) (tgt := 25) K dX7_baking_12 (by decide) (fun c_12 => ?_) (fun c_12 => ?_)
    · refine x_aload_n (pc := 25) (i := 0) K dX7_baking_25 rfl rfl ?_
      refine x_ldc (pc := 26) K kn_X7_80 dX7_baking_26 ?_
      refine x_V1i (pc := 28) K (c_yX7_error (j := 1) (by decide) (by decide)) mw_yX7_error ⟨im_yX7_error, se_yX7_error⟩ mk_X7_81 rc_M rfl ⟨Nat.le_of_ble_eq_true rfl, Nat.le_of_ble_eq_true rfl, Nat.le_of_ble_eq_true rfl⟩ dX7_baking_28 ?_
      exact x_iretI (pc := 31) K dX7_baking_31 ⟨by simp (decide := true) only [g_baking, r_errP, c_5 , c_12, ↓reduceIte, Bool.false_eq_true, bI_t, bI_f], rfl, by simp (decide := true) only [g_baking, r_errP, c_5 , c_12, ↓reduceIte, Bool.false_eq_true, bI_t, bI_f]⟩
    · refine x_iload (pc := 15) (i := 4) K dX7_baking_15 rfl ?_
      refine x_iconst (pc := 17) (v := 0) K dX7_baking_17 (by decide) ?_
      refine x_iconst (pc := 18) (v := 1) K dX7_baking_18 (by decide) ?_
      refine x_S3i (pc := 19) K (c_yX7_in) mw_yX7_in st_yX7_in mk_X7_54 ⟨Nat.le_of_ble_eq_true rfl, Nat.le_of_ble_eq_true rfl, Nat.le_of_ble_eq_true rfl⟩ dX7_baking_19 ?_
      refine x_ifne_b (pc := 22) (tgt := 32) K dX7_baking_22 (by decide) (fun c_22 => ?_) (fun c_22 => ?_)
      · obtain ⟨m, hm, rfl⟩ := two_of c_5
        have hcn : (ρ mRow 2).toNatClampNeg = n := by rw [hn]; exact nI_clamp (by omega)
        refine x_iconst (pc := 32) (v := (-1)) K dX7_baking_32 (by decide) ?_
        refine x_istore (pc := 33) (i := 5) K dX7_baking_33 rfl (by decide) ?_
        refine x_iconst (pc := 35) (v := 0) K dX7_baking_35 (by decide) ?_
        refine x_istore (pc := 36) (i := 6) K dX7_baking_36 rfl (by decide) ?_
        refine x_iconst (pc := 38) (v := 0) K dX7_baking_38 (by decide) ?_
        refine x_istore (pc := 39) (i := 7) K dX7_baking_39 rfl (by decide) ?_
        refine l_bk K hn h9 hm hE (2 ^ n) 0 none none (by omega) (fun y8 y9 => ?_)
        refine x_iload (pc := 172) (i := 5) K dX7_baking_172 rfl ?_
        refine x_if_ge (pc := 174) (tgt := 186) K dX7_baking_174 (by decide) (fun c_174 => ?_) (fun c_174 => ?_)
        · refine x_iload (pc := 186) (i := 4) K dX7_baking_186 rfl ?_
          refine x_if_ne (pc := 188) (tgt := 196) K dX7_baking_188 (by decide) (fun c_188 => ?_) (fun c_188 => ?_)
          · refine x_iload (pc := 196) (i := 5) K dX7_baking_196 rfl ?_
            exact x_iretI (pc := 198) K dX7_baking_198 ⟨by simp (decide := true) only [g_baking, r_errP, c_5 , c_12 , c_22 , if_pos c_174, if_neg c_188, ↓reduceIte, Bool.false_eq_true, bI_t, bI_f, hcn], rfl, by simp (decide := true) only [g_baking, r_errP, c_5 , c_12 , c_22 , if_pos c_174, if_neg c_188, ↓reduceIte, Bool.false_eq_true, bI_t, bI_f, hcn]⟩
          · refine x_iload (pc := 191) (i := 6) K dX7_baking_191 rfl ?_
            refine x_goto (pc := 193) (tgt := 198) K dX7_baking_193 (by decide) ?_
            exact x_iretI (pc := 198) K dX7_baking_198 ⟨by simp (decide := true) only [g_baking, r_errP, c_5 , c_12 , c_22 , if_pos c_174, if_pos c_188, ↓reduceIte, Bool.false_eq_true, bI_t, bI_f, hcn], rfl, by simp (decide := true) only [g_baking, r_errP, c_5 , c_12 , c_22 , if_pos c_174, if_pos c_188, ↓reduceIte, Bool.false_eq_true, bI_t, bI_f, hcn]⟩
        · refine x_aload_n (pc := 177) (i := 0) K dX7_baking_177 rfl rfl ?_
          refine x_ldc (pc := 178) K kn_X7_195 dX7_baking_178 ?_
          refine x_V1i (pc := 180) K (c_yX7_error (j := 2) (by decide) (by decide)) mw_yX7_error ⟨im_yX7_error, se_yX7_error⟩ mk_X7_81 rc_M rfl ⟨Nat.le_of_ble_eq_true rfl, Nat.le_of_ble_eq_true rfl, Nat.le_of_ble_eq_true rfl⟩ dX7_baking_180 ?_
          refine x_goto (pc := 183) (tgt := 198) K dX7_baking_183 (by decide) ?_
          exact x_iretI (pc := 198) K dX7_baking_198 ⟨by simp (decide := true) only [g_baking, r_errP, c_5 , c_12 , c_22 , if_neg c_174, ↓reduceIte, Bool.false_eq_true, bI_t, bI_f, hcn], rfl, by simp (decide := true) only [g_baking, r_errP, c_5 , c_12 , c_22 , if_neg c_174, ↓reduceIte, Bool.false_eq_true, bI_t, bI_f, hcn]⟩
      · refine x_aload_n (pc := 25) (i := 0) K dX7_baking_25 rfl rfl ?_
        refine x_ldc (pc := 26) K kn_X7_80 dX7_baking_26 ?_
        refine x_V1i (pc := 28) K (c_yX7_error (j := 1) (by decide) (by decide)) mw_yX7_error ⟨im_yX7_error, se_yX7_error⟩ mk_X7_81 rc_M rfl ⟨Nat.le_of_ble_eq_true rfl, Nat.le_of_ble_eq_true rfl, Nat.le_of_ble_eq_true rfl⟩ dX7_baking_28 ?_
        exact x_iretI (pc := 31) K dX7_baking_31 ⟨by simp (decide := true) only [g_baking, r_errP, c_5 , c_12 , c_22, ↓reduceIte, Bool.false_eq_true, bI_t, bI_f], rfl, by simp (decide := true) only [g_baking, r_errP, c_5 , c_12 , c_22, ↓reduceIte, Bool.false_eq_true, bI_t, bI_f]⟩

def popc (s : Nat) : Nat := (s.testBit 0).toNat + (s.testBit 1).toNat + (s.testBit 2).toNat + (s.testBit 3).toNat + (s.testBit 4).toNat + (s.testBit 5).toNat + (s.testBit 6).toNat + (s.testBit 7).toNat + (s.testBit 8).toNat
def r_drop (x : Int32) : Nat → Int32
  | 0 => x
  | k + 1 => r_drop x k &&& (r_drop x k - 1)
theorem popc_ok : ∀ s, s < 512 → (r_drop (nI s) (popc s) = 0 ∧ ∀ k, k < popc s → ¬ r_drop (nI s) k = 0) := by decide +kernel
theorem popc_m1 : (r_drop (-1) 32 = 0 ∧ ∀ k, k < 32 → ¬ r_drop (-1) k = 0) := by decide +kernel
set_option maxRecDepth 100000 in
set_option maxHeartbeats 4000000 in
theorem l_bits {k : Nat} {l : Launch} {G : Gm} {C : Cx} {m : Nat} {x y : Int32} {α ρ : Af} (K : Ok l 1 G C RX7 cX7_bits (some .int) 3) (h0 : r_drop x m = 0) (h1 : ∀ k, k < m → ¬ r_drop x k = 0) : ∀ (j i : Nat), i + j = m → X k l 1 G C (PI (nI m) α ρ) 3 4 [some (.int y), some (.int (nI i)), some (.int (r_drop x i))] [] α ρ := by
  intro j
  induction j with
  | zero =>
    intro i hi
    refine x_iload_n (pc := 4) (i := 2) K dX7_bits_4 rfl rfl ?_
    refine x_if_eq (pc := 5) (tgt := 20) K dX7_bits_5 (by decide) (fun c_5 => ?_) (fun c_5 => ?_)
    · refine x_iload_n (pc := 20) (i := 1) K dX7_bits_20 rfl rfl ?_
      exact x_iretI (pc := 21) K dX7_bits_21 ⟨by rw [show i = m by omega], rfl, rfl⟩
    · exact absurd (by rw [show i = m by omega]; exact h0) c_5
  | succ j ih =>
    intro i hi
    refine x_iload_n (pc := 4) (i := 2) K dX7_bits_4 rfl rfl ?_
    refine x_if_eq (pc := 5) (tgt := 20) K dX7_bits_5 (by decide) (fun c_5 => ?_) (fun c_5 => ?_)
    · exact absurd c_5 (h1 i (by omega))
    · refine x_iinc (pc := 8) (i := 1) (v := nI (i + 1)) K dX7_bits_8 rfl (nI_1 _) rfl ?_
      refine x_iload_n (pc := 11) (i := 2) K dX7_bits_11 rfl rfl ?_
      refine x_iload_n (pc := 12) (i := 2) K dX7_bits_12 rfl rfl ?_
      refine x_iconst (pc := 13) (v := 1) K dX7_bits_13 (by decide) ?_
      refine x_isub (pc := 14) K dX7_bits_14 ?_
      refine x_iand (pc := 15) K dX7_bits_15 ?_
      refine x_istore_n (pc := 16) (i := 2) K dX7_bits_16 rfl rfl (by decide) ?_
      refine x_goto (pc := 17) (tgt := 4) K dX7_bits_17 (by decide) ?_
      exact ih (i + 1) (by omega)

set_option maxRecDepth 100000 in
set_option maxHeartbeats 4000000 in
theorem c_yX7_bits {k : Nat} {l : Launch} {G : Gm} {α ρ : Af} {m : Nat} {x : Int32} (h0 : r_drop x m = 0) (h1 : ∀ k, k < m → ¬ r_drop x k = 0) : CI k l G yX7_bits (Cond.code yX7_bits cX7_bits 3 (some .int)) 1 [.int x] α ρ (PI (nI m) α ρ) := by
  refine CI.of [some (.int x), none, none] (by decide) (Nat.le_of_ble_eq_true rfl) rfl rfl (fun C K => ?_)
  have K : Ok l _ G C RX7 cX7_bits (some .int) 3 := K
  refine x_iconst (pc := 0) (v := 0) K dX7_bits_0 (by decide) ?_
  refine x_istore_n (pc := 1) (i := 1) K dX7_bits_1 rfl rfl (by decide) ?_
  refine x_iload_n (pc := 2) (i := 0) K dX7_bits_2 rfl rfl ?_
  refine x_istore_n (pc := 3) (i := 2) K dX7_bits_3 rfl rfl (by decide) ?_
  exact l_bits K h0 h1 m 0 (by omega)

theorem EtF_bits {s : Nat} (h : s < 512) {k : Nat} {l : Launch} {G : Gm} {α ρ : Af} : CI k l G yX7_bits (Cond.code yX7_bits cX7_bits 3 (some .int)) 1 [.int (nI s)] α ρ (PI (nI (popc s)) α ρ) := c_yX7_bits (popc_ok s h).1 (popc_ok s h).2
def r_bitV (x : Int32) : Int32 := if x = -1 then 32 else nI (popc x.toNatClampNeg)
def Best (x : Int32) : Prop := x = -1 ∨ ∃ s, s < 512 ∧ x = nI s
theorem EtV_bits {x : Int32} (h : Best x) {k : Nat} {l : Launch} {G : Gm} {α ρ : Af} : CI k l G yX7_bits (Cond.code yX7_bits cX7_bits 3 (some .int)) 1 [.int x] α ρ (PI (r_bitV x) α ρ) := by
  rcases h with rfl | ⟨s, hs, rfl⟩
  · exact c_yX7_bits (m := 32) popc_m1.1 popc_m1.2
  · have e : r_bitV (nI s) = nI (popc s) := by
      unfold r_bitV
      rw [if_neg (fun h : nI s = -1 => absurd (show (0 : Int32) ≤ -1 from by rw [← h]; exact nI_pos' (by omega)) (by decide)), nI_clamp (by omega)]
    rw [e]
    exact EtF_bits hs
def r_etT (n : Nat) (a b load : Int32) (s : Int32 × Af) (i : Nat) : Int32 × Af := (if r_joins (r_endsU s.2) (r_fill (r_etB s.2 (nI i)) s.2 n mBear) load n a b = true then s.1 else nI i, r_fill (r_etB s.2 (nI i)) s.2 n)
def r_et (ρ : Af) (n : Nat) (a b load : Int32) : Nat → Int32 × Af
  | 0 => (-1, ρ)
  | i + 1 => if (r_et ρ n a b load i).1 < 0 then r_etT n a b load (r_et ρ n a b load i) i else if r_bitV (r_et ρ n a b load i).1 ≤ nI (popc i) then r_et ρ n a b load i else r_etT n a b load (r_et ρ n a b load i) i
theorem r_et_ne {ρ : Af} {n : Nat} {a b load : Int32} {k : Nat} (h : k ≠ mBear) : ∀ i, (r_et ρ n a b load i).2 k = ρ k
  | 0 => rfl
  | i + 1 => by
    simp only [r_et]
    split
    · exact (r_fill_ne h n).trans (r_et_ne h i)
    · split
      · exact r_et_ne h i
      · exact (r_fill_ne h n).trans (r_et_ne h i)
theorem r_et_B {ρ : Af} {n : Nat} {a b load : Int32} : ∀ i, i ≤ 512 → Best (r_et ρ n a b load i).1
  | 0, _ => Or.inl rfl
  | i + 1, hi => by
    have h1 := r_et_B (ρ := ρ) (n := n) (a := a) (b := b) (load := load) i (by omega)
    have h2 : Best (r_etT n a b load (r_et ρ n a b load i) i).1 := by
      unfold r_etT
      split
      · exact h1
      · exact Or.inr ⟨i, by omega, rfl⟩
    simp only [r_et]
    split
    · exact h2
    · split
      · exact h1
      · exact h2
set_option maxRecDepth 100000 in
set_option maxHeartbeats 4000000 in
theorem l_etF {l : Launch} {G : Gm} {C : Cx} {P : Po} {n a : Nat} {b load what x5 set : Int32} {α ρ : Af} (K : Ok l 100 G C RX7 cX7_eating (some .int) 8) (hn : ρ mRow 2 = nI n) (h9 : n ≤ 9) (ha : a < 8) : ∀ (j i : Nat), i + j = n → X 1 l 100 G C (P) 8 117 [some (.ref (gA G idM)), some (.int (nI a)), some (.int b), some (.int load), some (.int what), some (.int x5), some (.int set), some (.int (nI n))] [] α (r_fill (r_etB ρ set) ρ n) → X 1 l 100 G C (P) 8 72 [some (.ref (gA G idM)), some (.int (nI a)), some (.int b), some (.int load), some (.int what), some (.int x5), some (.int set), some (.int (nI i))] [] α (r_fill (r_etB ρ set) ρ i) := by
  intro j
  induction j with
  | zero =>
    intro i hi hx
    have hr : r_fill (r_etB ρ set) ρ i mRow = ρ mRow := r_fill_ne (by decide) i
    have hm : r_fill (r_etB ρ set) ρ i mRow 2 = nI n := by rw [hr]; exact hn
    refine x_iload (pc := 72) (i := 7) K dX7_eating_72 rfl ?_
    refine x_aload_n (pc := 74) (i := 0) K dX7_eating_74 rfl rfl ?_
    refine gf_X7_9 (pc := 75)  K dX7_eating_75 ?_
    refine x_iconst (pc := 78) (v := 2) K dX7_eating_78 (by decide) ?_
    refine ib_mRow (pc := 79) 2 (by decide) rfl K dX7_eating_79 ?_
    refine x_icmp_ge (pc := 80) (tgt := 117) K dX7_eating_80 (by decide) (fun c_80 => ?_) (fun c_80 => ?_)
    · obtain rfl : i = n := by omega
      exact hx
    · exact absurd (by rw [hm]; exact nI_le (by omega) (by omega)) c_80
  | succ j ih =>
    intro i hi hx
    have hr : r_fill (r_etB ρ set) ρ i mRow = ρ mRow := r_fill_ne (by decide) i
    have hm : r_fill (r_etB ρ set) ρ i mRow 2 = nI n := by rw [hr]; exact hn
    refine x_iload (pc := 72) (i := 7) K dX7_eating_72 rfl ?_
    refine x_aload_n (pc := 74) (i := 0) K dX7_eating_74 rfl rfl ?_
    refine gf_X7_9 (pc := 75)  K dX7_eating_75 ?_
    refine x_iconst (pc := 78) (v := 2) K dX7_eating_78 (by decide) ?_
    refine ib_mRow (pc := 79) 2 (by decide) rfl K dX7_eating_79 ?_
    refine x_icmp_ge (pc := 80) (tgt := 117) K dX7_eating_80 (by decide) (fun c_80 => ?_) (fun c_80 => ?_)
    · exact (nI_ge (a := i) (b := n) (by omega) (by omega) (by rw [hm] at c_80; exact c_80)).elim
    · refine x_aload_n (pc := 83) (i := 0) K dX7_eating_83 rfl rfl ?_
      refine gf_X7_43 (pc := 84)  K dX7_eating_84 ?_
      refine x_iload (pc := 87) (i := 7) K dX7_eating_87 rfl ?_
      refine x_iload (pc := 89) (i := 6) K dX7_eating_89 rfl ?_
      refine x_iload (pc := 91) (i := 7) K dX7_eating_91 rfl ?_
      refine x_ishr (pc := 93) K dX7_eating_93 ?_
      refine x_iconst (pc := 94) (v := 1) K dX7_eating_94 (by decide) ?_
      refine x_iand (pc := 95) K dX7_eating_95 ?_
      refine x_iconst (pc := 96) (v := 1) K dX7_eating_96 (by decide) ?_
      refine x_icmp_ne (pc := 97) (tgt := 104) K dX7_eating_97 (by decide) (fun c_97 => ?_) (fun c_97 => ?_)
      · refine x_aload_n (pc := 104) (i := 0) K dX7_eating_104 rfl rfl ?_
        refine x_iload (pc := 105) (i := 7) K dX7_eating_105 rfl ?_
        refine x_V1i (pc := 107) K (c_yX7_bearsOf (u := i) (by omega)) mw_yX7_bearsOf ⟨im_yX7_bearsOf, se_yX7_bearsOf⟩ mk_X7_93 rc_M rfl ⟨Nat.le_of_ble_eq_true rfl, Nat.le_of_ble_eq_true rfl, Nat.le_of_ble_eq_true rfl⟩ dX7_eating_107 ?_
        refine x_topi K (show _ = r_bearsU ρ i from r_bearsU_of hr) ?_
        refine js_mBear (pc := 110) i (by omega) rfl K dX7_eating_110 ?_
        refine x_iinc (pc := 111) (i := 7) (v := nI (i + 1)) K dX7_eating_111 rfl (nI_1 _) rfl ?_
        refine x_goto (pc := 114) (tgt := 72) K dX7_eating_114 (by decide) ?_
        have e1 : r_fill (r_etB ρ set) ρ (i + 1) = up (r_fill (r_etB ρ set) ρ i) mBear i (r_bearsU ρ i) := by simp only [r_fill]; unfold r_etB; rw [if_neg c_97]
        have h2 := ih (i + 1) (by omega) hx
        rw [e1] at h2
        exact h2
      · refine x_iconst (pc := 100) (v := (-1)) K dX7_eating_100 (by decide) ?_
        refine x_goto (pc := 101) (tgt := 110) K dX7_eating_101 (by decide) ?_
        refine js_mBear (pc := 110) i (by omega) rfl K dX7_eating_110 ?_
        refine x_iinc (pc := 111) (i := 7) (v := nI (i + 1)) K dX7_eating_111 rfl (nI_1 _) rfl ?_
        refine x_goto (pc := 114) (tgt := 72) K dX7_eating_114 (by decide) ?_
        have e1 : r_fill (r_etB ρ set) ρ (i + 1) = up (r_fill (r_etB ρ set) ρ i) mBear i (-1) := by simp only [r_fill]; unfold r_etB; rw [if_pos c_97]
        have h2 := ih (i + 1) (by omega) hx
        rw [e1] at h2
        exact h2

set_option maxRecDepth 100000 in
set_option maxHeartbeats 4000000 in
theorem l_et {l : Launch} {G : Gm} {C : Cx} {P : Po} {n a : Nat} {b load what : Int32} {α ρ : Af} (K : Ok l 100 G C RX7 cX7_eating (some .int) 8) (hn : ρ mRow 2 = nI n) (h9 : n ≤ 9) (ha : a < 8) (hE : Eb (r_endsU ρ) n) : ∀ (j i : Nat) (y7 : Option Value), i + j = 2 ^ n → (∀ y7, X 1 l 100 G C (P) 8 142 [some (.ref (gA G idM)), some (.int (nI a)), some (.int b), some (.int load), some (.int what), some (.int (r_et ρ n (nI a) b load (2 ^ n)).1), some (.int (nI (2 ^ n))), y7] [] α (r_et ρ n (nI a) b load (2 ^ n)).2) → X 1 l 100 G C (P) 8 38 [some (.ref (gA G idM)), some (.int (nI a)), some (.int b), some (.int load), some (.int what), some (.int (r_et ρ n (nI a) b load i).1), some (.int (nI i)), y7] [] α (r_et ρ n (nI a) b load i).2 := by
  have hp := pow9 h9
  intro j
  induction j with
  | zero =>
    intro i y7 hi hx
    have hr : (r_et ρ n (nI a) b load i).2 mRow = ρ mRow := r_et_ne (by decide) i
    have hm : (r_et ρ n (nI a) b load i).2 mRow 2 = nI n := by rw [hr]; exact hn
    refine x_iload (pc := 38) (i := 6) K dX7_eating_38 rfl ?_
    refine x_iconst (pc := 40) (v := 1) K dX7_eating_40 (by decide) ?_
    refine x_aload_n (pc := 41) (i := 0) K dX7_eating_41 rfl rfl ?_
    refine gf_X7_9 (pc := 42)  K dX7_eating_42 ?_
    refine x_iconst (pc := 45) (v := 2) K dX7_eating_45 (by decide) ?_
    refine ib_mRow (pc := 46) 2 (by decide) rfl K dX7_eating_46 ?_
    refine x_ishl (pc := 47) K dX7_eating_47 ?_
    refine x_topi K (show jshl 1 ((r_et ρ n (nI a) b load i).2 mRow 2) = nI (2 ^ n) from by rw [hm]; exact shl1 h9) ?_
    refine x_icmp_ge (pc := 48) (tgt := 142) K dX7_eating_48 (by decide) (fun c_48 => ?_) (fun c_48 => ?_)
    · obtain rfl : i = 2 ^ n := by omega
      exact hx y7
    · exact absurd (by rw [show i = 2 ^ n by omega]; exact Int32.le_refl _) c_48
  | succ j ih =>
    intro i y7 hi hx
    have hr : (r_et ρ n (nI a) b load i).2 mRow = ρ mRow := r_et_ne (by decide) i
    have hm : (r_et ρ n (nI a) b load i).2 mRow 2 = nI n := by rw [hr]; exact hn
    refine x_iload (pc := 38) (i := 6) K dX7_eating_38 rfl ?_
    refine x_iconst (pc := 40) (v := 1) K dX7_eating_40 (by decide) ?_
    refine x_aload_n (pc := 41) (i := 0) K dX7_eating_41 rfl rfl ?_
    refine gf_X7_9 (pc := 42)  K dX7_eating_42 ?_
    refine x_iconst (pc := 45) (v := 2) K dX7_eating_45 (by decide) ?_
    refine ib_mRow (pc := 46) 2 (by decide) rfl K dX7_eating_46 ?_
    refine x_ishl (pc := 47) K dX7_eating_47 ?_
    refine x_topi K (show jshl 1 ((r_et ρ n (nI a) b load i).2 mRow 2) = nI (2 ^ n) from by rw [hm]; exact shl1 h9) ?_
    refine x_icmp_ge (pc := 48) (tgt := 142) K dX7_eating_48 (by decide) (fun c_48 => ?_) (fun c_48 => ?_)
    · exact (nI_ge (a := i) (b := 2 ^ n) (by omega) (by omega) c_48).elim
    · refine x_iload (pc := 51) (i := 5) K dX7_eating_51 rfl ?_
      refine x_if_lt (pc := 53) (tgt := 69) K dX7_eating_53 (by decide) (fun c_53 => ?_) (fun c_53 => ?_)
      · refine x_iconst (pc := 69) (v := 0) K dX7_eating_69 (by decide) ?_
        refine x_istore (pc := 70) (i := 7) K dX7_eating_70 rfl (by decide) ?_
        refine l_etF (ρ := (r_et ρ n (nI a) b load i).2) K hm h9 ha n 0 (by omega) ?_
        refine x_aload_n (pc := 117) (i := 0) K dX7_eating_117 rfl rfl ?_
        refine x_iload_n (pc := 118) (i := 1) K dX7_eating_118 rfl rfl ?_
        refine x_iload_n (pc := 119) (i := 2) K dX7_eating_119 rfl rfl ?_
        refine x_iload_n (pc := 120) (i := 3) K dX7_eating_120 rfl rfl ?_
        refine x_V3i (pc := 121) K (c_yX7_areJoinedBy (ρ := r_fill (r_etB (r_et ρ n (nI a) b load i).2 (nI i)) (r_et ρ n (nI a) b load i).2 n) (by rw [r_fill_ne (by decide)]; exact hm) h9 ha (by rw [r_endsU_of (ρ := ρ) ((r_fill_ne (by decide) n).trans hr)]; exact hE)) mw_yX7_areJoinedBy ⟨im_yX7_areJoinedBy, se_yX7_areJoinedBy⟩ mk_X7_192 rc_M rfl ⟨Nat.le_of_ble_eq_true rfl, Nat.le_of_ble_eq_true rfl, Nat.le_of_ble_eq_true rfl⟩ dX7_eating_121 ?_
        refine x_ifeq_b (pc := 124) (tgt := 132) K dX7_eating_124 (by decide) (fun c_124 => ?_) (fun c_124 => ?_)
        · refine x_iload (pc := 132) (i := 6) K dX7_eating_132 rfl ?_
          refine x_istore (pc := 134) (i := 5) K dX7_eating_134 rfl (by decide) ?_
          refine x_iinc (pc := 136) (i := 6) (v := nI (i + 1)) K dX7_eating_136 rfl (nI_1 _) rfl ?_
          refine x_goto (pc := 139) (tgt := 38) K dX7_eating_139 (by decide) ?_
          have hj : ¬ r_joins (r_endsU (r_et ρ n (nI a) b load i).2) ((r_fill (r_etB (r_et ρ n (nI a) b load i).2 (nI i)) (r_et ρ n (nI a) b load i).2 n) mBear) load n (nI a) b = true := by rw [← r_endsU_of (r := (r_fill (r_etB (r_et ρ n (nI a) b load i).2 (nI i)) (r_et ρ n (nI a) b load i).2 n)) (r_fill_ne (by decide) n), c_124]; decide
          have e1 : (r_et ρ n (nI a) b load (i + 1)) = (nI i, (r_fill (r_etB (r_et ρ n (nI a) b load i).2 (nI i)) (r_et ρ n (nI a) b load i).2 n)) := by simp only [r_et]; rw [if_pos c_53]; unfold r_etT; rw [if_neg hj]
          have h2 := ih (i + 1) (some (.int (nI n))) (by omega) hx
          rw [e1] at h2
          exact h2
        · refine x_iload (pc := 127) (i := 5) K dX7_eating_127 rfl ?_
          refine x_goto (pc := 129) (tgt := 134) K dX7_eating_129 (by decide) ?_
          refine x_istore (pc := 134) (i := 5) K dX7_eating_134 rfl (by decide) ?_
          refine x_iinc (pc := 136) (i := 6) (v := nI (i + 1)) K dX7_eating_136 rfl (nI_1 _) rfl ?_
          refine x_goto (pc := 139) (tgt := 38) K dX7_eating_139 (by decide) ?_
          have hj : r_joins (r_endsU (r_et ρ n (nI a) b load i).2) ((r_fill (r_etB (r_et ρ n (nI a) b load i).2 (nI i)) (r_et ρ n (nI a) b load i).2 n) mBear) load n (nI a) b = true := by rw [← r_endsU_of (r := (r_fill (r_etB (r_et ρ n (nI a) b load i).2 (nI i)) (r_et ρ n (nI a) b load i).2 n)) (r_fill_ne (by decide) n)]; exact c_124
          have e1 : (r_et ρ n (nI a) b load (i + 1)) = ((r_et ρ n (nI a) b load i).1, (r_fill (r_etB (r_et ρ n (nI a) b load i).2 (nI i)) (r_et ρ n (nI a) b load i).2 n)) := by simp only [r_et]; rw [if_pos c_53]; unfold r_etT; rw [if_pos hj]
          have h2 := ih (i + 1) (some (.int (nI n))) (by omega) hx
          rw [e1] at h2
          exact h2
      · refine x_iload (pc := 56) (i := 6) K dX7_eating_56 rfl ?_
        refine x_S1i (pc := 58) K (EtF_bits (s := i) (by omega)) mw_yX7_bits st_yX7_bits mk_X7_199 ⟨Nat.le_of_ble_eq_true rfl, Nat.le_of_ble_eq_true rfl, Nat.le_of_ble_eq_true rfl⟩ dX7_eating_58 ?_
        refine x_iload (pc := 61) (i := 5) K dX7_eating_61 rfl ?_
        refine x_S1i (pc := 63) K (EtV_bits (r_et_B (ρ := ρ) (n := n) (a := nI a) (b := b) (load := load) i (by omega))) mw_yX7_bits st_yX7_bits mk_X7_199 ⟨Nat.le_of_ble_eq_true rfl, Nat.le_of_ble_eq_true rfl, Nat.le_of_ble_eq_true rfl⟩ dX7_eating_63 ?_
        refine x_icmp_ge (pc := 66) (tgt := 136) K dX7_eating_66 (by decide) (fun c_66 => ?_) (fun c_66 => ?_)
        · refine x_iinc (pc := 136) (i := 6) (v := nI (i + 1)) K dX7_eating_136 rfl (nI_1 _) rfl ?_
          refine x_goto (pc := 139) (tgt := 38) K dX7_eating_139 (by decide) ?_
          have e1 : (r_et ρ n (nI a) b load (i + 1)) = (r_et ρ n (nI a) b load i) := by simp only [r_et]; rw [if_neg c_53, if_pos c_66]
          have h2 := ih (i + 1) y7 (by omega) hx
          rw [e1] at h2
          exact h2
        · refine x_iconst (pc := 69) (v := 0) K dX7_eating_69 (by decide) ?_
          refine x_istore (pc := 70) (i := 7) K dX7_eating_70 rfl (by decide) ?_
          refine l_etF (ρ := (r_et ρ n (nI a) b load i).2) K hm h9 ha n 0 (by omega) ?_
          refine x_aload_n (pc := 117) (i := 0) K dX7_eating_117 rfl rfl ?_
          refine x_iload_n (pc := 118) (i := 1) K dX7_eating_118 rfl rfl ?_
          refine x_iload_n (pc := 119) (i := 2) K dX7_eating_119 rfl rfl ?_
          refine x_iload_n (pc := 120) (i := 3) K dX7_eating_120 rfl rfl ?_
          refine x_V3i (pc := 121) K (c_yX7_areJoinedBy (ρ := r_fill (r_etB (r_et ρ n (nI a) b load i).2 (nI i)) (r_et ρ n (nI a) b load i).2 n) (by rw [r_fill_ne (by decide)]; exact hm) h9 ha (by rw [r_endsU_of (ρ := ρ) ((r_fill_ne (by decide) n).trans hr)]; exact hE)) mw_yX7_areJoinedBy ⟨im_yX7_areJoinedBy, se_yX7_areJoinedBy⟩ mk_X7_192 rc_M rfl ⟨Nat.le_of_ble_eq_true rfl, Nat.le_of_ble_eq_true rfl, Nat.le_of_ble_eq_true rfl⟩ dX7_eating_121 ?_
          refine x_ifeq_b (pc := 124) (tgt := 132) K dX7_eating_124 (by decide) (fun c_124 => ?_) (fun c_124 => ?_)
          · refine x_iload (pc := 132) (i := 6) K dX7_eating_132 rfl ?_
            refine x_istore (pc := 134) (i := 5) K dX7_eating_134 rfl (by decide) ?_
            refine x_iinc (pc := 136) (i := 6) (v := nI (i + 1)) K dX7_eating_136 rfl (nI_1 _) rfl ?_
            refine x_goto (pc := 139) (tgt := 38) K dX7_eating_139 (by decide) ?_
            have hj : ¬ r_joins (r_endsU (r_et ρ n (nI a) b load i).2) ((r_fill (r_etB (r_et ρ n (nI a) b load i).2 (nI i)) (r_et ρ n (nI a) b load i).2 n) mBear) load n (nI a) b = true := by rw [← r_endsU_of (r := (r_fill (r_etB (r_et ρ n (nI a) b load i).2 (nI i)) (r_et ρ n (nI a) b load i).2 n)) (r_fill_ne (by decide) n), c_124]; decide
            have e1 : (r_et ρ n (nI a) b load (i + 1)) = (nI i, (r_fill (r_etB (r_et ρ n (nI a) b load i).2 (nI i)) (r_et ρ n (nI a) b load i).2 n)) := by simp only [r_et]; rw [if_neg c_53, if_neg c_66]; unfold r_etT; rw [if_neg hj]
            have h2 := ih (i + 1) (some (.int (nI n))) (by omega) hx
            rw [e1] at h2
            exact h2
          · refine x_iload (pc := 127) (i := 5) K dX7_eating_127 rfl ?_
            refine x_goto (pc := 129) (tgt := 134) K dX7_eating_129 (by decide) ?_
            refine x_istore (pc := 134) (i := 5) K dX7_eating_134 rfl (by decide) ?_
            refine x_iinc (pc := 136) (i := 6) (v := nI (i + 1)) K dX7_eating_136 rfl (nI_1 _) rfl ?_
            refine x_goto (pc := 139) (tgt := 38) K dX7_eating_139 (by decide) ?_
            have hj : r_joins (r_endsU (r_et ρ n (nI a) b load i).2) ((r_fill (r_etB (r_et ρ n (nI a) b load i).2 (nI i)) (r_et ρ n (nI a) b load i).2 n) mBear) load n (nI a) b = true := by rw [← r_endsU_of (r := (r_fill (r_etB (r_et ρ n (nI a) b load i).2 (nI i)) (r_et ρ n (nI a) b load i).2 n)) (r_fill_ne (by decide) n)]; exact c_124
            have e1 : (r_et ρ n (nI a) b load (i + 1)) = ((r_et ρ n (nI a) b load i).1, (r_fill (r_etB (r_et ρ n (nI a) b load i).2 (nI i)) (r_et ρ n (nI a) b load i).2 n)) := by simp only [r_et]; rw [if_neg c_53, if_neg c_66]; unfold r_etT; rw [if_pos hj]
            have h2 := ih (i + 1) (some (.int (nI n))) (by omega) hx
            rw [e1] at h2
            exact h2

def g_eating (ρ : Af) (a b load what : Int32) : Int32 × Af := if q_areTwo a b = true then (if q_isLoad load = true then (if q_within what 0 1 = true then ((if what = 0 then r_bitV (r_et ρ (ρ mRow 2).toNatClampNeg a b load (2 ^ (ρ mRow 2).toNatClampNeg)).1 else (r_et ρ (ρ mRow 2).toNatClampNeg a b load (2 ^ (ρ mRow 2).toNatClampNeg)).1, (r_et ρ (ρ mRow 2).toNatClampNeg a b load (2 ^ (ρ mRow 2).toNatClampNeg)).2)) else r_errP ρ 1) else r_errP ρ 1) else r_errP ρ 1
set_option maxRecDepth 100000 in
set_option maxHeartbeats 4000000 in
theorem c_yX7_eating {l : Launch} {G : Gm} {α ρ : Af} {a b load what : Int32} (hI : IM ρ) : CI 1 l G yX7_eating (Cond.code yX7_eating cX7_eating 8 (some .int)) 100 [.ref (gA G idM), .int a, .int b, .int load, .int what] α ρ (PI (g_eating ρ a b load what).1 α (g_eating ρ a b load what).2) := by
  obtain ⟨⟨n, h9, hn, hE⟩, hl0, hl1, ⟨t, h60, ht⟩, ⟨w, h24, hw⟩, hSz, ⟨q, hq, hqe⟩⟩ := hI
  refine CI.of [some (.ref (gA G idM)), some (.int a), some (.int b), some (.int load), some (.int what), none, none, none] (by decide) (Nat.le_of_ble_eq_true rfl) rfl rfl (fun C K => ?_)
  have K : Ok l _ G C RX7 cX7_eating (some .int) 8 := K
  refine x_iload_n (pc := 0) (i := 1) K dX7_eating_0 rfl rfl ?_
  refine x_iload_n (pc := 1) (i := 2) K dX7_eating_1 rfl rfl ?_
  refine x_S2i (pc := 2) K (c_yX7_areTwo) mw_yX7_areTwo st_yX7_areTwo mk_X7_76 ⟨Nat.le_of_ble_eq_true rfl, Nat.le_of_ble_eq_true rfl, Nat.le_of_ble_eq_true rfl⟩ dX7_eating_2 ?_
  refine x_ifeq_b (pc := 5) (tgt := 25) K dX7_eating_5 (by decide) (fun c_5 => ?_) (fun c_5 => ?_)
  · refine x_aload_n (pc := 25) (i := 0) K dX7_eating_25 rfl rfl ?_
    refine x_ldc (pc := 26) K kn_X7_80 dX7_eating_26 ?_
    refine x_V1i (pc := 28) K (c_yX7_error (j := 1) (by decide) (by decide)) mw_yX7_error ⟨im_yX7_error, se_yX7_error⟩ mk_X7_81 rc_M rfl ⟨Nat.le_of_ble_eq_true rfl, Nat.le_of_ble_eq_true rfl, Nat.le_of_ble_eq_true rfl⟩ dX7_eating_28 ?_
    exact x_iretI (pc := 31) K dX7_eating_31 ⟨by simp (decide := true) only [g_eating, r_errP, c_5, ↓reduceIte, Bool.false_eq_true, bI_t, bI_f], rfl, by simp (decide := true) only [g_eating, r_errP, c_5, ↓reduceIte, Bool.false_eq_true, bI_t, bI_f]⟩
  · refine x_iload_n (pc := 8) (i := 3) K dX7_eating_8 rfl rfl ?_
    refine x_S1i (pc := 9) K (c_yX7_isLoad) mw_yX7_isLoad st_yX7_isLoad mk_X7_109 ⟨Nat.le_of_ble_eq_true rfl, Nat.le_of_ble_eq_true rfl, Nat.le_of_ble_eq_true rfl⟩ dX7_eating_9 ?_
    refine x_ifeq_b (pc := 12) (tgt := 25) K dX7_eating_12 (by decide) (fun c_12 => ?_) (fun c_12 => ?_)
    · refine x_aload_n (pc := 25) (i := 0) K dX7_eating_25 rfl rfl ?_
      refine x_ldc (pc := 26) K kn_X7_80 dX7_eating_26 ?_
      refine x_V1i (pc := 28) K (c_yX7_error (j := 1) (by decide) (by decide)) mw_yX7_error ⟨im_yX7_error, se_yX7_error⟩ mk_X7_81 rc_M rfl ⟨Nat.le_of_ble_eq_true rfl, Nat.le_of_ble_eq_true rfl, Nat.le_of_ble_eq_true rfl⟩ dX7_eating_28 ?_
      exact x_iretI (pc := 31) K dX7_eating_31 ⟨by simp (decide := true) only [g_eating, r_errP, c_5 , c_12, ↓reduceIte, Bool.false_eq_true, bI_t, bI_f], rfl, by simp (decide := true) only [g_eating, r_errP, c_5 , c_12, ↓reduceIte, Bool.false_eq_true, bI_t, bI_f]⟩
    · refine x_iload (pc := 15) (i := 4) K dX7_eating_15 rfl ?_
      refine x_iconst (pc := 17) (v := 0) K dX7_eating_17 (by decide) ?_
      refine x_iconst (pc := 18) (v := 1) K dX7_eating_18 (by decide) ?_
      refine x_S3i (pc := 19) K (c_yX7_in) mw_yX7_in st_yX7_in mk_X7_54 ⟨Nat.le_of_ble_eq_true rfl, Nat.le_of_ble_eq_true rfl, Nat.le_of_ble_eq_true rfl⟩ dX7_eating_19 ?_
      refine x_ifne_b (pc := 22) (tgt := 32) K dX7_eating_22 (by decide) (fun c_22 => ?_) (fun c_22 => ?_)
      · obtain ⟨m, hm, rfl⟩ := two_of c_5
        have hcn : (ρ mRow 2).toNatClampNeg = n := by rw [hn]; exact nI_clamp (by omega)
        refine x_iconst (pc := 32) (v := (-1)) K dX7_eating_32 (by decide) ?_
        refine x_istore (pc := 33) (i := 5) K dX7_eating_33 rfl (by decide) ?_
        refine x_iconst (pc := 35) (v := 0) K dX7_eating_35 (by decide) ?_
        refine x_istore (pc := 36) (i := 6) K dX7_eating_36 rfl (by decide) ?_
        have hp := pow9 h9
        refine l_et K hn h9 hm hE (2 ^ n) 0 none (by omega) (fun y7 => ?_)
        refine x_iload (pc := 142) (i := 4) K dX7_eating_142 rfl ?_
        refine x_if_ne (pc := 144) (tgt := 155) K dX7_eating_144 (by decide) (fun c_144 => ?_) (fun c_144 => ?_)
        · refine x_iload (pc := 155) (i := 5) K dX7_eating_155 rfl ?_
          exact x_iretI (pc := 157) K dX7_eating_157 ⟨by simp (decide := true) only [g_eating, r_errP, c_5 , c_12 , c_22 , if_neg c_144, ↓reduceIte, Bool.false_eq_true, bI_t, bI_f, hcn], rfl, by simp (decide := true) only [g_eating, r_errP, c_5 , c_12 , c_22 , if_neg c_144, ↓reduceIte, Bool.false_eq_true, bI_t, bI_f, hcn]⟩
        · refine x_iload (pc := 147) (i := 5) K dX7_eating_147 rfl ?_
          refine x_S1i (pc := 149) K (EtV_bits (r_et_B (ρ := ρ) (n := n) (a := nI m) (b := b) (load := load) (2 ^ n) (by omega))) mw_yX7_bits st_yX7_bits mk_X7_199 ⟨Nat.le_of_ble_eq_true rfl, Nat.le_of_ble_eq_true rfl, Nat.le_of_ble_eq_true rfl⟩ dX7_eating_149 ?_
          refine x_goto (pc := 152) (tgt := 157) K dX7_eating_152 (by decide) ?_
          exact x_iretI (pc := 157) K dX7_eating_157 ⟨by simp (decide := true) only [g_eating, r_errP, c_5 , c_12 , c_22 , if_pos c_144, ↓reduceIte, Bool.false_eq_true, bI_t, bI_f, hcn], rfl, by simp (decide := true) only [g_eating, r_errP, c_5 , c_12 , c_22 , if_pos c_144, ↓reduceIte, Bool.false_eq_true, bI_t, bI_f, hcn]⟩
      · refine x_aload_n (pc := 25) (i := 0) K dX7_eating_25 rfl rfl ?_
        refine x_ldc (pc := 26) K kn_X7_80 dX7_eating_26 ?_
        refine x_V1i (pc := 28) K (c_yX7_error (j := 1) (by decide) (by decide)) mw_yX7_error ⟨im_yX7_error, se_yX7_error⟩ mk_X7_81 rc_M rfl ⟨Nat.le_of_ble_eq_true rfl, Nat.le_of_ble_eq_true rfl, Nat.le_of_ble_eq_true rfl⟩ dX7_eating_28 ?_
        exact x_iretI (pc := 31) K dX7_eating_31 ⟨by simp (decide := true) only [g_eating, r_errP, c_5 , c_12 , c_22, ↓reduceIte, Bool.false_eq_true, bI_t, bI_f], rfl, by simp (decide := true) only [g_eating, r_errP, c_5 , c_12 , c_22, ↓reduceIte, Bool.false_eq_true, bI_t, bI_f]⟩

def r_la (n : Nat) (a b x : Int32) : Nat → Nat → Af → Nat × Af
  | 0, i, ρ => (i, ρ)
  | j + 1, i, ρ => if r_areJ ρ n a b x = true then r_la n a b x j (i + 1) (r_go (r_fb ρ n) n) else (i, r_fb ρ n)
/-- what the days keep -/
def Kd (n : Nat) (ρ : Af) : Prop := ρ mRow 2 = nI n ∧ Ml ρ 0 ∧ Eb (r_endsU ρ) n
theorem r_goS_ends {ρ : Af} {u i : Nat} : r_endsU (r_goS ρ u) i = r_endsU ρ i := by
  have e1 : r_goS ρ u mRow (mS i 2) = ρ mRow (mS i 2) := r_goS_row ⟨by unfold mS; omega, by unfold mS; omega⟩
  have e2 : r_goS ρ u mRow (mS i 3) = ρ mRow (mS i 3) := r_goS_row ⟨by unfold mS; omega, by unfold mS; omega⟩
  unfold r_endsU
  rw [e1, e2]
theorem r_gos_ends {ρ : Af} {i : Nat} : ∀ n, r_endsU (r_gos ρ n) i = r_endsU ρ i
  | 0 => rfl
  | n + 1 => by simp only [r_gos]; rw [r_goS_ends, r_gos_ends n]
theorem r_go_ends {ρ : Af} {n i : Nat} : r_endsU (r_go ρ n) i = r_endsU ρ i := by
  have e1 : ∀ w, r_go ρ n mRow (mS i w) = r_gos ρ n mRow (mS i w) := fun w => by unfold r_go; exact up_ne2 (by have := mS_ge (u := i) (w := w); omega)
  have e2 : r_endsU (r_go ρ n) i = r_endsU (r_gos ρ n) i := by unfold r_endsU; rw [e1, e1]
  rw [e2, r_gos_ends]
theorem Kd.fb {n m : Nat} {ρ : Af} (h : Kd n ρ) : Kd n (r_fb ρ m) := ⟨by rw [r_fb_ne (by decide)]; exact h.1, h.2.1.of fun k hk => by rw [r_fb_ne (by decide)], by rw [r_fb_ends]; exact h.2.2⟩
theorem Kd.go {n : Nat} {ρ : Af} (h9 : n ≤ 9) (h : Kd n ρ) : Kd n (r_go ρ n) := ⟨by rw [r_go_lo (by decide) (by decide)]; exact h.1, h.2.1.go h9, fun i hi => by rw [r_go_ends]; exact h.2.2 i hi⟩
theorem r_copy_ne {ρ : Af} {i1 i2 k : Nat} (h : k ≠ i2) : ∀ n, r_copy ρ i1 i2 n k = ρ k
  | 0 => rfl
  | n + 1 => by simp only [r_copy]; rw [up_ne h, r_copy_ne h n]
theorem r_copy_at {ρ : Af} {i1 i2 : Nat} (h : i1 ≠ i2) : ∀ n j, r_copy ρ i1 i2 n i2 j = if j < n then ρ i1 j else ρ i2 j
  | 0, j => by rw [if_neg (by omega)]; rfl
  | n + 1, j => by
    simp only [r_copy]
    rw [up_at, r_copy_ne h]
    by_cases e : j = n
    · rw [if_pos e, if_pos (by omega), e]
    · rw [if_neg e, r_copy_at h n j]
      by_cases e2 : j < n
      · rw [if_pos e2, if_pos (by omega)]
      · rw [if_neg e2, if_neg (by omega)]
def r_th (ρ : Af) : Af := r_copy ρ mRow mBefore 398
def r_bf (ρ : Af) : Af := r_copy ρ mBefore mRow 398
theorem r_th_ne {ρ : Af} {i : Nat} (h : i ≠ mBefore) : r_th ρ i = ρ i := r_copy_ne h 398
theorem Kd.th {n : Nat} {ρ : Af} (h : Kd n ρ) : Kd n (r_th ρ) := ⟨by rw [r_th_ne (by decide)]; exact h.1, h.2.1.of fun k hk => by rw [r_th_ne (by decide)], by rw [r_endsU_of (r_th_ne (by decide))]; exact h.2.2⟩
set_option maxRecDepth 100000 in
set_option maxHeartbeats 4000000 in
theorem l_la {l : Launch} {G : Gm} {C : Cx} {P : Po} {n a : Nat} {b load : Int32} {α : Af} (K : Ok l 100 G C RX7 cX7_lasts (some .int) 5) (h9 : n ≤ 9) (ha : a < 8) : ∀ (j i : Nat) (r : Af), Kd n r → i + j = 61 → X 1 l 100 G C (P) 5 56 [some (.ref (gA G idM)), some (.int (nI a)), some (.int b), some (.int load), some (.int (nI (r_la n (nI a) b load j i r).1))] [] α (r_la n (nI a) b load j i r).2 → X 1 l 100 G C (P) 5 29 [some (.ref (gA G idM)), some (.int (nI a)), some (.int b), some (.int load), some (.int (nI i))] [] α r := by
  intro j
  induction j with
  | zero =>
    intro i r hK hi hx
    refine x_iload (pc := 29) (i := 4) K dX7_lasts_29 rfl ?_
    refine x_bipush (pc := 31) (v := 60) K dX7_lasts_31 (by decide) ?_
    refine x_icmp_gt (pc := 33) (tgt := 56) K dX7_lasts_33 (by decide) (fun c_33 => ?_) (fun c_33 => ?_)
    · simp only [r_la] at hx
      exact hx
    · exact absurd (by rw [show i = 61 by omega]; decide) c_33
  | succ j ih =>
    intro i r hK hi hx
    refine x_iload (pc := 29) (i := 4) K dX7_lasts_29 rfl ?_
    refine x_bipush (pc := 31) (v := 60) K dX7_lasts_31 (by decide) ?_
    refine x_icmp_gt (pc := 33) (tgt := 56) K dX7_lasts_33 (by decide) (fun c_33 => ?_) (fun c_33 => ?_)
    · exact absurd ((nI_ltI (a := 60) (b := i) (by decide) (by omega)).mp c_33) (by omega)
    · refine x_aload_n (pc := 36) (i := 0) K dX7_lasts_36 rfl rfl ?_
      refine x_iload_n (pc := 37) (i := 1) K dX7_lasts_37 rfl rfl ?_
      refine x_iload_n (pc := 38) (i := 2) K dX7_lasts_38 rfl rfl ?_
      refine x_iload_n (pc := 39) (i := 3) K dX7_lasts_39 rfl rfl ?_
      refine x_V3i (pc := 40) K (c_yX7_areJoined hK.1 h9 ha hK.2.2) mw_yX7_areJoined ⟨im_yX7_areJoined, se_yX7_areJoined⟩ mk_X7_205 rc_M rfl ⟨Nat.le_of_ble_eq_true rfl, Nat.le_of_ble_eq_true rfl, Nat.le_of_ble_eq_true rfl⟩ dX7_lasts_40 ?_
      refine x_ifeq_b (pc := 43) (tgt := 56) K dX7_lasts_43 (by decide) (fun c_43 => ?_) (fun c_43 => ?_)
      · simp only [r_la] at hx
        rw [if_neg (by rw [c_43]; decide)] at hx
        exact hx
      · refine x_aload_n (pc := 46) (i := 0) K dX7_lasts_46 rfl rfl ?_
        refine x_V0v (pc := 47) K (c_yX7_goes (ρ := r_fb r n) hK.fb.1 h9 hK.fb.2.1) mw_yX7_goes ⟨im_yX7_goes, se_yX7_goes⟩ mk_X7_176 rc_M rfl ⟨Nat.le_of_ble_eq_true rfl, Nat.le_of_ble_eq_true rfl, Nat.le_of_ble_eq_true rfl⟩ dX7_lasts_47 ?_
        refine x_iinc (pc := 50) (i := 4) (v := nI (i + 1)) K dX7_lasts_50 rfl (nI_1 _) rfl ?_
        refine x_goto (pc := 53) (tgt := 29) K dX7_lasts_53 (by decide) ?_
        exact ih (i + 1) _ (hK.fb.go h9) (by omega) (by have h2 := hx; simp only [r_la] at h2; rw [if_pos c_43] at h2; exact h2)

def g_lasts (ρ : Af) (a b load : Int32) : Int32 × Af := if q_areTwo a b = true then (if q_isLoad load = true then (if nI (r_la (ρ mRow 2).toNatClampNeg a b load 61 0 (r_th ρ)).1 ≤ 60 then (nI (r_la (ρ mRow 2).toNatClampNeg a b load 61 0 (r_th ρ)).1, r_bf (r_la (ρ mRow 2).toNatClampNeg a b load 61 0 (r_th ρ)).2) else r_errP (r_bf (r_la (ρ mRow 2).toNatClampNeg a b load 61 0 (r_th ρ)).2) 2) else r_errP ρ 1) else r_errP ρ 1
set_option maxRecDepth 100000 in
set_option maxHeartbeats 4000000 in
theorem c_yX7_lasts {l : Launch} {G : Gm} {α ρ : Af} {a b load : Int32} (hI : IM ρ) : CI 1 l G yX7_lasts (Cond.code yX7_lasts cX7_lasts 5 (some .int)) 100 [.ref (gA G idM), .int a, .int b, .int load] α ρ (PI (g_lasts ρ a b load).1 α (g_lasts ρ a b load).2) := by
  obtain ⟨⟨n, h9, hn, hE⟩, hl0, hl1, ⟨t, h60, ht⟩, ⟨w, h24, hw⟩, hSz, ⟨q, hq, hqe⟩⟩ := hI
  refine CI.of [some (.ref (gA G idM)), some (.int a), some (.int b), some (.int load), none] (by decide) (Nat.le_of_ble_eq_true rfl) rfl rfl (fun C K => ?_)
  have K : Ok l _ G C RX7 cX7_lasts (some .int) 5 := K
  refine x_iload_n (pc := 0) (i := 1) K dX7_lasts_0 rfl rfl ?_
  refine x_iload_n (pc := 1) (i := 2) K dX7_lasts_1 rfl rfl ?_
  refine x_S2i (pc := 2) K (c_yX7_areTwo) mw_yX7_areTwo st_yX7_areTwo mk_X7_76 ⟨Nat.le_of_ble_eq_true rfl, Nat.le_of_ble_eq_true rfl, Nat.le_of_ble_eq_true rfl⟩ dX7_lasts_2 ?_
  refine x_ifeq_b (pc := 5) (tgt := 15) K dX7_lasts_5 (by decide) (fun c_5 => ?_) (fun c_5 => ?_)
  · refine x_aload_n (pc := 15) (i := 0) K dX7_lasts_15 rfl rfl ?_
    refine x_ldc (pc := 16) K kn_X7_80 dX7_lasts_16 ?_
    refine x_V1i (pc := 18) K (c_yX7_error (j := 1) (by decide) (by decide)) mw_yX7_error ⟨im_yX7_error, se_yX7_error⟩ mk_X7_81 rc_M rfl ⟨Nat.le_of_ble_eq_true rfl, Nat.le_of_ble_eq_true rfl, Nat.le_of_ble_eq_true rfl⟩ dX7_lasts_18 ?_
    exact x_iretI (pc := 21) K dX7_lasts_21 ⟨by simp (decide := true) only [g_lasts, r_errP, c_5, ↓reduceIte, Bool.false_eq_true, bI_t, bI_f], rfl, by simp (decide := true) only [g_lasts, r_errP, c_5, ↓reduceIte, Bool.false_eq_true, bI_t, bI_f]⟩
  · refine x_iload_n (pc := 8) (i := 3) K dX7_lasts_8 rfl rfl ?_
    refine x_S1i (pc := 9) K (c_yX7_isLoad) mw_yX7_isLoad st_yX7_isLoad mk_X7_109 ⟨Nat.le_of_ble_eq_true rfl, Nat.le_of_ble_eq_true rfl, Nat.le_of_ble_eq_true rfl⟩ dX7_lasts_9 ?_
    refine x_ifne_b (pc := 12) (tgt := 22) K dX7_lasts_12 (by decide) (fun c_12 => ?_) (fun c_12 => ?_)
    · obtain ⟨m, hm, rfl⟩ := two_of c_5
      have hcn : (ρ mRow 2).toNatClampNeg = n := by rw [hn]; exact nI_clamp (by omega)
      refine x_aload_n (pc := 22) (i := 0) K dX7_lasts_22 rfl rfl ?_
      refine x_V0v (pc := 23) K (c_yX7_thinks) mw_yX7_thinks ⟨im_yX7_thinks, se_yX7_thinks⟩ mk_X7_202 rc_M rfl ⟨Nat.le_of_ble_eq_true rfl, Nat.le_of_ble_eq_true rfl, Nat.le_of_ble_eq_true rfl⟩ dX7_lasts_23 ?_
      refine x_st (r := r_th ρ) rfl rfl ?_
      refine x_iconst (pc := 26) (v := 0) K dX7_lasts_26 (by decide) ?_
      refine x_istore (pc := 27) (i := 4) K dX7_lasts_27 rfl (by decide) ?_
      refine l_la K h9 hm 61 0 _ (Kd.th ⟨hn, hl0, hE⟩) (by omega) ?_
      refine x_aload_n (pc := 56) (i := 0) K dX7_lasts_56 rfl rfl ?_
      refine x_V0v (pc := 57) K (c_yX7_putsBack) mw_yX7_putsBack ⟨im_yX7_putsBack, se_yX7_putsBack⟩ mk_X7_208 rc_M rfl ⟨Nat.le_of_ble_eq_true rfl, Nat.le_of_ble_eq_true rfl, Nat.le_of_ble_eq_true rfl⟩ dX7_lasts_57 ?_
      refine x_st (r := r_bf (r_la n (nI m) b load 61 0 (r_th ρ)).2) rfl rfl ?_
      refine x_iload (pc := 60) (i := 4) K dX7_lasts_60 rfl ?_
      refine x_bipush (pc := 62) (v := 60) K dX7_lasts_62 (by decide) ?_
      refine x_icmp_le (pc := 64) (tgt := 76) K dX7_lasts_64 (by decide) (fun c_64 => ?_) (fun c_64 => ?_)
      · refine x_iload (pc := 76) (i := 4) K dX7_lasts_76 rfl ?_
        exact x_iretI (pc := 78) K dX7_lasts_78 ⟨by simp (decide := true) only [g_lasts, r_errP, c_5 , c_12 , if_pos c_64, ↓reduceIte, Bool.false_eq_true, bI_t, bI_f, hcn], rfl, by simp (decide := true) only [g_lasts, r_errP, c_5 , c_12 , if_pos c_64, ↓reduceIte, Bool.false_eq_true, bI_t, bI_f, hcn]⟩
      · refine x_aload_n (pc := 67) (i := 0) K dX7_lasts_67 rfl rfl ?_
        refine x_ldc (pc := 68) K kn_X7_195 dX7_lasts_68 ?_
        refine x_V1i (pc := 70) K (c_yX7_error (j := 2) (by decide) (by decide)) mw_yX7_error ⟨im_yX7_error, se_yX7_error⟩ mk_X7_81 rc_M rfl ⟨Nat.le_of_ble_eq_true rfl, Nat.le_of_ble_eq_true rfl, Nat.le_of_ble_eq_true rfl⟩ dX7_lasts_70 ?_
        refine x_goto (pc := 73) (tgt := 78) K dX7_lasts_73 (by decide) ?_
        exact x_iretI (pc := 78) K dX7_lasts_78 ⟨by simp (decide := true) only [g_lasts, r_errP, c_5 , c_12 , if_neg c_64, ↓reduceIte, Bool.false_eq_true, bI_t, bI_f, hcn], rfl, by simp (decide := true) only [g_lasts, r_errP, c_5 , c_12 , if_neg c_64, ↓reduceIte, Bool.false_eq_true, bI_t, bI_f, hcn]⟩
    · refine x_aload_n (pc := 15) (i := 0) K dX7_lasts_15 rfl rfl ?_
      refine x_ldc (pc := 16) K kn_X7_80 dX7_lasts_16 ?_
      refine x_V1i (pc := 18) K (c_yX7_error (j := 1) (by decide) (by decide)) mw_yX7_error ⟨im_yX7_error, se_yX7_error⟩ mk_X7_81 rc_M rfl ⟨Nat.le_of_ble_eq_true rfl, Nat.le_of_ble_eq_true rfl, Nat.le_of_ble_eq_true rfl⟩ dX7_lasts_18 ?_
      exact x_iretI (pc := 21) K dX7_lasts_21 ⟨by simp (decide := true) only [g_lasts, r_errP, c_5 , c_12, ↓reduceIte, Bool.false_eq_true, bI_t, bI_f], rfl, by simp (decide := true) only [g_lasts, r_errP, c_5 , c_12, ↓reduceIte, Bool.false_eq_true, bI_t, bI_f]⟩

theorem r_goN_Kd {n : Nat} {ρ : Af} (h9 : n ≤ 9) (h : Kd n ρ) : ∀ i, Kd n (r_goN ρ n i)
  | 0 => h
  | i + 1 => (r_goN_Kd h9 h i).go h9
set_option maxRecDepth 100000 in
set_option maxHeartbeats 4000000 in
theorem l_mthen {l : Launch} {G : Gm} {C : Cx} {P : Po} {n m : Nat} {v : Int32} {α ρ : Af} (K : Ok l 100 G C RX7 cX7_then (some .int) 4) (h9 : n ≤ 9) (hm : m ≤ 60) (hK : Kd n ρ) : ∀ (j i : Nat), i + j = m → X 1 l 100 G C (P) 4 46 [some (.ref (gA G idM)), some (.int v), some (.int (nI m)), some (.int (nI m))] [] α (r_goN ρ n m) → X 1 l 100 G C (P) 4 31 [some (.ref (gA G idM)), some (.int v), some (.int (nI m)), some (.int (nI i))] [] α (r_goN ρ n i) := by
  intro j
  induction j with
  | zero =>
    intro i hi hx
    refine x_iload_n (pc := 31) (i := 3) K dX7_then_31 rfl rfl ?_
    refine x_iload_n (pc := 32) (i := 2) K dX7_then_32 rfl rfl ?_
    refine x_icmp_ge (pc := 33) (tgt := 46) K dX7_then_33 (by decide) (fun c_33 => ?_) (fun c_33 => ?_)
    · obtain rfl : i = m := by omega
      exact hx
    · exact absurd (nI_le (by omega) (by omega)) c_33
  | succ j ih =>
    intro i hi hx
    refine x_iload_n (pc := 31) (i := 3) K dX7_then_31 rfl rfl ?_
    refine x_iload_n (pc := 32) (i := 2) K dX7_then_32 rfl rfl ?_
    refine x_icmp_ge (pc := 33) (tgt := 46) K dX7_then_33 (by decide) (fun c_33 => ?_) (fun c_33 => ?_)
    · exact (nI_ge (a := i) (b := m) (by omega) (by omega) c_33).elim
    · refine x_aload_n (pc := 36) (i := 0) K dX7_then_36 rfl rfl ?_
      refine x_V0v (pc := 37) K (c_yX7_goes (ρ := r_goN ρ n i) (r_goN_Kd h9 hK i).1 h9 (r_goN_Kd h9 hK i).2.1) mw_yX7_goes ⟨im_yX7_goes, se_yX7_goes⟩ mk_X7_176 rc_M rfl ⟨Nat.le_of_ble_eq_true rfl, Nat.le_of_ble_eq_true rfl, Nat.le_of_ble_eq_true rfl⟩ dX7_then_37 ?_
      refine x_iinc (pc := 40) (i := 3) (v := nI (i + 1)) K dX7_then_40 rfl (nI_1 _) rfl ?_
      refine x_goto (pc := 43) (tgt := 31) K dX7_then_43 (by decide) ?_
      exact ih (i + 1) (by omega) hx

def g_then (ρ : Af) (span v : Int32) : Int32 × Af := if q_within span 0 (ρ mRow 2 - 1) = true then (if q_within v 0 60 = true then (r_bearsU (r_goN (r_th ρ) (ρ mRow 2).toNatClampNeg v.toNatClampNeg) span.toNatClampNeg, r_bf (r_goN (r_th ρ) (ρ mRow 2).toNatClampNeg v.toNatClampNeg)) else r_errP ρ 1) else r_errP ρ 1
set_option maxRecDepth 100000 in
set_option maxHeartbeats 4000000 in
theorem c_yX7_then {l : Launch} {G : Gm} {α ρ : Af} {span v : Int32} (hI : IM ρ) : CI 1 l G yX7_then (Cond.code yX7_then cX7_then 4 (some .int)) 100 [.ref (gA G idM), .int span, .int v] α ρ (PI (g_then ρ span v).1 α (g_then ρ span v).2) := by
  obtain ⟨⟨n, h9, hn, hE⟩, hl0, hl1, ⟨t, h60, ht⟩, ⟨w, h24, hw⟩, hSz, ⟨q, hq, hqe⟩⟩ := hI
  refine CI.of [some (.ref (gA G idM)), some (.int span), some (.int v), none] (by decide) (Nat.le_of_ble_eq_true rfl) rfl rfl (fun C K => ?_)
  have K : Ok l _ G C RX7 cX7_then (some .int) 4 := K
  refine x_aload_n (pc := 0) (i := 0) K dX7_then_0 rfl rfl ?_
  refine x_iload_n (pc := 1) (i := 1) K dX7_then_1 rfl rfl ?_
  refine x_V1i (pc := 2) K (c_yX7_isSpan) mw_yX7_isSpan ⟨im_yX7_isSpan, se_yX7_isSpan⟩ mk_X7_90 rc_M rfl ⟨Nat.le_of_ble_eq_true rfl, Nat.le_of_ble_eq_true rfl, Nat.le_of_ble_eq_true rfl⟩ dX7_then_2 ?_
  refine x_ifeq_b (pc := 5) (tgt := 18) K dX7_then_5 (by decide) (fun c_5 => ?_) (fun c_5 => ?_)
  · refine x_aload_n (pc := 18) (i := 0) K dX7_then_18 rfl rfl ?_
    refine x_ldc (pc := 19) K kn_X7_80 dX7_then_19 ?_
    refine x_V1i (pc := 21) K (c_yX7_error (j := 1) (by decide) (by decide)) mw_yX7_error ⟨im_yX7_error, se_yX7_error⟩ mk_X7_81 rc_M rfl ⟨Nat.le_of_ble_eq_true rfl, Nat.le_of_ble_eq_true rfl, Nat.le_of_ble_eq_true rfl⟩ dX7_then_21 ?_
    exact x_iretI (pc := 24) K dX7_then_24 ⟨by simp (decide := true) only [g_then, r_errP, c_5, ↓reduceIte, Bool.false_eq_true, bI_t, bI_f], rfl, by simp (decide := true) only [g_then, r_errP, c_5, ↓reduceIte, Bool.false_eq_true, bI_t, bI_f]⟩
  · refine x_iload_n (pc := 8) (i := 2) K dX7_then_8 rfl rfl ?_
    refine x_iconst (pc := 9) (v := 0) K dX7_then_9 (by decide) ?_
    refine x_bipush (pc := 10) (v := 60) K dX7_then_10 (by decide) ?_
    refine x_S3i (pc := 12) K (c_yX7_in) mw_yX7_in st_yX7_in mk_X7_54 ⟨Nat.le_of_ble_eq_true rfl, Nat.le_of_ble_eq_true rfl, Nat.le_of_ble_eq_true rfl⟩ dX7_then_12 ?_
    refine x_ifne_b (pc := 15) (tgt := 25) K dX7_then_15 (by decide) (fun c_15 => ?_) (fun c_15 => ?_)
    · obtain ⟨j, hj, rfl⟩ := hs_of (v := span) (n := n) (by omega) (by rw [← hn]; exact c_5)
      have hj9 : j < 9 := by omega
      have hjc : (nI j).toNatClampNeg = j := nI_clamp (by omega)
      obtain ⟨m, hlom, hhim, rfl⟩ := wi_of (v := v) (a := 0) (b := 60) rfl rfl (by decide) (by decide) c_15
      have hcm : (nI m).toNatClampNeg = m := nI_clamp (by omega)
      refine x_aload_n (pc := 25) (i := 0) K dX7_then_25 rfl rfl ?_
      have hcn : (ρ mRow 2).toNatClampNeg = n := by rw [hn]; exact nI_clamp (by omega)
      refine x_V0v (pc := 26) K (c_yX7_thinks) mw_yX7_thinks ⟨im_yX7_thinks, se_yX7_thinks⟩ mk_X7_202 rc_M rfl ⟨Nat.le_of_ble_eq_true rfl, Nat.le_of_ble_eq_true rfl, Nat.le_of_ble_eq_true rfl⟩ dX7_then_26 ?_
      refine x_st (r := r_th ρ) rfl rfl ?_
      refine x_iconst (pc := 29) (v := 0) K dX7_then_29 (by decide) ?_
      refine x_istore_n (pc := 30) (i := 3) K dX7_then_30 rfl rfl (by decide) ?_
      refine l_mthen (ρ := r_th ρ) K h9 hhim (Kd.th ⟨hn, hl0, hE⟩) m 0 (by omega) ?_
      refine x_aload_n (pc := 46) (i := 0) K dX7_then_46 rfl rfl ?_
      refine x_iload_n (pc := 47) (i := 1) K dX7_then_47 rfl rfl ?_
      refine x_V1i (pc := 48) K (c_yX7_bearsOf hj9) mw_yX7_bearsOf ⟨im_yX7_bearsOf, se_yX7_bearsOf⟩ mk_X7_93 rc_M rfl ⟨Nat.le_of_ble_eq_true rfl, Nat.le_of_ble_eq_true rfl, Nat.le_of_ble_eq_true rfl⟩ dX7_then_48 ?_
      refine x_istore_n (pc := 51) (i := 3) K dX7_then_51 rfl rfl (by decide) ?_
      refine x_aload_n (pc := 52) (i := 0) K dX7_then_52 rfl rfl ?_
      refine x_V0v (pc := 53) K (c_yX7_putsBack) mw_yX7_putsBack ⟨im_yX7_putsBack, se_yX7_putsBack⟩ mk_X7_208 rc_M rfl ⟨Nat.le_of_ble_eq_true rfl, Nat.le_of_ble_eq_true rfl, Nat.le_of_ble_eq_true rfl⟩ dX7_then_53 ?_
      refine x_st (r := r_bf (r_goN (r_th ρ) n m)) rfl rfl ?_
      refine x_iload_n (pc := 56) (i := 3) K dX7_then_56 rfl rfl ?_
      exact x_iretI (pc := 57) K dX7_then_57 ⟨by simp (decide := true) only [g_then, r_errP, c_5 , c_15 , ↓reduceIte, Bool.false_eq_true, bI_t, bI_f, hcn, hjc, hcm], rfl, by simp (decide := true) only [g_then, r_errP, c_5 , c_15 , ↓reduceIte, Bool.false_eq_true, bI_t, bI_f, hcn, hjc, hcm]⟩
    · refine x_aload_n (pc := 18) (i := 0) K dX7_then_18 rfl rfl ?_
      refine x_ldc (pc := 19) K kn_X7_80 dX7_then_19 ?_
      refine x_V1i (pc := 21) K (c_yX7_error (j := 1) (by decide) (by decide)) mw_yX7_error ⟨im_yX7_error, se_yX7_error⟩ mk_X7_81 rc_M rfl ⟨Nat.le_of_ble_eq_true rfl, Nat.le_of_ble_eq_true rfl, Nat.le_of_ble_eq_true rfl⟩ dX7_then_21 ?_
      exact x_iretI (pc := 24) K dX7_then_24 ⟨by simp (decide := true) only [g_then, r_errP, c_5 , c_15, ↓reduceIte, Bool.false_eq_true, bI_t, bI_f], rfl, by simp (decide := true) only [g_then, r_errP, c_5 , c_15, ↓reduceIte, Bool.false_eq_true, bI_t, bI_f]⟩

def r_od1 (ρ : Af) (n i : Nat) : Af := r_go (up ρ mRow 4 (nI i)) n
def r_od (ρ : Af) (n : Nat) (a b load : Int32) : Nat → Int32 × Af
  | 0 => (0, ρ)
  | i + 1 => ((r_od ρ n a b load i).1 + bI (r_areJ (r_od1 (r_od ρ n a b load i).2 n i) n a b load), r_bf (r_fb (r_od1 (r_od ρ n a b load i).2 n i) n))
theorem Kd.up4 {n : Nat} {ρ : Af} {v : Int32} (h : Kd n ρ) : Kd n (up ρ mRow 4 v) := ⟨by rw [up_ne2 (by decide)]; exact h.1, h.2.1.of fun k hk => up_ne2 (by omega), fun i hi => by
  have e1 : ∀ w, up ρ mRow 4 v mRow (mS i w) = ρ mRow (mS i w) := fun w => up_ne2 (by have := mS_ge (u := i) (w := w); omega)
  have e2 : r_endsU (up ρ mRow 4 v) i = r_endsU ρ i := by unfold r_endsU; rw [e1, e1]
  rw [e2]; exact h.2.2 i hi⟩
theorem Kd.od1 {n i : Nat} {ρ : Af} (h9 : n ≤ 9) (h : Kd n ρ) : Kd n (r_od1 ρ n i) := h.up4.go h9
/-- the row before is kept, and it is what the row comes back to -/
def Kb (n : Nat) (ρ : Af) : Prop := Kd n ρ ∧ ∀ j, j < 398 → ρ mBefore j = ρ mRow j
theorem Kd.row {n : Nat} {r ρ : Af} (h9 : n ≤ 9) (h : Kd n ρ) (e : ∀ j, j < 398 → r mRow j = ρ mRow j) : Kd n r := by
  refine ⟨by rw [e 2 (by decide)]; exact h.1, ?_, fun i hi => ?_⟩
  · obtain ⟨k, h1, h2, h3⟩ := h.2.1
    refine ⟨k, h1, by rw [e _ (by unfold aU; omega)]; exact h2, fun hk => ?_⟩
    have key : ∀ j i t, i + j = k → Vd (rAct ρ 0) (rWit ρ 0) j i t → Vd (rAct r 0) (rWit r 0) j i t := by
      intro j
      induction j with
      | zero => intro i t _ hv; exact hv
      | succ j ih =>
        intro i t hi hv
        have ea : rAct r 0 i = rAct ρ 0 i := e _ (by unfold aU; omega)
        have ew : rWit r 0 i = rWit ρ 0 i := e _ (by unfold aU; omega)
        simp only [Vd] at hv ⊢
        rw [ea, ew]
        by_cases c1 : rAct ρ 0 i = 1
        · rw [if_pos c1] at hv ⊢; exact ⟨hv.1, ih _ _ (by omega) hv.2⟩
        by_cases c2 : rAct ρ 0 i = 2
        · rw [if_neg c1, if_pos c2] at hv ⊢; exact ⟨hv.1, hv.2.1, ih _ _ (by omega) hv.2.2⟩
        by_cases c3 : rAct ρ 0 i = 3
        · rw [if_neg c1, if_neg c2, if_pos c3] at hv ⊢; exact ⟨hv.1, hv.2.1, ih _ _ (by omega) hv.2.2⟩
        · rw [if_neg c1, if_neg c2, if_neg c3] at hv ⊢; exact ⟨hv.1, hv.2.1, ih _ _ (by omega) hv.2.2⟩
    exact key k 0 0 (by omega) (h3 hk)
  · have e2 : r_endsU r i = r_endsU ρ i := by unfold r_endsU; rw [e _ (Nat.lt_trans (mS_lt (by omega) (by decide)) (by decide)), e _ (Nat.lt_trans (mS_lt (by omega) (by decide)) (by decide))]
    rw [e2]; exact h.2.2 i hi
theorem r_goS_B {ρ : Af} {n i : Nat} : r_od1 ρ n i mBefore = ρ mBefore := by
  unfold r_od1 r_go
  rw [up_ne (by decide), r_gos_ne (by decide), up_ne (by decide)]
theorem r_odB_row {ρ : Af} {n i j : Nat} (hj : j < 398) : r_bf (r_fb (r_od1 ρ n i) n) mRow j = ρ mBefore j := by
  unfold r_bf
  rw [r_copy_at (by decide), if_pos hj, r_fb_ne (by decide), r_goS_B]
theorem r_odB_bef {ρ : Af} {n i : Nat} : r_bf (r_fb (r_od1 ρ n i) n) mBefore = ρ mBefore := by
  unfold r_bf
  rw [r_copy_ne (by decide), r_fb_ne (by decide), r_goS_B]
theorem Kb.od {n : Nat} {ρ : Af} {a b load : Int32} (h9 : n ≤ 9) (h : Kb n ρ) : ∀ i, Kb n (r_od ρ n a b load i).2
  | 0 => h
  | i + 1 => by
    have h1 := Kb.od (a := a) (b := b) (load := load) h9 h i
    simp only [r_od]
    exact ⟨h1.1.row h9 (fun j hj => by rw [r_odB_row hj, h1.2 j hj]), fun j hj => by rw [r_odB_row hj, r_odB_bef]⟩
theorem Kb.th {n : Nat} {ρ : Af} (h : Kd n ρ) : Kb n (r_th ρ) := ⟨h.th, fun j hj => by
  unfold r_th
  rw [r_copy_at (by decide), if_pos hj, r_copy_ne (by decide)]⟩
def r_gcS (k : Nat) (s : Int32 × Int32) : Int32 × Int32 := if jrem s.1 (nI k) = 0 then (if jrem s.2 (nI k) = 0 then (s.1 / nI k, s.2 / nI k) else s) else s
def r_gc : Nat → Int32 × Int32 → Int32 × Int32
  | 0, s => s
  | k + 1, s => r_gc k (r_gcS (k + 2) s)
def r_bfT (ρ : Af) (n : Nat) (a b load : Int32) : Int32 × Af := r_od (r_th ρ) n a b load 10
set_option maxRecDepth 100000 in
set_option maxHeartbeats 4000000 in
theorem l_od {l : Launch} {G : Gm} {C : Cx} {P : Po} {n a : Nat} {b load part : Int32} {α ρ : Af} (K : Ok l 100 G C RX7 cX7_odds (some .int) 8) (h9 : n ≤ 9) (ha : a < 8) (hB : Kb n ρ) : ∀ (j i : Nat), i + j = 10 → X 1 l 100 G C (P) 8 91 [some (.ref (gA G idM)), some (.int (nI a)), some (.int b), some (.int load), some (.int part), some (.int (r_od ρ n (nI a) b load 10).1), some (.int (nI 10)), none] [] α (r_od ρ n (nI a) b load 10).2 → X 1 l 100 G C (P) 8 42 [some (.ref (gA G idM)), some (.int (nI a)), some (.int b), some (.int load), some (.int part), some (.int (r_od ρ n (nI a) b load i).1), some (.int (nI i)), none] [] α (r_od ρ n (nI a) b load i).2 := by
  intro j
  induction j with
  | zero =>
    intro i hi hx
    refine x_iload (pc := 42) (i := 6) K dX7_odds_42 rfl ?_
    refine x_bipush (pc := 44) (v := 10) K dX7_odds_44 (by decide) ?_
    refine x_icmp_ge (pc := 46) (tgt := 91) K dX7_odds_46 (by decide) (fun c_46 => ?_) (fun c_46 => ?_)
    · obtain rfl : i = 10 := by omega
      exact hx
    · exact absurd (by rw [show i = 10 by omega]; decide) c_46
  | succ j ih =>
    intro i hi hx
    refine x_iload (pc := 42) (i := 6) K dX7_odds_42 rfl ?_
    refine x_bipush (pc := 44) (v := 10) K dX7_odds_44 (by decide) ?_
    refine x_icmp_ge (pc := 46) (tgt := 91) K dX7_odds_46 (by decide) (fun c_46 => ?_) (fun c_46 => ?_)
    · exact absurd ((nI_leI (a := 10) (b := i) (by decide) (by omega)).mp c_46) (by omega)
    · have hk := Kb.od (a := nI a) (b := b) (load := load) h9 hB i
      refine x_aload_n (pc := 49) (i := 0) K dX7_odds_49 rfl rfl ?_
      refine gf_X7_9 (pc := 50)  K dX7_odds_50 ?_
      refine x_iconst (pc := 53) (v := 4) K dX7_odds_53 (by decide) ?_
      refine x_iload (pc := 54) (i := 6) K dX7_odds_54 rfl ?_
      refine js_mRow (pc := 56) 4 (by decide) rfl K dX7_odds_56 ?_
      refine x_aload_n (pc := 57) (i := 0) K dX7_odds_57 rfl rfl ?_
      refine x_V0v (pc := 58) K (c_yX7_goes hk.1.up4.1 h9 hk.1.up4.2.1) mw_yX7_goes ⟨im_yX7_goes, se_yX7_goes⟩ mk_X7_176 rc_M rfl ⟨Nat.le_of_ble_eq_true rfl, Nat.le_of_ble_eq_true rfl, Nat.le_of_ble_eq_true rfl⟩ dX7_odds_58 ?_
      refine x_st (r := (r_od1 (r_od ρ n (nI a) b load i).2 n i)) rfl rfl ?_
      refine x_iload (pc := 61) (i := 5) K dX7_odds_61 rfl ?_
      refine x_aload_n (pc := 63) (i := 0) K dX7_odds_63 rfl rfl ?_
      refine x_iload_n (pc := 64) (i := 1) K dX7_odds_64 rfl rfl ?_
      refine x_iload_n (pc := 65) (i := 2) K dX7_odds_65 rfl rfl ?_
      refine x_iload_n (pc := 66) (i := 3) K dX7_odds_66 rfl rfl ?_
      refine x_V3i (pc := 67) K (c_yX7_areJoined (hk.1.od1 h9).1 h9 ha (hk.1.od1 h9).2.2) mw_yX7_areJoined ⟨im_yX7_areJoined, se_yX7_areJoined⟩ mk_X7_205 rc_M rfl ⟨Nat.le_of_ble_eq_true rfl, Nat.le_of_ble_eq_true rfl, Nat.le_of_ble_eq_true rfl⟩ dX7_odds_67 ?_
      refine x_ifeq_b (pc := 70) (tgt := 77) K dX7_odds_70 (by decide) (fun c_70 => ?_) (fun c_70 => ?_)
      · refine x_iconst (pc := 77) (v := 0) K dX7_odds_77 (by decide) ?_
        refine x_iadd (pc := 78) K dX7_odds_78 ?_
        refine x_istore (pc := 79) (i := 5) K dX7_odds_79 rfl (by decide) ?_
        refine x_aload_n (pc := 81) (i := 0) K dX7_odds_81 rfl rfl ?_
        refine x_V0v (pc := 82) K (c_yX7_putsBack) mw_yX7_putsBack ⟨im_yX7_putsBack, se_yX7_putsBack⟩ mk_X7_208 rc_M rfl ⟨Nat.le_of_ble_eq_true rfl, Nat.le_of_ble_eq_true rfl, Nat.le_of_ble_eq_true rfl⟩ dX7_odds_82 ?_
        refine x_st (r := r_bf (r_fb (r_od1 (r_od ρ n (nI a) b load i).2 n i) n)) rfl rfl ?_
        refine x_iinc (pc := 85) (i := 6) (v := nI (i + 1)) K dX7_odds_85 rfl (nI_1 _) rfl ?_
        refine x_goto (pc := 88) (tgt := 42) K dX7_odds_88 (by decide) ?_
        have e1 : (r_od ρ n (nI a) b load (i + 1)) = ((r_od ρ n (nI a) b load i).1 + 0, r_bf (r_fb (r_od1 (r_od ρ n (nI a) b load i).2 n i) n)) := by simp only [r_od]; rw [c_70]; rfl
        have h2 := ih (i + 1) (by omega) hx
        rw [e1] at h2
        exact h2
      · refine x_iconst (pc := 73) (v := 1) K dX7_odds_73 (by decide) ?_
        refine x_goto (pc := 74) (tgt := 78) K dX7_odds_74 (by decide) ?_
        refine x_iadd (pc := 78) K dX7_odds_78 ?_
        refine x_istore (pc := 79) (i := 5) K dX7_odds_79 rfl (by decide) ?_
        refine x_aload_n (pc := 81) (i := 0) K dX7_odds_81 rfl rfl ?_
        refine x_V0v (pc := 82) K (c_yX7_putsBack) mw_yX7_putsBack ⟨im_yX7_putsBack, se_yX7_putsBack⟩ mk_X7_208 rc_M rfl ⟨Nat.le_of_ble_eq_true rfl, Nat.le_of_ble_eq_true rfl, Nat.le_of_ble_eq_true rfl⟩ dX7_odds_82 ?_
        refine x_st (r := r_bf (r_fb (r_od1 (r_od ρ n (nI a) b load i).2 n i) n)) rfl rfl ?_
        refine x_iinc (pc := 85) (i := 6) (v := nI (i + 1)) K dX7_odds_85 rfl (nI_1 _) rfl ?_
        refine x_goto (pc := 88) (tgt := 42) K dX7_odds_88 (by decide) ?_
        have e1 : (r_od ρ n (nI a) b load (i + 1)) = ((r_od ρ n (nI a) b load i).1 + 1, r_bf (r_fb (r_od1 (r_od ρ n (nI a) b load i).2 n i) n)) := by simp only [r_od]; rw [c_70]; rfl
        have h2 := ih (i + 1) (by omega) hx
        rw [e1] at h2
        exact h2

set_option maxRecDepth 100000 in
set_option maxHeartbeats 4000000 in
theorem l_gc {l : Launch} {G : Gm} {C : Cx} {P : Po} {a : Nat} {b load part : Int32} {α ρ : Af} (K : Ok l 100 G C RX7 cX7_odds (some .int) 8) (ha : a < 8) : ∀ (k : Nat), k ≤ 9 → ∀ (x y : Int32), X 1 l 100 G C (P) 8 141 [some (.ref (gA G idM)), some (.int (nI a)), some (.int b), some (.int load), some (.int part), some (.int (r_gc k (x, y)).1), some (.int (r_gc k (x, y)).2), some (.int (nI 1))] [] α ρ → X 1 l 100 G C (P) 8 99 [some (.ref (gA G idM)), some (.int (nI a)), some (.int b), some (.int load), some (.int part), some (.int x), some (.int y), some (.int (nI (k + 1)))] [] α ρ := by
  intro k
  induction k with
  | zero =>
    intro hk x y hx
    refine x_iload (pc := 99) (i := 7) K dX7_odds_99 rfl ?_
    refine x_iconst (pc := 101) (v := 1) K dX7_odds_101 (by decide) ?_
    refine x_icmp_le (pc := 102) (tgt := 141) K dX7_odds_102 (by decide) (fun c_102 => ?_) (fun c_102 => ?_)
    · exact hx
    · exact absurd (by decide) c_102
  | succ k ih =>
    intro hk x y hx
    refine x_iload (pc := 99) (i := 7) K dX7_odds_99 rfl ?_
    refine x_iconst (pc := 101) (v := 1) K dX7_odds_101 (by decide) ?_
    refine x_icmp_le (pc := 102) (tgt := 141) K dX7_odds_102 (by decide) (fun c_102 => ?_) (fun c_102 => ?_)
    · exact absurd ((nI_leI (a := k + 2) (b := 1) (by omega) (by decide)).mp c_102) (by omega)
    · refine x_iload (pc := 105) (i := 5) K dX7_odds_105 rfl ?_
      refine x_iload (pc := 107) (i := 7) K dX7_odds_107 rfl ?_
      refine x_irem (pc := 109) K dX7_odds_109 (fun h => by have := (nI_eq (a := k + 2) (b := 0) (by omega) (by decide)).mp h; omega) ?_
      refine x_if_ne (pc := 110) (tgt := 135) K dX7_odds_110 (by decide) (fun c_110 => ?_) (fun c_110 => ?_)
      · refine x_iinc (pc := 135) (i := 7) (v := nI (k + 1)) K dX7_odds_135 rfl (by have h := pk_m1 (k + 1); exact h) rfl ?_
        refine x_goto (pc := 138) (tgt := 99) K dX7_odds_138 (by decide) ?_
        have e1 : r_gcS (k + 2) (x, y) = (x, y) := by unfold r_gcS; rw [if_neg c_110]
        have h2 := ih (by omega) x y (by have h3 := hx; simp only [r_gc] at h3; rw [e1] at h3; exact h3)
        exact h2
      · refine x_iload (pc := 113) (i := 6) K dX7_odds_113 rfl ?_
        refine x_iload (pc := 115) (i := 7) K dX7_odds_115 rfl ?_
        refine x_irem (pc := 117) K dX7_odds_117 (fun h => by have := (nI_eq (a := k + 2) (b := 0) (by omega) (by decide)).mp h; omega) ?_
        refine x_if_ne (pc := 118) (tgt := 135) K dX7_odds_118 (by decide) (fun c_118 => ?_) (fun c_118 => ?_)
        · refine x_iinc (pc := 135) (i := 7) (v := nI (k + 1)) K dX7_odds_135 rfl (by have h := pk_m1 (k + 1); exact h) rfl ?_
          refine x_goto (pc := 138) (tgt := 99) K dX7_odds_138 (by decide) ?_
          have e1 : r_gcS (k + 2) (x, y) = (x, y) := by unfold r_gcS; rw [if_pos c_110, if_neg c_118]
          have h2 := ih (by omega) x y (by have h3 := hx; simp only [r_gc] at h3; rw [e1] at h3; exact h3)
          exact h2
        · refine x_iload (pc := 121) (i := 5) K dX7_odds_121 rfl ?_
          refine x_iload (pc := 123) (i := 7) K dX7_odds_123 rfl ?_
          refine x_idiv (pc := 125) K dX7_odds_125 (fun h => by have := (nI_eq (a := k + 2) (b := 0) (by omega) (by decide)).mp h; omega) ?_
          refine x_istore (pc := 126) (i := 5) K dX7_odds_126 rfl (by decide) ?_
          refine x_iload (pc := 128) (i := 6) K dX7_odds_128 rfl ?_
          refine x_iload (pc := 130) (i := 7) K dX7_odds_130 rfl ?_
          refine x_idiv (pc := 132) K dX7_odds_132 (fun h => by have := (nI_eq (a := k + 2) (b := 0) (by omega) (by decide)).mp h; omega) ?_
          refine x_istore (pc := 133) (i := 6) K dX7_odds_133 rfl (by decide) ?_
          refine x_iinc (pc := 135) (i := 7) (v := nI (k + 1)) K dX7_odds_135 rfl (by have h := pk_m1 (k + 1); exact h) rfl ?_
          refine x_goto (pc := 138) (tgt := 99) K dX7_odds_138 (by decide) ?_
          have e1 : r_gcS (k + 2) (x, y) = (x / nI (k + 2), y / nI (k + 2)) := by unfold r_gcS; rw [if_pos c_110, if_pos c_118]
          have h2 := ih (by omega) (x / nI (k + 2)) (y / nI (k + 2)) (by have h3 := hx; simp only [r_gc] at h3; rw [e1] at h3; exact h3)
          exact h2

def g_odds (ρ : Af) (a b load part : Int32) : Int32 × Af := if q_areTwo a b = true then (if q_isLoad load = true then (if q_within part 0 1 = true then ((if part = 0 then (r_gc 9 ((r_bfT ρ (ρ mRow 2).toNatClampNeg a b load).1, 10)).1 else (r_gc 9 ((r_bfT ρ (ρ mRow 2).toNatClampNeg a b load).1, 10)).2, (r_bfT ρ (ρ mRow 2).toNatClampNeg a b load).2)) else r_errP ρ 1) else r_errP ρ 1) else r_errP ρ 1
set_option maxRecDepth 100000 in
set_option maxHeartbeats 4000000 in
theorem c_yX7_odds {l : Launch} {G : Gm} {α ρ : Af} {a b load part : Int32} (hI : IM ρ) : CI 1 l G yX7_odds (Cond.code yX7_odds cX7_odds 8 (some .int)) 100 [.ref (gA G idM), .int a, .int b, .int load, .int part] α ρ (PI (g_odds ρ a b load part).1 α (g_odds ρ a b load part).2) := by
  obtain ⟨⟨n, h9, hn, hE⟩, hl0, hl1, ⟨t, h60, ht⟩, ⟨w, h24, hw⟩, hSz, ⟨q, hq, hqe⟩⟩ := hI
  refine CI.of [some (.ref (gA G idM)), some (.int a), some (.int b), some (.int load), some (.int part), none, none, none] (by decide) (Nat.le_of_ble_eq_true rfl) rfl rfl (fun C K => ?_)
  have K : Ok l _ G C RX7 cX7_odds (some .int) 8 := K
  refine x_iload_n (pc := 0) (i := 1) K dX7_odds_0 rfl rfl ?_
  refine x_iload_n (pc := 1) (i := 2) K dX7_odds_1 rfl rfl ?_
  refine x_S2i (pc := 2) K (c_yX7_areTwo) mw_yX7_areTwo st_yX7_areTwo mk_X7_76 ⟨Nat.le_of_ble_eq_true rfl, Nat.le_of_ble_eq_true rfl, Nat.le_of_ble_eq_true rfl⟩ dX7_odds_2 ?_
  refine x_ifeq_b (pc := 5) (tgt := 25) K dX7_odds_5 (by decide) (fun c_5 => ?_) (fun c_5 => ?_)
  · refine x_aload_n (pc := 25) (i := 0) K dX7_odds_25 rfl rfl ?_
    refine x_ldc (pc := 26) K kn_X7_80 dX7_odds_26 ?_
    refine x_V1i (pc := 28) K (c_yX7_error (j := 1) (by decide) (by decide)) mw_yX7_error ⟨im_yX7_error, se_yX7_error⟩ mk_X7_81 rc_M rfl ⟨Nat.le_of_ble_eq_true rfl, Nat.le_of_ble_eq_true rfl, Nat.le_of_ble_eq_true rfl⟩ dX7_odds_28 ?_
    exact x_iretI (pc := 31) K dX7_odds_31 ⟨by simp (decide := true) only [g_odds, r_errP, c_5, ↓reduceIte, Bool.false_eq_true, bI_t, bI_f], rfl, by simp (decide := true) only [g_odds, r_errP, c_5, ↓reduceIte, Bool.false_eq_true, bI_t, bI_f]⟩
  · refine x_iload_n (pc := 8) (i := 3) K dX7_odds_8 rfl rfl ?_
    refine x_S1i (pc := 9) K (c_yX7_isLoad) mw_yX7_isLoad st_yX7_isLoad mk_X7_109 ⟨Nat.le_of_ble_eq_true rfl, Nat.le_of_ble_eq_true rfl, Nat.le_of_ble_eq_true rfl⟩ dX7_odds_9 ?_
    refine x_ifeq_b (pc := 12) (tgt := 25) K dX7_odds_12 (by decide) (fun c_12 => ?_) (fun c_12 => ?_)
    · refine x_aload_n (pc := 25) (i := 0) K dX7_odds_25 rfl rfl ?_
      refine x_ldc (pc := 26) K kn_X7_80 dX7_odds_26 ?_
      refine x_V1i (pc := 28) K (c_yX7_error (j := 1) (by decide) (by decide)) mw_yX7_error ⟨im_yX7_error, se_yX7_error⟩ mk_X7_81 rc_M rfl ⟨Nat.le_of_ble_eq_true rfl, Nat.le_of_ble_eq_true rfl, Nat.le_of_ble_eq_true rfl⟩ dX7_odds_28 ?_
      exact x_iretI (pc := 31) K dX7_odds_31 ⟨by simp (decide := true) only [g_odds, r_errP, c_5 , c_12, ↓reduceIte, Bool.false_eq_true, bI_t, bI_f], rfl, by simp (decide := true) only [g_odds, r_errP, c_5 , c_12, ↓reduceIte, Bool.false_eq_true, bI_t, bI_f]⟩
    · refine x_iload (pc := 15) (i := 4) K dX7_odds_15 rfl ?_
      refine x_iconst (pc := 17) (v := 0) K dX7_odds_17 (by decide) ?_
      refine x_iconst (pc := 18) (v := 1) K dX7_odds_18 (by decide) ?_
      refine x_S3i (pc := 19) K (c_yX7_in) mw_yX7_in st_yX7_in mk_X7_54 ⟨Nat.le_of_ble_eq_true rfl, Nat.le_of_ble_eq_true rfl, Nat.le_of_ble_eq_true rfl⟩ dX7_odds_19 ?_
      refine x_ifne_b (pc := 22) (tgt := 32) K dX7_odds_22 (by decide) (fun c_22 => ?_) (fun c_22 => ?_)
      · obtain ⟨m, hm, rfl⟩ := two_of c_5
        have hcn : (ρ mRow 2).toNatClampNeg = n := by rw [hn]; exact nI_clamp (by omega)
        refine x_aload_n (pc := 32) (i := 0) K dX7_odds_32 rfl rfl ?_
        refine x_V0v (pc := 33) K (c_yX7_thinks) mw_yX7_thinks ⟨im_yX7_thinks, se_yX7_thinks⟩ mk_X7_202 rc_M rfl ⟨Nat.le_of_ble_eq_true rfl, Nat.le_of_ble_eq_true rfl, Nat.le_of_ble_eq_true rfl⟩ dX7_odds_33 ?_
        refine x_st (r := r_th ρ) rfl rfl ?_
        refine x_iconst (pc := 36) (v := 0) K dX7_odds_36 (by decide) ?_
        refine x_istore (pc := 37) (i := 5) K dX7_odds_37 rfl (by decide) ?_
        refine x_iconst (pc := 39) (v := 0) K dX7_odds_39 (by decide) ?_
        refine x_istore (pc := 40) (i := 6) K dX7_odds_40 rfl (by decide) ?_
        refine l_od K h9 hm (Kb.th ⟨hn, hl0, hE⟩) 10 0 (by omega) ?_
        rw [show r_od (r_th ρ) n (nI m) b load 10 = r_bfT ρ n (nI m) b load from rfl]
        refine x_bipush (pc := 91) (v := 10) K dX7_odds_91 (by decide) ?_
        refine x_istore (pc := 93) (i := 6) K dX7_odds_93 rfl (by decide) ?_
        refine x_bipush (pc := 95) (v := 10) K dX7_odds_95 (by decide) ?_
        refine x_istore (pc := 97) (i := 7) K dX7_odds_97 rfl (by decide) ?_
        refine l_gc K hm 9 (by decide) _ _ ?_
        refine x_iload (pc := 141) (i := 4) K dX7_odds_141 rfl ?_
        refine x_if_ne (pc := 143) (tgt := 151) K dX7_odds_143 (by decide) (fun c_143 => ?_) (fun c_143 => ?_)
        · refine x_iload (pc := 151) (i := 6) K dX7_odds_151 rfl ?_
          exact x_iretI (pc := 153) K dX7_odds_153 ⟨by simp (decide := true) only [g_odds, r_errP, c_5 , c_12 , c_22 , if_neg c_143, ↓reduceIte, Bool.false_eq_true, bI_t, bI_f, hcn], rfl, by simp (decide := true) only [g_odds, r_errP, c_5 , c_12 , c_22 , if_neg c_143, ↓reduceIte, Bool.false_eq_true, bI_t, bI_f, hcn]⟩
        · refine x_iload (pc := 146) (i := 5) K dX7_odds_146 rfl ?_
          refine x_goto (pc := 148) (tgt := 153) K dX7_odds_148 (by decide) ?_
          exact x_iretI (pc := 153) K dX7_odds_153 ⟨by simp (decide := true) only [g_odds, r_errP, c_5 , c_12 , c_22 , if_pos c_143, ↓reduceIte, Bool.false_eq_true, bI_t, bI_f, hcn], rfl, by simp (decide := true) only [g_odds, r_errP, c_5 , c_12 , c_22 , if_pos c_143, ↓reduceIte, Bool.false_eq_true, bI_t, bI_f, hcn]⟩
      · refine x_aload_n (pc := 25) (i := 0) K dX7_odds_25 rfl rfl ?_
        refine x_ldc (pc := 26) K kn_X7_80 dX7_odds_26 ?_
        refine x_V1i (pc := 28) K (c_yX7_error (j := 1) (by decide) (by decide)) mw_yX7_error ⟨im_yX7_error, se_yX7_error⟩ mk_X7_81 rc_M rfl ⟨Nat.le_of_ble_eq_true rfl, Nat.le_of_ble_eq_true rfl, Nat.le_of_ble_eq_true rfl⟩ dX7_odds_28 ?_
        exact x_iretI (pc := 31) K dX7_odds_31 ⟨by simp (decide := true) only [g_odds, r_errP, c_5 , c_12 , c_22, ↓reduceIte, Bool.false_eq_true, bI_t, bI_f], rfl, by simp (decide := true) only [g_odds, r_errP, c_5 , c_12 , c_22, ↓reduceIte, Bool.false_eq_true, bI_t, bI_f]⟩
