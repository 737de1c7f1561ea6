theorem upR_ne {α : Af} {i a : Nat} {f : Nat → Int32} (h : a ≠ i) : upR α i f a = α a := by simp [upR, h]
theorem upR_eq {α : Af} {i : Nat} {f : Nat → Int32} : upR α i f i = f := by simp [upR]
theorem upR_upR {α : Af} {i : Nat} {f g : Nat → Int32} : upR (upR α i f) i g = upR α i g := by
  funext a
  by_cases h : a = i <;> simp [upR, h]
theorem upR_self {α : Af} {i : Nat} : upR α i (α i) = α := by
  funext a
  by_cases h : a = i <;> simp [upR, h]
theorem up_upR {α : Af} {i j : Nat} {f : Nat → Int32} {v : Int32} : up (upR α i f) i j v = upR α i (upd f j v) := by
  unfold up
  rw [upR_eq, upR_upR]
theorem up_ne {α : Af} {i a j : Nat} {v : Int32} (h : a ≠ i) : up α i j v a = α a := upR_ne h
theorem up_at {α : Af} {i j b : Nat} {v : Int32} : up α i j v i b = if b = j then v else α i b := by
  unfold up
  rw [upR_eq]
  rfl
theorem up_eq {α : Af} {i j : Nat} {v : Int32} : up α i j v i j = v := by rw [up_at, if_pos rfl]
theorem up_ne2 {α : Af} {i j b : Nat} {v : Int32} (h : b ≠ j) : up α i j v i b = α i b := by rw [up_at, if_neg h]
section HF
variable {k : Nat} {l : Launch} {d : Nat} {G : Gm} {C : Cx} {P : Po} {own : String} {cc : ByteArray} {ret : Option FieldType} {nL pc : Nat} {ls : List (Option Value)} {st : List Value} {α ρ : Af}
theorem x_st {a r : Af} (ha : α = a) (hr : ρ = r) (kk : X k l d G C P nL pc ls st a r) : X k l d G C P nL pc ls st α ρ := by
  rw [ha, hr]; exact kk
theorem x_top {v v' : Value} (h : v = v') (kk : X k l d G C P nL pc ls (v' :: st) α ρ) : X k l d G C P nL pc ls (v :: st) α ρ := by
  rw [h]; exact kk
theorem x_cpy (K : Ok l d G C own cc ret nL) {i1 i2 n1 n2 t index : Nat} {ty : FieldType} (h1 : i1 < 76 ∧ scr k i1 = false) (h2 : i2 < 76 ∧ scr k i2 = false) (he1 : ∀ f, ent G i1 f = .inl (gC G t, n1, .inl f)) (he2 : ∀ f, ent G i2 f = .inl (gC G t, n2, .inl f)) (ht : (tysG G)[t]? = some (gC G t, ty)) (hprim : refKind ty = false) {sp dp n : Int32} (hc : ¬ sp < 0 ∧ ¬ dp < 0 ∧ ¬ n < 0 ∧ sp.toNatClampNeg + n.toNatClampNeg ≤ n1 ∧ dp.toNatClampNeg + n.toNatClampNeg ≤ n2) (hfit : ∀ j, j < n.toNatClampNeg → fits ty (.int (α i1 (sp.toNatClampNeg + j))) = true) (hl : Cond.methodLink own index arraycopyName ∈ WS) (hd : 2 ≤ d ∧ (st.map fun v => v.category).sum ≤ 8) (hdg : decode cc pc = .ok (.invokestatic index, 3)) (kk : X k l d G C P nL (pc + 3) ls st (upR α i2 (va_cpy (α i1) (α i2) sp.toNatClampNeg dp.toNatClampNeg n.toNatClampNeg)) ρ) : X k l d G C P nL pc ls (.int n :: .int dp :: .ref (gA G i2) :: .int sp :: .ref (gA G i1) :: st) α ρ := by
  intro H locs la a r ha hr hP hS hL hn
  have hw : nativeFrameWords "java/lang/System" "arraycopy" 5 + 11 + 8 ≤ 64 := by decide +kernel
  refine va_copyi K.1 K.2.1 (K.2.2.2.1.trans hn.symm) K.2.2.2.2.1 (K.w hl) (K.w nt_arraycopyName) (K.w st_arraycopyName) (K.w in_J10) K.2.2.2.2.2.2.2.1 hP (wl_D K.inj _) hS i1 i2 t t (f := α i1) (g := α i2) (by rw [wl_get (by omega), wd_c h1.1, ha i1 h1.2, he1]) (by rw [wl_get (by omega), wd_c h2.1, ha i2 h2.2, he2]) ht ht hprim hc.1 hc.2.1 hc.2.2.1 hc.2.2.2.1 hc.2.2.2.2 hfit (by show 1 ≤ d; omega) (by show _ ≤ 32 * d; omega) hdg (fun H1 locs1 hP1 hD1 hS1 => ?_)
  rw [wl_set (by omega), ← he2, wd_upc h2.1] at hP1
  exact kk H1 locs1 la (upR a i2 _) r (sim_upR ha _) hr hP1 hS1 hL hn
end HF
theorem held_rng {v : Int32} {lo hi : Int32} (h : lo ≤ hi) : lo ≤ q_held v lo hi ∧ q_held v lo hi ≤ hi := by
  unfold q_held
  by_cases c1 : v < hi
  · rw [if_pos c1]
    by_cases c2 : lo < v
    · rw [if_pos c2]; exact ⟨Int32.le_of_lt c2, Int32.le_of_lt c1⟩
    · rw [if_neg c2]; exact ⟨Int32.le_refl _, h⟩
  · rw [if_neg c1]
    by_cases c2 : lo < hi
    · rw [if_pos c2]; exact ⟨h, Int32.le_refl _⟩
    · rw [if_neg c2]; exact ⟨Int32.le_refl _, h⟩
theorem held60 (v : Int32) : ¬ q_held v 0 60 < 0 ∧ (q_held v 0 60).toNatClampNeg ≤ 60 := by
  obtain ⟨h1, h2⟩ := held_rng (v := v) (lo := 0) (hi := 60) (by decide)
  refine ⟨Int32.not_lt.mpr h1, ?_⟩
  have h3 := Int32.le_iff_toInt_le.mp h2
  have h4 : (60 : Int32).toInt = 60 := by decide
  show (q_held v 0 60).toInt.toNat ≤ 60
  omega
theorem nLLo {e u e' u' : Nat} (he : e < 3) (hu : u < 2) : idL e u ≠ idLo e' u' := by unfold idL idLo; omega
theorem nLcLo {e u e' u' : Nat} (he : e < 3) (hu : u < 2) : idLc e u ≠ idLo e' u' := by unfold idLc idLo; omega
theorem nLLc {e u e' u' : Nat} (he : e < 3) (hu : u < 2) : idL e u ≠ idLc e' u' := by unfold idL idLc; omega

def q_truth (v : Int32) : Int32 := if v = 0 then 0 else 1
set_option maxRecDepth 100000 in
set_option maxHeartbeats 4000000 in
theorem c_yX1_truth {k : Nat} {l : Launch} {G : Gm} {α ρ : Af} {v : Int32}  : CI k l G yX1_truth (Cond.code yX1_truth cX1_truth 1 (some .int)) 1 [.int v] α ρ (PI (q_truth v) α ρ) := by
  refine CI.of [some (.int v)] (by decide) (Nat.le_of_ble_eq_true rfl) rfl rfl (fun C K => ?_)
  have K : Ok l _ G C RX1 cX1_truth (some .int) 1 := K
  refine x_iload_n (pc := 0) (i := 0) K dX1_truth_0 rfl rfl ?_
  refine x_if_eq (pc := 1) (tgt := 8) K dX1_truth_1 (by decide) (fun c_1 => ?_) (fun c_1 => ?_)
  · refine x_iconst (pc := 8) (v := 0) K dX1_truth_8 (by decide) ?_
    exact x_iretI (pc := 9) K dX1_truth_9 ⟨by simp (decide := true) only [q_truth, if_pos c_1, ↓reduceIte, Bool.false_eq_true, bI_t, bI_f], rfl, rfl⟩
  · refine x_iconst (pc := 4) (v := 1) K dX1_truth_4 (by decide) ?_
    refine x_goto (pc := 5) (tgt := 9) K dX1_truth_5 (by decide) ?_
    exact x_iretI (pc := 9) K dX1_truth_9 ⟨by simp (decide := true) only [q_truth, if_neg c_1, ↓reduceIte, Bool.false_eq_true, bI_t, bI_f], rfl, rfl⟩

def q_join (s l r : Int32) : Int32 := if s = 38 then (if l = 0 then q_truth 0 else if r = 0 then q_truth 0 else q_truth 1) else if s = 42 then l * r else if s = 43 then l + r else if s = 45 then l - r else if s = 47 then (if r = 0 then 0 else l / r) else if s = 60 then (if r ≤ l then q_truth 0 else q_truth 1) else if s = 61 then (if l = r then q_truth 1 else q_truth 0) else if s = 62 then (if l ≤ r then q_truth 0 else q_truth 1) else if s = 124 then (if l = 0 then (if r = 0 then q_truth 0 else q_truth 1) else q_truth 1) else (if r = 0 then 0 else jrem l r)
set_option maxRecDepth 100000 in
set_option maxHeartbeats 4000000 in
theorem c_yX1_join {k : Nat} {l : Launch} {G : Gm} {α ρ : Af} {s a b : Int32}  : CI k l G yX1_join (Cond.code yX1_join cX1_join 3 (some .int)) 2 [.int s, .int a, .int b] α ρ (PI (q_join s a b) α ρ) := by
  refine CI.of [some (.int s), some (.int a), some (.int b)] (by decide) (Nat.le_of_ble_eq_true rfl) rfl rfl (fun C K => ?_)
  have K : Ok l _ G C RX1 cX1_join (some .int) 3 := K
  refine x_iload_n (pc := 0) (i := 0) K dX1_join_0 rfl rfl ?_
  by_cases s_1_38 : s = 38
  · refine x_lookup (pc := 1) (off := 100) (tgt := 101) K dX1_join_1 (by decide) (by rw [s_1_38]; decide) (by decide) ?_
    refine x_iload_n (pc := 101) (i := 1) K dX1_join_101 rfl rfl ?_
    refine x_if_eq (pc := 102) (tgt := 113) K dX1_join_102 (by decide) (fun c_102 => ?_) (fun c_102 => ?_)
    · refine x_iconst (pc := 113) (v := 0) K dX1_join_113 (by decide) ?_
      refine x_S1i (pc := 114) K (c_yX1_truth) mw_yX1_truth st_yX1_truth mk_X1_40 ⟨Nat.le_of_ble_eq_true rfl, Nat.le_of_ble_eq_true rfl, Nat.le_of_ble_eq_true rfl⟩ dX1_join_114 ?_
      exact x_iretI (pc := 117) K dX1_join_117 ⟨by simp (decide := true) only [q_join, if_pos s_1_38, if_pos c_102, ↓reduceIte, Bool.false_eq_true, bI_t, bI_f], rfl, rfl⟩
    · refine x_iload_n (pc := 105) (i := 2) K dX1_join_105 rfl rfl ?_
      refine x_if_eq (pc := 106) (tgt := 113) K dX1_join_106 (by decide) (fun c_106 => ?_) (fun c_106 => ?_)
      · refine x_iconst (pc := 113) (v := 0) K dX1_join_113 (by decide) ?_
        refine x_S1i (pc := 114) K (c_yX1_truth) mw_yX1_truth st_yX1_truth mk_X1_40 ⟨Nat.le_of_ble_eq_true rfl, Nat.le_of_ble_eq_true rfl, Nat.le_of_ble_eq_true rfl⟩ dX1_join_114 ?_
        exact x_iretI (pc := 117) K dX1_join_117 ⟨by simp (decide := true) only [q_join, if_pos s_1_38, if_neg c_102, if_pos c_106, ↓reduceIte, Bool.false_eq_true, bI_t, bI_f], rfl, rfl⟩
      · refine x_iconst (pc := 109) (v := 1) K dX1_join_109 (by decide) ?_
        refine x_goto (pc := 110) (tgt := 114) K dX1_join_110 (by decide) ?_
        refine x_S1i (pc := 114) K (c_yX1_truth) mw_yX1_truth st_yX1_truth mk_X1_40 ⟨Nat.le_of_ble_eq_true rfl, Nat.le_of_ble_eq_true rfl, Nat.le_of_ble_eq_true rfl⟩ dX1_join_114 ?_
        exact x_iretI (pc := 117) K dX1_join_117 ⟨by simp (decide := true) only [q_join, if_pos s_1_38, if_neg c_102, if_neg c_106, ↓reduceIte, Bool.false_eq_true, bI_t, bI_f], rfl, rfl⟩
  by_cases s_1_42 : s = 42
  · refine x_lookup (pc := 1) (off := 167) (tgt := 168) K dX1_join_1 (by decide) (by rw [s_1_42]; decide) (by decide) ?_
    refine x_iload_n (pc := 168) (i := 1) K dX1_join_168 rfl rfl ?_
    refine x_iload_n (pc := 169) (i := 2) K dX1_join_169 rfl rfl ?_
    refine x_imul (pc := 170) K dX1_join_170 ?_
    exact x_iretI (pc := 171) K dX1_join_171 ⟨by simp (decide := true) only [q_join, if_neg s_1_38, if_pos s_1_42, ↓reduceIte, Bool.false_eq_true, bI_t, bI_f], rfl, rfl⟩
  by_cases s_1_43 : s = 43
  · refine x_lookup (pc := 1) (off := 159) (tgt := 160) K dX1_join_1 (by decide) (by rw [s_1_43]; decide) (by decide) ?_
    refine x_iload_n (pc := 160) (i := 1) K dX1_join_160 rfl rfl ?_
    refine x_iload_n (pc := 161) (i := 2) K dX1_join_161 rfl rfl ?_
    refine x_iadd (pc := 162) K dX1_join_162 ?_
    exact x_iretI (pc := 163) K dX1_join_163 ⟨by simp (decide := true) only [q_join, if_neg s_1_38, if_neg s_1_42, if_pos s_1_43, ↓reduceIte, Bool.false_eq_true, bI_t, bI_f], rfl, rfl⟩
  by_cases s_1_45 : s = 45
  · refine x_lookup (pc := 1) (off := 163) (tgt := 164) K dX1_join_1 (by decide) (by rw [s_1_45]; decide) (by decide) ?_
    refine x_iload_n (pc := 164) (i := 1) K dX1_join_164 rfl rfl ?_
    refine x_iload_n (pc := 165) (i := 2) K dX1_join_165 rfl rfl ?_
    refine x_isub (pc := 166) K dX1_join_166 ?_
    exact x_iretI (pc := 167) K dX1_join_167 ⟨by simp (decide := true) only [q_join, if_neg s_1_38, if_neg s_1_42, if_neg s_1_43, if_pos s_1_45, ↓reduceIte, Bool.false_eq_true, bI_t, bI_f], rfl, rfl⟩
  by_cases s_1_47 : s = 47
  · refine x_lookup (pc := 1) (off := 171) (tgt := 172) K dX1_join_1 (by decide) (by rw [s_1_47]; decide) (by decide) ?_
    refine x_iload_n (pc := 172) (i := 2) K dX1_join_172 rfl rfl ?_
    refine x_if_ne (pc := 173) (tgt := 180) K dX1_join_173 (by decide) (fun c_173 => ?_) (fun c_173 => ?_)
    · refine x_iload_n (pc := 180) (i := 1) K dX1_join_180 rfl rfl ?_
      refine x_iload_n (pc := 181) (i := 2) K dX1_join_181 rfl rfl ?_
      refine x_idiv (pc := 182) K dX1_join_182 c_173 ?_
      exact x_iretI (pc := 183) K dX1_join_183 ⟨by simp (decide := true) only [q_join, if_neg s_1_38, if_neg s_1_42, if_neg s_1_43, if_neg s_1_45, if_pos s_1_47, if_neg c_173, ↓reduceIte, Bool.false_eq_true, bI_t, bI_f], rfl, rfl⟩
    · refine x_iconst (pc := 176) (v := 0) K dX1_join_176 (by decide) ?_
      refine x_goto (pc := 177) (tgt := 183) K dX1_join_177 (by decide) ?_
      exact x_iretI (pc := 183) K dX1_join_183 ⟨by simp (decide := true) only [q_join, if_neg s_1_38, if_neg s_1_42, if_neg s_1_43, if_neg s_1_45, if_pos s_1_47, if_pos c_173, ↓reduceIte, Bool.false_eq_true, bI_t, bI_f], rfl, rfl⟩
  by_cases s_1_60 : s = 60
  · refine x_lookup (pc := 1) (off := 117) (tgt := 118) K dX1_join_1 (by decide) (by rw [s_1_60]; decide) (by decide) ?_
    refine x_iload_n (pc := 118) (i := 1) K dX1_join_118 rfl rfl ?_
    refine x_iload_n (pc := 119) (i := 2) K dX1_join_119 rfl rfl ?_
    refine x_icmp_ge (pc := 120) (tgt := 127) K dX1_join_120 (by decide) (fun c_120 => ?_) (fun c_120 => ?_)
    · refine x_iconst (pc := 127) (v := 0) K dX1_join_127 (by decide) ?_
      refine x_S1i (pc := 128) K (c_yX1_truth) mw_yX1_truth st_yX1_truth mk_X1_40 ⟨Nat.le_of_ble_eq_true rfl, Nat.le_of_ble_eq_true rfl, Nat.le_of_ble_eq_true rfl⟩ dX1_join_128 ?_
      exact x_iretI (pc := 131) K dX1_join_131 ⟨by simp (decide := true) only [q_join, if_neg s_1_38, if_neg s_1_42, if_neg s_1_43, if_neg s_1_45, if_neg s_1_47, if_pos s_1_60, if_pos c_120, ↓reduceIte, Bool.false_eq_true, bI_t, bI_f], rfl, rfl⟩
    · refine x_iconst (pc := 123) (v := 1) K dX1_join_123 (by decide) ?_
      refine x_goto (pc := 124) (tgt := 128) K dX1_join_124 (by decide) ?_
      refine x_S1i (pc := 128) K (c_yX1_truth) mw_yX1_truth st_yX1_truth mk_X1_40 ⟨Nat.le_of_ble_eq_true rfl, Nat.le_of_ble_eq_true rfl, Nat.le_of_ble_eq_true rfl⟩ dX1_join_128 ?_
      exact x_iretI (pc := 131) K dX1_join_131 ⟨by simp (decide := true) only [q_join, if_neg s_1_38, if_neg s_1_42, if_neg s_1_43, if_neg s_1_45, if_neg s_1_47, if_pos s_1_60, if_neg c_120, ↓reduceIte, Bool.false_eq_true, bI_t, bI_f], rfl, rfl⟩
  by_cases s_1_61 : s = 61
  · refine x_lookup (pc := 1) (off := 131) (tgt := 132) K dX1_join_1 (by decide) (by rw [s_1_61]; decide) (by decide) ?_
    refine x_iload_n (pc := 132) (i := 1) K dX1_join_132 rfl rfl ?_
    refine x_iload_n (pc := 133) (i := 2) K dX1_join_133 rfl rfl ?_
    refine x_icmp_ne (pc := 134) (tgt := 141) K dX1_join_134 (by decide) (fun c_134 => ?_) (fun c_134 => ?_)
    · refine x_iconst (pc := 141) (v := 0) K dX1_join_141 (by decide) ?_
      refine x_S1i (pc := 142) K (c_yX1_truth) mw_yX1_truth st_yX1_truth mk_X1_40 ⟨Nat.le_of_ble_eq_true rfl, Nat.le_of_ble_eq_true rfl, Nat.le_of_ble_eq_true rfl⟩ dX1_join_142 ?_
      exact x_iretI (pc := 145) K dX1_join_145 ⟨by simp (decide := true) only [q_join, if_neg s_1_38, if_neg s_1_42, if_neg s_1_43, if_neg s_1_45, if_neg s_1_47, if_neg s_1_60, if_pos s_1_61, if_neg c_134, ↓reduceIte, Bool.false_eq_true, bI_t, bI_f], rfl, rfl⟩
    · refine x_iconst (pc := 137) (v := 1) K dX1_join_137 (by decide) ?_
      refine x_goto (pc := 138) (tgt := 142) K dX1_join_138 (by decide) ?_
      refine x_S1i (pc := 142) K (c_yX1_truth) mw_yX1_truth st_yX1_truth mk_X1_40 ⟨Nat.le_of_ble_eq_true rfl, Nat.le_of_ble_eq_true rfl, Nat.le_of_ble_eq_true rfl⟩ dX1_join_142 ?_
      exact x_iretI (pc := 145) K dX1_join_145 ⟨by simp (decide := true) only [q_join, if_neg s_1_38, if_neg s_1_42, if_neg s_1_43, if_neg s_1_45, if_neg s_1_47, if_neg s_1_60, if_pos s_1_61, if_pos c_134, ↓reduceIte, Bool.false_eq_true, bI_t, bI_f], rfl, rfl⟩
  by_cases s_1_62 : s = 62
  · refine x_lookup (pc := 1) (off := 145) (tgt := 146) K dX1_join_1 (by decide) (by rw [s_1_62]; decide) (by decide) ?_
    refine x_iload_n (pc := 146) (i := 1) K dX1_join_146 rfl rfl ?_
    refine x_iload_n (pc := 147) (i := 2) K dX1_join_147 rfl rfl ?_
    refine x_icmp_le (pc := 148) (tgt := 155) K dX1_join_148 (by decide) (fun c_148 => ?_) (fun c_148 => ?_)
    · refine x_iconst (pc := 155) (v := 0) K dX1_join_155 (by decide) ?_
      refine x_S1i (pc := 156) K (c_yX1_truth) mw_yX1_truth st_yX1_truth mk_X1_40 ⟨Nat.le_of_ble_eq_true rfl, Nat.le_of_ble_eq_true rfl, Nat.le_of_ble_eq_true rfl⟩ dX1_join_156 ?_
      exact x_iretI (pc := 159) K dX1_join_159 ⟨by simp (decide := true) only [q_join, if_neg s_1_38, if_neg s_1_42, if_neg s_1_43, if_neg s_1_45, if_neg s_1_47, if_neg s_1_60, if_neg s_1_61, if_pos s_1_62, if_pos c_148, ↓reduceIte, Bool.false_eq_true, bI_t, bI_f], rfl, rfl⟩
    · refine x_iconst (pc := 151) (v := 1) K dX1_join_151 (by decide) ?_
      refine x_goto (pc := 152) (tgt := 156) K dX1_join_152 (by decide) ?_
      refine x_S1i (pc := 156) K (c_yX1_truth) mw_yX1_truth st_yX1_truth mk_X1_40 ⟨Nat.le_of_ble_eq_true rfl, Nat.le_of_ble_eq_true rfl, Nat.le_of_ble_eq_true rfl⟩ dX1_join_156 ?_
      exact x_iretI (pc := 159) K dX1_join_159 ⟨by simp (decide := true) only [q_join, if_neg s_1_38, if_neg s_1_42, if_neg s_1_43, if_neg s_1_45, if_neg s_1_47, if_neg s_1_60, if_neg s_1_61, if_pos s_1_62, if_neg c_148, ↓reduceIte, Bool.false_eq_true, bI_t, bI_f], rfl, rfl⟩
  by_cases s_1_124 : s = 124
  · refine x_lookup (pc := 1) (off := 83) (tgt := 84) K dX1_join_1 (by decide) (by rw [s_1_124]; decide) (by decide) ?_
    refine x_iload_n (pc := 84) (i := 1) K dX1_join_84 rfl rfl ?_
    refine x_if_ne (pc := 85) (tgt := 92) K dX1_join_85 (by decide) (fun c_85 => ?_) (fun c_85 => ?_)
    · refine x_iconst (pc := 92) (v := 1) K dX1_join_92 (by decide) ?_
      refine x_goto (pc := 93) (tgt := 97) K dX1_join_93 (by decide) ?_
      refine x_S1i (pc := 97) K (c_yX1_truth) mw_yX1_truth st_yX1_truth mk_X1_40 ⟨Nat.le_of_ble_eq_true rfl, Nat.le_of_ble_eq_true rfl, Nat.le_of_ble_eq_true rfl⟩ dX1_join_97 ?_
      exact x_iretI (pc := 100) K dX1_join_100 ⟨by simp (decide := true) only [q_join, if_neg s_1_38, if_neg s_1_42, if_neg s_1_43, if_neg s_1_45, if_neg s_1_47, if_neg s_1_60, if_neg s_1_61, if_neg s_1_62, if_pos s_1_124, if_neg c_85, ↓reduceIte, Bool.false_eq_true, bI_t, bI_f], rfl, rfl⟩
    · refine x_iload_n (pc := 88) (i := 2) K dX1_join_88 rfl rfl ?_
      refine x_if_eq (pc := 89) (tgt := 96) K dX1_join_89 (by decide) (fun c_89 => ?_) (fun c_89 => ?_)
      · refine x_iconst (pc := 96) (v := 0) K dX1_join_96 (by decide) ?_
        refine x_S1i (pc := 97) K (c_yX1_truth) mw_yX1_truth st_yX1_truth mk_X1_40 ⟨Nat.le_of_ble_eq_true rfl, Nat.le_of_ble_eq_true rfl, Nat.le_of_ble_eq_true rfl⟩ dX1_join_97 ?_
        exact x_iretI (pc := 100) K dX1_join_100 ⟨by simp (decide := true) only [q_join, if_neg s_1_38, if_neg s_1_42, if_neg s_1_43, if_neg s_1_45, if_neg s_1_47, if_neg s_1_60, if_neg s_1_61, if_neg s_1_62, if_pos s_1_124, if_pos c_85, if_pos c_89, ↓reduceIte, Bool.false_eq_true, bI_t, bI_f], rfl, rfl⟩
      · refine x_iconst (pc := 92) (v := 1) K dX1_join_92 (by decide) ?_
        refine x_goto (pc := 93) (tgt := 97) K dX1_join_93 (by decide) ?_
        refine x_S1i (pc := 97) K (c_yX1_truth) mw_yX1_truth st_yX1_truth mk_X1_40 ⟨Nat.le_of_ble_eq_true rfl, Nat.le_of_ble_eq_true rfl, Nat.le_of_ble_eq_true rfl⟩ dX1_join_97 ?_
        exact x_iretI (pc := 100) K dX1_join_100 ⟨by simp (decide := true) only [q_join, if_neg s_1_38, if_neg s_1_42, if_neg s_1_43, if_neg s_1_45, if_neg s_1_47, if_neg s_1_60, if_neg s_1_61, if_neg s_1_62, if_pos s_1_124, if_pos c_85, if_neg c_89, ↓reduceIte, Bool.false_eq_true, bI_t, bI_f], rfl, rfl⟩
  refine x_lookup (pc := 1) (off := 183) (tgt := 184) K dX1_join_1 (by decide) (by simp [Op.lookupswitch.offset, show ¬ 38 = (s).toInt from fun h => s_1_38 (Int32.toInt_inj.mp h.symm), show ¬ 42 = (s).toInt from fun h => s_1_42 (Int32.toInt_inj.mp h.symm), show ¬ 43 = (s).toInt from fun h => s_1_43 (Int32.toInt_inj.mp h.symm), show ¬ 45 = (s).toInt from fun h => s_1_45 (Int32.toInt_inj.mp h.symm), show ¬ 47 = (s).toInt from fun h => s_1_47 (Int32.toInt_inj.mp h.symm), show ¬ 60 = (s).toInt from fun h => s_1_60 (Int32.toInt_inj.mp h.symm), show ¬ 61 = (s).toInt from fun h => s_1_61 (Int32.toInt_inj.mp h.symm), show ¬ 62 = (s).toInt from fun h => s_1_62 (Int32.toInt_inj.mp h.symm), show ¬ 124 = (s).toInt from fun h => s_1_124 (Int32.toInt_inj.mp h.symm)]) (by decide) ?_
  refine x_iload_n (pc := 184) (i := 2) K dX1_join_184 rfl rfl ?_
  refine x_if_ne (pc := 185) (tgt := 192) K dX1_join_185 (by decide) (fun c_185 => ?_) (fun c_185 => ?_)
  · refine x_iload_n (pc := 192) (i := 1) K dX1_join_192 rfl rfl ?_
    refine x_iload_n (pc := 193) (i := 2) K dX1_join_193 rfl rfl ?_
    refine x_irem (pc := 194) K dX1_join_194 c_185 ?_
    exact x_iretI (pc := 195) K dX1_join_195 ⟨by simp (decide := true) only [q_join, if_neg s_1_38, if_neg s_1_42, if_neg s_1_43, if_neg s_1_45, if_neg s_1_47, if_neg s_1_60, if_neg s_1_61, if_neg s_1_62, if_neg s_1_124, if_neg c_185, ↓reduceIte, Bool.false_eq_true, bI_t, bI_f], rfl, rfl⟩
  · refine x_iconst (pc := 188) (v := 0) K dX1_join_188 (by decide) ?_
    refine x_goto (pc := 189) (tgt := 195) K dX1_join_189 (by decide) ?_
    exact x_iretI (pc := 195) K dX1_join_195 ⟨by simp (decide := true) only [q_join, if_neg s_1_38, if_neg s_1_42, if_neg s_1_43, if_neg s_1_45, if_neg s_1_47, if_neg s_1_60, if_neg s_1_61, if_neg s_1_62, if_neg s_1_124, if_pos c_185, ↓reduceIte, Bool.false_eq_true, bI_t, bI_f], rfl, rfl⟩

def q_write (α : Af) (e u i1 : Nat) (n : Int32) : Af :=
  let A := up α (idL e u) 1 (q_held n 0 60)
  let B := upR A (idLc e u) (va_cpy (A i1) (A (idLc e u)) (0 : Int32).toNatClampNeg (0 : Int32).toNatClampNeg (A (idL e u) 1).toNatClampNeg)
  up B (idL e u) 0 1
set_option maxRecDepth 100000 in
set_option maxHeartbeats 4000000 in
theorem c_yX1_write {k : Nat} {l : Launch} {G : Gm} {α ρ : Af} {e u i1 : Nat} {n : Int32} (he : e < 3) (hu : u < 2) (h1 : i1 < 76 ∧ scr k i1 = false) (h1e : ∀ f, ent G i1 f = .inl (gC G 0, 60, .inl f)) : CI k l G yX1_write (Cond.code yX1_write cX1_write 3 none) 3 [.ref (gA G (idL e u)), .ref (gA G i1), .int n] α ρ (PV (q_write α e u i1 n) ρ) := by
  refine CI.of [some (.ref (gA G (idL e u))), some (.ref (gA G i1)), some (.int n)] (by decide) (Nat.le_of_ble_eq_true rfl) rfl rfl (fun C K => ?_)
  have K : Ok l _ G C RX1 cX1_write none 3 := K
  refine x_aload_n (pc := 0) (i := 0) K dX1_write_0 rfl rfl ?_
  refine x_iload_n (pc := 1) (i := 2) K dX1_write_1 rfl rfl ?_
  refine x_iconst (pc := 2) (v := 0) K dX1_write_2 (by decide) ?_
  refine x_bipush (pc := 3) (v := 60) K dX1_write_3 (by decide) ?_
  refine x_SN3i (pc := 5) K (c_yX6_held) mw_yX6_held st_yX6_held (by decide +kernel) ⟨Nat.le_of_ble_eq_true rfl, Nat.le_of_ble_eq_true rfl, Nat.le_of_ble_eq_true rfl⟩ dX1_write_5 ?_
  refine pf_X1_15 (pc := 8) he hu K dX1_write_8 ?_
  refine x_aload_n (pc := 11) (i := 1) K dX1_write_11 rfl rfl ?_
  refine x_iconst (pc := 12) (v := 0) K dX1_write_12 (by decide) ?_
  refine x_aload_n (pc := 13) (i := 0) K dX1_write_13 rfl rfl ?_
  refine gf_X1_19 (pc := 14) he hu K dX1_write_14 ?_
  refine x_iconst (pc := 17) (v := 0) K dX1_write_17 (by decide) ?_
  refine x_aload_n (pc := 18) (i := 0) K dX1_write_18 rfl rfl ?_
  refine gf_X1_15 (pc := 19) he hu K dX1_write_19 ?_
  refine x_cpy (pc := 22) (i1 := i1) (i2 := idLc e u) (n1 := 60) (n2 := 60) (t := 0) (ty := .int) K h1 ⟨by unfold idLc; omega, scr_no (by unfold idLc; omega)⟩ h1e (fun f => ent_Lc he hu) rfl rfl ⟨by decide, by decide, by rw [up_eq]; exact (held60 n).1, by rw [up_eq]; have := (held60 n).2; have h0 : (0 : Int32).toNatClampNeg = 0 := (by decide); omega, by rw [up_eq]; have := (held60 n).2; have h0 : (0 : Int32).toNatClampNeg = 0 := (by decide); omega⟩ (fun _ _ => rfl) mk_X1_30 ⟨by decide, Nat.le_of_ble_eq_true rfl⟩ dX1_write_22 ?_
  refine x_aload_n (pc := 25) (i := 0) K dX1_write_25 rfl rfl ?_
  refine x_iconst (pc := 26) (v := 1) K dX1_write_26 (by decide) ?_
  refine pf_X1_9 (pc := 27) he hu K ⟨rfl, rfl⟩ dX1_write_27 ?_
  exact x_vretI (pc := 30) K dX1_write_30 ⟨rfl, rfl⟩

def q_lawTake (α : Af) (e u e' u' : Nat) : Af :=
  up (q_write α e u (idLc e' u') (α (idL e' u') 1)) (idL e u) 0 (q_write α e u (idLc e' u') (α (idL e' u') 1) (idL e' u') 0)
theorem q_write_0 {α : Af} {e u e' u' i1 : Nat} {n : Int32} (he : e < 3) (hu : u < 2) (he' : e' < 3) (hu' : u' < 2) (hn : e ≠ e') : q_write α e u i1 n (idL e' u') 0 = α (idL e' u') 0 := by
  have h1 : idL e' u' ≠ idL e u := by unfold idL; omega
  simp only [q_write]
  rw [up_ne h1, upR_ne (nLLc he' hu'), up_ne h1]
theorem z01 {x : Int32} (h : x = 0 ∨ x = 1) : narrow .boolean (.int x) = .int x ∧ fits .boolean (.int x) = true := by
  rcases h with rfl | rfl <;> exact ⟨rfl, rfl⟩
set_option maxRecDepth 100000 in
set_option maxHeartbeats 4000000 in
theorem c_yX1_takeFrom {k : Nat} {l : Launch} {G : Gm} {α ρ : Af} {e u e' u' : Nat} (he : e < 3) (hu : u < 2) (he' : e' < 3) (hu' : u' < 2) (hne : e ≠ e') (hb : α (idL e' u') 0 = 0 ∨ α (idL e' u') 0 = 1) : CI k l G yX1_takeFrom (Cond.code yX1_takeFrom cX1_takeFrom 2 none) 4 [.ref (gA G (idL e u)), .ref (gA G (idL e' u'))] α ρ (PV (q_lawTake α e u e' u') ρ) := by
  refine CI.of [some (.ref (gA G (idL e u))), some (.ref (gA G (idL e' u')))] (by decide) (Nat.le_of_ble_eq_true rfl) rfl rfl (fun C K => ?_)
  have K : Ok l _ G C RX1 cX1_takeFrom none 2 := K
  refine x_aload_n (pc := 0) (i := 0) K dX1_takeFrom_0 rfl rfl ?_
  refine x_aload_n (pc := 1) (i := 1) K dX1_takeFrom_1 rfl rfl ?_
  refine gf_X1_19 (pc := 2) he' hu' K dX1_takeFrom_2 ?_
  refine x_aload_n (pc := 5) (i := 1) K dX1_takeFrom_5 rfl rfl ?_
  refine gf_X1_15 (pc := 6) he' hu' K dX1_takeFrom_6 ?_
  refine x_V2v (pc := 9) K (c_yX1_write he hu ⟨by unfold idLc; omega, scr_no (by unfold idLc; omega)⟩ (fun f => ent_Lc he' hu')) mw_yX1_write ⟨im_yX1_write, se_yX1_write⟩ mk_X1_36 (rc_L he hu) rfl ⟨Nat.le_of_ble_eq_true rfl, Nat.le_of_ble_eq_true rfl, Nat.le_of_ble_eq_true rfl⟩ dX1_takeFrom_9 ?_
  refine x_aload_n (pc := 12) (i := 0) K dX1_takeFrom_12 rfl rfl ?_
  refine x_aload_n (pc := 13) (i := 1) K dX1_takeFrom_13 rfl rfl ?_
  refine gf_X1_9 (pc := 14) he' hu' K dX1_takeFrom_14 ?_
  refine pf_X1_9 (pc := 17) he hu K (z01 (by rw [q_write_0 he hu he' hu' hne]; exact hb)) dX1_takeFrom_17 ?_
  exact x_vretI (pc := 20) K dX1_takeFrom_20 ⟨rfl, rfl⟩

def q_wk (a b c x : Int32) (s : Nat × (Nat → Int32)) : Nat × (Nat → Int32) :=
  if x < -3 then (if x = -33 then (if s.1 = 0 then s else (s.1, upd s.2 (s.1 - 1) (q_truth (if s.2 (s.1 - 1) = 0 then 1 else 0)))) else (if s.1 ≤ 1 then s else (s.1 - 1, upd s.2 (s.1 - 2) (q_join (-x) (s.2 (s.1 - 2)) (s.2 (s.1 - 1))))))
  else if 60 ≤ s.1 then s else (s.1 + 1, upd s.2 s.1 (if x < 0 then (if x = -1 then a else if x = -2 then b else c) else x))
def q_run (code : Nat → Int32) (a b c : Int32) : Nat → Nat → Nat × (Nat → Int32) → Nat × (Nat → Int32)
  | 0, _, s => s
  | j + 1, i, s => q_run code a b c j (i + 1) (q_wk a b c (code i) s)
def q_fin (s : Nat × (Nat → Int32)) : Int32 := if s.1 = 0 then 0 else s.2 (s.1 - 1)
theorem q_wk_60 {a b c x : Int32} {s : Nat × (Nat → Int32)} (h : s.1 ≤ 60) : (q_wk a b c x s).1 ≤ 60 := by
  unfold q_wk
  split
  · split
    · split <;> simp_all
    · split <;> simp_all <;> omega
  · split <;> simp_all <;> omega
theorem nI_60 {t : Nat} (h : t ≤ 60) : (60 : Int32) ≤ nI t ↔ 60 ≤ t := nI_leI (a := 60) (b := t) (by decide) (by omega)
theorem nI_le0 {t : Nat} (h : t ≤ 60) : nI t ≤ 0 ↔ t = 0 := by
  have := nI_leI (a := t) (b := 0) (by omega) (by decide)
  exact this.trans (by omega)
theorem nI_le1 {t : Nat} (h : t ≤ 60) : nI t ≤ 1 ↔ t ≤ 1 := nI_leI (a := t) (b := 1) (by omega) (by decide)
set_option maxRecDepth 100000 in
set_option maxHeartbeats 4000000 in
theorem l_workOut {l : Launch} {G : Gm} {C : Cx} {e u n : Nat} {a b c : Int32} {α ρ : Af} (K : Ok l 3 G C RX1 cX1_workOut (some .int) 7) (he : e < 3) (hu : u < 2) (hn : α (idL e u) 1 = nI n) (h60 : n ≤ 60) : ∀ (j i t : Nat) (g : Nat → Int32) (y : Option Value), i + j = n → t ≤ 60 → ∀ S, q_run (α (idLc e u)) a b c j i (t, g) = S → X 0 l 3 G C (PI (q_fin S) (upR α (idLo e u) S.2) ρ) 7 6 [some (.ref (gA G (idL e u))), some (.int a), some (.int b), some (.int c), some (.int (nI t)), some (.int (nI i)), y] [] (upR α (idLo e u) g) ρ := by
  intro j
  induction j with
  | zero =>
    intro i t g y hi ht S hT
    refine x_iload (pc := 6) (i := 5) K dX1_workOut_6 rfl ?_
    refine x_aload_n (pc := 8) (i := 0) K dX1_workOut_8 rfl rfl ?_
    refine gf_X1_15 (pc := 9) he hu K dX1_workOut_9 ?_
    refine x_topi K (show _ = nI n from by rw [upR_ne (nLLo he hu)]; exact hn) ?_
    refine x_icmp_ge (pc := 12) (tgt := 173) K dX1_workOut_12 (by decide) (fun c_12 => ?_) (fun c_12 => ?_)
    · refine x_iload (pc := 173) (i := 4) K dX1_workOut_173 rfl ?_
      refine x_if_le (pc := 175) (tgt := 190) K dX1_workOut_175 (by decide) (fun c_175 => ?_) (fun c_175 => ?_)
      · refine x_iconst (pc := 190) (v := 0) K dX1_workOut_190 (by decide) ?_
        exact x_iretI (pc := 191) K dX1_workOut_191 ⟨by rw [← hT]; exact (show 0 = q_fin (t, g) from (if_pos ((nI_le0 ht).mp c_175)).symm), by rw [← hT]; rfl, rfl⟩
      · have ht0 : ¬ t = 0 := fun h => c_175 ((nI_le0 ht).mpr h)
        refine x_aload_n (pc := 178) (i := 0) K dX1_workOut_178 rfl rfl ?_
        refine gf_X1_23 (pc := 179) he hu K dX1_workOut_179 ?_
        refine x_iload (pc := 182) (i := 4) K dX1_workOut_182 rfl ?_
        refine x_iconst (pc := 184) (v := 1) K dX1_workOut_184 (by decide) ?_
        refine x_isub (pc := 185) K dX1_workOut_185 ?_
        refine x_topi K (show _ = nI (t - 1) from pk_sub (a := t) (b := 1) (by omega)) ?_
        refine ia_Lo (pc := 186) he hu K (vp_in_nI (show t - 1 < 60 by omega) (by decide)) dX1_workOut_186 ?_
        refine x_topi K (show _ = g (t - 1) from by rw [upR_eq, nI_clamp (by omega)]) ?_
        refine x_goto (pc := 187) (tgt := 191) K dX1_workOut_187 (by decide) ?_
        exact x_iretI (pc := 191) K dX1_workOut_191 ⟨by rw [← hT]; exact (show g (t - 1) = q_fin (t, g) from (if_neg ht0).symm), by rw [← hT]; rfl, rfl⟩
    · exact absurd (nI_le (by omega) (by omega)) c_12
  | succ j ih =>
    intro i t g y hi ht S hT
    refine x_iload (pc := 6) (i := 5) K dX1_workOut_6 rfl ?_
    refine x_aload_n (pc := 8) (i := 0) K dX1_workOut_8 rfl rfl ?_
    refine gf_X1_15 (pc := 9) he hu K dX1_workOut_9 ?_
    refine x_topi K (show _ = nI n from by rw [upR_ne (nLLo he hu)]; exact hn) ?_
    refine x_icmp_ge (pc := 12) (tgt := 173) K dX1_workOut_12 (by decide) (fun c_12 => ?_) (fun c_12 => ?_)
    · exact absurd c_12 (nI_ge (by omega) (by omega))
    · refine x_aload_n (pc := 15) (i := 0) K dX1_workOut_15 rfl rfl ?_
      refine gf_X1_19 (pc := 16) he hu K dX1_workOut_16 ?_
      refine x_iload (pc := 19) (i := 5) K dX1_workOut_19 rfl ?_
      refine ia_Lc (pc := 21) he hu K (vp_in_nI (show i < 60 by omega) (by decide)) dX1_workOut_21 ?_
      refine x_topi K (show _ = α (idLc e u) i from by rw [upR_ne (nLcLo he hu), nI_clamp (by omega)]) ?_
      refine x_istore (pc := 22) (i := 6) K dX1_workOut_22 rfl (by decide) ?_
      refine x_iload (pc := 24) (i := 6) K dX1_workOut_24 rfl ?_
      refine x_bipush (pc := 26) (v := (-3)) K dX1_workOut_26 (by decide) ?_
      refine x_icmp_lt (pc := 28) (tgt := 83) K dX1_workOut_28 (by decide) (fun c_28 => ?_) (fun c_28 => ?_)
      · refine x_iload (pc := 83) (i := 6) K dX1_workOut_83 rfl ?_
        refine x_bipush (pc := 85) (v := (-33)) K dX1_workOut_85 (by decide) ?_
        refine x_icmp_ne (pc := 87) (tgt := 127) K dX1_workOut_87 (by decide) (fun c_87 => ?_) (fun c_87 => ?_)
        · refine x_iload (pc := 127) (i := 4) K dX1_workOut_127 rfl ?_
          refine x_iconst (pc := 129) (v := 1) K dX1_workOut_129 (by decide) ?_
          refine x_icmp_le (pc := 130) (tgt := 167) K dX1_workOut_130 (by decide) (fun c_130 => ?_) (fun c_130 => ?_)
          · refine x_iinc (pc := 167) (i := 5) (v := nI (i + 1)) K dX1_workOut_167 rfl (nI_1 _) rfl ?_
            refine x_goto (pc := 170) (tgt := 6) K dX1_workOut_170 (by decide) ?_
            exact ih (i + 1) t g _ (by omega) ht S (by rw [← hT]; simp only [q_run, q_wk]; rw [if_pos c_28, if_neg c_87, if_pos ((nI_le1 ht).mp c_130)])
          · have ht1 : ¬ t ≤ 1 := fun h => c_130 ((nI_le1 ht).mpr h)
            refine x_iinc (pc := 133) (i := 4) (v := nI (t - 1)) K dX1_workOut_133 rfl (by have h := pk_m1 (t - 1); rw [show t - 1 + 1 = t by omega] at h; exact h) rfl ?_
            refine x_aload_n (pc := 136) (i := 0) K dX1_workOut_136 rfl rfl ?_
            refine gf_X1_23 (pc := 137) he hu K dX1_workOut_137 ?_
            refine x_iload (pc := 140) (i := 4) K dX1_workOut_140 rfl ?_
            refine x_iconst (pc := 142) (v := 1) K dX1_workOut_142 (by decide) ?_
            refine x_isub (pc := 143) K dX1_workOut_143 ?_
            refine x_topi K (show _ = nI (t - 2) from (pk_sub (a := t - 1) (b := 1) (by omega)).trans (by rw [show t - 1 - 1 = t - 2 by omega])) ?_
            refine x_iload (pc := 144) (i := 6) K dX1_workOut_144 rfl ?_
            refine x_ineg (pc := 146) K dX1_workOut_146 ?_
            refine x_aload_n (pc := 147) (i := 0) K dX1_workOut_147 rfl rfl ?_
            refine gf_X1_23 (pc := 148) he hu K dX1_workOut_148 ?_
            refine x_iload (pc := 151) (i := 4) K dX1_workOut_151 rfl ?_
            refine x_iconst (pc := 153) (v := 1) K dX1_workOut_153 (by decide) ?_
            refine x_isub (pc := 154) K dX1_workOut_154 ?_
            refine x_topi K (show _ = nI (t - 2) from (pk_sub (a := t - 1) (b := 1) (by omega)).trans (by rw [show t - 1 - 1 = t - 2 by omega])) ?_
            refine ia_Lo (pc := 155) he hu K (vp_in_nI (show t - 2 < 60 by omega) (by decide)) dX1_workOut_155 ?_
            refine x_topi K (show _ = g (t - 2) from by rw [upR_eq, nI_clamp (by omega)]) ?_
            refine x_aload_n (pc := 156) (i := 0) K dX1_workOut_156 rfl rfl ?_
            refine gf_X1_23 (pc := 157) he hu K dX1_workOut_157 ?_
            refine x_iload (pc := 160) (i := 4) K dX1_workOut_160 rfl ?_
            refine ia_Lo (pc := 162) he hu K (vp_in_nI (show t - 1 < 60 by omega) (by decide)) dX1_workOut_162 ?_
            refine x_topi K (show _ = g (t - 1) from by rw [upR_eq, nI_clamp (by omega)]) ?_
            refine x_S3i (pc := 163) K (c_yX1_join) mw_yX1_join st_yX1_join mk_X1_44 ⟨Nat.le_of_ble_eq_true rfl, Nat.le_of_ble_eq_true rfl, Nat.le_of_ble_eq_true rfl⟩ dX1_workOut_163 ?_
            refine is_Lo (pc := 166) he hu K (vp_in_nI (show t - 2 < 60 by omega) (by decide)) dX1_workOut_166 ?_
            refine x_st (a := upR α (idLo e u) (upd g (t - 2) (q_join (-(α (idLc e u) i)) (g (t - 2)) (g (t - 1))))) (by rw [up_upR, nI_clamp (by omega)]) rfl ?_
            refine x_iinc (pc := 167) (i := 5) (v := nI (i + 1)) K dX1_workOut_167 rfl (nI_1 _) rfl ?_
            refine x_goto (pc := 170) (tgt := 6) K dX1_workOut_170 (by decide) ?_
            exact ih (i + 1) (t - 1) (upd g (t - 2) (q_join (-(α (idLc e u) i)) (g (t - 2)) (g (t - 1)))) _ (by omega) (by omega) S (by rw [← hT]; simp only [q_run, q_wk]; rw [if_pos c_28, if_neg c_87, if_neg ht1])
        · refine x_iload (pc := 90) (i := 4) K dX1_workOut_90 rfl ?_
          refine x_if_le (pc := 92) (tgt := 167) K dX1_workOut_92 (by decide) (fun c_92 => ?_) (fun c_92 => ?_)
          · refine x_iinc (pc := 167) (i := 5) (v := nI (i + 1)) K dX1_workOut_167 rfl (nI_1 _) rfl ?_
            refine x_goto (pc := 170) (tgt := 6) K dX1_workOut_170 (by decide) ?_
            exact ih (i + 1) t g _ (by omega) ht S (by rw [← hT]; simp only [q_run, q_wk]; rw [if_pos c_28, if_pos c_87, if_pos ((nI_le0 ht).mp c_92)])
          · have ht0 : ¬ t = 0 := fun h => c_92 ((nI_le0 ht).mpr h)
            refine x_aload_n (pc := 95) (i := 0) K dX1_workOut_95 rfl rfl ?_
            refine gf_X1_23 (pc := 96) he hu K dX1_workOut_96 ?_
            refine x_iload (pc := 99) (i := 4) K dX1_workOut_99 rfl ?_
            refine x_iconst (pc := 101) (v := 1) K dX1_workOut_101 (by decide) ?_
            refine x_isub (pc := 102) K dX1_workOut_102 ?_
            refine x_topi K (show _ = nI (t - 1) from pk_sub (a := t) (b := 1) (by omega)) ?_
            refine x_aload_n (pc := 103) (i := 0) K dX1_workOut_103 rfl rfl ?_
            refine gf_X1_23 (pc := 104) he hu K dX1_workOut_104 ?_
            refine x_iload (pc := 107) (i := 4) K dX1_workOut_107 rfl ?_
            refine x_iconst (pc := 109) (v := 1) K dX1_workOut_109 (by decide) ?_
            refine x_isub (pc := 110) K dX1_workOut_110 ?_
            refine x_topi K (show _ = nI (t - 1) from pk_sub (a := t) (b := 1) (by omega)) ?_
            refine ia_Lo (pc := 111) he hu K (vp_in_nI (show t - 1 < 60 by omega) (by decide)) dX1_workOut_111 ?_
            refine x_topi K (show _ = g (t - 1) from by rw [upR_eq, nI_clamp (by omega)]) ?_
            refine x_if_ne (pc := 112) (tgt := 119) K dX1_workOut_112 (by decide) (fun c_112 => ?_) (fun c_112 => ?_)
            · refine x_iconst (pc := 119) (v := 0) K dX1_workOut_119 (by decide) ?_
              refine x_S1i (pc := 120) K (c_yX1_truth) mw_yX1_truth st_yX1_truth mk_X1_40 ⟨Nat.le_of_ble_eq_true rfl, Nat.le_of_ble_eq_true rfl, Nat.le_of_ble_eq_true rfl⟩ dX1_workOut_120 ?_
              refine x_topi K (show _ = q_truth (if g (t - 1) = 0 then 1 else 0) from by simp (decide := true) only [if_neg c_112, ↓reduceIte]) ?_
              refine is_Lo (pc := 123) he hu K (vp_in_nI (show t - 1 < 60 by omega) (by decide)) dX1_workOut_123 ?_
              refine x_st (a := upR α (idLo e u) (upd g (t - 1) (q_truth (if g (t - 1) = 0 then 1 else 0)))) (by rw [up_upR, nI_clamp (by omega)]) rfl ?_
              refine x_goto (pc := 124) (tgt := 167) K dX1_workOut_124 (by decide) ?_
              refine x_iinc (pc := 167) (i := 5) (v := nI (i + 1)) K dX1_workOut_167 rfl (nI_1 _) rfl ?_
              refine x_goto (pc := 170) (tgt := 6) K dX1_workOut_170 (by decide) ?_
              exact ih (i + 1) t (upd g (t - 1) (q_truth (if g (t - 1) = 0 then 1 else 0))) _ (by omega) ht S (by rw [← hT]; simp only [q_run, q_wk]; rw [if_pos c_28, if_pos c_87, if_neg ht0])
            · refine x_iconst (pc := 115) (v := 1) K dX1_workOut_115 (by decide) ?_
              refine x_goto (pc := 116) (tgt := 120) K dX1_workOut_116 (by decide) ?_
              refine x_S1i (pc := 120) K (c_yX1_truth) mw_yX1_truth st_yX1_truth mk_X1_40 ⟨Nat.le_of_ble_eq_true rfl, Nat.le_of_ble_eq_true rfl, Nat.le_of_ble_eq_true rfl⟩ dX1_workOut_120 ?_
              refine x_topi K (show _ = q_truth (if g (t - 1) = 0 then 1 else 0) from by simp (decide := true) only [if_pos c_112, ↓reduceIte]) ?_
              refine is_Lo (pc := 123) he hu K (vp_in_nI (show t - 1 < 60 by omega) (by decide)) dX1_workOut_123 ?_
              refine x_st (a := upR α (idLo e u) (upd g (t - 1) (q_truth (if g (t - 1) = 0 then 1 else 0)))) (by rw [up_upR, nI_clamp (by omega)]) rfl ?_
              refine x_goto (pc := 124) (tgt := 167) K dX1_workOut_124 (by decide) ?_
              refine x_iinc (pc := 167) (i := 5) (v := nI (i + 1)) K dX1_workOut_167 rfl (nI_1 _) rfl ?_
              refine x_goto (pc := 170) (tgt := 6) K dX1_workOut_170 (by decide) ?_
              exact ih (i + 1) t (upd g (t - 1) (q_truth (if g (t - 1) = 0 then 1 else 0))) _ (by omega) ht S (by rw [← hT]; simp only [q_run, q_wk]; rw [if_pos c_28, if_pos c_87, if_neg ht0])
      · refine x_iload (pc := 31) (i := 4) K dX1_workOut_31 rfl ?_
        refine x_bipush (pc := 33) (v := 60) K dX1_workOut_33 (by decide) ?_
        refine x_icmp_ge (pc := 35) (tgt := 167) K dX1_workOut_35 (by decide) (fun c_35 => ?_) (fun c_35 => ?_)
        · refine x_iinc (pc := 167) (i := 5) (v := nI (i + 1)) K dX1_workOut_167 rfl (nI_1 _) rfl ?_
          refine x_goto (pc := 170) (tgt := 6) K dX1_workOut_170 (by decide) ?_
          exact ih (i + 1) t g _ (by omega) ht S (by rw [← hT]; simp only [q_run, q_wk]; rw [if_neg c_28, if_pos ((nI_60 ht).mp c_35)])
        · refine x_aload_n (pc := 38) (i := 0) K dX1_workOut_38 rfl rfl ?_
          refine gf_X1_23 (pc := 39) he hu K dX1_workOut_39 ?_
          refine x_iload (pc := 42) (i := 4) K dX1_workOut_42 rfl ?_
          refine x_iload (pc := 44) (i := 6) K dX1_workOut_44 rfl ?_
          refine x_if_lt (pc := 46) (tgt := 54) K dX1_workOut_46 (by decide) (fun c_46 => ?_) (fun c_46 => ?_)
          · refine x_iload (pc := 54) (i := 6) K dX1_workOut_54 rfl ?_
            refine x_iconst (pc := 56) (v := (-1)) K dX1_workOut_56 (by decide) ?_
            refine x_icmp_ne (pc := 57) (tgt := 64) K dX1_workOut_57 (by decide) (fun c_57 => ?_) (fun c_57 => ?_)
            · refine x_iload (pc := 64) (i := 6) K dX1_workOut_64 rfl ?_
              refine x_bipush (pc := 66) (v := (-2)) K dX1_workOut_66 (by decide) ?_
              refine x_icmp_ne (pc := 68) (tgt := 75) K dX1_workOut_68 (by decide) (fun c_68 => ?_) (fun c_68 => ?_)
              · refine x_iload_n (pc := 75) (i := 3) K dX1_workOut_75 rfl rfl ?_
                refine x_topi K (show _ = (if (α (idLc e u) i) < 0 then (if (α (idLc e u) i) = -1 then a else if (α (idLc e u) i) = -2 then b else c) else (α (idLc e u) i)) from by simp (decide := true) only [if_pos c_46, if_neg c_57, if_neg c_68, ↓reduceIte]) ?_
                refine is_Lo (pc := 76) he hu K (vp_in_nI (show t < 60 from Nat.not_le.mp fun h => c_35 ((nI_60 ht).mpr h)) (by decide)) dX1_workOut_76 ?_
                refine x_st (a := upR α (idLo e u) (upd g t (if (α (idLc e u) i) < 0 then (if (α (idLc e u) i) = -1 then a else if (α (idLc e u) i) = -2 then b else c) else (α (idLc e u) i)))) (by rw [up_upR, nI_clamp (by omega)]) rfl ?_
                refine x_iinc (pc := 77) (i := 4) (v := nI (t + 1)) K dX1_workOut_77 rfl (nI_1 _) rfl ?_
                refine x_goto (pc := 80) (tgt := 167) K dX1_workOut_80 (by decide) ?_
                refine x_iinc (pc := 167) (i := 5) (v := nI (i + 1)) K dX1_workOut_167 rfl (nI_1 _) rfl ?_
                refine x_goto (pc := 170) (tgt := 6) K dX1_workOut_170 (by decide) ?_
                have ht2 : ¬ 60 ≤ t := fun h => c_35 ((nI_60 ht).mpr h)
                exact ih (i + 1) (t + 1) (upd g t (if (α (idLc e u) i) < 0 then (if (α (idLc e u) i) = -1 then a else if (α (idLc e u) i) = -2 then b else c) else (α (idLc e u) i))) _ (by omega) (by omega) S (by rw [← hT]; simp only [q_run, q_wk]; rw [if_neg c_28, if_neg ht2])
              · refine x_iload_n (pc := 71) (i := 2) K dX1_workOut_71 rfl rfl ?_
                refine x_goto (pc := 72) (tgt := 76) K dX1_workOut_72 (by decide) ?_
                refine x_topi K (show _ = (if (α (idLc e u) i) < 0 then (if (α (idLc e u) i) = -1 then a else if (α (idLc e u) i) = -2 then b else c) else (α (idLc e u) i)) from by simp (decide := true) only [if_pos c_46, if_neg c_57, if_pos c_68, ↓reduceIte]) ?_
                refine is_Lo (pc := 76) he hu K (vp_in_nI (show t < 60 from Nat.not_le.mp fun h => c_35 ((nI_60 ht).mpr h)) (by decide)) dX1_workOut_76 ?_
                refine x_st (a := upR α (idLo e u) (upd g t (if (α (idLc e u) i) < 0 then (if (α (idLc e u) i) = -1 then a else if (α (idLc e u) i) = -2 then b else c) else (α (idLc e u) i)))) (by rw [up_upR, nI_clamp (by omega)]) rfl ?_
                refine x_iinc (pc := 77) (i := 4) (v := nI (t + 1)) K dX1_workOut_77 rfl (nI_1 _) rfl ?_
                refine x_goto (pc := 80) (tgt := 167) K dX1_workOut_80 (by decide) ?_
                refine x_iinc (pc := 167) (i := 5) (v := nI (i + 1)) K dX1_workOut_167 rfl (nI_1 _) rfl ?_
                refine x_goto (pc := 170) (tgt := 6) K dX1_workOut_170 (by decide) ?_
                have ht2 : ¬ 60 ≤ t := fun h => c_35 ((nI_60 ht).mpr h)
                exact ih (i + 1) (t + 1) (upd g t (if (α (idLc e u) i) < 0 then (if (α (idLc e u) i) = -1 then a else if (α (idLc e u) i) = -2 then b else c) else (α (idLc e u) i))) _ (by omega) (by omega) S (by rw [← hT]; simp only [q_run, q_wk]; rw [if_neg c_28, if_neg ht2])
            · refine x_iload_n (pc := 60) (i := 1) K dX1_workOut_60 rfl rfl ?_
              refine x_goto (pc := 61) (tgt := 76) K dX1_workOut_61 (by decide) ?_
              refine x_topi K (show _ = (if (α (idLc e u) i) < 0 then (if (α (idLc e u) i) = -1 then a else if (α (idLc e u) i) = -2 then b else c) else (α (idLc e u) i)) from by simp (decide := true) only [if_pos c_46, if_pos c_57, ↓reduceIte]) ?_
              refine is_Lo (pc := 76) he hu K (vp_in_nI (show t < 60 from Nat.not_le.mp fun h => c_35 ((nI_60 ht).mpr h)) (by decide)) dX1_workOut_76 ?_
              refine x_st (a := upR α (idLo e u) (upd g t (if (α (idLc e u) i) < 0 then (if (α (idLc e u) i) = -1 then a else if (α (idLc e u) i) = -2 then b else c) else (α (idLc e u) i)))) (by rw [up_upR, nI_clamp (by omega)]) rfl ?_
              refine x_iinc (pc := 77) (i := 4) (v := nI (t + 1)) K dX1_workOut_77 rfl (nI_1 _) rfl ?_
              refine x_goto (pc := 80) (tgt := 167) K dX1_workOut_80 (by decide) ?_
              refine x_iinc (pc := 167) (i := 5) (v := nI (i + 1)) K dX1_workOut_167 rfl (nI_1 _) rfl ?_
              refine x_goto (pc := 170) (tgt := 6) K dX1_workOut_170 (by decide) ?_
              have ht2 : ¬ 60 ≤ t := fun h => c_35 ((nI_60 ht).mpr h)
              exact ih (i + 1) (t + 1) (upd g t (if (α (idLc e u) i) < 0 then (if (α (idLc e u) i) = -1 then a else if (α (idLc e u) i) = -2 then b else c) else (α (idLc e u) i))) _ (by omega) (by omega) S (by rw [← hT]; simp only [q_run, q_wk]; rw [if_neg c_28, if_neg ht2])
          · refine x_iload (pc := 49) (i := 6) K dX1_workOut_49 rfl ?_
            refine x_goto (pc := 51) (tgt := 76) K dX1_workOut_51 (by decide) ?_
            refine x_topi K (show _ = (if (α (idLc e u) i) < 0 then (if (α (idLc e u) i) = -1 then a else if (α (idLc e u) i) = -2 then b else c) else (α (idLc e u) i)) from by simp (decide := true) only [if_neg c_46, ↓reduceIte]) ?_
            refine is_Lo (pc := 76) he hu K (vp_in_nI (show t < 60 from Nat.not_le.mp fun h => c_35 ((nI_60 ht).mpr h)) (by decide)) dX1_workOut_76 ?_
            refine x_st (a := upR α (idLo e u) (upd g t (if (α (idLc e u) i) < 0 then (if (α (idLc e u) i) = -1 then a else if (α (idLc e u) i) = -2 then b else c) else (α (idLc e u) i)))) (by rw [up_upR, nI_clamp (by omega)]) rfl ?_
            refine x_iinc (pc := 77) (i := 4) (v := nI (t + 1)) K dX1_workOut_77 rfl (nI_1 _) rfl ?_
            refine x_goto (pc := 80) (tgt := 167) K dX1_workOut_80 (by decide) ?_
            refine x_iinc (pc := 167) (i := 5) (v := nI (i + 1)) K dX1_workOut_167 rfl (nI_1 _) rfl ?_
            refine x_goto (pc := 170) (tgt := 6) K dX1_workOut_170 (by decide) ?_
            have ht2 : ¬ 60 ≤ t := fun h => c_35 ((nI_60 ht).mpr h)
            exact ih (i + 1) (t + 1) (upd g t (if (α (idLc e u) i) < 0 then (if (α (idLc e u) i) = -1 then a else if (α (idLc e u) i) = -2 then b else c) else (α (idLc e u) i))) _ (by omega) (by omega) S (by rw [← hT]; simp only [q_run, q_wk]; rw [if_neg c_28, if_neg ht2])

set_option maxRecDepth 100000 in
set_option maxHeartbeats 4000000 in
theorem c_yX1_workOut {l : Launch} {G : Gm} {α ρ : Af} {e u n : Nat} {a b c : Int32} (he : e < 3) (hu : u < 2) (hn : α (idL e u) 1 = nI n) (h60 : n ≤ 60) : CI 0 l G yX1_workOut (Cond.code yX1_workOut cX1_workOut 7 (some .int)) 3 [.ref (gA G (idL e u)), .int a, .int b, .int c] α ρ (PI (q_fin (q_run (α (idLc e u)) a b c n 0 (0, α (idLo e u)))) (upR α (idLo e u) (q_run (α (idLc e u)) a b c n 0 (0, α (idLo e u))).2) ρ) := by
  refine CI.of [some (.ref (gA G (idL e u))), some (.int a), some (.int b), some (.int c), none, none, none] (by decide) (Nat.le_of_ble_eq_true rfl) rfl rfl (fun C K => ?_)
  have K : Ok l _ G C RX1 cX1_workOut (some .int) 7 := K
  refine x_iconst (pc := 0) (v := 0) K dX1_workOut_0 (by decide) ?_
  refine x_istore (pc := 1) (i := 4) K dX1_workOut_1 rfl (by decide) ?_
  refine x_iconst (pc := 3) (v := 0) K dX1_workOut_3 (by decide) ?_
  refine x_istore (pc := 4) (i := 5) K dX1_workOut_4 rfl (by decide) ?_
  refine x_st (a := upR α (idLo e u) (α (idLo e u))) upR_self.symm rfl ?_
  exact l_workOut K he hu hn h60 n 0 0 _ none (by omega) (by omega) _ rfl
