theorem fa_or' (a b : Nat) : nI (a ||| b) = nI a ||| nI b := by
  refine Int32.toBitVec_inj.mp (BitVec.eq_of_toNat_eq ?_)
  show (BitVec.ofNat 32 (a ||| b)).toNat = (BitVec.ofNat 32 a ||| BitVec.ofNat 32 b).toNat
  simp [BitVec.toNat_or, Nat.or_mod_two_pow]
theorem r_wk_F {F F' : Nat → Int32} {what v : Int32} {s : Nat × (Nat → Int32)} (hF : ∀ q, q < 3 → F q = F' q) (h : what = 2 → ∃ q, q < 3 ∧ v = nI q) : r_wk F what v s = r_wk F' what v s := by
  unfold r_wk
  by_cases c1 : what = 1
  · rw [if_pos c1, if_pos c1]
  by_cases c2 : what = 2
  · obtain ⟨q, hq, rfl⟩ := h c2
    rw [if_neg c1, if_pos c2, if_neg c1, if_pos c2, nI_clamp (by omega), hF q hq]
  · rw [if_neg c1, if_neg c2, if_neg c1, if_neg c2]
theorem r_run_F {F F' act wit : Nat → Int32} (hF : ∀ q, q < 3 → F q = F' q) : ∀ (j i t : Nat) (f : Nat → Int32), Vd act wit j i t → r_run F act wit j i (t, f) = r_run F' act wit j i (t, f)
  | 0, _, _, _, _ => rfl
  | j + 1, i, t, f, h => by
    have h2 : act i = 2 → ∃ q, q < 3 ∧ wit i = nI q := by
      intro c2
      simp only [Vd] at h
      have c1 : ¬ act i = 1 := fun c1 => absurd (c1.symm.trans c2) (by decide)
      rw [if_neg c1, if_pos c2] at h
      exact h.1
    have hv := (Vd.step (F := F) (f := f) h).2.2
    simp only [r_run]
    rw [← r_wk_F hF h2]
    exact r_run_F hF j (i + 1) _ _ hv
theorem r_work_any {ρ r : Af} {u n : Nat} {a b c : Int32} {F f : Nat → Int32} (hu : u < 2) (hF : ∀ q, q < 3 → F q = fac a b c q) (hr : r mRow = ρ mRow) (hv : Vd (rAct ρ u) (rWit ρ u) n 0 0) : (r_run F (rAct r u) (rWit r u) n 0 (0, f)).2 0 = r_work ρ u n a b c := by
  have e1 : rAct r u = rAct ρ u := by unfold rAct; rw [hr]
  have e2 : rWit r u = rWit ρ u := by unfold rWit; rw [hr]
  rw [e1, e2, r_run_F hF n 0 0 f hv]
  unfold r_work
  exact (r_run_agr n 0 0 f (fun _ => 0) hv (fun j hj => absurd hj (Nat.not_lt_zero j))).2
def r_fc (ρ : Af) (a b c : Int32) : Af := up (up (up ρ mFacts 0 a) mFacts 1 b) mFacts 2 c
def r_pl (ρ : Af) (u : Nat) (a b c : Int32) : Nat × (Nat → Int32) := r_run (r_fc ρ a b c mFacts) (rAct (r_fc ρ a b c) u) (rWit (r_fc ρ a b c) u) (ρ mRow (aU u)).toNatClampNeg 0 (0, r_fc ρ a b c mPile)
def r_gst (ρ : Af) (u : Nat) (a b c : Int32) : Af := if ρ mRow (aU u) ≤ 0 then r_fc ρ a b c else upR (r_fc ρ a b c) mPile (r_pl ρ u a b c).2
theorem r_fc_F {ρ : Af} {a b c : Int32} : ∀ q, q < 3 → r_fc ρ a b c mFacts q = fac a b c q := by
  intro q hq
  unfold r_fc fac
  rw [up_at, up_at, up_at]
  by_cases e2 : q = 2
  · rw [if_pos e2, if_pos e2]
  by_cases e1 : q = 1
  · rw [if_neg e2, if_neg e2, if_pos e1, if_pos e1]
  · rw [if_neg e2, if_neg e2, if_neg e1, if_neg e1, if_pos (by omega)]
theorem r_fc_ne {ρ : Af} {a b c : Int32} {i : Nat} (h : i ≠ mFacts) : r_fc ρ a b c i = ρ i := by unfold r_fc; rw [up_ne h, up_ne h, up_ne h]
theorem r_gst_sim {ρ : Af} {u : Nat} {a b c : Int32} : Sim 1 (r_gst ρ u a b c) ρ := by
  intro i hi
  have h1 : i ≠ mFacts := fun h => by rw [h, scr1_F] at hi; cases hi
  have h2 : i ≠ mPile := fun h => by rw [h, scr1_P] at hi; cases hi
  unfold r_gst
  split
  · exact r_fc_ne h1
  · rw [upR_ne h2, r_fc_ne h1]
theorem Ml.pos {ρ : Af} {u : Nat} (h : Ml ρ u) (c : ¬ ρ mRow (aU u) ≤ 0) : ρ mRow (aU u) = nI (ρ mRow (aU u)).toNatClampNeg ∧ (ρ mRow (aU u)).toNatClampNeg ≤ 60 ∧ Vd (rAct ρ u) (rWit ρ u) (ρ mRow (aU u)).toNatClampNeg 0 0 := by
  obtain ⟨n, h1, h2, h3⟩ := h
  rw [h2] at c ⊢
  rw [nI_clamp (by omega)]
  refine ⟨rfl, h1, h3 ?_⟩
  rcases Nat.eq_zero_or_pos n with q | q
  · rw [q] at c; exact absurd (by decide) c
  · exact q
/-! the reference's days -/
def r_goS (ρ : Af) (u : Nat) : Af :=
  up (up ρ mRow (mS u 5) (r_held (ρ mRow (mS u 5) + r_gives ρ 0 (ρ mRow 4) (ρ mRow (mS u 5)) (ρ mRow (mS u 0))) 0 9)) mRow (mS u 4) (r_held ((up ρ mRow (mS u 5) (r_held (ρ mRow (mS u 5) + r_gives ρ 0 (ρ mRow 4) (ρ mRow (mS u 5)) (ρ mRow (mS u 0))) 0 9)) mRow (mS u 4) + 1) 0 99)
def r_gos (ρ : Af) : Nat → Af
  | 0 => ρ
  | i + 1 => r_goS (r_gos ρ i) i
def r_go (ρ : Af) (n : Nat) : Af := up (r_gos ρ n) mRow 0 (r_gos ρ n mRow 0 + 1)
theorem r_goS_ne {ρ : Af} {u i : Nat} (h : i ≠ mRow) : r_goS ρ u i = ρ i := by unfold r_goS; rw [up_ne h, up_ne h]
theorem r_goS_row {ρ : Af} {u k : Nat} (h : k ≠ mS u 4 ∧ k ≠ mS u 5) : r_goS ρ u mRow k = ρ mRow k := by unfold r_goS; rw [up_ne2 h.1, up_ne2 h.2]
theorem r_gos_ne {ρ : Af} {i : Nat} (h : i ≠ mRow) : ∀ n, r_gos ρ n i = ρ i
  | 0 => rfl
  | n + 1 => by simp only [r_gos]; rw [r_goS_ne h, r_gos_ne h n]
theorem r_gos_row {ρ : Af} {k : Nat} : ∀ {n : Nat}, (∀ u, u < n → k ≠ mS u 4 ∧ k ≠ mS u 5) → r_gos ρ n mRow k = ρ mRow k
  | 0, _ => rfl
  | n + 1, h => by simp only [r_gos]; rw [r_goS_row (h n (by omega)), r_gos_row (fun u hu => h u (by omega))]
theorem mS_ge {u w : Nat} : 9 ≤ mS u w := by unfold mS; omega
theorem r_gos_lo {ρ : Af} {k n : Nat} (h : k < 9) : r_gos ρ n mRow k = ρ mRow k := r_gos_row fun u _ => ⟨by have := mS_ge (u := u) (w := 4); omega, by have := mS_ge (u := u) (w := 5); omega⟩
theorem r_gos_hi {ρ : Af} {k n : Nat} (hn : n ≤ 9) (h : 72 ≤ k) : r_gos ρ n mRow k = ρ mRow k := r_gos_row fun u hu => ⟨by have := mS_lt (u := u) (w := 4) (by omega) (by decide); omega, by have := mS_lt (u := u) (w := 5) (by omega) (by decide); omega⟩
theorem Ml.of {ρ r : Af} {u : Nat} (h : Ml ρ u) (e : ∀ k, 156 ≤ k → r mRow k = ρ mRow k) : Ml r u := by
  obtain ⟨n, h1, h2, h3⟩ := h
  have e1 : rAct r u = rAct ρ u := by funext i; unfold rAct; exact e _ (by unfold aU; omega)
  have e2 : rWit r u = rWit ρ u := by funext i; unfold rWit; exact e _ (by unfold aU; omega)
  exact ⟨n, h1, by rw [e _ (by unfold aU; omega)]; exact h2, by rw [e1, e2]; exact h3⟩
theorem Ml.gos {ρ : Af} {u n : Nat} (hn : n ≤ 9) (h : Ml ρ u) : Ml (r_gos ρ n) u := h.of fun k hk => r_gos_hi hn (by omega)
theorem r_go_lo {ρ : Af} {k n : Nat} (h : k < 9) (h0 : k ≠ 0) : r_go ρ n mRow k = ρ mRow k := by unfold r_go; rw [up_ne2 h0, r_gos_lo h]
theorem Ml.go {ρ : Af} {u n : Nat} (hn : n ≤ 9) (h : Ml ρ u) : Ml (r_go ρ n) u := h.of fun k hk => by unfold r_go; rw [up_ne2 (by omega), r_gos_hi hn (by omega)]
def r_carryV (ρ : Af) (u : Nat) (load : Int32) : Int32 := if load ≤ r_bearsU ρ u then r_gives ρ 1 load (r_bearsU ρ u) (ρ mRow (mS u 1)) else -1
def r_carryS (ρ : Af) (u : Nat) (load : Int32) : Af :=
  if load ≤ r_bearsU ρ u then up ρ mRow 6 (r_held (ρ mRow 6 + r_gives ρ 1 load (r_bearsU ρ u) (ρ mRow (mS u 1))) 0 99999)
  else up (up ρ mRow (mS u 6) 1) mRow 5 (r_held ((up ρ mRow (mS u 6) 1) mRow 5 + load) 0 99999)
def r_drawS (ρ : Af) : Af := up ρ mRow 1 (q_z (ρ mRow 1))
def r_drawN (ρ : Af) : Nat := (q_z (ρ mRow 1)).toBitVec.toNat / 2 ^ 8
theorem r_drawN_lt {ρ : Af} : r_drawN ρ < 2 ^ 24 := by
  have h : (q_z (ρ mRow 1)).toBitVec.toNat < 2 ^ 32 := (q_z (ρ mRow 1)).toBitVec.isLt
  unfold r_drawN
  omega
def r_rained (ρ : Af) : Af := up (r_drawS ρ) mRow 4 (r_held (jrem (nI (r_drawN ρ)) 16 - 6) 0 9)
def r_dl1 (ρ : Af) : Af := r_drawS (r_rained ρ)
def r_dl2 (ρ : Af) : Af := r_drawS (r_dl1 ρ)
def r_dlU (ρ : Af) (n : Nat) : Nat := r_drawN (r_rained ρ) % n
def r_dlX (ρ : Af) : Int32 := jrem (nI (r_drawN (r_dl1 ρ))) 30
def r_ddB (ρ : Af) (n : Nat) : Int32 := if n = 0 then 0 else if r_dl2 ρ mRow (mS (r_dlU ρ n) 6) = 0 then (if 0 ≤ r_carryV (r_dl2 ρ) (r_dlU ρ n) (r_dlX ρ) then 0 else 1) else 0
def r_ddS (ρ : Af) (n : Nat) : Af := if n = 0 then r_rained ρ else if r_dl2 ρ mRow (mS (r_dlU ρ n) 6) = 0 then r_carryS (r_dl2 ρ) (r_dlU ρ n) (r_dlX ρ) else r_dl2 ρ
def r_dd (ρ : Af) (n : Nat) : Af := r_go (r_ddS ρ n) n
theorem r_drawS_row {ρ : Af} {k : Nat} (h : k ≠ 1) : r_drawS ρ mRow k = ρ mRow k := up_ne2 h
theorem r_rained_row {ρ : Af} {k : Nat} (h : k ≠ 1) (h4 : k ≠ 4) : r_rained ρ mRow k = ρ mRow k := by unfold r_rained; rw [up_ne2 h4, r_drawS_row h]
theorem r_dl1_row {ρ : Af} {k : Nat} (h : k ≠ 1) (h4 : k ≠ 4) : r_dl1 ρ mRow k = ρ mRow k := by unfold r_dl1; rw [r_drawS_row h, r_rained_row h h4]
theorem r_dl2_row {ρ : Af} {k : Nat} (h : k ≠ 1) (h4 : k ≠ 4) : r_dl2 ρ mRow k = ρ mRow k := by unfold r_dl2; rw [r_drawS_row h, r_dl1_row h h4]
theorem r_carryS_row {ρ : Af} {u k : Nat} {x : Int32} (h5 : k ≠ 5) (h6 : k ≠ 6) (h : k ≠ mS u 6) : r_carryS ρ u x mRow k = ρ mRow k := by
  unfold r_carryS
  split
  · rw [up_ne2 h6]
  · rw [up_ne2 h5, up_ne2 h]
theorem r_ddS_row {ρ : Af} {n k : Nat} (h1 : k ≠ 1) (h4 : k ≠ 4) (h5 : k ≠ 5) (h6 : k ≠ 6) (h : ∀ u, u < n → k ≠ mS u 6) : r_ddS ρ n mRow k = ρ mRow k := by
  unfold r_ddS
  by_cases h0 : n = 0
  · rw [if_pos h0]; exact r_rained_row h1 h4
  · rw [if_neg h0]
    split
    · rw [r_carryS_row h5 h6 (show k ≠ mS (r_dlU ρ n) 6 from h _ (Nat.mod_lt _ (by omega))), r_dl2_row h1 h4]
    · exact r_dl2_row h1 h4
theorem r_ddS_2 {ρ : Af} {n : Nat} : r_ddS ρ n mRow 2 = ρ mRow 2 := r_ddS_row (by decide) (by decide) (by decide) (by decide) (fun u _ => by have := mS_ge (u := u) (w := 6); omega)
theorem Ml.ddS {ρ : Af} {u n : Nat} (hn : n ≤ 9) (h : Ml ρ u) : Ml (r_ddS ρ n) u := h.of fun k hk => r_ddS_row (by omega) (by omega) (by omega) (by omega) (fun v hv => by have := mS_lt (u := v) (w := 6) (by omega) (by decide); omega)
theorem Ml.dl2 {ρ : Af} {u : Nat} (h : Ml ρ u) : Ml (r_dl2 ρ) u := h.of fun k hk => r_dl2_row (by omega) (by omega)
/-! who gets where -/
def r_fb (ρ : Af) : Nat → Af
  | 0 => ρ
  | i + 1 => up (r_fb ρ i) mBear i (r_bearsU (r_fb ρ i) i)
theorem r_fb_ne {ρ : Af} {i : Nat} (h : i ≠ mBear) : ∀ n, r_fb ρ n i = ρ i
  | 0 => rfl
  | n + 1 => by simp only [r_fb]; rw [up_ne h, r_fb_ne h n]
def r_endsU (ρ : Af) (u : Nat) : Int32 := q_ends (ρ mRow (mS u 2)) (ρ mRow (mS u 3))
def r_pass (E bear : Nat → Int32) (load r : Int32) : Nat → Int32
  | 0 => r
  | i + 1 => r_pass E bear load r i ||| (if bear i < load then 0 else if r_pass E bear load r i &&& E i = 0 then 0 else E i)
def r_reach (E bear : Nat → Int32) (load : Int32) (n : Nat) : Nat → Int32 → Int32
  | 0, r => r
  | m + 1, r => if r_pass E bear load r n = r then r_pass E bear load r n else r_reach E bear load n m (r_pass E bear load r n)
def cnt8 (a : Nat) : Nat := (a.testBit 0).toNat + (a.testBit 1).toNat + (a.testBit 2).toNat + (a.testBit 3).toNat + (a.testBit 4).toNat + (a.testBit 5).toNat + (a.testBit 6).toNat + (a.testBit 7).toNat
theorem cnt8_le (a : Nat) : cnt8 a ≤ 8 := by
  unfold cnt8
  have h : ∀ b : Bool, b.toNat ≤ 1 := fun b => by cases b <;> decide
  have := h (a.testBit 0); have := h (a.testBit 1); have := h (a.testBit 2); have := h (a.testBit 3); have := h (a.testBit 4); have := h (a.testBit 5); have := h (a.testBit 6); have := h (a.testBit 7)
  omega
theorem cnt8_or {a e : Nat} (ha : a < 256) (he : e < 256) (h : a ||| e ≠ a) : cnt8 a < cnt8 (a ||| e) := by
  have key : ∀ i, (a.testBit i).toNat ≤ ((a ||| e).testBit i).toNat := fun i => by
    rw [Nat.testBit_or]; cases a.testBit i <;> cases e.testBit i <;> decide
  rcases Nat.lt_or_ge (cnt8 a) (cnt8 (a ||| e)) with q | q
  · exact q
  · exfalso
    apply h
    have k0 := key 0; have k1 := key 1; have k2 := key 2; have k3 := key 3; have k4 := key 4; have k5 := key 5; have k6 := key 6; have k7 := key 7
    unfold cnt8 at q
    have inj : ∀ b c : Bool, b.toNat = c.toNat → b = c := fun b c => by cases b <;> cases c <;> decide
    refine Nat.eq_of_testBit_eq fun i => ?_
    by_cases hi : i < 8
    · rcases (show i = 0 ∨ i = 1 ∨ i = 2 ∨ i = 3 ∨ i = 4 ∨ i = 5 ∨ i = 6 ∨ i = 7 by omega) with rfl | rfl | rfl | rfl | rfl | rfl | rfl | rfl <;> exact inj _ _ (by omega)
    · have h2 : 256 ≤ 2 ^ i := Nat.pow_le_pow_right (n := 2) (by decide) (show 8 ≤ i by omega)
      rw [Nat.testBit_or, Nat.testBit_lt_two_pow (by omega : a < 2 ^ i), Nat.testBit_lt_two_pow (by omega : e < 2 ^ i)]; rfl
theorem or_lt {a e : Nat} (ha : a < 256) (he : e < 256) : a ||| e < 256 := Nat.or_lt_two_pow (n := 8) ha he
/-- the ends are places -/
def Eb (E : Nat → Int32) (n : Nat) : Prop := ∀ i, i < n → ∃ e, e < 256 ∧ E i = nI e
theorem r_pass_b {E bear : Nat → Int32} {load : Int32} {a : Nat} (ha : a < 256) : ∀ {n : Nat}, Eb E n → ∃ b, b < 256 ∧ r_pass E bear load (nI a) n = nI b ∧ (b = a ∨ cnt8 a < cnt8 b)
  | 0, _ => ⟨a, ha, rfl, Or.inl rfl⟩
  | n + 1, h => by
    obtain ⟨b, h1, h2, h3⟩ := r_pass_b (bear := bear) (load := load) ha (n := n) (fun i hi => h i (by omega))
    obtain ⟨e, he, e1⟩ := h n (by omega)
    simp only [r_pass]
    rw [h2, e1]
    have z : nI b ||| (0 : Int32) = nI b := by
      show nI b ||| nI 0 = nI b
      rw [← fa_or', Nat.or_zero]
    by_cases c1 : bear n < load
    · rw [if_pos c1, z]; exact ⟨b, h1, rfl, h3⟩
    rw [if_neg c1]
    by_cases c2 : nI b &&& nI e = 0
    · rw [if_pos c2, z]; exact ⟨b, h1, rfl, h3⟩
    rw [if_neg c2, ← fa_or']
    refine ⟨b ||| e, or_lt h1 he, rfl, ?_⟩
    by_cases c3 : b ||| e = b
    · rw [c3]; exact h3
    · have := cnt8_or h1 he c3
      rcases h3 with q | q
      · rw [q] at this ⊢; exact Or.inr this
      · exact Or.inr (by omega)
def r_joins (E bear : Nat → Int32) (load : Int32) (n : Nat) (one other : Int32) : Bool := if jshr (r_reach E bear load n 8 (jshl 1 one)) other &&& 1 = 1 then true else false
def r_flour (ρ : Af) (set : Int32) : Nat → Int32
  | 0 => 0
  | i + 1 => r_flour ρ set i + (if jshr set (nI i) &&& 1 = 1 then r_takesU ρ i else 0)
def r_right (ρ : Af) (s n : Nat) : Nat → Nat → Nat
  | 0, i => i
  | j + 1, i => if i < n then (if ρ mCells (24 * s + i) = r_bearsU ρ i then r_right ρ s n j (i + 1) else i) else i

set_option maxRecDepth 100000 in
set_option maxHeartbeats 4000000 in
theorem c0_gives {l : Launch} {G : Gm} {α ρ : Af} {u : Nat} {a b c : Int32} (hu : u < 2) (hl : Ml ρ u) : CI 0 l G yX7_gives (Cond.code yX7_gives cX7_gives 7 (some .int)) 3 [.ref (gA G idM), .int (nI u), .int a, .int b, .int c] α ρ (PI (r_gives ρ u a b c) α (r_gst ρ u a b c)) := by
  refine CI.of [some (.ref (gA G idM)), some (.int (nI u)), some (.int a), some (.int b), some (.int c), none, none] (by decide) (Nat.le_of_ble_eq_true rfl) rfl rfl (fun C K => ?_)
  have K : Ok l _ G C RX7 cX7_gives (some .int) 7 := K
  refine x_sipush (pc := 0) (v := 156) K dX7_gives_0 (by decide) ?_
  refine x_bipush (pc := 3) (v := 121) K dX7_gives_3 (by decide) ?_
  refine x_iload_n (pc := 5) (i := 1) K dX7_gives_5 rfl rfl ?_
  refine x_imul (pc := 6) K dX7_gives_6 ?_
  refine x_iadd (pc := 7) K dX7_gives_7 ?_
  refine x_topi K (show _ = nI (aU u) from by show nI 156 + nI 121 * nI u = _; rw [pk_mul, nI_add]; rfl) ?_
  refine x_istore (pc := 8) (i := 5) K dX7_gives_8 rfl (by decide) ?_
  refine x_aload_n (pc := 10) (i := 0) K dX7_gives_10 rfl rfl ?_
  refine gf_X7_37 (pc := 11)  K dX7_gives_11 ?_
  refine x_iconst (pc := 14) (v := 0) K dX7_gives_14 (by decide) ?_
  refine x_iload_n (pc := 15) (i := 2) K dX7_gives_15 rfl rfl ?_
  refine js_mFacts (pc := 16) 0 (by decide) rfl K dX7_gives_16 ?_
  refine x_aload_n (pc := 17) (i := 0) K dX7_gives_17 rfl rfl ?_
  refine gf_X7_37 (pc := 18)  K dX7_gives_18 ?_
  refine x_iconst (pc := 21) (v := 1) K dX7_gives_21 (by decide) ?_
  refine x_iload_n (pc := 22) (i := 3) K dX7_gives_22 rfl rfl ?_
  refine js_mFacts (pc := 23) 1 (by decide) rfl K dX7_gives_23 ?_
  refine x_aload_n (pc := 24) (i := 0) K dX7_gives_24 rfl rfl ?_
  refine gf_X7_37 (pc := 25)  K dX7_gives_25 ?_
  refine x_iconst (pc := 28) (v := 2) K dX7_gives_28 (by decide) ?_
  refine x_iload (pc := 29) (i := 4) K dX7_gives_29 rfl ?_
  refine js_mFacts (pc := 31) 2 (by decide) rfl K dX7_gives_31 ?_
  refine x_st (r := r_fc ρ a b c) rfl rfl ?_
  refine x_aload_n (pc := 32) (i := 0) K dX7_gives_32 rfl rfl ?_
  refine gf_X7_9 (pc := 33)  K dX7_gives_33 ?_
  refine x_iload (pc := 36) (i := 5) K dX7_gives_36 rfl ?_
  refine ib_mRow (pc := 38) ((aU u)) (by unfold aU; omega) rfl K dX7_gives_38 ?_
  refine x_topi K (show _ = ρ mRow (aU u) from by rw [r_fc_ne (by decide)]) ?_
  refine x_if_le (pc := 39) (tgt := 51) K dX7_gives_39 (by decide) (fun c_39 => ?_) (fun c_39 => ?_)
  · refine x_iload_n (pc := 51) (i := 1) K dX7_gives_51 rfl rfl ?_
    refine x_iconst (pc := 52) (v := 1) K dX7_gives_52 (by decide) ?_
    refine x_icmp_ne (pc := 53) (tgt := 65) K dX7_gives_53 (by decide) (fun c_53 => ?_) (fun c_53 => ?_)
    · refine x_iload_n (pc := 65) (i := 2) K dX7_gives_65 rfl rfl ?_
      refine x_if_le (pc := 66) (tgt := 73) K dX7_gives_66 (by decide) (fun c_66 => ?_) (fun c_66 => ?_)
      · refine x_iconst (pc := 73) (v := (-1)) K dX7_gives_73 (by decide) ?_
        refine x_istore (pc := 74) (i := 6) K dX7_gives_74 rfl (by decide) ?_
        refine x_iload_n (pc := 76) (i := 1) K dX7_gives_76 rfl rfl ?_
        refine x_if_ne (pc := 77) (tgt := 92) K dX7_gives_77 (by decide) (fun c_77 => ?_) (fun c_77 => ?_)
        · refine x_iload (pc := 92) (i := 6) K dX7_gives_92 rfl ?_
          refine x_iconst (pc := 94) (v := 0) K dX7_gives_94 (by decide) ?_
          refine x_bipush (pc := 95) (v := 99) K dX7_gives_95 (by decide) ?_
          refine x_S3i (pc := 97) K (c_yX7_held) mw_yX7_held st_yX7_held mk_X7_66 ⟨Nat.le_of_ble_eq_true rfl, Nat.le_of_ble_eq_true rfl, Nat.le_of_ble_eq_true rfl⟩ dX7_gives_97 ?_
          exact x_iretI (pc := 100) K dX7_gives_100 ⟨by unfold r_gives r_giveV; rw [if_neg c_77, if_pos c_39, if_neg c_53, if_pos c_66], rfl, by unfold r_gst; rw [if_pos c_39]⟩
        · refine x_iload (pc := 80) (i := 6) K dX7_gives_80 rfl ?_
          refine x_bipush (pc := 82) (v := (-9)) K dX7_gives_82 (by decide) ?_
          refine x_bipush (pc := 84) (v := 9) K dX7_gives_84 (by decide) ?_
          refine x_S3i (pc := 86) K (c_yX7_held) mw_yX7_held st_yX7_held mk_X7_66 ⟨Nat.le_of_ble_eq_true rfl, Nat.le_of_ble_eq_true rfl, Nat.le_of_ble_eq_true rfl⟩ dX7_gives_86 ?_
          refine x_goto (pc := 89) (tgt := 100) K dX7_gives_89 (by decide) ?_
          exact x_iretI (pc := 100) K dX7_gives_100 ⟨by unfold r_gives r_giveV; rw [if_pos c_77, if_pos c_39, if_neg c_53, if_pos c_66], rfl, by unfold r_gst; rw [if_pos c_39]⟩
      · refine x_iconst (pc := 69) (v := 1) K dX7_gives_69 (by decide) ?_
        refine x_goto (pc := 70) (tgt := 74) K dX7_gives_70 (by decide) ?_
        refine x_istore (pc := 74) (i := 6) K dX7_gives_74 rfl (by decide) ?_
        refine x_iload_n (pc := 76) (i := 1) K dX7_gives_76 rfl rfl ?_
        refine x_if_ne (pc := 77) (tgt := 92) K dX7_gives_77 (by decide) (fun c_77 => ?_) (fun c_77 => ?_)
        · refine x_iload (pc := 92) (i := 6) K dX7_gives_92 rfl ?_
          refine x_iconst (pc := 94) (v := 0) K dX7_gives_94 (by decide) ?_
          refine x_bipush (pc := 95) (v := 99) K dX7_gives_95 (by decide) ?_
          refine x_S3i (pc := 97) K (c_yX7_held) mw_yX7_held st_yX7_held mk_X7_66 ⟨Nat.le_of_ble_eq_true rfl, Nat.le_of_ble_eq_true rfl, Nat.le_of_ble_eq_true rfl⟩ dX7_gives_97 ?_
          exact x_iretI (pc := 100) K dX7_gives_100 ⟨by unfold r_gives r_giveV; rw [if_neg c_77, if_pos c_39, if_neg c_53, if_neg c_66], rfl, by unfold r_gst; rw [if_pos c_39]⟩
        · refine x_iload (pc := 80) (i := 6) K dX7_gives_80 rfl ?_
          refine x_bipush (pc := 82) (v := (-9)) K dX7_gives_82 (by decide) ?_
          refine x_bipush (pc := 84) (v := 9) K dX7_gives_84 (by decide) ?_
          refine x_S3i (pc := 86) K (c_yX7_held) mw_yX7_held st_yX7_held mk_X7_66 ⟨Nat.le_of_ble_eq_true rfl, Nat.le_of_ble_eq_true rfl, Nat.le_of_ble_eq_true rfl⟩ dX7_gives_86 ?_
          refine x_goto (pc := 89) (tgt := 100) K dX7_gives_89 (by decide) ?_
          exact x_iretI (pc := 100) K dX7_gives_100 ⟨by unfold r_gives r_giveV; rw [if_pos c_77, if_pos c_39, if_neg c_53, if_neg c_66], rfl, by unfold r_gst; rw [if_pos c_39]⟩
    · refine x_iload_n (pc := 56) (i := 2) K dX7_gives_56 rfl rfl ?_
      refine x_bipush (pc := 57) (v := 10) K dX7_gives_57 (by decide) ?_
      refine x_idiv (pc := 59) K dX7_gives_59 (by decide) ?_
      refine x_iconst (pc := 60) (v := 1) K dX7_gives_60 (by decide) ?_
      refine x_iadd (pc := 61) K dX7_gives_61 ?_
      refine x_goto (pc := 62) (tgt := 74) K dX7_gives_62 (by decide) ?_
      refine x_istore (pc := 74) (i := 6) K dX7_gives_74 rfl (by decide) ?_
      refine x_iload_n (pc := 76) (i := 1) K dX7_gives_76 rfl rfl ?_
      refine x_if_ne (pc := 77) (tgt := 92) K dX7_gives_77 (by decide) (fun c_77 => ?_) (fun c_77 => ?_)
      · refine x_iload (pc := 92) (i := 6) K dX7_gives_92 rfl ?_
        refine x_iconst (pc := 94) (v := 0) K dX7_gives_94 (by decide) ?_
        refine x_bipush (pc := 95) (v := 99) K dX7_gives_95 (by decide) ?_
        refine x_S3i (pc := 97) K (c_yX7_held) mw_yX7_held st_yX7_held mk_X7_66 ⟨Nat.le_of_ble_eq_true rfl, Nat.le_of_ble_eq_true rfl, Nat.le_of_ble_eq_true rfl⟩ dX7_gives_97 ?_
        exact x_iretI (pc := 100) K dX7_gives_100 ⟨by unfold r_gives r_giveV; rw [if_neg c_77, if_pos c_39, if_pos c_53], rfl, by unfold r_gst; rw [if_pos c_39]⟩
      · refine x_iload (pc := 80) (i := 6) K dX7_gives_80 rfl ?_
        refine x_bipush (pc := 82) (v := (-9)) K dX7_gives_82 (by decide) ?_
        refine x_bipush (pc := 84) (v := 9) K dX7_gives_84 (by decide) ?_
        refine x_S3i (pc := 86) K (c_yX7_held) mw_yX7_held st_yX7_held mk_X7_66 ⟨Nat.le_of_ble_eq_true rfl, Nat.le_of_ble_eq_true rfl, Nat.le_of_ble_eq_true rfl⟩ dX7_gives_86 ?_
        refine x_goto (pc := 89) (tgt := 100) K dX7_gives_89 (by decide) ?_
        exact x_iretI (pc := 100) K dX7_gives_100 ⟨by unfold r_gives r_giveV; rw [if_pos c_77, if_pos c_39, if_pos c_53], rfl, by unfold r_gst; rw [if_pos c_39]⟩
  · refine x_aload_n (pc := 42) (i := 0) K dX7_gives_42 rfl rfl ?_
    refine x_iload (pc := 43) (i := 5) K dX7_gives_43 rfl ?_
    refine x_V1i (pc := 45) K (c_yX7_works hu (n := (ρ mRow (aU u)).toNatClampNeg) (by rw [r_fc_ne (by decide)]; exact (hl.pos c_39).1) (hl.pos c_39).2.1 (by have h := (hl.pos c_39).2.2; have e1 : rAct (r_fc ρ a b c) u = rAct ρ u := (by unfold rAct; rw [r_fc_ne (by decide)]); have e2 : rWit (r_fc ρ a b c) u = rWit ρ u := (by unfold rWit; rw [r_fc_ne (by decide)]); rw [e1, e2]; exact h)) mw_yX7_works ⟨im_yX7_works, se_yX7_works⟩ mk_X7_173 rc_M rfl ⟨Nat.le_of_ble_eq_true rfl, Nat.le_of_ble_eq_true rfl, Nat.le_of_ble_eq_true rfl⟩ dX7_gives_45 ?_
    refine x_goto (pc := 48) (tgt := 74) K dX7_gives_48 (by decide) ?_
    refine x_istore (pc := 74) (i := 6) K dX7_gives_74 rfl (by decide) ?_
    refine x_iload_n (pc := 76) (i := 1) K dX7_gives_76 rfl rfl ?_
    refine x_if_ne (pc := 77) (tgt := 92) K dX7_gives_77 (by decide) (fun c_77 => ?_) (fun c_77 => ?_)
    · refine x_iload (pc := 92) (i := 6) K dX7_gives_92 rfl ?_
      refine x_iconst (pc := 94) (v := 0) K dX7_gives_94 (by decide) ?_
      refine x_bipush (pc := 95) (v := 99) K dX7_gives_95 (by decide) ?_
      refine x_S3i (pc := 97) K (c_yX7_held) mw_yX7_held st_yX7_held mk_X7_66 ⟨Nat.le_of_ble_eq_true rfl, Nat.le_of_ble_eq_true rfl, Nat.le_of_ble_eq_true rfl⟩ dX7_gives_97 ?_
      exact x_iretI (pc := 100) K dX7_gives_100 ⟨by unfold r_gives r_giveV; rw [if_neg c_77, if_neg c_39]; exact congrArg (fun z => r_held z _ _) (r_work_any hu r_fc_F (r_fc_ne (by decide)) (hl.pos c_39).2.2), rfl, by unfold r_gst; rw [if_neg c_39]; rfl⟩
    · refine x_iload (pc := 80) (i := 6) K dX7_gives_80 rfl ?_
      refine x_bipush (pc := 82) (v := (-9)) K dX7_gives_82 (by decide) ?_
      refine x_bipush (pc := 84) (v := 9) K dX7_gives_84 (by decide) ?_
      refine x_S3i (pc := 86) K (c_yX7_held) mw_yX7_held st_yX7_held mk_X7_66 ⟨Nat.le_of_ble_eq_true rfl, Nat.le_of_ble_eq_true rfl, Nat.le_of_ble_eq_true rfl⟩ dX7_gives_86 ?_
      refine x_goto (pc := 89) (tgt := 100) K dX7_gives_89 (by decide) ?_
      exact x_iretI (pc := 100) K dX7_gives_100 ⟨by unfold r_gives r_giveV; rw [if_pos c_77, if_neg c_39]; exact congrArg (fun z => r_held z _ _) (r_work_any hu r_fc_F (r_fc_ne (by decide)) (hl.pos c_39).2.2), rfl, by unfold r_gst; rw [if_neg c_39]; rfl⟩

theorem c_gives {l : Launch} {G : Gm} {α ρ : Af} {u : Nat} {a b c : Int32} (hu : u < 2) (hl : Ml ρ u) : CI 1 l G yX7_gives (Cond.code yX7_gives cX7_gives 7 (some .int)) 3 [.ref (gA G idM), .int (nI u), .int a, .int b, .int c] α ρ (PI (r_gives ρ u a b c) α ρ) := by
  refine CI.hide _ (fun a' r ha hr => c0_gives (ρ := r) (α := a') hu (hl.of fun k _ => by rw [hr mRow (by decide)])) ?_
  intro a' r oo a1 r1 ha hr hq
  obtain ⟨h1, h2, h3⟩ := hq
  have e1 : r mRow = ρ mRow := hr mRow (by decide)
  have e2 : r_gives r u a b c = r_gives ρ u a b c := by
    unfold r_gives r_giveV r_work rAct rWit
    rw [e1]
  refine ⟨α, ρ, ⟨by rw [h1, e2], rfl, rfl⟩, by rw [h2]; exact ha, ?_⟩
  rw [h3]
  intro i hi
  rw [r_gst_sim i hi]
  exact hr i hi
set_option maxRecDepth 100000 in
set_option maxHeartbeats 4000000 in
theorem l_goes {l : Launch} {G : Gm} {C : Cx} {P : Po} {n : Nat} {α ρ : Af} (K : Ok l 4 G C RX7 cX7_goes none 3) (hn : ρ mRow 2 = nI n) (h9 : n ≤ 9) (hl : Ml ρ 0) : ∀ (j i : Nat) (y : Option Value), i + j = n → (∀ y, X 1 l 4 G C (P) 3 82 [some (.ref (gA G idM)), some (.int (nI n)), y] [] α (r_gos ρ n)) → X 1 l 4 G C (P) 3 2 [some (.ref (gA G idM)), some (.int (nI i)), y] [] α (r_gos ρ i) := by
  intro j
  induction j with
  | zero =>
    intro i y hi hx
    have hm : r_gos ρ i mRow 2 = nI n := by rw [r_gos_lo (by decide)]; exact hn
    refine x_iload_n (pc := 2) (i := 1) K dX7_goes_2 rfl rfl ?_
    refine x_aload_n (pc := 3) (i := 0) K dX7_goes_3 rfl rfl ?_
    refine gf_X7_9 (pc := 4)  K dX7_goes_4 ?_
    refine x_iconst (pc := 7) (v := 2) K dX7_goes_7 (by decide) ?_
    refine ib_mRow (pc := 8) 2 (by decide) rfl K dX7_goes_8 ?_
    refine x_icmp_ge (pc := 9) (tgt := 82) K dX7_goes_9 (by decide) (fun c_9 => ?_) (fun c_9 => ?_)
    · obtain rfl : i = n := by omega
      exact hx y
    · exact absurd (by rw [hm]; exact nI_le (by omega) (by omega)) c_9
  | succ j ih =>
    intro i y hi hx
    have hm : r_gos ρ i mRow 2 = nI n := by rw [r_gos_lo (by decide)]; exact hn
    refine x_iload_n (pc := 2) (i := 1) K dX7_goes_2 rfl rfl ?_
    refine x_aload_n (pc := 3) (i := 0) K dX7_goes_3 rfl rfl ?_
    refine gf_X7_9 (pc := 4)  K dX7_goes_4 ?_
    refine x_iconst (pc := 7) (v := 2) K dX7_goes_7 (by decide) ?_
    refine ib_mRow (pc := 8) 2 (by decide) rfl K dX7_goes_8 ?_
    refine x_icmp_ge (pc := 9) (tgt := 82) K dX7_goes_9 (by decide) (fun c_9 => ?_) (fun c_9 => ?_)
    · exact (nI_ge (a := i) (b := n) (by omega) (by omega) (by rw [hm] at c_9; exact c_9)).elim
    · refine x_aload_n (pc := 12) (i := 0) K dX7_goes_12 rfl rfl ?_
      refine x_iconst (pc := 13) (v := 0) K dX7_goes_13 (by decide) ?_
      refine x_aload_n (pc := 14) (i := 0) K dX7_goes_14 rfl rfl ?_
      refine gf_X7_9 (pc := 15)  K dX7_goes_15 ?_
      refine x_iconst (pc := 18) (v := 4) K dX7_goes_18 (by decide) ?_
      refine ib_mRow (pc := 19) 4 (by decide) rfl K dX7_goes_19 ?_
      refine x_aload_n (pc := 20) (i := 0) K dX7_goes_20 rfl rfl ?_
      refine x_iload_n (pc := 21) (i := 1) K dX7_goes_21 rfl rfl ?_
      refine x_iconst (pc := 22) (v := 5) K dX7_goes_22 (by decide) ?_
      refine x_V2i (pc := 23) K (c_yX7_of (u := i) (w := 5) (Nat.lt_trans (mS_lt (by omega) (by decide)) (by decide))) mw_yX7_of ⟨im_yX7_of, se_yX7_of⟩ mk_X7_62 rc_M rfl ⟨Nat.le_of_ble_eq_true rfl, Nat.le_of_ble_eq_true rfl, Nat.le_of_ble_eq_true rfl⟩ dX7_goes_23 ?_
      refine x_aload_n (pc := 26) (i := 0) K dX7_goes_26 rfl rfl ?_
      refine x_iload_n (pc := 27) (i := 1) K dX7_goes_27 rfl rfl ?_
      refine x_iconst (pc := 28) (v := 0) K dX7_goes_28 (by decide) ?_
      refine x_V2i (pc := 29) K (c_yX7_of (u := i) (w := 0) (Nat.lt_trans (mS_lt (by omega) (by decide)) (by decide))) mw_yX7_of ⟨im_yX7_of, se_yX7_of⟩ mk_X7_62 rc_M rfl ⟨Nat.le_of_ble_eq_true rfl, Nat.le_of_ble_eq_true rfl, Nat.le_of_ble_eq_true rfl⟩ dX7_goes_29 ?_
      refine x_V4i (pc := 32) K (c_gives (u := 0) (by decide) (Ml.gos (by omega) hl)) mw_yX7_gives ⟨im_yX7_gives, se_yX7_gives⟩ mk_X7_105 rc_M rfl ⟨Nat.le_of_ble_eq_true rfl, Nat.le_of_ble_eq_true rfl, Nat.le_of_ble_eq_true rfl⟩ dX7_goes_32 ?_
      refine x_istore_n (pc := 35) (i := 2) K dX7_goes_35 rfl rfl (by decide) ?_
      refine x_aload_n (pc := 36) (i := 0) K dX7_goes_36 rfl rfl ?_
      refine x_iload_n (pc := 37) (i := 1) K dX7_goes_37 rfl rfl ?_
      refine x_iconst (pc := 38) (v := 5) K dX7_goes_38 (by decide) ?_
      refine x_aload_n (pc := 39) (i := 0) K dX7_goes_39 rfl rfl ?_
      refine x_iload_n (pc := 40) (i := 1) K dX7_goes_40 rfl rfl ?_
      refine x_iconst (pc := 41) (v := 5) K dX7_goes_41 (by decide) ?_
      refine x_V2i (pc := 42) K (c_yX7_of (u := i) (w := 5) (Nat.lt_trans (mS_lt (by omega) (by decide)) (by decide))) mw_yX7_of ⟨im_yX7_of, se_yX7_of⟩ mk_X7_62 rc_M rfl ⟨Nat.le_of_ble_eq_true rfl, Nat.le_of_ble_eq_true rfl, Nat.le_of_ble_eq_true rfl⟩ dX7_goes_42 ?_
      refine x_iload_n (pc := 45) (i := 2) K dX7_goes_45 rfl rfl ?_
      refine x_iadd (pc := 46) K dX7_goes_46 ?_
      refine x_iconst (pc := 47) (v := 0) K dX7_goes_47 (by decide) ?_
      refine x_bipush (pc := 48) (v := 9) K dX7_goes_48 (by decide) ?_
      refine x_S3i (pc := 50) K (c_yX7_held) mw_yX7_held st_yX7_held mk_X7_66 ⟨Nat.le_of_ble_eq_true rfl, Nat.le_of_ble_eq_true rfl, Nat.le_of_ble_eq_true rfl⟩ dX7_goes_50 ?_
      refine x_V3v (pc := 53) K (c_yX7_lets (u := i) (w := 5) (Nat.lt_trans (mS_lt (by omega) (by decide)) (by decide))) mw_yX7_lets ⟨im_yX7_lets, se_yX7_lets⟩ mk_X7_86 rc_M rfl ⟨Nat.le_of_ble_eq_true rfl, Nat.le_of_ble_eq_true rfl, Nat.le_of_ble_eq_true rfl⟩ dX7_goes_53 ?_
      refine x_aload_n (pc := 56) (i := 0) K dX7_goes_56 rfl rfl ?_
      refine x_iload_n (pc := 57) (i := 1) K dX7_goes_57 rfl rfl ?_
      refine x_iconst (pc := 58) (v := 4) K dX7_goes_58 (by decide) ?_
      refine x_aload_n (pc := 59) (i := 0) K dX7_goes_59 rfl rfl ?_
      refine x_iload_n (pc := 60) (i := 1) K dX7_goes_60 rfl rfl ?_
      refine x_iconst (pc := 61) (v := 4) K dX7_goes_61 (by decide) ?_
      refine x_V2i (pc := 62) K (c_yX7_of (u := i) (w := 4) (Nat.lt_trans (mS_lt (by omega) (by decide)) (by decide))) mw_yX7_of ⟨im_yX7_of, se_yX7_of⟩ mk_X7_62 rc_M rfl ⟨Nat.le_of_ble_eq_true rfl, Nat.le_of_ble_eq_true rfl, Nat.le_of_ble_eq_true rfl⟩ dX7_goes_62 ?_
      refine x_iconst (pc := 65) (v := 1) K dX7_goes_65 (by decide) ?_
      refine x_iadd (pc := 66) K dX7_goes_66 ?_
      refine x_iconst (pc := 67) (v := 0) K dX7_goes_67 (by decide) ?_
      refine x_bipush (pc := 68) (v := 99) K dX7_goes_68 (by decide) ?_
      refine x_S3i (pc := 70) K (c_yX7_held) mw_yX7_held st_yX7_held mk_X7_66 ⟨Nat.le_of_ble_eq_true rfl, Nat.le_of_ble_eq_true rfl, Nat.le_of_ble_eq_true rfl⟩ dX7_goes_70 ?_
      refine x_V3v (pc := 73) K (c_yX7_lets (u := i) (w := 4) (Nat.lt_trans (mS_lt (by omega) (by decide)) (by decide))) mw_yX7_lets ⟨im_yX7_lets, se_yX7_lets⟩ mk_X7_86 rc_M rfl ⟨Nat.le_of_ble_eq_true rfl, Nat.le_of_ble_eq_true rfl, Nat.le_of_ble_eq_true rfl⟩ dX7_goes_73 ?_
      refine x_iinc (pc := 76) (i := 1) (v := nI (i + 1)) K dX7_goes_76 rfl (nI_1 _) rfl ?_
      refine x_goto (pc := 79) (tgt := 2) K dX7_goes_79 (by decide) ?_
      exact ih (i + 1) _ (by omega) hx

set_option maxRecDepth 100000 in
set_option maxHeartbeats 4000000 in
theorem c_yX7_goes {l : Launch} {G : Gm} {α ρ : Af} {n : Nat} (hn : ρ mRow 2 = nI n) (h9 : n ≤ 9) (hl : Ml ρ 0) : CI 1 l G yX7_goes (Cond.code yX7_goes cX7_goes 3 none) 4 [.ref (gA G idM)] α ρ (PV α (r_go ρ n)) := by
  refine CI.of [some (.ref (gA G idM)), none, none] (by decide) (Nat.le_of_ble_eq_true rfl) rfl rfl (fun C K => ?_)
  have K : Ok l _ G C RX7 cX7_goes none 3 := K
  refine x_iconst (pc := 0) (v := 0) K dX7_goes_0 (by decide) ?_
  refine x_istore_n (pc := 1) (i := 1) K dX7_goes_1 rfl rfl (by decide) ?_
  refine l_goes K hn h9 hl n 0 none (by omega) (fun y => ?_)
  refine x_aload_n (pc := 82) (i := 0) K dX7_goes_82 rfl rfl ?_
  refine gf_X7_9 (pc := 83)  K dX7_goes_83 ?_
  refine x_iconst (pc := 86) (v := 0) K dX7_goes_86 (by decide) ?_
  refine x_dup2 (pc := 87) K dX7_goes_87 rfl rfl ?_
  refine ib_mRow (pc := 88) 0 (by decide) rfl K dX7_goes_88 ?_
  refine x_iconst (pc := 89) (v := 1) K dX7_goes_89 (by decide) ?_
  refine x_iadd (pc := 90) K dX7_goes_90 ?_
  refine js_mRow (pc := 91) 0 (by decide) rfl K dX7_goes_91 ?_
  exact x_vretI (pc := 92) K dX7_goes_92 ⟨rfl, rfl⟩

set_option maxRecDepth 100000 in
set_option maxHeartbeats 4000000 in
theorem c_yX7_crosses {l : Launch} {G : Gm} {α ρ : Af} {u : Nat} {load : Int32} (hu : u < 9) (hl : Ml ρ 1) : CI 1 l G yX7_crosses (Cond.code yX7_crosses cX7_crosses 5 (some .int)) 4 [.ref (gA G idM), .int (nI u), .int load] α ρ (PI (r_carryV ρ u load) α (r_carryS ρ u load)) := by
  refine CI.of [some (.ref (gA G idM)), some (.int (nI u)), some (.int load), none, none] (by decide) (Nat.le_of_ble_eq_true rfl) rfl rfl (fun C K => ?_)
  have K : Ok l _ G C RX7 cX7_crosses (some .int) 5 := K
  refine x_aload_n (pc := 0) (i := 0) K dX7_crosses_0 rfl rfl ?_
  refine x_iload_n (pc := 1) (i := 1) K dX7_crosses_1 rfl rfl ?_
  refine x_V1i (pc := 2) K (c_yX7_bearsOf hu) mw_yX7_bearsOf ⟨im_yX7_bearsOf, se_yX7_bearsOf⟩ mk_X7_93 rc_M rfl ⟨Nat.le_of_ble_eq_true rfl, Nat.le_of_ble_eq_true rfl, Nat.le_of_ble_eq_true rfl⟩ dX7_crosses_2 ?_
  refine x_istore_n (pc := 5) (i := 3) K dX7_crosses_5 rfl rfl (by decide) ?_
  refine x_iload_n (pc := 6) (i := 3) K dX7_crosses_6 rfl rfl ?_
  refine x_iload_n (pc := 7) (i := 2) K dX7_crosses_7 rfl rfl ?_
  refine x_icmp_ge (pc := 8) (tgt := 41) K dX7_crosses_8 (by decide) (fun c_8 => ?_) (fun c_8 => ?_)
  · refine x_aload_n (pc := 41) (i := 0) K dX7_crosses_41 rfl rfl ?_
    refine x_iconst (pc := 42) (v := 1) K dX7_crosses_42 (by decide) ?_
    refine x_iload_n (pc := 43) (i := 2) K dX7_crosses_43 rfl rfl ?_
    refine x_iload_n (pc := 44) (i := 3) K dX7_crosses_44 rfl rfl ?_
    refine x_aload_n (pc := 45) (i := 0) K dX7_crosses_45 rfl rfl ?_
    refine x_iload_n (pc := 46) (i := 1) K dX7_crosses_46 rfl rfl ?_
    refine x_iconst (pc := 47) (v := 1) K dX7_crosses_47 (by decide) ?_
    refine x_V2i (pc := 48) K (c_yX7_of (u := u) (w := 1) (Nat.lt_trans (mS_lt hu (by decide)) (by decide))) mw_yX7_of ⟨im_yX7_of, se_yX7_of⟩ mk_X7_62 rc_M rfl ⟨Nat.le_of_ble_eq_true rfl, Nat.le_of_ble_eq_true rfl, Nat.le_of_ble_eq_true rfl⟩ dX7_crosses_48 ?_
    refine x_V4i (pc := 51) K (c_gives (u := 1) (by decide) hl) mw_yX7_gives ⟨im_yX7_gives, se_yX7_gives⟩ mk_X7_105 rc_M rfl ⟨Nat.le_of_ble_eq_true rfl, Nat.le_of_ble_eq_true rfl, Nat.le_of_ble_eq_true rfl⟩ dX7_crosses_51 ?_
    refine x_istore (pc := 54) (i := 4) K dX7_crosses_54 rfl (by decide) ?_
    refine x_aload_n (pc := 56) (i := 0) K dX7_crosses_56 rfl rfl ?_
    refine gf_X7_9 (pc := 57)  K dX7_crosses_57 ?_
    refine x_bipush (pc := 60) (v := 6) K dX7_crosses_60 (by decide) ?_
    refine x_aload_n (pc := 62) (i := 0) K dX7_crosses_62 rfl rfl ?_
    refine gf_X7_9 (pc := 63)  K dX7_crosses_63 ?_
    refine x_bipush (pc := 66) (v := 6) K dX7_crosses_66 (by decide) ?_
    refine ib_mRow (pc := 68) 6 (by decide) rfl K dX7_crosses_68 ?_
    refine x_iload (pc := 69) (i := 4) K dX7_crosses_69 rfl ?_
    refine x_iadd (pc := 71) K dX7_crosses_71 ?_
    refine x_iconst (pc := 72) (v := 0) K dX7_crosses_72 (by decide) ?_
    refine x_ldc (pc := 73) K kn_X7_104 dX7_crosses_73 ?_
    refine x_S3i (pc := 75) K (c_yX7_held) mw_yX7_held st_yX7_held mk_X7_66 ⟨Nat.le_of_ble_eq_true rfl, Nat.le_of_ble_eq_true rfl, Nat.le_of_ble_eq_true rfl⟩ dX7_crosses_75 ?_
    refine js_mRow (pc := 78) 6 (by decide) rfl K dX7_crosses_78 ?_
    refine x_iload (pc := 79) (i := 4) K dX7_crosses_79 rfl ?_
    exact x_iretI (pc := 81) K dX7_crosses_81 ⟨by unfold r_carryV; rw [if_pos c_8], rfl, by unfold r_carryS; rw [if_pos c_8]⟩
  · refine x_aload_n (pc := 11) (i := 0) K dX7_crosses_11 rfl rfl ?_
    refine x_iload_n (pc := 12) (i := 1) K dX7_crosses_12 rfl rfl ?_
    refine x_bipush (pc := 13) (v := 6) K dX7_crosses_13 (by decide) ?_
    refine x_iconst (pc := 15) (v := 1) K dX7_crosses_15 (by decide) ?_
    refine x_V3v (pc := 16) K (c_yX7_lets (u := u) (w := 6) (Nat.lt_trans (mS_lt hu (by decide)) (by decide))) mw_yX7_lets ⟨im_yX7_lets, se_yX7_lets⟩ mk_X7_86 rc_M rfl ⟨Nat.le_of_ble_eq_true rfl, Nat.le_of_ble_eq_true rfl, Nat.le_of_ble_eq_true rfl⟩ dX7_crosses_16 ?_
    refine x_aload_n (pc := 19) (i := 0) K dX7_crosses_19 rfl rfl ?_
    refine gf_X7_9 (pc := 20)  K dX7_crosses_20 ?_
    refine x_iconst (pc := 23) (v := 5) K dX7_crosses_23 (by decide) ?_
    refine x_aload_n (pc := 24) (i := 0) K dX7_crosses_24 rfl rfl ?_
    refine gf_X7_9 (pc := 25)  K dX7_crosses_25 ?_
    refine x_iconst (pc := 28) (v := 5) K dX7_crosses_28 (by decide) ?_
    refine ib_mRow (pc := 29) 5 (by decide) rfl K dX7_crosses_29 ?_
    refine x_iload_n (pc := 30) (i := 2) K dX7_crosses_30 rfl rfl ?_
    refine x_iadd (pc := 31) K dX7_crosses_31 ?_
    refine x_iconst (pc := 32) (v := 0) K dX7_crosses_32 (by decide) ?_
    refine x_ldc (pc := 33) K kn_X7_104 dX7_crosses_33 ?_
    refine x_S3i (pc := 35) K (c_yX7_held) mw_yX7_held st_yX7_held mk_X7_66 ⟨Nat.le_of_ble_eq_true rfl, Nat.le_of_ble_eq_true rfl, Nat.le_of_ble_eq_true rfl⟩ dX7_crosses_35 ?_
    refine js_mRow (pc := 38) 5 (by decide) rfl K dX7_crosses_38 ?_
    refine x_iconst (pc := 39) (v := (-1)) K dX7_crosses_39 (by decide) ?_
    exact x_iretI (pc := 40) K dX7_crosses_40 ⟨by unfold r_carryV; rw [if_neg c_8], rfl, by unfold r_carryS; rw [if_neg c_8]⟩

theorem r_draw8 (x : Int32) : jushr x 8 = nI (x.toBitVec.toNat / 2 ^ 8) := jushr8 x
set_option maxRecDepth 100000 in
set_option maxHeartbeats 4000000 in
theorem c_yX7_draw {k : Nat} {l : Launch} {G : Gm} {α ρ : Af}   : CI k l G yX7_draw (Cond.code yX7_draw cX7_draw 1 (some .int)) 1 [.ref (gA G idM)] α ρ (PI (nI (r_drawN ρ)) α (r_drawS ρ)) := by
  refine CI.of [some (.ref (gA G idM))] (by decide) (Nat.le_of_ble_eq_true rfl) rfl rfl (fun C K => ?_)
  have K : Ok l _ G C RX7 cX7_draw (some .int) 1 := K
  refine x_aload_n (pc := 0) (i := 0) K dX7_draw_0 rfl rfl ?_
  refine gf_X7_9 (pc := 1)  K dX7_draw_1 ?_
  refine x_iconst (pc := 4) (v := 1) K dX7_draw_4 (by decide) ?_
  refine x_aload_n (pc := 5) (i := 0) K dX7_draw_5 rfl rfl ?_
  refine gf_X7_9 (pc := 6)  K dX7_draw_6 ?_
  refine x_iconst (pc := 9) (v := 1) K dX7_draw_9 (by decide) ?_
  refine ib_mRow (pc := 10) 1 (by decide) rfl K dX7_draw_10 ?_
  refine x_ldc (pc := 11) K kn_X7_179 dX7_draw_11 ?_
  refine x_imul (pc := 13) K dX7_draw_13 ?_
  refine x_sipush (pc := 14) (v := 12345) K dX7_draw_14 (by decide) ?_
  refine x_iadd (pc := 17) K dX7_draw_17 ?_
  refine js_mRow (pc := 18) 1 (by decide) rfl K dX7_draw_18 ?_
  refine x_aload_n (pc := 19) (i := 0) K dX7_draw_19 rfl rfl ?_
  refine gf_X7_9 (pc := 20)  K dX7_draw_20 ?_
  refine x_iconst (pc := 23) (v := 1) K dX7_draw_23 (by decide) ?_
  refine ib_mRow (pc := 24) 1 (by decide) rfl K dX7_draw_24 ?_
  refine x_bipush (pc := 25) (v := 8) K dX7_draw_25 (by decide) ?_
  refine x_iushr (pc := 27) K dX7_draw_27 ?_
  exact x_iretI (pc := 28) K dX7_draw_28 ⟨by rw [up_eq]; exact r_draw8 _, rfl, rfl⟩

set_option maxRecDepth 100000 in
set_option maxHeartbeats 4000000 in
theorem c_yX7_drawn {l : Launch} {G : Gm} {α ρ : Af} {n : Nat} (hn : ρ mRow 2 = nI n) (h9 : n ≤ 9) (hl0 : Ml ρ 0) (hl1 : Ml ρ 1) : CI 1 l G yX7_drawn (Cond.code yX7_drawn cX7_drawn 4 (some .int)) 5 [.ref (gA G idM)] α ρ (PI (r_ddB ρ n) α (r_dd ρ n)) := by
  refine CI.of [some (.ref (gA G idM)), none, none, none] (by decide) (Nat.le_of_ble_eq_true rfl) rfl rfl (fun C K => ?_)
  have K : Ok l _ G C RX7 cX7_drawn (some .int) 4 := K
  refine x_iconst (pc := 0) (v := 0) K dX7_drawn_0 (by decide) ?_
  refine x_istore_n (pc := 1) (i := 1) K dX7_drawn_1 rfl rfl (by decide) ?_
  refine x_aload_n (pc := 2) (i := 0) K dX7_drawn_2 rfl rfl ?_
  refine gf_X7_9 (pc := 3)  K dX7_drawn_3 ?_
  refine x_iconst (pc := 6) (v := 4) K dX7_drawn_6 (by decide) ?_
  refine x_aload_n (pc := 7) (i := 0) K dX7_drawn_7 rfl rfl ?_
  refine x_V0i (pc := 8) K (c_yX7_draw) mw_yX7_draw ⟨im_yX7_draw, se_yX7_draw⟩ mk_X7_180 rc_M rfl ⟨Nat.le_of_ble_eq_true rfl, Nat.le_of_ble_eq_true rfl, Nat.le_of_ble_eq_true rfl⟩ dX7_drawn_8 ?_
  refine x_bipush (pc := 11) (v := 16) K dX7_drawn_11 (by decide) ?_
  refine x_irem (pc := 13) K dX7_drawn_13 (by decide) ?_
  refine x_bipush (pc := 14) (v := 6) K dX7_drawn_14 (by decide) ?_
  refine x_isub (pc := 16) K dX7_drawn_16 ?_
  refine x_iconst (pc := 17) (v := 0) K dX7_drawn_17 (by decide) ?_
  refine x_bipush (pc := 18) (v := 9) K dX7_drawn_18 (by decide) ?_
  refine x_S3i (pc := 20) K (c_yX7_held) mw_yX7_held st_yX7_held mk_X7_66 ⟨Nat.le_of_ble_eq_true rfl, Nat.le_of_ble_eq_true rfl, Nat.le_of_ble_eq_true rfl⟩ dX7_drawn_20 ?_
  refine js_mRow (pc := 23) 4 (by decide) rfl K dX7_drawn_23 ?_
  refine x_st (r := r_rained ρ) rfl rfl ?_
  refine x_aload_n (pc := 24) (i := 0) K dX7_drawn_24 rfl rfl ?_
  refine gf_X7_9 (pc := 25)  K dX7_drawn_25 ?_
  refine x_iconst (pc := 28) (v := 2) K dX7_drawn_28 (by decide) ?_
  refine ib_mRow (pc := 29) 2 (by decide) rfl K dX7_drawn_29 ?_
  refine x_topi K (show _ = nI n from (r_rained_row (by decide) (by decide)).trans hn) ?_
  refine x_if_le (pc := 30) (tgt := 78) K dX7_drawn_30 (by decide) (fun c_30 => ?_) (fun c_30 => ?_)
  · have hn0 : n = 0 := by
      rcases Nat.eq_zero_or_pos n with q | q
      · exact q
      · exact absurd c_30 (nI_nle q (by omega))
    refine x_st (r := r_ddS ρ n) rfl (by simp only [r_ddS, if_pos hn0]) ?_
    refine x_aload_n (pc := 78) (i := 0) K dX7_drawn_78 rfl rfl ?_
    refine x_V0v (pc := 79) K (c_yX7_goes (ρ := r_ddS ρ n) (r_ddS_2.trans hn) h9 (hl0.ddS h9)) mw_yX7_goes ⟨im_yX7_goes, se_yX7_goes⟩ mk_X7_176 rc_M rfl ⟨Nat.le_of_ble_eq_true rfl, Nat.le_of_ble_eq_true rfl, Nat.le_of_ble_eq_true rfl⟩ dX7_drawn_79 ?_
    refine x_iload_n (pc := 82) (i := 1) K dX7_drawn_82 rfl rfl ?_
    exact x_iretI (pc := 83) K dX7_drawn_83 ⟨by unfold r_ddB; rw [if_pos hn0], rfl, rfl⟩
  · refine x_aload_n (pc := 33) (i := 0) K dX7_drawn_33 rfl rfl ?_
    refine x_V0i (pc := 34) K (c_yX7_draw) mw_yX7_draw ⟨im_yX7_draw, se_yX7_draw⟩ mk_X7_180 rc_M rfl ⟨Nat.le_of_ble_eq_true rfl, Nat.le_of_ble_eq_true rfl, Nat.le_of_ble_eq_true rfl⟩ dX7_drawn_34 ?_
    refine x_st (r := r_dl1 ρ) rfl rfl ?_
    refine x_aload_n (pc := 37) (i := 0) K dX7_drawn_37 rfl rfl ?_
    refine gf_X7_9 (pc := 38)  K dX7_drawn_38 ?_
    refine x_iconst (pc := 41) (v := 2) K dX7_drawn_41 (by decide) ?_
    refine ib_mRow (pc := 42) 2 (by decide) rfl K dX7_drawn_42 ?_
    refine x_topi K (show _ = nI n from (r_dl1_row (by decide) (by decide)).trans hn) ?_
    have hn0 : ¬ n = 0 := fun h => c_30 (by rw [h]; decide)
    refine x_irem (pc := 43) K dX7_drawn_43 (fun h => hn0 ((nI_eq (a := n) (b := 0) (by omega) (by decide)).mp h)) ?_
    refine x_topi K (show _ = nI (r_dlU ρ n) from jrem_nI (Nat.lt_trans r_drawN_lt (by decide)) (by omega) (by omega)) ?_
    have hU : r_dlU ρ n < 9 := Nat.lt_of_lt_of_le (Nat.mod_lt _ (by omega)) h9
    refine x_istore_n (pc := 44) (i := 2) K dX7_drawn_44 rfl rfl (by decide) ?_
    refine x_aload_n (pc := 45) (i := 0) K dX7_drawn_45 rfl rfl ?_
    refine x_V0i (pc := 46) K (c_yX7_draw) mw_yX7_draw ⟨im_yX7_draw, se_yX7_draw⟩ mk_X7_180 rc_M rfl ⟨Nat.le_of_ble_eq_true rfl, Nat.le_of_ble_eq_true rfl, Nat.le_of_ble_eq_true rfl⟩ dX7_drawn_46 ?_
    refine x_st (r := r_dl2 ρ) rfl rfl ?_
    refine x_bipush (pc := 49) (v := 30) K dX7_drawn_49 (by decide) ?_
    refine x_irem (pc := 51) K dX7_drawn_51 (by decide) ?_
    refine x_topi K (show _ = r_dlX ρ from rfl) ?_
    refine x_istore_n (pc := 52) (i := 3) K dX7_drawn_52 rfl rfl (by decide) ?_
    refine x_aload_n (pc := 53) (i := 0) K dX7_drawn_53 rfl rfl ?_
    refine x_iload_n (pc := 54) (i := 2) K dX7_drawn_54 rfl rfl ?_
    refine x_bipush (pc := 55) (v := 6) K dX7_drawn_55 (by decide) ?_
    refine x_V2i (pc := 57) K (c_yX7_of (u := (r_dlU ρ n)) (w := 6) (Nat.lt_trans (mS_lt hU (by decide)) (by decide))) mw_yX7_of ⟨im_yX7_of, se_yX7_of⟩ mk_X7_62 rc_M rfl ⟨Nat.le_of_ble_eq_true rfl, Nat.le_of_ble_eq_true rfl, Nat.le_of_ble_eq_true rfl⟩ dX7_drawn_57 ?_
    refine x_if_ne (pc := 60) (tgt := 76) K dX7_drawn_60 (by decide) (fun c_60 => ?_) (fun c_60 => ?_)
    · refine x_iconst (pc := 76) (v := 0) K dX7_drawn_76 (by decide) ?_
      refine x_istore_n (pc := 77) (i := 1) K dX7_drawn_77 rfl rfl (by decide) ?_
      refine x_st (r := r_ddS ρ n) rfl (by unfold r_ddS; rw [if_neg hn0, if_neg c_60]) ?_
      refine x_aload_n (pc := 78) (i := 0) K dX7_drawn_78 rfl rfl ?_
      refine x_V0v (pc := 79) K (c_yX7_goes (ρ := r_ddS ρ n) (r_ddS_2.trans hn) h9 (hl0.ddS h9)) mw_yX7_goes ⟨im_yX7_goes, se_yX7_goes⟩ mk_X7_176 rc_M rfl ⟨Nat.le_of_ble_eq_true rfl, Nat.le_of_ble_eq_true rfl, Nat.le_of_ble_eq_true rfl⟩ dX7_drawn_79 ?_
      refine x_iload_n (pc := 82) (i := 1) K dX7_drawn_82 rfl rfl ?_
      exact x_iretI (pc := 83) K dX7_drawn_83 ⟨by unfold r_ddB; rw [if_neg hn0, if_neg c_60], rfl, rfl⟩
    · refine x_aload_n (pc := 63) (i := 0) K dX7_drawn_63 rfl rfl ?_
      refine x_iload_n (pc := 64) (i := 2) K dX7_drawn_64 rfl rfl ?_
      refine x_iload_n (pc := 65) (i := 3) K dX7_drawn_65 rfl rfl ?_
      refine x_V2i (pc := 66) K (c_yX7_crosses (ρ := r_dl2 ρ) (u := r_dlU ρ n) hU hl1.dl2) mw_yX7_crosses ⟨im_yX7_crosses, se_yX7_crosses⟩ mk_X7_112 rc_M rfl ⟨Nat.le_of_ble_eq_true rfl, Nat.le_of_ble_eq_true rfl, Nat.le_of_ble_eq_true rfl⟩ dX7_drawn_66 ?_
      refine x_if_ge (pc := 69) (tgt := 76) K dX7_drawn_69 (by decide) (fun c_69 => ?_) (fun c_69 => ?_)
      · refine x_iconst (pc := 76) (v := 0) K dX7_drawn_76 (by decide) ?_
        refine x_istore_n (pc := 77) (i := 1) K dX7_drawn_77 rfl rfl (by decide) ?_
        refine x_st (r := r_ddS ρ n) rfl (by unfold r_ddS; rw [if_neg hn0, if_pos c_60]) ?_
        refine x_aload_n (pc := 78) (i := 0) K dX7_drawn_78 rfl rfl ?_
        refine x_V0v (pc := 79) K (c_yX7_goes (ρ := r_ddS ρ n) (r_ddS_2.trans hn) h9 (hl0.ddS h9)) mw_yX7_goes ⟨im_yX7_goes, se_yX7_goes⟩ mk_X7_176 rc_M rfl ⟨Nat.le_of_ble_eq_true rfl, Nat.le_of_ble_eq_true rfl, Nat.le_of_ble_eq_true rfl⟩ dX7_drawn_79 ?_
        refine x_iload_n (pc := 82) (i := 1) K dX7_drawn_82 rfl rfl ?_
        exact x_iretI (pc := 83) K dX7_drawn_83 ⟨by unfold r_ddB; rw [if_neg hn0, if_pos c_60, if_pos c_69], rfl, rfl⟩
      · refine x_iconst (pc := 72) (v := 1) K dX7_drawn_72 (by decide) ?_
        refine x_goto (pc := 73) (tgt := 77) K dX7_drawn_73 (by decide) ?_
        refine x_istore_n (pc := 77) (i := 1) K dX7_drawn_77 rfl rfl (by decide) ?_
        refine x_st (r := r_ddS ρ n) rfl (by unfold r_ddS; rw [if_neg hn0, if_pos c_60]) ?_
        refine x_aload_n (pc := 78) (i := 0) K dX7_drawn_78 rfl rfl ?_
        refine x_V0v (pc := 79) K (c_yX7_goes (ρ := r_ddS ρ n) (r_ddS_2.trans hn) h9 (hl0.ddS h9)) mw_yX7_goes ⟨im_yX7_goes, se_yX7_goes⟩ mk_X7_176 rc_M rfl ⟨Nat.le_of_ble_eq_true rfl, Nat.le_of_ble_eq_true rfl, Nat.le_of_ble_eq_true rfl⟩ dX7_drawn_79 ?_
        refine x_iload_n (pc := 82) (i := 1) K dX7_drawn_82 rfl rfl ?_
        exact x_iretI (pc := 83) K dX7_drawn_83 ⟨by unfold r_ddB; rw [if_neg hn0, if_pos c_60, if_neg c_69], rfl, rfl⟩

set_option maxRecDepth 100000 in
set_option maxHeartbeats 4000000 in
theorem l_fb {k : Nat} {l : Launch} {G : Gm} {C : Cx} {P : Po} {n : Nat} {α ρ : Af} (K : Ok l 4 G C RX7 cX7_findBearing none 2) (hn : ρ mRow 2 = nI n) (h9 : n ≤ 9) : ∀ (j i : Nat), i + j = n → X k l 4 G C (P) 2 29 [some (.ref (gA G idM)), some (.int (nI n))] [] α (r_fb ρ n) → X k l 4 G C (P) 2 2 [some (.ref (gA G idM)), some (.int (nI i))] [] α (r_fb ρ i) := by
  intro j
  induction j with
  | zero =>
    intro i hi hx
    have hm : r_fb ρ i mRow 2 = nI n := by rw [r_fb_ne (by decide)]; exact hn
    refine x_iload_n (pc := 2) (i := 1) K dX7_findBearing_2 rfl rfl ?_
    refine x_aload_n (pc := 3) (i := 0) K dX7_findBearing_3 rfl rfl ?_
    refine gf_X7_9 (pc := 4)  K dX7_findBearing_4 ?_
    refine x_iconst (pc := 7) (v := 2) K dX7_findBearing_7 (by decide) ?_
    refine ib_mRow (pc := 8) 2 (by decide) rfl K dX7_findBearing_8 ?_
    refine x_icmp_ge (pc := 9) (tgt := 29) K dX7_findBearing_9 (by decide) (fun c_9 => ?_) (fun c_9 => ?_)
    · obtain rfl : i = n := by omega
      exact hx
    · exact absurd (by rw [hm]; exact nI_le (by omega) (by omega)) c_9
  | succ j ih =>
    intro i hi hx
    have hm : r_fb ρ i mRow 2 = nI n := by rw [r_fb_ne (by decide)]; exact hn
    refine x_iload_n (pc := 2) (i := 1) K dX7_findBearing_2 rfl rfl ?_
    refine x_aload_n (pc := 3) (i := 0) K dX7_findBearing_3 rfl rfl ?_
    refine gf_X7_9 (pc := 4)  K dX7_findBearing_4 ?_
    refine x_iconst (pc := 7) (v := 2) K dX7_findBearing_7 (by decide) ?_
    refine ib_mRow (pc := 8) 2 (by decide) rfl K dX7_findBearing_8 ?_
    refine x_icmp_ge (pc := 9) (tgt := 29) K dX7_findBearing_9 (by decide) (fun c_9 => ?_) (fun c_9 => ?_)
    · exact (nI_ge (a := i) (b := n) (by omega) (by omega) (by rw [hm] at c_9; exact c_9)).elim
    · refine x_aload_n (pc := 12) (i := 0) K dX7_findBearing_12 rfl rfl ?_
      refine gf_X7_43 (pc := 13)  K dX7_findBearing_13 ?_
      refine x_iload_n (pc := 16) (i := 1) K dX7_findBearing_16 rfl rfl ?_
      refine x_aload_n (pc := 17) (i := 0) K dX7_findBearing_17 rfl rfl ?_
      refine x_iload_n (pc := 18) (i := 1) K dX7_findBearing_18 rfl rfl ?_
      refine x_V1i (pc := 19) K (c_yX7_bearsOf (u := i) (by omega)) mw_yX7_bearsOf ⟨im_yX7_bearsOf, se_yX7_bearsOf⟩ mk_X7_93 rc_M rfl ⟨Nat.le_of_ble_eq_true rfl, Nat.le_of_ble_eq_true rfl, Nat.le_of_ble_eq_true rfl⟩ dX7_findBearing_19 ?_
      refine js_mBear (pc := 22) (i) (by omega) rfl K dX7_findBearing_22 ?_
      refine x_iinc (pc := 23) (i := 1) (v := nI (i + 1)) K dX7_findBearing_23 rfl (nI_1 _) rfl ?_
      refine x_goto (pc := 26) (tgt := 2) K dX7_findBearing_26 (by decide) ?_
      exact ih (i + 1) (by omega) hx

set_option maxRecDepth 100000 in
set_option maxHeartbeats 4000000 in
theorem c_yX7_findBearing {k : Nat} {l : Launch} {G : Gm} {α ρ : Af} {n : Nat} (hn : ρ mRow 2 = nI n) (h9 : n ≤ 9) : CI k l G yX7_findBearing (Cond.code yX7_findBearing cX7_findBearing 2 none) 4 [.ref (gA G idM)] α ρ (PV α (r_fb ρ n)) := by
  refine CI.of [some (.ref (gA G idM)), none] (by decide) (Nat.le_of_ble_eq_true rfl) rfl rfl (fun C K => ?_)
  have K : Ok l _ G C RX7 cX7_findBearing none 2 := K
  refine x_iconst (pc := 0) (v := 0) K dX7_findBearing_0 (by decide) ?_
  refine x_istore_n (pc := 1) (i := 1) K dX7_findBearing_1 rfl rfl (by decide) ?_
  refine l_fb K hn h9 n 0 (by omega) ?_
  exact x_vretI (pc := 29) K dX7_findBearing_29 ⟨rfl, rfl⟩

set_option maxRecDepth 100000 in
set_option maxHeartbeats 4000000 in
theorem l_jpass {k : Nat} {l : Launch} {G : Gm} {C : Cx} {P : Po} {n : Nat} {p x r x4 : Int32} {α ρ : Af} (K : Ok l 2 G C RX7 cX7_joinedBy (some .int) 7) (hn : ρ mRow 2 = nI n) (h9 : n ≤ 9) : ∀ (j i : Nat) (y : Option Value), i + j = n → (∀ y, X k l 2 G C (P) 7 84 [some (.ref (gA G idM)), some (.int p), some (.int x), some (.int (r_pass (r_endsU ρ) (ρ mBear) x r n)), some (.int x4), some (.int (nI n)), y] [] α ρ) → X k l 2 G C (P) 7 19 [some (.ref (gA G idM)), some (.int p), some (.int x), some (.int (r_pass (r_endsU ρ) (ρ mBear) x r i)), some (.int x4), some (.int (nI i)), y] [] α ρ := by
  intro j
  induction j with
  | zero =>
    intro i y hi hx
    refine x_iload (pc := 19) (i := 5) K dX7_joinedBy_19 rfl ?_
    refine x_aload_n (pc := 21) (i := 0) K dX7_joinedBy_21 rfl rfl ?_
    refine gf_X7_9 (pc := 22)  K dX7_joinedBy_22 ?_
    refine x_iconst (pc := 25) (v := 2) K dX7_joinedBy_25 (by decide) ?_
    refine ib_mRow (pc := 26) 2 (by decide) rfl K dX7_joinedBy_26 ?_
    refine x_icmp_ge (pc := 27) (tgt := 84) K dX7_joinedBy_27 (by decide) (fun c_27 => ?_) (fun c_27 => ?_)
    · obtain rfl : i = n := by omega
      exact hx y
    · exact absurd (by rw [hn]; exact nI_le (by omega) (by omega)) c_27
  | succ j ih =>
    intro i y hi hx
    refine x_iload (pc := 19) (i := 5) K dX7_joinedBy_19 rfl ?_
    refine x_aload_n (pc := 21) (i := 0) K dX7_joinedBy_21 rfl rfl ?_
    refine gf_X7_9 (pc := 22)  K dX7_joinedBy_22 ?_
    refine x_iconst (pc := 25) (v := 2) K dX7_joinedBy_25 (by decide) ?_
    refine ib_mRow (pc := 26) 2 (by decide) rfl K dX7_joinedBy_26 ?_
    refine x_icmp_ge (pc := 27) (tgt := 84) K dX7_joinedBy_27 (by decide) (fun c_27 => ?_) (fun c_27 => ?_)
    · exact (nI_ge (a := i) (b := n) (by omega) (by omega) (by rw [hn] at c_27; exact c_27)).elim
    · refine x_iconst (pc := 30) (v := 1) K dX7_joinedBy_30 (by decide) ?_
      refine x_aload_n (pc := 31) (i := 0) K dX7_joinedBy_31 rfl rfl ?_
      refine x_iload (pc := 32) (i := 5) K dX7_joinedBy_32 rfl ?_
      refine x_iconst (pc := 34) (v := 2) K dX7_joinedBy_34 (by decide) ?_
      refine x_V2i (pc := 35) K (c_yX7_of (u := i) (w := 2) (Nat.lt_trans (mS_lt (by omega) (by decide)) (by decide))) mw_yX7_of ⟨im_yX7_of, se_yX7_of⟩ mk_X7_62 rc_M rfl ⟨Nat.le_of_ble_eq_true rfl, Nat.le_of_ble_eq_true rfl, Nat.le_of_ble_eq_true rfl⟩ dX7_joinedBy_35 ?_
      refine x_ishl (pc := 38) K dX7_joinedBy_38 ?_
      refine x_iconst (pc := 39) (v := 1) K dX7_joinedBy_39 (by decide) ?_
      refine x_aload_n (pc := 40) (i := 0) K dX7_joinedBy_40 rfl rfl ?_
      refine x_iload (pc := 41) (i := 5) K dX7_joinedBy_41 rfl ?_
      refine x_iconst (pc := 43) (v := 3) K dX7_joinedBy_43 (by decide) ?_
      refine x_V2i (pc := 44) K (c_yX7_of (u := i) (w := 3) (Nat.lt_trans (mS_lt (by omega) (by decide)) (by decide))) mw_yX7_of ⟨im_yX7_of, se_yX7_of⟩ mk_X7_62 rc_M rfl ⟨Nat.le_of_ble_eq_true rfl, Nat.le_of_ble_eq_true rfl, Nat.le_of_ble_eq_true rfl⟩ dX7_joinedBy_44 ?_
      refine x_ishl (pc := 47) K dX7_joinedBy_47 ?_
      refine x_ior (pc := 48) K dX7_joinedBy_48 ?_
      refine x_topi K (show _ = r_endsU ρ i from rfl) ?_
      refine x_istore (pc := 49) (i := 6) K dX7_joinedBy_49 rfl (by decide) ?_
      refine x_iload_n (pc := 51) (i := 3) K dX7_joinedBy_51 rfl rfl ?_
      refine x_aload_n (pc := 52) (i := 0) K dX7_joinedBy_52 rfl rfl ?_
      refine gf_X7_43 (pc := 53)  K dX7_joinedBy_53 ?_
      refine x_iload (pc := 56) (i := 5) K dX7_joinedBy_56 rfl ?_
      refine ib_mBear (pc := 58) i (by omega) rfl K dX7_joinedBy_58 ?_
      refine x_iload_n (pc := 59) (i := 2) K dX7_joinedBy_59 rfl rfl ?_
      refine x_icmp_lt (pc := 60) (tgt := 75) K dX7_joinedBy_60 (by decide) (fun c_60 => ?_) (fun c_60 => ?_)
      · refine x_iconst (pc := 75) (v := 0) K dX7_joinedBy_75 (by decide) ?_
        refine x_ior (pc := 76) K dX7_joinedBy_76 ?_
        refine x_istore_n (pc := 77) (i := 3) K dX7_joinedBy_77 rfl rfl (by decide) ?_
        refine x_iinc (pc := 78) (i := 5) (v := nI (i + 1)) K dX7_joinedBy_78 rfl (nI_1 _) rfl ?_
        refine x_goto (pc := 81) (tgt := 19) K dX7_joinedBy_81 (by decide) ?_
        have e1 : (r_pass (r_endsU ρ) (ρ mBear) x r (i + 1)) = (r_pass (r_endsU ρ) (ρ mBear) x r i) ||| 0 := by simp only [r_pass]; rw [if_pos c_60]
        have h2 := ih (i + 1) (some (.int (r_endsU ρ i))) (by omega) hx
        rw [e1] at h2
        exact h2
      · refine x_iload_n (pc := 63) (i := 3) K dX7_joinedBy_63 rfl rfl ?_
        refine x_iload (pc := 64) (i := 6) K dX7_joinedBy_64 rfl ?_
        refine x_iand (pc := 66) K dX7_joinedBy_66 ?_
        refine x_if_eq (pc := 67) (tgt := 75) K dX7_joinedBy_67 (by decide) (fun c_67 => ?_) (fun c_67 => ?_)
        · refine x_iconst (pc := 75) (v := 0) K dX7_joinedBy_75 (by decide) ?_
          refine x_ior (pc := 76) K dX7_joinedBy_76 ?_
          refine x_istore_n (pc := 77) (i := 3) K dX7_joinedBy_77 rfl rfl (by decide) ?_
          refine x_iinc (pc := 78) (i := 5) (v := nI (i + 1)) K dX7_joinedBy_78 rfl (nI_1 _) rfl ?_
          refine x_goto (pc := 81) (tgt := 19) K dX7_joinedBy_81 (by decide) ?_
          have e1 : (r_pass (r_endsU ρ) (ρ mBear) x r (i + 1)) = (r_pass (r_endsU ρ) (ρ mBear) x r i) ||| 0 := by simp only [r_pass]; rw [if_neg c_60, if_pos c_67]
          have h2 := ih (i + 1) (some (.int (r_endsU ρ i))) (by omega) hx
          rw [e1] at h2
          exact h2
        · refine x_iload (pc := 70) (i := 6) K dX7_joinedBy_70 rfl ?_
          refine x_goto (pc := 72) (tgt := 76) K dX7_joinedBy_72 (by decide) ?_
          refine x_ior (pc := 76) K dX7_joinedBy_76 ?_
          refine x_istore_n (pc := 77) (i := 3) K dX7_joinedBy_77 rfl rfl (by decide) ?_
          refine x_iinc (pc := 78) (i := 5) (v := nI (i + 1)) K dX7_joinedBy_78 rfl (nI_1 _) rfl ?_
          refine x_goto (pc := 81) (tgt := 19) K dX7_joinedBy_81 (by decide) ?_
          have e1 : (r_pass (r_endsU ρ) (ρ mBear) x r (i + 1)) = (r_pass (r_endsU ρ) (ρ mBear) x r i) ||| r_endsU ρ i := by simp only [r_pass]; rw [if_neg c_60, if_neg c_67]
          have h2 := ih (i + 1) (some (.int (r_endsU ρ i))) (by omega) hx
          rw [e1] at h2
          exact h2

theorem r_reach_step {E bear : Nat → Int32} {load : Int32} {n m a b : Nat} (hb : r_pass E bear load (nI a) n = nI b) (hab : ¬ nI b = nI a) : r_reach E bear load n (m + 1) (nI a) = r_reach E bear load n m (nI b) := by
  simp only [r_reach]
  rw [hb, if_neg hab]
set_option maxRecDepth 100000 in
set_option maxHeartbeats 4000000 in
theorem l_reachM {k : Nat} {l : Launch} {G : Gm} {C : Cx} {n : Nat} {p x : Int32} {α ρ : Af} (K : Ok l 2 G C RX7 cX7_joinedBy (some .int) 7) (hn : ρ mRow 2 = nI n) (h9 : n ≤ 9) (hE : Eb (r_endsU ρ) n) : ∀ (m a : Nat) (w : Int32) (y5 y6 : Option Value), a < 256 → ¬ nI a = w → 9 ≤ m + 1 + cnt8 a → ∀ T, r_reach (r_endsU ρ) (ρ mBear) x n (m + 1) (nI a) = T → X k l 2 G C (PI T α ρ) 7 7 [some (.ref (gA G idM)), some (.int p), some (.int x), some (.int (nI a)), some (.int w), y5, y6] [] α ρ := by
  intro m
  induction m with
  | zero =>
    intro a w y5 y6 ha hw hc T hT
    refine x_iload_n (pc := 7) (i := 3) K dX7_joinedBy_7 rfl rfl ?_
    refine x_iload (pc := 8) (i := 4) K dX7_joinedBy_8 rfl ?_
    refine x_icmp_eq (pc := 10) (tgt := 87) K dX7_joinedBy_10 (by decide) (fun c_10 => ?_) (fun c_10 => ?_)
    · exact absurd c_10 hw
    · refine x_iload_n (pc := 13) (i := 3) K dX7_joinedBy_13 rfl rfl ?_
      refine x_istore (pc := 14) (i := 4) K dX7_joinedBy_14 rfl (by decide) ?_
      refine x_iconst (pc := 16) (v := 0) K dX7_joinedBy_16 (by decide) ?_
      refine x_istore (pc := 17) (i := 5) K dX7_joinedBy_17 rfl (by decide) ?_
      obtain ⟨b, hb, hbe, hbc⟩ := r_pass_b (bear := ρ mBear) (load := x) ha (n := n) hE
      refine l_jpass (r := nI a) K hn h9 n 0 _ (by omega) (fun y => ?_)
      refine x_goto (pc := 84) (tgt := 7) K dX7_joinedBy_84 (by decide) ?_
      have h8 := cnt8_le b
      rcases hbc with q | q
      · subst q
        rw [hbe]
        refine x_iload_n (pc := 7) (i := 3) K dX7_joinedBy_7 rfl rfl ?_
        refine x_iload (pc := 8) (i := 4) K dX7_joinedBy_8 rfl ?_
        refine x_icmp_eq (pc := 10) (tgt := 87) K dX7_joinedBy_10 (by decide) (fun cz_10 => ?_) (fun cz_10 => ?_)
        · refine x_iload_n (pc := 87) (i := 3) K dX7_joinedBy_87 rfl rfl ?_
          exact x_iretI (pc := 88) K dX7_joinedBy_88 ⟨by rw [← hT]; simp only [r_reach]; rw [if_pos hbe, hbe], rfl, rfl⟩
        · exact absurd rfl cz_10
      · omega
  | succ m ih =>
    intro a w y5 y6 ha hw hc T hT
    refine x_iload_n (pc := 7) (i := 3) K dX7_joinedBy_7 rfl rfl ?_
    refine x_iload (pc := 8) (i := 4) K dX7_joinedBy_8 rfl ?_
    refine x_icmp_eq (pc := 10) (tgt := 87) K dX7_joinedBy_10 (by decide) (fun c_10 => ?_) (fun c_10 => ?_)
    · exact absurd c_10 hw
    · refine x_iload_n (pc := 13) (i := 3) K dX7_joinedBy_13 rfl rfl ?_
      refine x_istore (pc := 14) (i := 4) K dX7_joinedBy_14 rfl (by decide) ?_
      refine x_iconst (pc := 16) (v := 0) K dX7_joinedBy_16 (by decide) ?_
      refine x_istore (pc := 17) (i := 5) K dX7_joinedBy_17 rfl (by decide) ?_
      obtain ⟨b, hb, hbe, hbc⟩ := r_pass_b (bear := ρ mBear) (load := x) ha (n := n) hE
      refine l_jpass (r := nI a) K hn h9 n 0 _ (by omega) (fun y => ?_)
      refine x_goto (pc := 84) (tgt := 7) K dX7_joinedBy_84 (by decide) ?_
      rcases hbc with q | q
      · subst q
        rw [hbe]
        refine x_iload_n (pc := 7) (i := 3) K dX7_joinedBy_7 rfl rfl ?_
        refine x_iload (pc := 8) (i := 4) K dX7_joinedBy_8 rfl ?_
        refine x_icmp_eq (pc := 10) (tgt := 87) K dX7_joinedBy_10 (by decide) (fun cz_10 => ?_) (fun cz_10 => ?_)
        · refine x_iload_n (pc := 87) (i := 3) K dX7_joinedBy_87 rfl rfl ?_
          exact x_iretI (pc := 88) K dX7_joinedBy_88 ⟨by rw [← hT]; simp only [r_reach]; rw [if_pos hbe, hbe], rfl, rfl⟩
        · exact absurd rfl cz_10
      · refine x_st (a := α) rfl rfl ?_
        rw [hbe]
        have hab : ¬ nI b = nI a := fun h => by rw [(nI_eq (a := b) (b := a) (by omega) (by omega)).mp h] at q; omega
        exact ih b _ _ _ hb hab (by omega) T ((r_reach_step hbe hab).symm.trans hT)

theorem shl1_p {p : Nat} (h : p < 8) : jshl 1 (nI p) = nI (2 ^ p) := shl1 (by omega)
theorem cnt8_p : ∀ p, p < 8 → cnt8 (2 ^ p) = 1 ∧ 2 ^ p < 256 ∧ ¬ nI (2 ^ p) = 0 := by decide
set_option maxRecDepth 100000 in
set_option maxHeartbeats 4000000 in
theorem c_yX7_joinedBy {k : Nat} {l : Launch} {G : Gm} {α ρ : Af} {n p : Nat} {x : Int32} (hn : ρ mRow 2 = nI n) (h9 : n ≤ 9) (hp : p < 8) (hE : Eb (r_endsU ρ) n) : CI k l G yX7_joinedBy (Cond.code yX7_joinedBy cX7_joinedBy 7 (some .int)) 2 [.ref (gA G idM), .int (nI p), .int x] α ρ (PI (r_reach (r_endsU ρ) (ρ mBear) x n 8 (jshl 1 (nI p))) α ρ) := by
  refine CI.of [some (.ref (gA G idM)), some (.int (nI p)), some (.int x), none, none, none, none] (by decide) (Nat.le_of_ble_eq_true rfl) rfl rfl (fun C K => ?_)
  have K : Ok l _ G C RX7 cX7_joinedBy (some .int) 7 := K
  refine x_iconst (pc := 0) (v := 1) K dX7_joinedBy_0 (by decide) ?_
  refine x_iload_n (pc := 1) (i := 1) K dX7_joinedBy_1 rfl rfl ?_
  refine x_ishl (pc := 2) K dX7_joinedBy_2 ?_
  refine x_istore_n (pc := 3) (i := 3) K dX7_joinedBy_3 rfl rfl (by decide) ?_
  refine x_iconst (pc := 4) (v := 0) K dX7_joinedBy_4 (by decide) ?_
  refine x_istore (pc := 5) (i := 4) K dX7_joinedBy_5 rfl (by decide) ?_
  rw [shl1_p hp]
  exact l_reachM K hn h9 hE 7 (2 ^ p) 0 none none (cnt8_p p hp).2.1 (cnt8_p p hp).2.2 (by rw [(cnt8_p p hp).1]; decide) _ rfl

set_option maxRecDepth 100000 in
set_option maxHeartbeats 4000000 in
theorem c_yX7_areJoinedBy {k : Nat} {l : Launch} {G : Gm} {α ρ : Af} {n a : Nat} {b x : Int32} (hn : ρ mRow 2 = nI n) (h9 : n ≤ 9) (ha : a < 8) (hE : Eb (r_endsU ρ) n) : CI k l G yX7_areJoinedBy (Cond.code yX7_areJoinedBy cX7_areJoinedBy 4 (some .boolean)) 3 [.ref (gA G idM), .int (nI a), .int b, .int x] α ρ (PI (bI (r_joins (r_endsU ρ) (ρ mBear) x n (nI a) b)) α ρ) := by
  refine CI.of [some (.ref (gA G idM)), some (.int (nI a)), some (.int b), some (.int x)] (by decide) (Nat.le_of_ble_eq_true rfl) rfl rfl (fun C K => ?_)
  have K : Ok l _ G C RX7 cX7_areJoinedBy (some .boolean) 4 := K
  refine x_aload_n (pc := 0) (i := 0) K dX7_areJoinedBy_0 rfl rfl ?_
  refine x_iload_n (pc := 1) (i := 1) K dX7_areJoinedBy_1 rfl rfl ?_
  refine x_iload_n (pc := 2) (i := 3) K dX7_areJoinedBy_2 rfl rfl ?_
  refine x_V2i (pc := 3) K (c_yX7_joinedBy hn h9 ha hE) mw_yX7_joinedBy ⟨im_yX7_joinedBy, se_yX7_joinedBy⟩ mk_X7_186 rc_M rfl ⟨Nat.le_of_ble_eq_true rfl, Nat.le_of_ble_eq_true rfl, Nat.le_of_ble_eq_true rfl⟩ dX7_areJoinedBy_3 ?_
  refine x_iload_n (pc := 6) (i := 2) K dX7_areJoinedBy_6 rfl rfl ?_
  refine x_ishr (pc := 7) K dX7_areJoinedBy_7 ?_
  refine x_iconst (pc := 8) (v := 1) K dX7_areJoinedBy_8 (by decide) ?_
  refine x_iand (pc := 9) K dX7_areJoinedBy_9 ?_
  refine x_iconst (pc := 10) (v := 1) K dX7_areJoinedBy_10 (by decide) ?_
  refine x_icmp_ne (pc := 11) (tgt := 18) K dX7_areJoinedBy_11 (by decide) (fun c_11 => ?_) (fun c_11 => ?_)
  · refine x_iconst (pc := 18) (v := 0) K dX7_areJoinedBy_18 (by decide) ?_
    exact x_nretI (pc := 19) K dX7_areJoinedBy_19 rfl ⟨by simp (decide := true) only [r_joins, if_neg c_11, ↓reduceIte, Bool.false_eq_true, bI_t, bI_f], rfl, rfl⟩
  · refine x_iconst (pc := 14) (v := 1) K dX7_areJoinedBy_14 (by decide) ?_
    refine x_goto (pc := 15) (tgt := 19) K dX7_areJoinedBy_15 (by decide) ?_
    exact x_nretI (pc := 19) K dX7_areJoinedBy_19 rfl ⟨by simp (decide := true) only [r_joins, if_pos c_11, ↓reduceIte, Bool.false_eq_true, bI_t, bI_f], rfl, rfl⟩

theorem r_fb_ends {ρ : Af} {n : Nat} : r_endsU (r_fb ρ n) = r_endsU ρ := by funext i; unfold r_endsU; rw [r_fb_ne (by decide)]
def r_areJ (ρ : Af) (n : Nat) (a b x : Int32) : Bool := r_joins (r_endsU ρ) (r_fb ρ n mBear) x n a b
set_option maxRecDepth 100000 in
set_option maxHeartbeats 4000000 in
theorem c_yX7_areJoined {k : Nat} {l : Launch} {G : Gm} {α ρ : Af} {n a : Nat} {b x : Int32} (hn : ρ mRow 2 = nI n) (h9 : n ≤ 9) (ha : a < 8) (hE : Eb (r_endsU ρ) n) : CI k l G yX7_areJoined (Cond.code yX7_areJoined cX7_areJoined 4 (some .boolean)) 5 [.ref (gA G idM), .int (nI a), .int b, .int x] α ρ (PI (bI (r_areJ ρ n (nI a) b x)) α (r_fb ρ n)) := by
  refine CI.of [some (.ref (gA G idM)), some (.int (nI a)), some (.int b), some (.int x)] (by decide) (Nat.le_of_ble_eq_true rfl) rfl rfl (fun C K => ?_)
  have K : Ok l _ G C RX7 cX7_areJoined (some .boolean) 4 := K
  refine x_aload_n (pc := 0) (i := 0) K dX7_areJoined_0 rfl rfl ?_
  refine x_V0v (pc := 1) K (c_yX7_findBearing hn h9) mw_yX7_findBearing ⟨im_yX7_findBearing, se_yX7_findBearing⟩ mk_X7_189 rc_M rfl ⟨Nat.le_of_ble_eq_true rfl, Nat.le_of_ble_eq_true rfl, Nat.le_of_ble_eq_true rfl⟩ dX7_areJoined_1 ?_
  refine x_aload_n (pc := 4) (i := 0) K dX7_areJoined_4 rfl rfl ?_
  refine x_iload_n (pc := 5) (i := 1) K dX7_areJoined_5 rfl rfl ?_
  refine x_iload_n (pc := 6) (i := 2) K dX7_areJoined_6 rfl rfl ?_
  refine x_iload_n (pc := 7) (i := 3) K dX7_areJoined_7 rfl rfl ?_
  refine x_V3i (pc := 8) K (c_yX7_areJoinedBy (ρ := r_fb ρ n) (by rw [r_fb_ne (by decide)]; exact hn) h9 ha (by rw [r_fb_ends]; exact hE)) mw_yX7_areJoinedBy ⟨im_yX7_areJoinedBy, se_yX7_areJoinedBy⟩ mk_X7_192 rc_M rfl ⟨Nat.le_of_ble_eq_true rfl, Nat.le_of_ble_eq_true rfl, Nat.le_of_ble_eq_true rfl⟩ dX7_areJoined_8 ?_
  exact x_zretI (pc := 11) K dX7_areJoined_11 ⟨by rw [r_fb_ends]; rfl, rfl, rfl⟩

set_option maxRecDepth 100000 in
set_option maxHeartbeats 4000000 in
theorem l_flourM {k : Nat} {l : Launch} {G : Gm} {C : Cx} {P : Po} {n : Nat} {set : Int32} {α ρ : Af} (K : Ok l 3 G C RX7 cX7_flourFor (some .int) 4) (hn : ρ mRow 2 = nI n) (h9 : n ≤ 9) : ∀ (j i : Nat), i + j = n → X k l 3 G C (P) 4 41 [some (.ref (gA G idM)), some (.int set), some (.int (r_flour ρ set n)), some (.int (nI n))] [] α ρ → X k l 3 G C (P) 4 4 [some (.ref (gA G idM)), some (.int set), some (.int (r_flour ρ set i)), some (.int (nI i))] [] α ρ := by
  intro j
  induction j with
  | zero =>
    intro i hi hx
    refine x_iload_n (pc := 4) (i := 3) K dX7_flourFor_4 rfl rfl ?_
    refine x_aload_n (pc := 5) (i := 0) K dX7_flourFor_5 rfl rfl ?_
    refine gf_X7_9 (pc := 6)  K dX7_flourFor_6 ?_
    refine x_iconst (pc := 9) (v := 2) K dX7_flourFor_9 (by decide) ?_
    refine ib_mRow (pc := 10) 2 (by decide) rfl K dX7_flourFor_10 ?_
    refine x_icmp_ge (pc := 11) (tgt := 41) K dX7_flourFor_11 (by decide) (fun c_11 => ?_) (fun c_11 => ?_)
    · obtain rfl : i = n := by omega
      exact hx
    · exact absurd (by rw [hn]; exact nI_le (by omega) (by omega)) c_11
  | succ j ih =>
    intro i hi hx
    refine x_iload_n (pc := 4) (i := 3) K dX7_flourFor_4 rfl rfl ?_
    refine x_aload_n (pc := 5) (i := 0) K dX7_flourFor_5 rfl rfl ?_
    refine gf_X7_9 (pc := 6)  K dX7_flourFor_6 ?_
    refine x_iconst (pc := 9) (v := 2) K dX7_flourFor_9 (by decide) ?_
    refine ib_mRow (pc := 10) 2 (by decide) rfl K dX7_flourFor_10 ?_
    refine x_icmp_ge (pc := 11) (tgt := 41) K dX7_flourFor_11 (by decide) (fun c_11 => ?_) (fun c_11 => ?_)
    · exact (nI_ge (a := i) (b := n) (by omega) (by omega) (by rw [hn] at c_11; exact c_11)).elim
    · refine x_iload_n (pc := 14) (i := 2) K dX7_flourFor_14 rfl rfl ?_
      refine x_iload_n (pc := 15) (i := 1) K dX7_flourFor_15 rfl rfl ?_
      refine x_iload_n (pc := 16) (i := 3) K dX7_flourFor_16 rfl rfl ?_
      refine x_ishr (pc := 17) K dX7_flourFor_17 ?_
      refine x_iconst (pc := 18) (v := 1) K dX7_flourFor_18 (by decide) ?_
      refine x_iand (pc := 19) K dX7_flourFor_19 ?_
      refine x_iconst (pc := 20) (v := 1) K dX7_flourFor_20 (by decide) ?_
      refine x_icmp_ne (pc := 21) (tgt := 32) K dX7_flourFor_21 (by decide) (fun c_21 => ?_) (fun c_21 => ?_)
      · refine x_iconst (pc := 32) (v := 0) K dX7_flourFor_32 (by decide) ?_
        refine x_iadd (pc := 33) K dX7_flourFor_33 ?_
        refine x_istore_n (pc := 34) (i := 2) K dX7_flourFor_34 rfl rfl (by decide) ?_
        refine x_iinc (pc := 35) (i := 3) (v := nI (i + 1)) K dX7_flourFor_35 rfl (nI_1 _) rfl ?_
        refine x_goto (pc := 38) (tgt := 4) K dX7_flourFor_38 (by decide) ?_
        have e1 : r_flour ρ set (i + 1) = r_flour ρ set i + 0 := by simp only [r_flour]; rw [if_neg c_21]
        have h2 := ih (i + 1) (by omega) hx
        rw [e1] at h2
        exact h2
      · refine x_aload_n (pc := 24) (i := 0) K dX7_flourFor_24 rfl rfl ?_
        refine x_iload_n (pc := 25) (i := 3) K dX7_flourFor_25 rfl rfl ?_
        refine x_V1i (pc := 26) K (c_yX7_takesOf (u := i) (by omega)) mw_yX7_takesOf ⟨im_yX7_takesOf, se_yX7_takesOf⟩ mk_X7_96 rc_M rfl ⟨Nat.le_of_ble_eq_true rfl, Nat.le_of_ble_eq_true rfl, Nat.le_of_ble_eq_true rfl⟩ dX7_flourFor_26 ?_
        refine x_goto (pc := 29) (tgt := 33) K dX7_flourFor_29 (by decide) ?_
        refine x_iadd (pc := 33) K dX7_flourFor_33 ?_
        refine x_istore_n (pc := 34) (i := 2) K dX7_flourFor_34 rfl rfl (by decide) ?_
        refine x_iinc (pc := 35) (i := 3) (v := nI (i + 1)) K dX7_flourFor_35 rfl (nI_1 _) rfl ?_
        refine x_goto (pc := 38) (tgt := 4) K dX7_flourFor_38 (by decide) ?_
        have e1 : r_flour ρ set (i + 1) = r_flour ρ set i + r_takesU ρ i := by simp only [r_flour]; rw [if_pos c_21]
        have h2 := ih (i + 1) (by omega) hx
        rw [e1] at h2
        exact h2

set_option maxRecDepth 100000 in
set_option maxHeartbeats 4000000 in
theorem c_yX7_flourFor {k : Nat} {l : Launch} {G : Gm} {α ρ : Af} {n : Nat} {set : Int32} (hn : ρ mRow 2 = nI n) (h9 : n ≤ 9) : CI k l G yX7_flourFor (Cond.code yX7_flourFor cX7_flourFor 4 (some .int)) 3 [.ref (gA G idM), .int set] α ρ (PI (r_flour ρ set n) α ρ) := by
  refine CI.of [some (.ref (gA G idM)), some (.int set), none, none] (by decide) (Nat.le_of_ble_eq_true rfl) rfl rfl (fun C K => ?_)
  have K : Ok l _ G C RX7 cX7_flourFor (some .int) 4 := K
  refine x_iconst (pc := 0) (v := 0) K dX7_flourFor_0 (by decide) ?_
  refine x_istore_n (pc := 1) (i := 2) K dX7_flourFor_1 rfl rfl (by decide) ?_
  refine x_iconst (pc := 2) (v := 0) K dX7_flourFor_2 (by decide) ?_
  refine x_istore_n (pc := 3) (i := 3) K dX7_flourFor_3 rfl rfl (by decide) ?_
  refine l_flourM K hn h9 n 0 (by omega) ?_
  refine x_iload_n (pc := 41) (i := 2) K dX7_flourFor_41 rfl rfl ?_
  exact x_iretI (pc := 42) K dX7_flourFor_42 ⟨rfl, rfl, rfl⟩
