def Ch (x : Int32) : Prop := narrow .char (.int x) = .int x ∧ fits .char (.int x) = true
/-- what the class's calls need of its numbers -/
def IC (α : Af) : Prop := (∃ n, n ≤ 9 ∧ α (idD 0) 1 = nI n) ∧ (∀ e, e < 3 → Lk α e) ∧ (∀ e, e < 3 → Bk α e) ∧ Vk α ∧ (∃ t, t ≤ 60 ∧ α (idD 0) 10 = nI t) ∧ (∃ w, w ≤ 24 ∧ α (idD 0) 12 = nI w) ∧ (∀ s, s < 4 → ∃ m, m ≤ 24 ∧ α (idSh s) 1 = nI m) ∧ (∀ j, j < 60 → Ch (α idRb j)) ∧ (∀ e, e < 3 → ∀ j, j < 60 → Ch (α (idTp e) j))
def q_errP (α : Af) (j : Nat) : Int32 × Af := (-1000000000 - nI j, q_err α j)
theorem wi_of {v lo hi : Int32} {a b : Nat} (hlo : lo = nI a) (hhi : hi = nI b) (hb : b < 2 ^ 30) (hab : a ≤ b) (h : q_within v lo hi = true) : ∃ m, a ≤ m ∧ m ≤ b ∧ v = nI m := by
  subst hlo; subst hhi
  unfold q_within at h
  by_cases c1 : v < nI a
  · rw [if_pos c1] at h; cases h
  rw [if_neg c1] at h
  by_cases c2 : nI b < v
  · rw [if_pos c2] at h; cases h
  have h0 : ¬ v < 0 := fun q => c1 (Int32.lt_of_lt_of_le q (nI_pos' (by omega)))
  obtain ⟨m, hm, rfl⟩ := nI_of h0
  refine ⟨m, ?_, ?_, rfl⟩
  · rcases Nat.lt_or_ge m a with q | q
    · exact absurd (nI_lt q (by omega)) c1
    · exact q
  · rcases Nat.lt_or_ge b m with q | q
    · exact absurd (nI_lt q hm) c2
    · exact q
def q_dayN (α : Af) (e n : Nat) : Nat → Af
  | 0 => α
  | i + 1 => q_day (q_dayN α e n i) e n
theorem q_day_ne {α : Af} {e n i : Nat} (h : i ≠ idD e) (h2 : ∀ u, u < n → i ≠ idS e u) : q_day α e n i = α i := by
  unfold q_day
  rw [up_ne h, q_days_ne h2]
theorem q_day_D {α : Af} {e n j : Nat} (he : e < 3) (hj : j ≠ 4) : q_day α e n (idD e) j = α (idD e) j := by
  unfold q_day
  rw [up_ne2 hj, q_days_ne (fun _ _ => nS_D he)]
theorem q_dayN_ne {α : Af} {e n i : Nat} (h : i ≠ idD e) (h2 : ∀ u, u < n → i ≠ idS e u) : ∀ m, q_dayN α e n m i = α i
  | 0 => rfl
  | m + 1 => by simp only [q_dayN]; rw [q_day_ne h h2, q_dayN_ne h h2 m]
theorem q_dayN_D {α : Af} {e n j : Nat} (he : e < 3) (hj : j ≠ 4) : ∀ m, q_dayN α e n m (idD e) j = α (idD e) j
  | 0 => rfl
  | m + 1 => by simp only [q_dayN]; rw [q_day_D he hj, q_dayN_D he hj m]
theorem Lk.day {α : Af} {e n : Nat} (he : e < 3) (h : Lk α e) : Lk (q_day α e n) e := h.of fun u hu => q_day_ne (nD_L he) (fun _ _ => nS_L he hu)
theorem Lk.dayN {α : Af} {e n m : Nat} (he : e < 3) (h : Lk α e) : Lk (q_dayN α e n m) e := h.of fun u hu => q_dayN_ne (nD_L he) (fun _ _ => nS_L he hu) m
theorem q_dd_1 {α : Af} {e n : Nat} (he : e < 3) : q_dd α e n (idD e) 1 = α (idD e) 1 := by
  unfold q_dd
  rw [q_day_D he (by decide), q_ddS_1 he]
theorem Lk.dd {α : Af} {e n : Nat} (he : e < 3) (h : Lk α e) : Lk (q_dd α e n) e := (h.ddS he).day he
def q_lo (α : Af) (n : Nat) : Nat → Int32 × Af
  | 0 => (0, α)
  | i + 1 => ((q_lo α n i).1 + q_ddB (q_lo α n i).2 0 n, q_dd (q_lo α n i).2 0 n)
theorem q_lo_1 {α : Af} {n : Nat} : ∀ i, (q_lo α n i).2 (idD 0) 1 = α (idD 0) 1
  | 0 => rfl
  | i + 1 => by simp only [q_lo]; rw [q_dd_1 (by decide), q_lo_1 i]
theorem Lk.lo {α : Af} {n : Nat} (h : Lk α 0) : ∀ i, Lk (q_lo α n i).2 0
  | 0 => h
  | i + 1 => by simp only [q_lo]; exact (Lk.lo h i).dd (by decide)
/-! what a copy gives -/
theorem q_take_ne {α : Af} {e e' i : Nat} (h1 : i ≠ idD e) (h2 : ∀ u, u < 9 → i ≠ idS e u) (h3 : ∀ u, u < 2 → i ≠ idL e u ∧ i ≠ idLc e u) (h4 : i ≠ idTp e) (h5 : i ≠ idWt e) : q_take α e e' i = α i := by
  unfold q_take
  simp only [q_take4]
  rw [up_ne h1, upR_ne h5, up_ne h1, upR_ne h4]
  unfold q_take3
  rw [q_lawTake_ne (h3 1 (by decide)).1 (h3 1 (by decide)).2, q_lawTake_ne (h3 0 (by decide)).1 (h3 0 (by decide)).2, q_take2_ne h1]
  unfold q_take1
  rw [q_cs_ne h2, up_ne h1]
theorem q_cs_at {α : Af} {e e' : Nat} (hne : e ≠ e') : ∀ {n u j : Nat}, u < n → n ≤ 9 → j < 7 → q_cs α e e' n (idS e u) j = α (idS e' u) j
  | 0, _, _, h, _, _ => absurd h (Nat.not_lt_zero _)
  | n + 1, u, j, h, h9, hj => by
    simp only [q_cs, q_copyS]
    by_cases e1 : u = n
    · subst e1
      rw [upR_eq, if_pos hj, q_cs_ne (fun u' hu' => nSS (fun q => hne q.symm) (by omega) (by omega))]
    · rw [upR_ne (by unfold idS; omega), q_cs_at hne (by omega) (by omega) hj]
theorem nTp_D {e e' : Nat} (he : e' < 3) : idD e' ≠ idTp e := nD_Tp he
theorem nWt_D {e e' : Nat} (he : e' < 3) : idD e' ≠ idWt e := by unfold idD idWt; omega
theorem nLc_D {e u e' : Nat} (he : e' < 3) : idD e' ≠ idLc e u := by unfold idD idLc; omega
theorem nL_D {e u e' : Nat} (he : e' < 3) : idD e' ≠ idL e u := by unfold idD idL; omega
theorem q_take3_D {α : Af} {e e' d : Nat} (hd : d < 3) : q_take3 α e e' (idD d) = α (idD d) := by
  unfold q_take3
  rw [q_lawTake_ne (nL_D hd) (nLc_D hd), q_lawTake_ne (nL_D hd) (nLc_D hd)]
theorem q_take1_D {α : Af} {e e' j : Nat} (he : e < 3) : q_take1 α e e' (idD e) j = if j = 1 then α (idD e') 1 else α (idD e) j := by
  unfold q_take1
  rw [q_cs_ne (fun _ _ => nS_D he), up_at]
theorem nDD {e e' : Nat} (h : e ≠ e') : idD e ≠ idD e' := by unfold idD; omega
theorem q_take1_D' {α : Af} {e e' : Nat} (he' : e' < 3) (h : e ≠ e') : q_take1 α e e' (idD e') = α (idD e') := by
  unfold q_take1
  rw [q_cs_ne (fun _ _ => nS_D he'), up_ne (nDD fun q => h q.symm)]
theorem q_take_D {α : Af} {e e' j : Nat} (he : e < 3) (he' : e' < 3) (hne : e ≠ e') (hj : j = 1 ∨ j = 2 ∨ j = 3 ∨ j = 4 ∨ j = 5 ∨ j = 6 ∨ j = 7 ∨ j = 10 ∨ j = 12) : q_take α e e' (idD e) j = α (idD e') j := by
  have n1 : idD e' ≠ idD e := nDD fun q => hne q.symm
  unfold q_take
  simp only [q_take4, q_take2, up_ne n1, upR_ne (nWt_D he), upR_ne (nWt_D he'), upR_ne (nTp_D he), upR_ne (nTp_D he'), q_take3_D he, q_take3_D he', up_at, q_take1_D he, q_take1_D' he' hne]
  rcases hj with rfl | rfl | rfl | rfl | rfl | rfl | rfl | rfl | rfl <;> simp
theorem nS_any {e e' u : Nat} : idS e' u ≠ idTp e ∨ 12 < e := by unfold idS idTp; omega
theorem q_take_S {α : Af} {e e' u j : Nat} (he : e < 3) (he' : e' < 3) (hne : e ≠ e') (hu : u < 9) (hj : j < 7) : q_take α e e' (idS e u) j = α (idS e' u) j := by
  unfold q_take
  simp only [q_take4]
  rw [up_ne (nD_S he), upR_ne (by unfold idS idWt; omega), up_ne (nD_S he), upR_ne (by unfold idS idTp; omega)]
  unfold q_take3
  rw [q_lawTake_ne (by unfold idS idL; omega) (by unfold idS idLc; omega), q_lawTake_ne (by unfold idS idL; omega) (by unfold idS idLc; omega), q_take2_ne (nD_S he)]
  unfold q_take1
  rw [q_cs_at hne hu (by decide) hj, up_ne (nD_S he)]
theorem q_write_L {α : Af} {e u i1 : Nat} {n : Int32} (he : e < 3) (hu : u < 2) : q_write α e u i1 n (idL e u) 1 = q_held n 0 60 := by
  simp only [q_write]
  rw [up_ne2 (by decide), upR_ne (nLLc he hu), up_eq]
theorem held_id {n : Nat} (h : n ≤ 60) : q_held (nI n) 0 60 = nI n := by
  have key : ∀ n, n ≤ 60 → q_held (nI n) 0 60 = nI n := by decide
  exact key n h
theorem q_take12_L {α : Af} {e e' a u : Nat} (ha : a < 3) (hu : u < 2) (he : e < 3) : q_take2 (q_take1 α e e') e e' (idL a u) = α (idL a u) := by
  rw [q_take2_ne (nD_L he)]
  unfold q_take1
  rw [q_cs_ne (fun _ _ => nS_L ha hu), up_ne (nD_L he)]
theorem q_take_L {α : Af} {e e' u : Nat} (he : e < 3) (he' : e' < 3) (hne : e ≠ e') (hu : u < 2) : q_take α e e' (idL e u) 1 = q_held (α (idL e' u) 1) 0 60 := by
  unfold q_take
  simp only [q_take4]
  rw [up_ne (nD_L he), upR_ne (by unfold idL idWt; omega), up_ne (nD_L he), upR_ne (by unfold idL idTp; omega)]
  unfold q_take3
  rcases (show u = 0 ∨ u = 1 by omega) with rfl | rfl
  · rw [q_lawTake_ne (by unfold idL; omega) (nLLc he (by decide))]
    unfold q_lawTake
    rw [up_ne2 (by decide), q_write_L he (by decide), q_take12_L he' (by decide) he]
  · unfold q_lawTake
    rw [up_ne2 (by decide), q_write_L he (by decide), up_ne (by unfold idL; omega), q_write_ne (by unfold idL; omega) (nLLc he' (by decide)), q_take12_L he' (by decide) he]
theorem Lk.take {α : Af} {e e' : Nat} (he : e < 3) (he' : e' < 3) (hne : e ≠ e') (h : Lk α e') : Lk (q_take α e e') e := by
  intro u hu
  obtain ⟨n, h1, h2⟩ := h u hu
  exact ⟨n, h1, by rw [q_take_L he he' hne hu, h2, held_id h1]⟩
def q_ld (α : Af) (n : Nat) (a b : Int32) : Nat → Int32 × Af
  | 0 => q_errP α 2
  | m + 1 => if q_joins (q_endsU α 0) (q_bset α 0 (nI m) n) n a b = true then (nI m, α) else q_ld α n a b m
theorem shl1 {n : Nat} (h : n ≤ 9) : jshl 1 (nI n) = nI (2 ^ n) := by
  have key : ∀ n, n ≤ 9 → jshl 1 (nI n) = nI (2 ^ n) := by decide
  exact key n h
theorem pow9 {n : Nat} (h : n ≤ 9) : 2 ^ n ≤ 512 := Nat.pow_le_pow_right (by decide) h
/-- baking: what is best among the first i sets -/
def q_bk (T : Af) (n : Nat) (A B a b : Int32) : Nat → Int32 × Int32
  | 0 => (-1, 0)
  | i + 1 => if (q_bk T n A B a b i).1 < 0 then (if q_joins (q_endsU T 0) ((A &&& (nI i ^^^ (-1))) ||| (B &&& nI i)) n a b = true then (nI i, q_flour T 0 (nI i) n) else q_bk T n A B a b i)
    else if (q_bk T n A B a b i).2 ≤ q_flour T 0 (nI i) n then q_bk T n A B a b i
    else (if q_joins (q_endsU T 0) ((A &&& (nI i ^^^ (-1))) ||| (B &&& nI i)) n a b = true then (nI i, q_flour T 0 (nI i) n) else q_bk T n A B a b i)
/-- eating: the best of the first i sets, and how many they are -/
def q_et (α : Af) (n : Nat) (A a b : Int32) : Nat → Int32 × Int32
  | 0 => (0, 10)
  | i + 1 => if (q_et α n A a b i).2 ≤ q_bitCount (nI i) then q_et α n A a b i
    else if q_joins (q_endsU α 0) (A &&& (nI i ^^^ (-1))) n a b = true then q_et α n A a b i else (nI i, q_bitCount (nI i))
def q_la (n : Nat) (load a b : Int32) : Nat → Nat → Af → Int32 × Af
  | 0, _, β => q_errP β 2
  | j + 1, i, β => if q_joins (q_endsU β 2) (q_bset β 2 load n) n a b = true then q_la n load a b j (i + 1) (q_day β 2 n) else (nI i, β)
def q_odT (β : Af) (n i : Nat) : Af := q_day (up (q_take β 2 0) (idD 2) 2 (nI i)) 2 n
def q_od (α : Af) (n : Nat) (load a b : Int32) : Nat → Int32 × Af
  | 0 => (0, α)
  | i + 1 => (if q_joins (q_endsU (q_odT (q_od α n load a b i).2 n i) 2) (q_bset (q_odT (q_od α n load a b i).2 n i) 2 load n) n a b = true then (q_od α n load a b i).1 + 1 else (q_od α n load a b i).1, q_odT (q_od α n load a b i).2 n i)
def q_fi (s n m : Nat) : Nat → Nat → Af → Int32 × Af
  | 0, _, β => q_errP β 2
  | j + 1, i, β => if nI (q_right β 2 s n m 0) = nI m then (nI i, β) else q_fi s n m j (i + 1) (q_day β 2 n)
def q_sk (s n : Nat) : Nat → Nat → Af → Int32 × Af
  | 0, i, β => (nI i, β)
  | j + 1, i, β => if i < n then (if q_within (β (idSn s) i) 0 9 = true then q_sk s n j (i + 1) (up β (idS 0 i) 5 (β (idSn s) i)) else (nI i, β)) else (nI i, β)
def q_ck (A : Af) (n : Nat) : Nat → Nat → Int32
  | 0, _ => 0
  | j + 1, i => if i < n then (if A (idS 0 i) 4 = A (idWt 0) i then q_ck A n j (i + 1) else 1 + nI i) else 1 + nI i

def f_span (α : Af) (km a b : Int32) : Int32 × Af := if q_isKm km = true then (if q_areTwo a b = true then (if α (idD 0) 1 < 9 then (α (idD 0) 1, q_addSpan α 0 (α (idD 0) 1).toNatClampNeg km a b) else q_errP α 4) else q_errP α 1) else q_errP α 1
set_option maxRecDepth 100000 in
set_option maxHeartbeats 4000000 in
theorem c_yX6_span {l : Launch} {G : Gm} {α ρ : Af} {km a b : Int32} (hI : IC α) : CI 1 l G yX6_span (Cond.code yX6_span cX6_span 4 (some .int)) 100 [.ref (gA G idB), .int km, .int a, .int b] α ρ (PI (f_span α km a b).1 (f_span α km a b).2 ρ) := by
  obtain ⟨⟨n, h9, hn⟩, hLk, hBk, hV, ⟨t, h60, ht⟩, ⟨w, h24, hw⟩, hSh, hRb, hTp⟩ := hI
  refine CI.of [some (.ref (gA G idB)), some (.int km), some (.int a), some (.int b)] (by decide) (Nat.le_of_ble_eq_true rfl) rfl rfl (fun C K => ?_)
  have K : Ok l _ G C RX6 cX6_span (some .int) 4 := K
  refine x_iload_n (pc := 0) (i := 1) K dX6_span_0 rfl rfl ?_
  refine x_S1i (pc := 1) K (c_yX6_isKindAndNumber) mw_yX6_isKindAndNumber st_yX6_isKindAndNumber mk_X6_51 ⟨Nat.le_of_ble_eq_true rfl, Nat.le_of_ble_eq_true rfl, Nat.le_of_ble_eq_true rfl⟩ dX6_span_1 ?_
  refine x_ifeq_b (pc := 4) (tgt := 15) K dX6_span_4 (by decide) (fun c_4 => ?_) (fun c_4 => ?_)
  · refine x_aload_n (pc := 15) (i := 0) K dX6_span_15 rfl rfl ?_
    refine x_iconst (pc := 16) (v := 1) K dX6_span_16 (by decide) ?_
    refine x_V1i (pc := 17) K (c_yX6_error (j := 1) (by decide)) mw_yX6_error ⟨im_yX6_error, se_yX6_error⟩ mk_X6_59 rc_B rfl ⟨Nat.le_of_ble_eq_true rfl, Nat.le_of_ble_eq_true rfl, Nat.le_of_ble_eq_true rfl⟩ dX6_span_17 ?_
    exact x_iretI (pc := 20) K dX6_span_20 ⟨by simp (decide := true) only [f_span, q_errP, c_4, ↓reduceIte, Bool.false_eq_true, bI_t, bI_f], by simp (decide := true) only [f_span, q_errP, c_4, ↓reduceIte, Bool.false_eq_true, bI_t, bI_f], rfl⟩
  · refine x_iload_n (pc := 7) (i := 2) K dX6_span_7 rfl rfl ?_
    refine x_iload_n (pc := 8) (i := 3) K dX6_span_8 rfl rfl ?_
    refine x_S2i (pc := 9) K (c_yX6_areTwoPlaces) mw_yX6_areTwoPlaces st_yX6_areTwoPlaces mk_X6_55 ⟨Nat.le_of_ble_eq_true rfl, Nat.le_of_ble_eq_true rfl, Nat.le_of_ble_eq_true rfl⟩ dX6_span_9 ?_
    refine x_ifne_b (pc := 12) (tgt := 21) K dX6_span_12 (by decide) (fun c_12 => ?_) (fun c_12 => ?_)
    · refine x_aload_n (pc := 21) (i := 0) K dX6_span_21 rfl rfl ?_
      refine gf_X6_10 (pc := 22)  K dX6_span_22 ?_
      refine gf_X6_63 (pc := 25) (by decide) K dX6_span_25 ?_
      refine x_bipush (pc := 28) (v := 9) K dX6_span_28 (by decide) ?_
      refine x_icmp_lt (pc := 30) (tgt := 39) K dX6_span_30 (by decide) (fun c_30 => ?_) (fun c_30 => ?_)
      · have hn9 : n < 9 := (nI_ltI (a := n) (b := 9) (by omega) (by decide)).mp (by rw [hn] at c_30; exact c_30)
        have hnc : (α (idD 0) 1).toNatClampNeg = n := by rw [hn]; exact nI_clamp (by omega)
        refine x_aload_n (pc := 39) (i := 0) K dX6_span_39 rfl rfl ?_
        refine gf_X6_10 (pc := 40)  K dX6_span_40 ?_
        refine x_iload_n (pc := 43) (i := 1) K dX6_span_43 rfl rfl ?_
        refine x_iload_n (pc := 44) (i := 2) K dX6_span_44 rfl rfl ?_
        refine x_iload_n (pc := 45) (i := 3) K dX6_span_45 rfl rfl ?_
        refine x_V3i (pc := 46) K (c_yX0_addSpan (by decide) hn hn9) mw_yX0_addSpan ⟨im_yX0_addSpan, se_yX0_addSpan⟩ mk_X6_66 (rc_D (by decide)) rfl ⟨Nat.le_of_ble_eq_true rfl, Nat.le_of_ble_eq_true rfl, Nat.le_of_ble_eq_true rfl⟩ dX6_span_46 ?_
        exact x_iretI (pc := 49) K dX6_span_49 ⟨by simp (decide := true) only [f_span, q_errP, c_4, c_12, if_pos c_30, ↓reduceIte, Bool.false_eq_true, bI_t, bI_f]; exact hn.symm, by simp (decide := true) only [f_span, q_errP, c_4, c_12, if_pos c_30, ↓reduceIte, Bool.false_eq_true, bI_t, bI_f]; rw [hnc], rfl⟩
      · refine x_aload_n (pc := 33) (i := 0) K dX6_span_33 rfl rfl ?_
        refine x_iconst (pc := 34) (v := 4) K dX6_span_34 (by decide) ?_
        refine x_V1i (pc := 35) K (c_yX6_error (j := 4) (by decide)) mw_yX6_error ⟨im_yX6_error, se_yX6_error⟩ mk_X6_59 rc_B rfl ⟨Nat.le_of_ble_eq_true rfl, Nat.le_of_ble_eq_true rfl, Nat.le_of_ble_eq_true rfl⟩ dX6_span_35 ?_
        exact x_iretI (pc := 38) K dX6_span_38 ⟨by simp (decide := true) only [f_span, q_errP, c_4, c_12, if_neg c_30, ↓reduceIte, Bool.false_eq_true, bI_t, bI_f], by simp (decide := true) only [f_span, q_errP, c_4, c_12, if_neg c_30, ↓reduceIte, Bool.false_eq_true, bI_t, bI_f], rfl⟩
    · refine x_aload_n (pc := 15) (i := 0) K dX6_span_15 rfl rfl ?_
      refine x_iconst (pc := 16) (v := 1) K dX6_span_16 (by decide) ?_
      refine x_V1i (pc := 17) K (c_yX6_error (j := 1) (by decide)) mw_yX6_error ⟨im_yX6_error, se_yX6_error⟩ mk_X6_59 rc_B rfl ⟨Nat.le_of_ble_eq_true rfl, Nat.le_of_ble_eq_true rfl, Nat.le_of_ble_eq_true rfl⟩ dX6_span_17 ?_
      exact x_iretI (pc := 20) K dX6_span_20 ⟨by simp (decide := true) only [f_span, q_errP, c_4, c_12, ↓reduceIte, Bool.false_eq_true, bI_t, bI_f], by simp (decide := true) only [f_span, q_errP, c_4, c_12, ↓reduceIte, Bool.false_eq_true, bI_t, bI_f], rfl⟩

def f_isF (α : Af) (j : Nat) (what : Int32) : Int32 := if what = 0 then α (idS 0 j) 0 else if what = 1 then α (idS 0 j) 1 else if what = 2 then α (idS 0 j) 2 else if what = 3 then α (idS 0 j) 3 else if what = 4 then α (idS 0 j) 4 else if what = 5 then α (idS 0 j) 5 else if what = 6 then (if α (idS 0 j) 6 = 0 then 0 else 1) else if what = 7 then q_bearsU α 0 j else q_takesU α 0 j
def f_spanIs (α : Af) (span what : Int32) : Int32 × Af := if q_within span 0 (α (idD 0) 1 - 1) = true then (if q_within what 0 8 = true then (f_isF α span.toNatClampNeg what, α) else q_errP α 1) else q_errP α 1
set_option maxRecDepth 100000 in
set_option maxHeartbeats 4000000 in
theorem c_yX6_spanIs {l : Launch} {G : Gm} {α ρ : Af} {span what : Int32} (hI : IC α) : CI 1 l G yX6_spanIs (Cond.code yX6_spanIs cX6_spanIs 4 (some .int)) 100 [.ref (gA G idB), .int span, .int what] α ρ (PI (f_spanIs α span what).1 (f_spanIs α span what).2 ρ) := by
  obtain ⟨⟨n, h9, hn⟩, hLk, hBk, hV, ⟨t, h60, ht⟩, ⟨w, h24, hw⟩, hSh, hRb, hTp⟩ := hI
  refine CI.of [some (.ref (gA G idB)), some (.int span), some (.int what), none] (by decide) (Nat.le_of_ble_eq_true rfl) rfl rfl (fun C K => ?_)
  have K : Ok l _ G C RX6 cX6_spanIs (some .int) 4 := K
  refine x_aload_n (pc := 0) (i := 0) K dX6_spanIs_0 rfl rfl ?_
  refine gf_X6_10 (pc := 1)  K dX6_spanIs_1 ?_
  refine x_iload_n (pc := 4) (i := 1) K dX6_spanIs_4 rfl rfl ?_
  refine x_V1i (pc := 5) K (c_yX0_hasSpan (by decide)) mw_yX0_hasSpan ⟨im_yX0_hasSpan, se_yX0_hasSpan⟩ mk_X6_70 (rc_D (by decide)) rfl ⟨Nat.le_of_ble_eq_true rfl, Nat.le_of_ble_eq_true rfl, Nat.le_of_ble_eq_true rfl⟩ dX6_spanIs_5 ?_
  refine x_ifeq_b (pc := 8) (tgt := 21) K dX6_spanIs_8 (by decide) (fun c_8 => ?_) (fun c_8 => ?_)
  · refine x_aload_n (pc := 21) (i := 0) K dX6_spanIs_21 rfl rfl ?_
    refine x_iconst (pc := 22) (v := 1) K dX6_spanIs_22 (by decide) ?_
    refine x_V1i (pc := 23) K (c_yX6_error (j := 1) (by decide)) mw_yX6_error ⟨im_yX6_error, se_yX6_error⟩ mk_X6_59 rc_B rfl ⟨Nat.le_of_ble_eq_true rfl, Nat.le_of_ble_eq_true rfl, Nat.le_of_ble_eq_true rfl⟩ dX6_spanIs_23 ?_
    exact x_iretI (pc := 26) K dX6_spanIs_26 ⟨by simp (decide := true) only [f_spanIs, q_errP, c_8, ↓reduceIte, Bool.false_eq_true, bI_t, bI_f], by simp (decide := true) only [f_spanIs, q_errP, c_8, ↓reduceIte, Bool.false_eq_true, bI_t, bI_f], rfl⟩
  · refine x_iload_n (pc := 11) (i := 2) K dX6_spanIs_11 rfl rfl ?_
    refine x_iconst (pc := 12) (v := 0) K dX6_spanIs_12 (by decide) ?_
    refine x_bipush (pc := 13) (v := 8) K dX6_spanIs_13 (by decide) ?_
    refine x_S3i (pc := 15) K (c_yX6_within) mw_yX6_within st_yX6_within mk_X6_73 ⟨Nat.le_of_ble_eq_true rfl, Nat.le_of_ble_eq_true rfl, Nat.le_of_ble_eq_true rfl⟩ dX6_spanIs_15 ?_
    refine x_ifne_b (pc := 18) (tgt := 27) K dX6_spanIs_18 (by decide) (fun c_18 => ?_) (fun c_18 => ?_)
    · obtain ⟨j, hj, rfl⟩ := hs_of (v := span) (n := n) (by omega) (by rw [← hn]; exact c_8)
      have hj9 : j < 9 := by omega
      have hjc : (nI j).toNatClampNeg = j := nI_clamp (by omega)
      refine x_aload_n (pc := 27) (i := 0) K dX6_spanIs_27 rfl rfl ?_
      refine gf_X6_10 (pc := 28)  K dX6_spanIs_28 ?_
      refine gf_X6_77 (pc := 31) (by decide) K dX6_spanIs_31 ?_
      refine x_iload_n (pc := 34) (i := 1) K dX6_spanIs_34 rfl rfl ?_
      refine ab_Sp (pc := 35) (by decide) j hj9 K dX6_spanIs_35 ?_
      refine x_astore_n (pc := 36) (i := 3) K dX6_spanIs_36 rfl rfl (by decide) ?_
      refine x_iload_n (pc := 37) (i := 2) K dX6_spanIs_37 rfl rfl ?_
      by_cases s_38_0 : what = 0
      · refine x_tableIn (pc := 38) (off := 46) (tgt := 84) K dX6_spanIs_38 (by rw [s_38_0]; decide) (by decide) ?_
        refine x_aload_n (pc := 84) (i := 3) K dX6_spanIs_84 rfl rfl ?_
        refine gf_X6_81 (pc := 85) (by decide) hj9 K dX6_spanIs_85 ?_
        exact x_iretI (pc := 88) K dX6_spanIs_88 ⟨by simp (decide := true) only [f_spanIs, q_errP, c_8, c_18, if_pos s_38_0, ↓reduceIte, Bool.false_eq_true, bI_t, bI_f, f_isF, hjc], by simp (decide := true) only [f_spanIs, q_errP, c_8, c_18, if_pos s_38_0, ↓reduceIte, Bool.false_eq_true, bI_t, bI_f, f_isF, hjc], rfl⟩
      by_cases s_38_1 : what = 1
      · refine x_tableIn (pc := 38) (off := 51) (tgt := 89) K dX6_spanIs_38 (by rw [s_38_1]; decide) (by decide) ?_
        refine x_aload_n (pc := 89) (i := 3) K dX6_spanIs_89 rfl rfl ?_
        refine gf_X6_86 (pc := 90) (by decide) hj9 K dX6_spanIs_90 ?_
        exact x_iretI (pc := 93) K dX6_spanIs_93 ⟨by simp (decide := true) only [f_spanIs, q_errP, c_8, c_18, if_neg s_38_0, if_pos s_38_1, ↓reduceIte, Bool.false_eq_true, bI_t, bI_f, f_isF, hjc], by simp (decide := true) only [f_spanIs, q_errP, c_8, c_18, if_neg s_38_0, if_pos s_38_1, ↓reduceIte, Bool.false_eq_true, bI_t, bI_f, f_isF, hjc], rfl⟩
      by_cases s_38_2 : what = 2
      · refine x_tableIn (pc := 38) (off := 56) (tgt := 94) K dX6_spanIs_38 (by rw [s_38_2]; decide) (by decide) ?_
        refine x_aload_n (pc := 94) (i := 3) K dX6_spanIs_94 rfl rfl ?_
        refine gf_X6_89 (pc := 95) (by decide) hj9 K dX6_spanIs_95 ?_
        exact x_iretI (pc := 98) K dX6_spanIs_98 ⟨by simp (decide := true) only [f_spanIs, q_errP, c_8, c_18, if_neg s_38_0, if_neg s_38_1, if_pos s_38_2, ↓reduceIte, Bool.false_eq_true, bI_t, bI_f, f_isF, hjc], by simp (decide := true) only [f_spanIs, q_errP, c_8, c_18, if_neg s_38_0, if_neg s_38_1, if_pos s_38_2, ↓reduceIte, Bool.false_eq_true, bI_t, bI_f, f_isF, hjc], rfl⟩
      by_cases s_38_3 : what = 3
      · refine x_tableIn (pc := 38) (off := 61) (tgt := 99) K dX6_spanIs_38 (by rw [s_38_3]; decide) (by decide) ?_
        refine x_aload_n (pc := 99) (i := 3) K dX6_spanIs_99 rfl rfl ?_
        refine gf_X6_92 (pc := 100) (by decide) hj9 K dX6_spanIs_100 ?_
        exact x_iretI (pc := 103) K dX6_spanIs_103 ⟨by simp (decide := true) only [f_spanIs, q_errP, c_8, c_18, if_neg s_38_0, if_neg s_38_1, if_neg s_38_2, if_pos s_38_3, ↓reduceIte, Bool.false_eq_true, bI_t, bI_f, f_isF, hjc], by simp (decide := true) only [f_spanIs, q_errP, c_8, c_18, if_neg s_38_0, if_neg s_38_1, if_neg s_38_2, if_pos s_38_3, ↓reduceIte, Bool.false_eq_true, bI_t, bI_f, f_isF, hjc], rfl⟩
      by_cases s_38_4 : what = 4
      · refine x_tableIn (pc := 38) (off := 66) (tgt := 104) K dX6_spanIs_38 (by rw [s_38_4]; decide) (by decide) ?_
        refine x_aload_n (pc := 104) (i := 3) K dX6_spanIs_104 rfl rfl ?_
        refine gf_X6_95 (pc := 105) (by decide) hj9 K dX6_spanIs_105 ?_
        exact x_iretI (pc := 108) K dX6_spanIs_108 ⟨by simp (decide := true) only [f_spanIs, q_errP, c_8, c_18, if_neg s_38_0, if_neg s_38_1, if_neg s_38_2, if_neg s_38_3, if_pos s_38_4, ↓reduceIte, Bool.false_eq_true, bI_t, bI_f, f_isF, hjc], by simp (decide := true) only [f_spanIs, q_errP, c_8, c_18, if_neg s_38_0, if_neg s_38_1, if_neg s_38_2, if_neg s_38_3, if_pos s_38_4, ↓reduceIte, Bool.false_eq_true, bI_t, bI_f, f_isF, hjc], rfl⟩
      by_cases s_38_5 : what = 5
      · refine x_tableIn (pc := 38) (off := 71) (tgt := 109) K dX6_spanIs_38 (by rw [s_38_5]; decide) (by decide) ?_
        refine x_aload_n (pc := 109) (i := 3) K dX6_spanIs_109 rfl rfl ?_
        refine gf_X6_98 (pc := 110) (by decide) hj9 K dX6_spanIs_110 ?_
        exact x_iretI (pc := 113) K dX6_spanIs_113 ⟨by simp (decide := true) only [f_spanIs, q_errP, c_8, c_18, if_neg s_38_0, if_neg s_38_1, if_neg s_38_2, if_neg s_38_3, if_neg s_38_4, if_pos s_38_5, ↓reduceIte, Bool.false_eq_true, bI_t, bI_f, f_isF, hjc], by simp (decide := true) only [f_spanIs, q_errP, c_8, c_18, if_neg s_38_0, if_neg s_38_1, if_neg s_38_2, if_neg s_38_3, if_neg s_38_4, if_pos s_38_5, ↓reduceIte, Bool.false_eq_true, bI_t, bI_f, f_isF, hjc], rfl⟩
      by_cases s_38_6 : what = 6
      · refine x_tableIn (pc := 38) (off := 76) (tgt := 114) K dX6_spanIs_38 (by rw [s_38_6]; decide) (by decide) ?_
        refine x_aload_n (pc := 114) (i := 3) K dX6_spanIs_114 rfl rfl ?_
        refine gf_X6_101 (pc := 115) (by decide) hj9 K dX6_spanIs_115 ?_
        refine x_if_eq (pc := 118) (tgt := 125) K dX6_spanIs_118 (by decide) (fun c_118 => ?_) (fun c_118 => ?_)
        · refine x_iconst (pc := 125) (v := 0) K dX6_spanIs_125 (by decide) ?_
          exact x_iretI (pc := 126) K dX6_spanIs_126 ⟨by simp (decide := true) only [f_spanIs, q_errP, c_8, c_18, if_neg s_38_0, if_neg s_38_1, if_neg s_38_2, if_neg s_38_3, if_neg s_38_4, if_neg s_38_5, if_pos s_38_6, if_pos c_118, ↓reduceIte, Bool.false_eq_true, bI_t, bI_f, f_isF, hjc], by simp (decide := true) only [f_spanIs, q_errP, c_8, c_18, if_neg s_38_0, if_neg s_38_1, if_neg s_38_2, if_neg s_38_3, if_neg s_38_4, if_neg s_38_5, if_pos s_38_6, if_pos c_118, ↓reduceIte, Bool.false_eq_true, bI_t, bI_f, f_isF, hjc], rfl⟩
        · refine x_iconst (pc := 121) (v := 1) K dX6_spanIs_121 (by decide) ?_
          refine x_goto (pc := 122) (tgt := 126) K dX6_spanIs_122 (by decide) ?_
          exact x_iretI (pc := 126) K dX6_spanIs_126 ⟨by simp (decide := true) only [f_spanIs, q_errP, c_8, c_18, if_neg s_38_0, if_neg s_38_1, if_neg s_38_2, if_neg s_38_3, if_neg s_38_4, if_neg s_38_5, if_pos s_38_6, if_neg c_118, ↓reduceIte, Bool.false_eq_true, bI_t, bI_f, f_isF, hjc], by simp (decide := true) only [f_spanIs, q_errP, c_8, c_18, if_neg s_38_0, if_neg s_38_1, if_neg s_38_2, if_neg s_38_3, if_neg s_38_4, if_neg s_38_5, if_pos s_38_6, if_neg c_118, ↓reduceIte, Bool.false_eq_true, bI_t, bI_f, f_isF, hjc], rfl⟩
      by_cases s_38_7 : what = 7
      · refine x_tableIn (pc := 38) (off := 89) (tgt := 127) K dX6_spanIs_38 (by rw [s_38_7]; decide) (by decide) ?_
        refine x_aload_n (pc := 127) (i := 3) K dX6_spanIs_127 rfl rfl ?_
        refine x_aload_n (pc := 128) (i := 0) K dX6_spanIs_128 rfl rfl ?_
        refine gf_X6_10 (pc := 129)  K dX6_spanIs_129 ?_
        refine gf_X6_105 (pc := 132) (by decide) K dX6_spanIs_132 ?_
        refine x_V1i (pc := 135) K (c1_bears (by decide) hj9) mw_yX4_bearsOn ⟨im_yX4_bearsOn, se_yX4_bearsOn⟩ mk_X6_108 (rc_S (by decide) hj9) rfl ⟨Nat.le_of_ble_eq_true rfl, Nat.le_of_ble_eq_true rfl, Nat.le_of_ble_eq_true rfl⟩ dX6_spanIs_135 ?_
        exact x_iretI (pc := 138) K dX6_spanIs_138 ⟨by simp (decide := true) only [f_spanIs, q_errP, c_8, c_18, if_neg s_38_0, if_neg s_38_1, if_neg s_38_2, if_neg s_38_3, if_neg s_38_4, if_neg s_38_5, if_neg s_38_6, if_pos s_38_7, ↓reduceIte, Bool.false_eq_true, bI_t, bI_f, f_isF, hjc], by simp (decide := true) only [f_spanIs, q_errP, c_8, c_18, if_neg s_38_0, if_neg s_38_1, if_neg s_38_2, if_neg s_38_3, if_neg s_38_4, if_neg s_38_5, if_neg s_38_6, if_pos s_38_7, ↓reduceIte, Bool.false_eq_true, bI_t, bI_f, f_isF, hjc], rfl⟩
      refine x_tableOut (pc := 38) (tgt := 139) K dX6_spanIs_38 (by have t0 : ¬ (what).toInt = 0 := fun h => s_38_0 (Int32.toInt_inj.mp h); have t1 : ¬ (what).toInt = 1 := fun h => s_38_1 (Int32.toInt_inj.mp h); have t2 : ¬ (what).toInt = 2 := fun h => s_38_2 (Int32.toInt_inj.mp h); have t3 : ¬ (what).toInt = 3 := fun h => s_38_3 (Int32.toInt_inj.mp h); have t4 : ¬ (what).toInt = 4 := fun h => s_38_4 (Int32.toInt_inj.mp h); have t5 : ¬ (what).toInt = 5 := fun h => s_38_5 (Int32.toInt_inj.mp h); have t6 : ¬ (what).toInt = 6 := fun h => s_38_6 (Int32.toInt_inj.mp h); have t7 : ¬ (what).toInt = 7 := fun h => s_38_7 (Int32.toInt_inj.mp h); omega) (by decide) ?_
      refine x_aload_n (pc := 139) (i := 3) K dX6_spanIs_139 rfl rfl ?_
      refine x_V0i (pc := 140) K (c1_takes (by decide) hj9) mw_yX4_takes ⟨im_yX4_takes, se_yX4_takes⟩ mk_X6_111 (rc_S (by decide) hj9) rfl ⟨Nat.le_of_ble_eq_true rfl, Nat.le_of_ble_eq_true rfl, Nat.le_of_ble_eq_true rfl⟩ dX6_spanIs_140 ?_
      exact x_iretI (pc := 143) K dX6_spanIs_143 ⟨by simp (decide := true) only [f_spanIs, q_errP, c_8, c_18, if_neg s_38_0, if_neg s_38_1, if_neg s_38_2, if_neg s_38_3, if_neg s_38_4, if_neg s_38_5, if_neg s_38_6, if_neg s_38_7, ↓reduceIte, Bool.false_eq_true, bI_t, bI_f, f_isF, hjc], by simp (decide := true) only [f_spanIs, q_errP, c_8, c_18, if_neg s_38_0, if_neg s_38_1, if_neg s_38_2, if_neg s_38_3, if_neg s_38_4, if_neg s_38_5, if_neg s_38_6, if_neg s_38_7, ↓reduceIte, Bool.false_eq_true, bI_t, bI_f, f_isF, hjc], rfl⟩
    · refine x_aload_n (pc := 21) (i := 0) K dX6_spanIs_21 rfl rfl ?_
      refine x_iconst (pc := 22) (v := 1) K dX6_spanIs_22 (by decide) ?_
      refine x_V1i (pc := 23) K (c_yX6_error (j := 1) (by decide)) mw_yX6_error ⟨im_yX6_error, se_yX6_error⟩ mk_X6_59 rc_B rfl ⟨Nat.le_of_ble_eq_true rfl, Nat.le_of_ble_eq_true rfl, Nat.le_of_ble_eq_true rfl⟩ dX6_spanIs_23 ?_
      exact x_iretI (pc := 26) K dX6_spanIs_26 ⟨by simp (decide := true) only [f_spanIs, q_errP, c_8, c_18, ↓reduceIte, Bool.false_eq_true, bI_t, bI_f], by simp (decide := true) only [f_spanIs, q_errP, c_8, c_18, ↓reduceIte, Bool.false_eq_true, bI_t, bI_f], rfl⟩

def f_become (α : Af) (span km : Int32) : Int32 × Af := if q_within span 0 (α (idD 0) 1 - 1) = true then (if q_isKm km = true then (α (idS 0 span.toNatClampNeg) 0, up (up α (idS 0 span.toNatClampNeg) 0 (km / 10)) (idS 0 span.toNatClampNeg) 1 (jrem km 10)) else q_errP α 1) else q_errP α 1
set_option maxRecDepth 100000 in
set_option maxHeartbeats 4000000 in
theorem c_yX6_become {l : Launch} {G : Gm} {α ρ : Af} {span km : Int32} (hI : IC α) : CI 1 l G yX6_become (Cond.code yX6_become cX6_become 5 (some .int)) 100 [.ref (gA G idB), .int span, .int km] α ρ (PI (f_become α span km).1 (f_become α span km).2 ρ) := by
  obtain ⟨⟨n, h9, hn⟩, hLk, hBk, hV, ⟨t, h60, ht⟩, ⟨w, h24, hw⟩, hSh, hRb, hTp⟩ := hI
  refine CI.of [some (.ref (gA G idB)), some (.int span), some (.int km), none, none] (by decide) (Nat.le_of_ble_eq_true rfl) rfl rfl (fun C K => ?_)
  have K : Ok l _ G C RX6 cX6_become (some .int) 5 := K
  refine x_aload_n (pc := 0) (i := 0) K dX6_become_0 rfl rfl ?_
  refine gf_X6_10 (pc := 1)  K dX6_become_1 ?_
  refine x_iload_n (pc := 4) (i := 1) K dX6_become_4 rfl rfl ?_
  refine x_V1i (pc := 5) K (c_yX0_hasSpan (by decide)) mw_yX0_hasSpan ⟨im_yX0_hasSpan, se_yX0_hasSpan⟩ mk_X6_70 (rc_D (by decide)) rfl ⟨Nat.le_of_ble_eq_true rfl, Nat.le_of_ble_eq_true rfl, Nat.le_of_ble_eq_true rfl⟩ dX6_become_5 ?_
  refine x_ifeq_b (pc := 8) (tgt := 18) K dX6_become_8 (by decide) (fun c_8 => ?_) (fun c_8 => ?_)
  · refine x_aload_n (pc := 18) (i := 0) K dX6_become_18 rfl rfl ?_
    refine x_iconst (pc := 19) (v := 1) K dX6_become_19 (by decide) ?_
    refine x_V1i (pc := 20) K (c_yX6_error (j := 1) (by decide)) mw_yX6_error ⟨im_yX6_error, se_yX6_error⟩ mk_X6_59 rc_B rfl ⟨Nat.le_of_ble_eq_true rfl, Nat.le_of_ble_eq_true rfl, Nat.le_of_ble_eq_true rfl⟩ dX6_become_20 ?_
    exact x_iretI (pc := 23) K dX6_become_23 ⟨by simp (decide := true) only [f_become, q_errP, c_8, ↓reduceIte, Bool.false_eq_true, bI_t, bI_f], by simp (decide := true) only [f_become, q_errP, c_8, ↓reduceIte, Bool.false_eq_true, bI_t, bI_f], rfl⟩
  · refine x_iload_n (pc := 11) (i := 2) K dX6_become_11 rfl rfl ?_
    refine x_S1i (pc := 12) K (c_yX6_isKindAndNumber) mw_yX6_isKindAndNumber st_yX6_isKindAndNumber mk_X6_51 ⟨Nat.le_of_ble_eq_true rfl, Nat.le_of_ble_eq_true rfl, Nat.le_of_ble_eq_true rfl⟩ dX6_become_12 ?_
    refine x_ifne_b (pc := 15) (tgt := 24) K dX6_become_15 (by decide) (fun c_15 => ?_) (fun c_15 => ?_)
    · obtain ⟨j, hj, rfl⟩ := hs_of (v := span) (n := n) (by omega) (by rw [← hn]; exact c_8)
      have hj9 : j < 9 := by omega
      have hjc : (nI j).toNatClampNeg = j := nI_clamp (by omega)
      refine x_aload_n (pc := 24) (i := 0) K dX6_become_24 rfl rfl ?_
      refine gf_X6_10 (pc := 25)  K dX6_become_25 ?_
      refine gf_X6_77 (pc := 28) (by decide) K dX6_become_28 ?_
      refine x_iload_n (pc := 31) (i := 1) K dX6_become_31 rfl rfl ?_
      refine ab_Sp (pc := 32) (by decide) j hj9 K dX6_become_32 ?_
      refine x_astore_n (pc := 33) (i := 3) K dX6_become_33 rfl rfl (by decide) ?_
      refine x_aload_n (pc := 34) (i := 3) K dX6_become_34 rfl rfl ?_
      refine gf_X6_81 (pc := 35) (by decide) hj9 K dX6_become_35 ?_
      refine x_istore (pc := 38) (i := 4) K dX6_become_38 rfl (by decide) ?_
      refine x_aload_n (pc := 40) (i := 3) K dX6_become_40 rfl rfl ?_
      refine x_iload_n (pc := 41) (i := 2) K dX6_become_41 rfl rfl ?_
      refine x_bipush (pc := 42) (v := 10) K dX6_become_42 (by decide) ?_
      refine x_idiv (pc := 44) K dX6_become_44 (by decide) ?_
      refine pf_X6_81 (pc := 45) (by decide) hj9 K dX6_become_45 ?_
      refine x_aload_n (pc := 48) (i := 3) K dX6_become_48 rfl rfl ?_
      refine x_iload_n (pc := 49) (i := 2) K dX6_become_49 rfl rfl ?_
      refine x_bipush (pc := 50) (v := 10) K dX6_become_50 (by decide) ?_
      refine x_irem (pc := 52) K dX6_become_52 (by decide) ?_
      refine pf_X6_86 (pc := 53) (by decide) hj9 K dX6_become_53 ?_
      refine x_iload (pc := 56) (i := 4) K dX6_become_56 rfl ?_
      exact x_iretI (pc := 58) K dX6_become_58 ⟨by simp (decide := true) only [f_become, q_errP, c_8, c_15, ↓reduceIte, Bool.false_eq_true, bI_t, bI_f, hjc], by simp (decide := true) only [f_become, q_errP, c_8, c_15, ↓reduceIte, Bool.false_eq_true, bI_t, bI_f, hjc], rfl⟩
    · refine x_aload_n (pc := 18) (i := 0) K dX6_become_18 rfl rfl ?_
      refine x_iconst (pc := 19) (v := 1) K dX6_become_19 (by decide) ?_
      refine x_V1i (pc := 20) K (c_yX6_error (j := 1) (by decide)) mw_yX6_error ⟨im_yX6_error, se_yX6_error⟩ mk_X6_59 rc_B rfl ⟨Nat.le_of_ble_eq_true rfl, Nat.le_of_ble_eq_true rfl, Nat.le_of_ble_eq_true rfl⟩ dX6_become_20 ?_
      exact x_iretI (pc := 23) K dX6_become_23 ⟨by simp (decide := true) only [f_become, q_errP, c_8, c_15, ↓reduceIte, Bool.false_eq_true, bI_t, bI_f], by simp (decide := true) only [f_become, q_errP, c_8, c_15, ↓reduceIte, Bool.false_eq_true, bI_t, bI_f], rfl⟩

def f_as (α : Af) (span kind : Int32) : Int32 × Af := if q_within span 0 (α (idD 0) 1 - 1) = true then (if q_within kind 0 6 = true then (if q_under 7 (α (idS 0 span.toNatClampNeg) 0) kind = true then (α (idS 0 span.toNatClampNeg) 1, α) else q_errP α 5) else q_errP α 1) else q_errP α 1
set_option maxRecDepth 100000 in
set_option maxHeartbeats 4000000 in
theorem c_yX6_as {l : Launch} {G : Gm} {α ρ : Af} {span kind : Int32} (hI : IC α) : CI 1 l G yX6_as (Cond.code yX6_as cX6_as 4 (some .int)) 100 [.ref (gA G idB), .int span, .int kind] α ρ (PI (f_as α span kind).1 (f_as α span kind).2 ρ) := by
  obtain ⟨⟨n, h9, hn⟩, hLk, hBk, hV, ⟨t, h60, ht⟩, ⟨w, h24, hw⟩, hSh, hRb, hTp⟩ := hI
  refine CI.of [some (.ref (gA G idB)), some (.int span), some (.int kind), none] (by decide) (Nat.le_of_ble_eq_true rfl) rfl rfl (fun C K => ?_)
  have K : Ok l _ G C RX6 cX6_as (some .int) 4 := K
  refine x_aload_n (pc := 0) (i := 0) K dX6_as_0 rfl rfl ?_
  refine gf_X6_10 (pc := 1)  K dX6_as_1 ?_
  refine x_iload_n (pc := 4) (i := 1) K dX6_as_4 rfl rfl ?_
  refine x_V1i (pc := 5) K (c_yX0_hasSpan (by decide)) mw_yX0_hasSpan ⟨im_yX0_hasSpan, se_yX0_hasSpan⟩ mk_X6_70 (rc_D (by decide)) rfl ⟨Nat.le_of_ble_eq_true rfl, Nat.le_of_ble_eq_true rfl, Nat.le_of_ble_eq_true rfl⟩ dX6_as_5 ?_
  refine x_ifeq_b (pc := 8) (tgt := 21) K dX6_as_8 (by decide) (fun c_8 => ?_) (fun c_8 => ?_)
  · refine x_aload_n (pc := 21) (i := 0) K dX6_as_21 rfl rfl ?_
    refine x_iconst (pc := 22) (v := 1) K dX6_as_22 (by decide) ?_
    refine x_V1i (pc := 23) K (c_yX6_error (j := 1) (by decide)) mw_yX6_error ⟨im_yX6_error, se_yX6_error⟩ mk_X6_59 rc_B rfl ⟨Nat.le_of_ble_eq_true rfl, Nat.le_of_ble_eq_true rfl, Nat.le_of_ble_eq_true rfl⟩ dX6_as_23 ?_
    exact x_iretI (pc := 26) K dX6_as_26 ⟨by simp (decide := true) only [f_as, q_errP, c_8, ↓reduceIte, Bool.false_eq_true, bI_t, bI_f], by simp (decide := true) only [f_as, q_errP, c_8, ↓reduceIte, Bool.false_eq_true, bI_t, bI_f], rfl⟩
  · refine x_iload_n (pc := 11) (i := 2) K dX6_as_11 rfl rfl ?_
    refine x_iconst (pc := 12) (v := 0) K dX6_as_12 (by decide) ?_
    refine x_bipush (pc := 13) (v := 6) K dX6_as_13 (by decide) ?_
    refine x_S3i (pc := 15) K (c_yX6_within) mw_yX6_within st_yX6_within mk_X6_73 ⟨Nat.le_of_ble_eq_true rfl, Nat.le_of_ble_eq_true rfl, Nat.le_of_ble_eq_true rfl⟩ dX6_as_15 ?_
    refine x_ifne_b (pc := 18) (tgt := 27) K dX6_as_18 (by decide) (fun c_18 => ?_) (fun c_18 => ?_)
    · obtain ⟨j, hj, rfl⟩ := hs_of (v := span) (n := n) (by omega) (by rw [← hn]; exact c_8)
      have hj9 : j < 9 := by omega
      have hjc : (nI j).toNatClampNeg = j := nI_clamp (by omega)
      refine x_aload_n (pc := 27) (i := 0) K dX6_as_27 rfl rfl ?_
      refine gf_X6_10 (pc := 28)  K dX6_as_28 ?_
      refine gf_X6_77 (pc := 31) (by decide) K dX6_as_31 ?_
      refine x_iload_n (pc := 34) (i := 1) K dX6_as_34 rfl rfl ?_
      refine ab_Sp (pc := 35) (by decide) j hj9 K dX6_as_35 ?_
      refine x_astore_n (pc := 36) (i := 3) K dX6_as_36 rfl rfl (by decide) ?_
      refine x_aload_n (pc := 37) (i := 3) K dX6_as_37 rfl rfl ?_
      refine gf_X6_81 (pc := 38) (by decide) hj9 K dX6_as_38 ?_
      refine x_iload_n (pc := 41) (i := 2) K dX6_as_41 rfl rfl ?_
      refine x_S2i (pc := 42) K (c_yX6_isUnder) mw_yX6_isUnder st_yX6_isUnder mk_X6_115 ⟨Nat.le_of_ble_eq_true rfl, Nat.le_of_ble_eq_true rfl, Nat.le_of_ble_eq_true rfl⟩ dX6_as_42 ?_
      refine x_ifne_b (pc := 45) (tgt := 54) K dX6_as_45 (by decide) (fun c_45 => ?_) (fun c_45 => ?_)
      · refine x_aload_n (pc := 54) (i := 3) K dX6_as_54 rfl rfl ?_
        refine gf_X6_86 (pc := 55) (by decide) hj9 K dX6_as_55 ?_
        exact x_iretI (pc := 58) K dX6_as_58 ⟨by simp (decide := true) only [f_as, q_errP, c_8, c_18, c_45, ↓reduceIte, Bool.false_eq_true, bI_t, bI_f, hjc], by simp (decide := true) only [f_as, q_errP, c_8, c_18, c_45, ↓reduceIte, Bool.false_eq_true, bI_t, bI_f, hjc], rfl⟩
      · refine x_aload_n (pc := 48) (i := 0) K dX6_as_48 rfl rfl ?_
        refine x_iconst (pc := 49) (v := 5) K dX6_as_49 (by decide) ?_
        refine x_V1i (pc := 50) K (c_yX6_error (j := 5) (by decide)) mw_yX6_error ⟨im_yX6_error, se_yX6_error⟩ mk_X6_59 rc_B rfl ⟨Nat.le_of_ble_eq_true rfl, Nat.le_of_ble_eq_true rfl, Nat.le_of_ble_eq_true rfl⟩ dX6_as_50 ?_
        exact x_iretI (pc := 53) K dX6_as_53 ⟨by simp (decide := true) only [f_as, q_errP, c_8, c_18, c_45, ↓reduceIte, Bool.false_eq_true, bI_t, bI_f, hjc], by simp (decide := true) only [f_as, q_errP, c_8, c_18, c_45, ↓reduceIte, Bool.false_eq_true, bI_t, bI_f, hjc], rfl⟩
    · refine x_aload_n (pc := 21) (i := 0) K dX6_as_21 rfl rfl ?_
      refine x_iconst (pc := 22) (v := 1) K dX6_as_22 (by decide) ?_
      refine x_V1i (pc := 23) K (c_yX6_error (j := 1) (by decide)) mw_yX6_error ⟨im_yX6_error, se_yX6_error⟩ mk_X6_59 rc_B rfl ⟨Nat.le_of_ble_eq_true rfl, Nat.le_of_ble_eq_true rfl, Nat.le_of_ble_eq_true rfl⟩ dX6_as_23 ?_
      exact x_iretI (pc := 26) K dX6_as_26 ⟨by simp (decide := true) only [f_as, q_errP, c_8, c_18, ↓reduceIte, Bool.false_eq_true, bI_t, bI_f], by simp (decide := true) only [f_as, q_errP, c_8, c_18, ↓reduceIte, Bool.false_eq_true, bI_t, bI_f], rfl⟩

def f_soak (α : Af) (span wet : Int32) : Int32 × Af := if q_within span 0 (α (idD 0) 1 - 1) = true then (if q_within wet 0 9 = true then (α (idS 0 span.toNatClampNeg) 5, up α (idS 0 span.toNatClampNeg) 5 wet) else q_errP α 1) else q_errP α 1
set_option maxRecDepth 100000 in
set_option maxHeartbeats 4000000 in
theorem c_yX6_soak {l : Launch} {G : Gm} {α ρ : Af} {span wet : Int32} (hI : IC α) : CI 1 l G yX6_soak (Cond.code yX6_soak cX6_soak 5 (some .int)) 100 [.ref (gA G idB), .int span, .int wet] α ρ (PI (f_soak α span wet).1 (f_soak α span wet).2 ρ) := by
  obtain ⟨⟨n, h9, hn⟩, hLk, hBk, hV, ⟨t, h60, ht⟩, ⟨w, h24, hw⟩, hSh, hRb, hTp⟩ := hI
  refine CI.of [some (.ref (gA G idB)), some (.int span), some (.int wet), none, none] (by decide) (Nat.le_of_ble_eq_true rfl) rfl rfl (fun C K => ?_)
  have K : Ok l _ G C RX6 cX6_soak (some .int) 5 := K
  refine x_aload_n (pc := 0) (i := 0) K dX6_soak_0 rfl rfl ?_
  refine gf_X6_10 (pc := 1)  K dX6_soak_1 ?_
  refine x_iload_n (pc := 4) (i := 1) K dX6_soak_4 rfl rfl ?_
  refine x_V1i (pc := 5) K (c_yX0_hasSpan (by decide)) mw_yX0_hasSpan ⟨im_yX0_hasSpan, se_yX0_hasSpan⟩ mk_X6_70 (rc_D (by decide)) rfl ⟨Nat.le_of_ble_eq_true rfl, Nat.le_of_ble_eq_true rfl, Nat.le_of_ble_eq_true rfl⟩ dX6_soak_5 ?_
  refine x_ifeq_b (pc := 8) (tgt := 21) K dX6_soak_8 (by decide) (fun c_8 => ?_) (fun c_8 => ?_)
  · refine x_aload_n (pc := 21) (i := 0) K dX6_soak_21 rfl rfl ?_
    refine x_iconst (pc := 22) (v := 1) K dX6_soak_22 (by decide) ?_
    refine x_V1i (pc := 23) K (c_yX6_error (j := 1) (by decide)) mw_yX6_error ⟨im_yX6_error, se_yX6_error⟩ mk_X6_59 rc_B rfl ⟨Nat.le_of_ble_eq_true rfl, Nat.le_of_ble_eq_true rfl, Nat.le_of_ble_eq_true rfl⟩ dX6_soak_23 ?_
    exact x_iretI (pc := 26) K dX6_soak_26 ⟨by simp (decide := true) only [f_soak, q_errP, c_8, ↓reduceIte, Bool.false_eq_true, bI_t, bI_f], by simp (decide := true) only [f_soak, q_errP, c_8, ↓reduceIte, Bool.false_eq_true, bI_t, bI_f], rfl⟩
  · refine x_iload_n (pc := 11) (i := 2) K dX6_soak_11 rfl rfl ?_
    refine x_iconst (pc := 12) (v := 0) K dX6_soak_12 (by decide) ?_
    refine x_bipush (pc := 13) (v := 9) K dX6_soak_13 (by decide) ?_
    refine x_S3i (pc := 15) K (c_yX6_within) mw_yX6_within st_yX6_within mk_X6_73 ⟨Nat.le_of_ble_eq_true rfl, Nat.le_of_ble_eq_true rfl, Nat.le_of_ble_eq_true rfl⟩ dX6_soak_15 ?_
    refine x_ifne_b (pc := 18) (tgt := 27) K dX6_soak_18 (by decide) (fun c_18 => ?_) (fun c_18 => ?_)
    · obtain ⟨j, hj, rfl⟩ := hs_of (v := span) (n := n) (by omega) (by rw [← hn]; exact c_8)
      have hj9 : j < 9 := by omega
      have hjc : (nI j).toNatClampNeg = j := nI_clamp (by omega)
      refine x_aload_n (pc := 27) (i := 0) K dX6_soak_27 rfl rfl ?_
      refine gf_X6_10 (pc := 28)  K dX6_soak_28 ?_
      refine gf_X6_77 (pc := 31) (by decide) K dX6_soak_31 ?_
      refine x_iload_n (pc := 34) (i := 1) K dX6_soak_34 rfl rfl ?_
      refine ab_Sp (pc := 35) (by decide) j hj9 K dX6_soak_35 ?_
      refine x_astore_n (pc := 36) (i := 3) K dX6_soak_36 rfl rfl (by decide) ?_
      refine x_aload_n (pc := 37) (i := 3) K dX6_soak_37 rfl rfl ?_
      refine gf_X6_98 (pc := 38) (by decide) hj9 K dX6_soak_38 ?_
      refine x_istore (pc := 41) (i := 4) K dX6_soak_41 rfl (by decide) ?_
      refine x_aload_n (pc := 43) (i := 3) K dX6_soak_43 rfl rfl ?_
      refine x_iload_n (pc := 44) (i := 2) K dX6_soak_44 rfl rfl ?_
      refine pf_X6_98 (pc := 45) (by decide) hj9 K dX6_soak_45 ?_
      refine x_iload (pc := 48) (i := 4) K dX6_soak_48 rfl ?_
      exact x_iretI (pc := 50) K dX6_soak_50 ⟨by simp (decide := true) only [f_soak, q_errP, c_8, c_18, ↓reduceIte, Bool.false_eq_true, bI_t, bI_f, hjc], by simp (decide := true) only [f_soak, q_errP, c_8, c_18, ↓reduceIte, Bool.false_eq_true, bI_t, bI_f, hjc], rfl⟩
    · refine x_aload_n (pc := 21) (i := 0) K dX6_soak_21 rfl rfl ?_
      refine x_iconst (pc := 22) (v := 1) K dX6_soak_22 (by decide) ?_
      refine x_V1i (pc := 23) K (c_yX6_error (j := 1) (by decide)) mw_yX6_error ⟨im_yX6_error, se_yX6_error⟩ mk_X6_59 rc_B rfl ⟨Nat.le_of_ble_eq_true rfl, Nat.le_of_ble_eq_true rfl, Nat.le_of_ble_eq_true rfl⟩ dX6_soak_23 ?_
      exact x_iretI (pc := 26) K dX6_soak_26 ⟨by simp (decide := true) only [f_soak, q_errP, c_8, c_18, ↓reduceIte, Bool.false_eq_true, bI_t, bI_f], by simp (decide := true) only [f_soak, q_errP, c_8, c_18, ↓reduceIte, Bool.false_eq_true, bI_t, bI_f], rfl⟩

def f_bakes (α : Af) (span : Int32) : Int32 × Af := if q_within span 0 (α (idD 0) 1 - 1) = true then (if q_takesU α 0 span.toNatClampNeg ≤ α (idD 0) 3 then (q_takesU α 0 span.toNatClampNeg, q_bake (up α (idD 0) 3 (α (idD 0) 3 - q_takesU α 0 span.toNatClampNeg)) (idS 0 span.toNatClampNeg)) else q_errP α 3) else q_errP α 1
set_option maxRecDepth 100000 in
set_option maxHeartbeats 4000000 in
theorem c_yX6_bakes {l : Launch} {G : Gm} {α ρ : Af} {span : Int32} (hI : IC α) : CI 1 l G yX6_bakes (Cond.code yX6_bakes cX6_bakes 4 (some .int)) 100 [.ref (gA G idB), .int span] α ρ (PI (f_bakes α span).1 (f_bakes α span).2 ρ) := by
  obtain ⟨⟨n, h9, hn⟩, hLk, hBk, hV, ⟨t, h60, ht⟩, ⟨w, h24, hw⟩, hSh, hRb, hTp⟩ := hI
  refine CI.of [some (.ref (gA G idB)), some (.int span), none, none] (by decide) (Nat.le_of_ble_eq_true rfl) rfl rfl (fun C K => ?_)
  have K : Ok l _ G C RX6 cX6_bakes (some .int) 4 := K
  refine x_aload_n (pc := 0) (i := 0) K dX6_bakes_0 rfl rfl ?_
  refine gf_X6_10 (pc := 1)  K dX6_bakes_1 ?_
  refine x_iload_n (pc := 4) (i := 1) K dX6_bakes_4 rfl rfl ?_
  refine x_V1i (pc := 5) K (c_yX0_hasSpan (by decide)) mw_yX0_hasSpan ⟨im_yX0_hasSpan, se_yX0_hasSpan⟩ mk_X6_70 (rc_D (by decide)) rfl ⟨Nat.le_of_ble_eq_true rfl, Nat.le_of_ble_eq_true rfl, Nat.le_of_ble_eq_true rfl⟩ dX6_bakes_5 ?_
  refine x_ifne_b (pc := 8) (tgt := 17) K dX6_bakes_8 (by decide) (fun c_8 => ?_) (fun c_8 => ?_)
  · obtain ⟨j, hj, rfl⟩ := hs_of (v := span) (n := n) (by omega) (by rw [← hn]; exact c_8)
    have hj9 : j < 9 := by omega
    have hjc : (nI j).toNatClampNeg = j := nI_clamp (by omega)
    refine x_aload_n (pc := 17) (i := 0) K dX6_bakes_17 rfl rfl ?_
    refine gf_X6_10 (pc := 18)  K dX6_bakes_18 ?_
    refine gf_X6_77 (pc := 21) (by decide) K dX6_bakes_21 ?_
    refine x_iload_n (pc := 24) (i := 1) K dX6_bakes_24 rfl rfl ?_
    refine ab_Sp (pc := 25) (by decide) j hj9 K dX6_bakes_25 ?_
    refine x_astore_n (pc := 26) (i := 2) K dX6_bakes_26 rfl rfl (by decide) ?_
    refine x_aload_n (pc := 27) (i := 2) K dX6_bakes_27 rfl rfl ?_
    refine x_V0i (pc := 28) K (c1_takes (by decide) hj9) mw_yX4_takes ⟨im_yX4_takes, se_yX4_takes⟩ mk_X6_111 (rc_S (by decide) hj9) rfl ⟨Nat.le_of_ble_eq_true rfl, Nat.le_of_ble_eq_true rfl, Nat.le_of_ble_eq_true rfl⟩ dX6_bakes_28 ?_
    refine x_istore_n (pc := 31) (i := 3) K dX6_bakes_31 rfl rfl (by decide) ?_
    refine x_aload_n (pc := 32) (i := 0) K dX6_bakes_32 rfl rfl ?_
    refine gf_X6_10 (pc := 33)  K dX6_bakes_33 ?_
    refine gf_X6_118 (pc := 36) (by decide) K dX6_bakes_36 ?_
    refine x_iload_n (pc := 39) (i := 3) K dX6_bakes_39 rfl rfl ?_
    refine x_icmp_ge (pc := 40) (tgt := 49) K dX6_bakes_40 (by decide) (fun c_40 => ?_) (fun c_40 => ?_)
    · refine x_aload_n (pc := 49) (i := 0) K dX6_bakes_49 rfl rfl ?_
      refine gf_X6_10 (pc := 50)  K dX6_bakes_50 ?_
      refine x_dup (pc := 53) K dX6_bakes_53 rfl ?_
      refine gf_X6_118 (pc := 54) (by decide) K dX6_bakes_54 ?_
      refine x_iload_n (pc := 57) (i := 3) K dX6_bakes_57 rfl rfl ?_
      refine x_isub (pc := 58) K dX6_bakes_58 ?_
      refine pf_X6_118 (pc := 59) (by decide) K dX6_bakes_59 ?_
      refine x_aload_n (pc := 62) (i := 2) K dX6_bakes_62 rfl rfl ?_
      refine x_V0v (pc := 63) K (c_yX4_bakeAnew (by decide) hj9) mw_yX4_bakeAnew ⟨im_yX4_bakeAnew, se_yX4_bakeAnew⟩ mk_X6_121 (rc_S (by decide) hj9) rfl ⟨Nat.le_of_ble_eq_true rfl, Nat.le_of_ble_eq_true rfl, Nat.le_of_ble_eq_true rfl⟩ dX6_bakes_63 ?_
      refine x_iload_n (pc := 66) (i := 3) K dX6_bakes_66 rfl rfl ?_
      exact x_iretI (pc := 67) K dX6_bakes_67 ⟨by simp (decide := true) only [f_bakes, q_errP, c_8, if_pos c_40, ↓reduceIte, Bool.false_eq_true, bI_t, bI_f, hjc], by simp (decide := true) only [f_bakes, q_errP, c_8, if_pos c_40, ↓reduceIte, Bool.false_eq_true, bI_t, bI_f, hjc], rfl⟩
    · refine x_aload_n (pc := 43) (i := 0) K dX6_bakes_43 rfl rfl ?_
      refine x_iconst (pc := 44) (v := 3) K dX6_bakes_44 (by decide) ?_
      refine x_V1i (pc := 45) K (c_yX6_error (j := 3) (by decide)) mw_yX6_error ⟨im_yX6_error, se_yX6_error⟩ mk_X6_59 rc_B rfl ⟨Nat.le_of_ble_eq_true rfl, Nat.le_of_ble_eq_true rfl, Nat.le_of_ble_eq_true rfl⟩ dX6_bakes_45 ?_
      exact x_iretI (pc := 48) K dX6_bakes_48 ⟨by simp (decide := true) only [f_bakes, q_errP, c_8, if_neg c_40, ↓reduceIte, Bool.false_eq_true, bI_t, bI_f, hjc], by simp (decide := true) only [f_bakes, q_errP, c_8, if_neg c_40, ↓reduceIte, Bool.false_eq_true, bI_t, bI_f, hjc], rfl⟩
  · refine x_aload_n (pc := 11) (i := 0) K dX6_bakes_11 rfl rfl ?_
    refine x_iconst (pc := 12) (v := 1) K dX6_bakes_12 (by decide) ?_
    refine x_V1i (pc := 13) K (c_yX6_error (j := 1) (by decide)) mw_yX6_error ⟨im_yX6_error, se_yX6_error⟩ mk_X6_59 rc_B rfl ⟨Nat.le_of_ble_eq_true rfl, Nat.le_of_ble_eq_true rfl, Nat.le_of_ble_eq_true rfl⟩ dX6_bakes_13 ?_
    exact x_iretI (pc := 16) K dX6_bakes_16 ⟨by simp (decide := true) only [f_bakes, q_errP, c_8, ↓reduceIte, Bool.false_eq_true, bI_t, bI_f], by simp (decide := true) only [f_bakes, q_errP, c_8, ↓reduceIte, Bool.false_eq_true, bI_t, bI_f], rfl⟩

def f_eat (α : Af) (span : Int32) : Int32 × Af := if q_within span 0 (α (idD 0) 1 - 1) = true then (if α (idS 0 span.toNatClampNeg) 6 = 0 then 0 else 1, up α (idS 0 span.toNatClampNeg) 6 1) else q_errP α 1
set_option maxRecDepth 100000 in
set_option maxHeartbeats 4000000 in
theorem c_yX6_eat {l : Launch} {G : Gm} {α ρ : Af} {span : Int32} (hI : IC α) : CI 1 l G yX6_eat (Cond.code yX6_eat cX6_eat 4 (some .int)) 100 [.ref (gA G idB), .int span] α ρ (PI (f_eat α span).1 (f_eat α span).2 ρ) := by
  obtain ⟨⟨n, h9, hn⟩, hLk, hBk, hV, ⟨t, h60, ht⟩, ⟨w, h24, hw⟩, hSh, hRb, hTp⟩ := hI
  refine CI.of [some (.ref (gA G idB)), some (.int span), none, none] (by decide) (Nat.le_of_ble_eq_true rfl) rfl rfl (fun C K => ?_)
  have K : Ok l _ G C RX6 cX6_eat (some .int) 4 := K
  refine x_aload_n (pc := 0) (i := 0) K dX6_eat_0 rfl rfl ?_
  refine gf_X6_10 (pc := 1)  K dX6_eat_1 ?_
  refine x_iload_n (pc := 4) (i := 1) K dX6_eat_4 rfl rfl ?_
  refine x_V1i (pc := 5) K (c_yX0_hasSpan (by decide)) mw_yX0_hasSpan ⟨im_yX0_hasSpan, se_yX0_hasSpan⟩ mk_X6_70 (rc_D (by decide)) rfl ⟨Nat.le_of_ble_eq_true rfl, Nat.le_of_ble_eq_true rfl, Nat.le_of_ble_eq_true rfl⟩ dX6_eat_5 ?_
  refine x_ifne_b (pc := 8) (tgt := 17) K dX6_eat_8 (by decide) (fun c_8 => ?_) (fun c_8 => ?_)
  · obtain ⟨j, hj, rfl⟩ := hs_of (v := span) (n := n) (by omega) (by rw [← hn]; exact c_8)
    have hj9 : j < 9 := by omega
    have hjc : (nI j).toNatClampNeg = j := nI_clamp (by omega)
    refine x_aload_n (pc := 17) (i := 0) K dX6_eat_17 rfl rfl ?_
    refine gf_X6_10 (pc := 18)  K dX6_eat_18 ?_
    refine gf_X6_77 (pc := 21) (by decide) K dX6_eat_21 ?_
    refine x_iload_n (pc := 24) (i := 1) K dX6_eat_24 rfl rfl ?_
    refine ab_Sp (pc := 25) (by decide) j hj9 K dX6_eat_25 ?_
    refine x_astore_n (pc := 26) (i := 2) K dX6_eat_26 rfl rfl (by decide) ?_
    refine x_aload_n (pc := 27) (i := 2) K dX6_eat_27 rfl rfl ?_
    refine gf_X6_101 (pc := 28) (by decide) hj9 K dX6_eat_28 ?_
    refine x_if_eq (pc := 31) (tgt := 38) K dX6_eat_31 (by decide) (fun c_31 => ?_) (fun c_31 => ?_)
    · refine x_iconst (pc := 38) (v := 0) K dX6_eat_38 (by decide) ?_
      refine x_istore_n (pc := 39) (i := 3) K dX6_eat_39 rfl rfl (by decide) ?_
      refine x_aload_n (pc := 40) (i := 2) K dX6_eat_40 rfl rfl ?_
      refine x_iconst (pc := 41) (v := 1) K dX6_eat_41 (by decide) ?_
      refine pf_X6_101 (pc := 42) (by decide) hj9 K ⟨rfl, rfl⟩ dX6_eat_42 ?_
      refine x_iload_n (pc := 45) (i := 3) K dX6_eat_45 rfl rfl ?_
      exact x_iretI (pc := 46) K dX6_eat_46 ⟨by simp (decide := true) only [f_eat, q_errP, c_8, if_pos c_31, ↓reduceIte, Bool.false_eq_true, bI_t, bI_f, hjc], by simp (decide := true) only [f_eat, q_errP, c_8, if_pos c_31, ↓reduceIte, Bool.false_eq_true, bI_t, bI_f, hjc], rfl⟩
    · refine x_iconst (pc := 34) (v := 1) K dX6_eat_34 (by decide) ?_
      refine x_goto (pc := 35) (tgt := 39) K dX6_eat_35 (by decide) ?_
      refine x_istore_n (pc := 39) (i := 3) K dX6_eat_39 rfl rfl (by decide) ?_
      refine x_aload_n (pc := 40) (i := 2) K dX6_eat_40 rfl rfl ?_
      refine x_iconst (pc := 41) (v := 1) K dX6_eat_41 (by decide) ?_
      refine pf_X6_101 (pc := 42) (by decide) hj9 K ⟨rfl, rfl⟩ dX6_eat_42 ?_
      refine x_iload_n (pc := 45) (i := 3) K dX6_eat_45 rfl rfl ?_
      exact x_iretI (pc := 46) K dX6_eat_46 ⟨by simp (decide := true) only [f_eat, q_errP, c_8, if_neg c_31, ↓reduceIte, Bool.false_eq_true, bI_t, bI_f, hjc], by simp (decide := true) only [f_eat, q_errP, c_8, if_neg c_31, ↓reduceIte, Bool.false_eq_true, bI_t, bI_f, hjc], rfl⟩
  · refine x_aload_n (pc := 11) (i := 0) K dX6_eat_11 rfl rfl ?_
    refine x_iconst (pc := 12) (v := 1) K dX6_eat_12 (by decide) ?_
    refine x_V1i (pc := 13) K (c_yX6_error (j := 1) (by decide)) mw_yX6_error ⟨im_yX6_error, se_yX6_error⟩ mk_X6_59 rc_B rfl ⟨Nat.le_of_ble_eq_true rfl, Nat.le_of_ble_eq_true rfl, Nat.le_of_ble_eq_true rfl⟩ dX6_eat_13 ?_
    exact x_iretI (pc := 16) K dX6_eat_16 ⟨by simp (decide := true) only [f_eat, q_errP, c_8, ↓reduceIte, Bool.false_eq_true, bI_t, bI_f], by simp (decide := true) only [f_eat, q_errP, c_8, ↓reduceIte, Bool.false_eq_true, bI_t, bI_f], rfl⟩

def f_store (α : Af) (what v : Int32) : Int32 × Af := if q_within what 0 1 = true then (if q_within v 0 (if what = 0 then 9999 else 9) = true then (if what = 0 then (α (idD 0) 3, up α (idD 0) 3 v) else (α (idD 0) 2, up α (idD 0) 2 v)) else q_errP α 1) else q_errP α 1
set_option maxRecDepth 100000 in
set_option maxHeartbeats 4000000 in
theorem c_yX6_store {l : Launch} {G : Gm} {α ρ : Af} {what v : Int32} (hI : IC α) : CI 1 l G yX6_store (Cond.code yX6_store cX6_store 4 (some .int)) 100 [.ref (gA G idB), .int what, .int v] α ρ (PI (f_store α what v).1 (f_store α what v).2 ρ) := by
  obtain ⟨⟨n, h9, hn⟩, hLk, hBk, hV, ⟨t, h60, ht⟩, ⟨w, h24, hw⟩, hSh, hRb, hTp⟩ := hI
  refine CI.of [some (.ref (gA G idB)), some (.int what), some (.int v), none] (by decide) (Nat.le_of_ble_eq_true rfl) rfl rfl (fun C K => ?_)
  have K : Ok l _ G C RX6 cX6_store (some .int) 4 := K
  refine x_iload_n (pc := 0) (i := 1) K dX6_store_0 rfl rfl ?_
  refine x_iconst (pc := 1) (v := 0) K dX6_store_1 (by decide) ?_
  refine x_iconst (pc := 2) (v := 1) K dX6_store_2 (by decide) ?_
  refine x_S3i (pc := 3) K (c_yX6_within) mw_yX6_within st_yX6_within mk_X6_73 ⟨Nat.le_of_ble_eq_true rfl, Nat.le_of_ble_eq_true rfl, Nat.le_of_ble_eq_true rfl⟩ dX6_store_3 ?_
  refine x_ifeq_b (pc := 6) (tgt := 29) K dX6_store_6 (by decide) (fun c_6 => ?_) (fun c_6 => ?_)
  · refine x_aload_n (pc := 29) (i := 0) K dX6_store_29 rfl rfl ?_
    refine x_iconst (pc := 30) (v := 1) K dX6_store_30 (by decide) ?_
    refine x_V1i (pc := 31) K (c_yX6_error (j := 1) (by decide)) mw_yX6_error ⟨im_yX6_error, se_yX6_error⟩ mk_X6_59 rc_B rfl ⟨Nat.le_of_ble_eq_true rfl, Nat.le_of_ble_eq_true rfl, Nat.le_of_ble_eq_true rfl⟩ dX6_store_31 ?_
    exact x_iretI (pc := 34) K dX6_store_34 ⟨by simp (decide := true) only [f_store, q_errP, c_6, ↓reduceIte, Bool.false_eq_true, bI_t, bI_f], by simp (decide := true) only [f_store, q_errP, c_6, ↓reduceIte, Bool.false_eq_true, bI_t, bI_f], rfl⟩
  · refine x_iload_n (pc := 9) (i := 2) K dX6_store_9 rfl rfl ?_
    refine x_iconst (pc := 10) (v := 0) K dX6_store_10 (by decide) ?_
    refine x_iload_n (pc := 11) (i := 1) K dX6_store_11 rfl rfl ?_
    refine x_if_ne (pc := 12) (tgt := 21) K dX6_store_12 (by decide) (fun c_12 => ?_) (fun c_12 => ?_)
    · refine x_bipush (pc := 21) (v := 9) K dX6_store_21 (by decide) ?_
      refine x_S3i (pc := 23) K (c_yX6_within) mw_yX6_within st_yX6_within mk_X6_73 ⟨Nat.le_of_ble_eq_true rfl, Nat.le_of_ble_eq_true rfl, Nat.le_of_ble_eq_true rfl⟩ dX6_store_23 ?_
      refine x_ifne_b (pc := 26) (tgt := 35) K dX6_store_26 (by decide) (fun c_26 => ?_) (fun c_26 => ?_)
      · refine x_iload_n (pc := 35) (i := 1) K dX6_store_35 rfl rfl ?_
        refine x_if_ne (pc := 36) (tgt := 58) K dX6_store_36 (by decide) (fun c_36 => ?_) (fun c_36 => ?_)
        · refine x_aload_n (pc := 58) (i := 0) K dX6_store_58 rfl rfl ?_
          refine gf_X6_10 (pc := 59)  K dX6_store_59 ?_
          refine gf_X6_124 (pc := 62) (by decide) K dX6_store_62 ?_
          refine x_istore_n (pc := 65) (i := 3) K dX6_store_65 rfl rfl (by decide) ?_
          refine x_aload_n (pc := 66) (i := 0) K dX6_store_66 rfl rfl ?_
          refine gf_X6_10 (pc := 67)  K dX6_store_67 ?_
          refine x_iload_n (pc := 70) (i := 2) K dX6_store_70 rfl rfl ?_
          refine pf_X6_124 (pc := 71) (by decide) K dX6_store_71 ?_
          refine x_iload_n (pc := 74) (i := 3) K dX6_store_74 rfl rfl ?_
          exact x_iretI (pc := 75) K dX6_store_75 ⟨by simp (decide := true) only [f_store, q_errP, c_6, if_neg c_12, c_26, if_neg c_36, ↓reduceIte, Bool.false_eq_true, bI_t, bI_f], by simp (decide := true) only [f_store, q_errP, c_6, if_neg c_12, c_26, if_neg c_36, ↓reduceIte, Bool.false_eq_true, bI_t, bI_f], rfl⟩
        · exact absurd c_36 c_12
      · refine x_aload_n (pc := 29) (i := 0) K dX6_store_29 rfl rfl ?_
        refine x_iconst (pc := 30) (v := 1) K dX6_store_30 (by decide) ?_
        refine x_V1i (pc := 31) K (c_yX6_error (j := 1) (by decide)) mw_yX6_error ⟨im_yX6_error, se_yX6_error⟩ mk_X6_59 rc_B rfl ⟨Nat.le_of_ble_eq_true rfl, Nat.le_of_ble_eq_true rfl, Nat.le_of_ble_eq_true rfl⟩ dX6_store_31 ?_
        exact x_iretI (pc := 34) K dX6_store_34 ⟨by simp (decide := true) only [f_store, q_errP, c_6, if_neg c_12, c_26, ↓reduceIte, Bool.false_eq_true, bI_t, bI_f], by simp (decide := true) only [f_store, q_errP, c_6, if_neg c_12, c_26, ↓reduceIte, Bool.false_eq_true, bI_t, bI_f], rfl⟩
    · refine x_sipush (pc := 15) (v := 9999) K dX6_store_15 (by decide) ?_
      refine x_goto (pc := 18) (tgt := 23) K dX6_store_18 (by decide) ?_
      refine x_S3i (pc := 23) K (c_yX6_within) mw_yX6_within st_yX6_within mk_X6_73 ⟨Nat.le_of_ble_eq_true rfl, Nat.le_of_ble_eq_true rfl, Nat.le_of_ble_eq_true rfl⟩ dX6_store_23 ?_
      refine x_ifne_b (pc := 26) (tgt := 35) K dX6_store_26 (by decide) (fun c_26 => ?_) (fun c_26 => ?_)
      · refine x_iload_n (pc := 35) (i := 1) K dX6_store_35 rfl rfl ?_
        refine x_if_ne (pc := 36) (tgt := 58) K dX6_store_36 (by decide) (fun c_36 => ?_) (fun c_36 => ?_)
        · exact absurd c_12 c_36
        · refine x_aload_n (pc := 39) (i := 0) K dX6_store_39 rfl rfl ?_
          refine gf_X6_10 (pc := 40)  K dX6_store_40 ?_
          refine gf_X6_118 (pc := 43) (by decide) K dX6_store_43 ?_
          refine x_istore_n (pc := 46) (i := 3) K dX6_store_46 rfl rfl (by decide) ?_
          refine x_aload_n (pc := 47) (i := 0) K dX6_store_47 rfl rfl ?_
          refine gf_X6_10 (pc := 48)  K dX6_store_48 ?_
          refine x_iload_n (pc := 51) (i := 2) K dX6_store_51 rfl rfl ?_
          refine pf_X6_118 (pc := 52) (by decide) K dX6_store_52 ?_
          refine x_goto (pc := 55) (tgt := 74) K dX6_store_55 (by decide) ?_
          refine x_iload_n (pc := 74) (i := 3) K dX6_store_74 rfl rfl ?_
          exact x_iretI (pc := 75) K dX6_store_75 ⟨by simp (decide := true) only [f_store, q_errP, c_6, if_pos c_12, c_26, if_pos c_36, ↓reduceIte, Bool.false_eq_true, bI_t, bI_f], by simp (decide := true) only [f_store, q_errP, c_6, if_pos c_12, c_26, if_pos c_36, ↓reduceIte, Bool.false_eq_true, bI_t, bI_f], rfl⟩
      · refine x_aload_n (pc := 29) (i := 0) K dX6_store_29 rfl rfl ?_
        refine x_iconst (pc := 30) (v := 1) K dX6_store_30 (by decide) ?_
        refine x_V1i (pc := 31) K (c_yX6_error (j := 1) (by decide)) mw_yX6_error ⟨im_yX6_error, se_yX6_error⟩ mk_X6_59 rc_B rfl ⟨Nat.le_of_ble_eq_true rfl, Nat.le_of_ble_eq_true rfl, Nat.le_of_ble_eq_true rfl⟩ dX6_store_31 ?_
        exact x_iretI (pc := 34) K dX6_store_34 ⟨by simp (decide := true) only [f_store, q_errP, c_6, if_pos c_12, c_26, ↓reduceIte, Bool.false_eq_true, bI_t, bI_f], by simp (decide := true) only [f_store, q_errP, c_6, if_pos c_12, c_26, ↓reduceIte, Bool.false_eq_true, bI_t, bI_f], rfl⟩

def f_cross (α : Af) (span load : Int32) : Int32 × Af := if q_within span 0 (α (idD 0) 1 - 1) = true then (if q_isLoad load = true then (if α (idS 0 span.toNatClampNeg) 6 = 0 then (q_carryV α 0 span.toNatClampNeg load, q_carryS α 0 span.toNatClampNeg load) else q_errP α 3) else q_errP α 1) else q_errP α 1
set_option maxRecDepth 100000 in
set_option maxHeartbeats 4000000 in
theorem c_yX6_cross {l : Launch} {G : Gm} {α ρ : Af} {span load : Int32} (hI : IC α) : CI 1 l G yX6_cross (Cond.code yX6_cross cX6_cross 4 (some .int)) 100 [.ref (gA G idB), .int span, .int load] α ρ (PI (f_cross α span load).1 (f_cross α span load).2 ρ) := by
  obtain ⟨⟨n, h9, hn⟩, hLk, hBk, hV, ⟨t, h60, ht⟩, ⟨w, h24, hw⟩, hSh, hRb, hTp⟩ := hI
  refine CI.of [some (.ref (gA G idB)), some (.int span), some (.int load), none] (by decide) (Nat.le_of_ble_eq_true rfl) rfl rfl (fun C K => ?_)
  have K : Ok l _ G C RX6 cX6_cross (some .int) 4 := K
  refine x_aload_n (pc := 0) (i := 0) K dX6_cross_0 rfl rfl ?_
  refine gf_X6_10 (pc := 1)  K dX6_cross_1 ?_
  refine x_iload_n (pc := 4) (i := 1) K dX6_cross_4 rfl rfl ?_
  refine x_V1i (pc := 5) K (c_yX0_hasSpan (by decide)) mw_yX0_hasSpan ⟨im_yX0_hasSpan, se_yX0_hasSpan⟩ mk_X6_70 (rc_D (by decide)) rfl ⟨Nat.le_of_ble_eq_true rfl, Nat.le_of_ble_eq_true rfl, Nat.le_of_ble_eq_true rfl⟩ dX6_cross_5 ?_
  refine x_ifeq_b (pc := 8) (tgt := 18) K dX6_cross_8 (by decide) (fun c_8 => ?_) (fun c_8 => ?_)
  · refine x_aload_n (pc := 18) (i := 0) K dX6_cross_18 rfl rfl ?_
    refine x_iconst (pc := 19) (v := 1) K dX6_cross_19 (by decide) ?_
    refine x_V1i (pc := 20) K (c_yX6_error (j := 1) (by decide)) mw_yX6_error ⟨im_yX6_error, se_yX6_error⟩ mk_X6_59 rc_B rfl ⟨Nat.le_of_ble_eq_true rfl, Nat.le_of_ble_eq_true rfl, Nat.le_of_ble_eq_true rfl⟩ dX6_cross_20 ?_
    exact x_iretI (pc := 23) K dX6_cross_23 ⟨by simp (decide := true) only [f_cross, q_errP, c_8, ↓reduceIte, Bool.false_eq_true, bI_t, bI_f], by simp (decide := true) only [f_cross, q_errP, c_8, ↓reduceIte, Bool.false_eq_true, bI_t, bI_f], rfl⟩
  · refine x_iload_n (pc := 11) (i := 2) K dX6_cross_11 rfl rfl ?_
    refine x_S1i (pc := 12) K (c_yX6_isLoad) mw_yX6_isLoad st_yX6_isLoad mk_X6_127 ⟨Nat.le_of_ble_eq_true rfl, Nat.le_of_ble_eq_true rfl, Nat.le_of_ble_eq_true rfl⟩ dX6_cross_12 ?_
    refine x_ifne_b (pc := 15) (tgt := 24) K dX6_cross_15 (by decide) (fun c_15 => ?_) (fun c_15 => ?_)
    · obtain ⟨j, hj, rfl⟩ := hs_of (v := span) (n := n) (by omega) (by rw [← hn]; exact c_8)
      have hj9 : j < 9 := by omega
      have hjc : (nI j).toNatClampNeg = j := nI_clamp (by omega)
      refine x_aload_n (pc := 24) (i := 0) K dX6_cross_24 rfl rfl ?_
      refine gf_X6_10 (pc := 25)  K dX6_cross_25 ?_
      refine gf_X6_77 (pc := 28) (by decide) K dX6_cross_28 ?_
      refine x_iload_n (pc := 31) (i := 1) K dX6_cross_31 rfl rfl ?_
      refine ab_Sp (pc := 32) (by decide) j hj9 K dX6_cross_32 ?_
      refine x_astore_n (pc := 33) (i := 3) K dX6_cross_33 rfl rfl (by decide) ?_
      refine x_aload_n (pc := 34) (i := 3) K dX6_cross_34 rfl rfl ?_
      refine gf_X6_101 (pc := 35) (by decide) hj9 K dX6_cross_35 ?_
      refine x_if_eq (pc := 38) (tgt := 47) K dX6_cross_38 (by decide) (fun c_38 => ?_) (fun c_38 => ?_)
      · refine x_aload_n (pc := 47) (i := 0) K dX6_cross_47 rfl rfl ?_
        refine gf_X6_10 (pc := 48)  K dX6_cross_48 ?_
        refine x_aload_n (pc := 51) (i := 3) K dX6_cross_51 rfl rfl ?_
        refine x_iload_n (pc := 52) (i := 2) K dX6_cross_52 rfl rfl ?_
        refine x_V2i (pc := 53) K (c_yX0_carryOver (by decide) hj9 (hLk 0 (by decide))) mw_yX0_carryOver ⟨im_yX0_carryOver, se_yX0_carryOver⟩ mk_X6_130 (rc_D (by decide)) rfl ⟨Nat.le_of_ble_eq_true rfl, Nat.le_of_ble_eq_true rfl, Nat.le_of_ble_eq_true rfl⟩ dX6_cross_53 ?_
        exact x_iretI (pc := 56) K dX6_cross_56 ⟨by simp (decide := true) only [f_cross, q_errP, c_8, c_15, if_pos c_38, ↓reduceIte, Bool.false_eq_true, bI_t, bI_f, hjc], by simp (decide := true) only [f_cross, q_errP, c_8, c_15, if_pos c_38, ↓reduceIte, Bool.false_eq_true, bI_t, bI_f, hjc], rfl⟩
      · refine x_aload_n (pc := 41) (i := 0) K dX6_cross_41 rfl rfl ?_
        refine x_iconst (pc := 42) (v := 3) K dX6_cross_42 (by decide) ?_
        refine x_V1i (pc := 43) K (c_yX6_error (j := 3) (by decide)) mw_yX6_error ⟨im_yX6_error, se_yX6_error⟩ mk_X6_59 rc_B rfl ⟨Nat.le_of_ble_eq_true rfl, Nat.le_of_ble_eq_true rfl, Nat.le_of_ble_eq_true rfl⟩ dX6_cross_43 ?_
        exact x_iretI (pc := 46) K dX6_cross_46 ⟨by simp (decide := true) only [f_cross, q_errP, c_8, c_15, if_neg c_38, ↓reduceIte, Bool.false_eq_true, bI_t, bI_f, hjc], by simp (decide := true) only [f_cross, q_errP, c_8, c_15, if_neg c_38, ↓reduceIte, Bool.false_eq_true, bI_t, bI_f, hjc], rfl⟩
    · refine x_aload_n (pc := 18) (i := 0) K dX6_cross_18 rfl rfl ?_
      refine x_iconst (pc := 19) (v := 1) K dX6_cross_19 (by decide) ?_
      refine x_V1i (pc := 20) K (c_yX6_error (j := 1) (by decide)) mw_yX6_error ⟨im_yX6_error, se_yX6_error⟩ mk_X6_59 rc_B rfl ⟨Nat.le_of_ble_eq_true rfl, Nat.le_of_ble_eq_true rfl, Nat.le_of_ble_eq_true rfl⟩ dX6_cross_20 ?_
      exact x_iretI (pc := 23) K dX6_cross_23 ⟨by simp (decide := true) only [f_cross, q_errP, c_8, c_15, ↓reduceIte, Bool.false_eq_true, bI_t, bI_f], by simp (decide := true) only [f_cross, q_errP, c_8, c_15, ↓reduceIte, Bool.false_eq_true, bI_t, bI_f], rfl⟩
