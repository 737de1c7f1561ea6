/-! ## calls that change the row now -/
def Qq (α ρ : Af) (n d : Nat) : Prop := R α ρ ∧ RowR α 0 (ρ mRow) n ∧ ρ mRow 0 = nI d ∧ d ≤ 9999
theorem R.q {α ρ : Af} (h : R α ρ) : ∃ n d, Qq α ρ n d := by
  obtain ⟨n, hr, d, h1, h2⟩ := h.1
  exact ⟨n, d, h, hr, h2, h1⟩
theorem Qq.rn {α ρ : Af} {n d : Nat} (h : Qq α ρ n d) : Rn α ρ n := ⟨h.2.1, d, h.2.2.2, h.2.2.1⟩
theorem Qq.setS {α ρ : Af} {n d u w : Nat} {v : Int32} (h : Qq α ρ n d) (hu : u < n) (hw : w < 7) (hv : SpOk (fun j => if j = w then v else ρ mRow (mS u j))) : Qq (up α (idS 0 u) w v) (up ρ mRow (mS u w) v) n d := by
  refine ⟨h.1.setS h.rn hu hw hv, by rw [up_row]; exact h.2.1.upS (by decide) hw hu hv, ?_, h.2.2.2⟩
  rw [up_row, upd_ne (by have := mS_ge (u := u) (w := w); omega)]; exact h.2.2.1
theorem Qq.setD {α ρ : Af} {n d j k : Nat} {v : Int32} (h : Qq α ρ n d) (hjk : (j = 2 ∧ k = 4) ∨ (j = 3 ∧ k = 3) ∨ (j = 5 ∧ k = 5 ∧ ∃ x, x ≤ 99999 ∧ v = nI x) ∨ (j = 6 ∧ k = 6 ∧ ∃ x, x ≤ 99999 ∧ v = nI x) ∨ (j = 7 ∧ k = 1)) : Qq (up α (idD 0) j v) (up ρ mRow k v) n d := by
  have h1 := h.1.setD h.rn hjk
  refine ⟨h1, ?_, ?_, h.2.2.2⟩
  · obtain ⟨n', hr, -⟩ := h1.1
    have k2 : (2 : Nat) ≠ k := by rcases hjk with ⟨-, rfl⟩ | ⟨-, rfl⟩ | ⟨-, rfl, -⟩ | ⟨-, rfl, -⟩ | ⟨-, rfl⟩ <;> decide
    have e1 : n' = n := by
      have e2 := hr.1.2
      rw [up_row, upd_ne k2, h.2.1.1.2] at e2
      have := h.2.1.1.1
      have := hr.1.1
      exact ((nI_eq (a := n) (b := n') (by omega) (by omega)).mp e2).symm
    rw [← e1]; exact hr
  · have k0 : (0 : Nat) ≠ k := by rcases hjk with ⟨-, rfl⟩ | ⟨-, rfl⟩ | ⟨-, rfl, -⟩ | ⟨-, rfl, -⟩ | ⟨-, rfl⟩ <;> decide
    rw [up_row, upd_ne k0]; exact h.2.2.1
theorem r_go_0 {ρ : Af} {n : Nat} : r_go ρ n mRow 0 = ρ mRow 0 + 1 := by
  unfold r_go
  rw [up_eq, r_gos_lo (by decide)]
theorem Qq.day {α ρ : Af} {n d : Nat} (h : Qq α ρ n d) (hd : d + 1 ≤ 9999) : Qq (q_day α 0 n) (r_go ρ n) n (d + 1) := by
  have h1 : RowR (q_day α 0 n) 0 (r_go ρ n mRow) n := h.2.1.day (by decide)
  have h2 : r_go ρ n mRow 0 = nI (d + 1) := by rw [r_go_0, h.2.2.1]; exact nI_1 d
  exact ⟨h.1.fr (n := n) ⟨h1, d + 1, hd, h2⟩ (fun i a b => q_day_ne a b) (fun i a _ _ => r_go_ne a), h1, h2, hd⟩
theorem Qq.n9 {α ρ : Af} {n d : Nat} (h : Qq α ρ n d) : n ≤ 9 ∧ ρ mRow 2 = nI n ∧ (ρ mRow 2).toNatClampNeg = n := by
  have h9 := h.2.1.1.1
  exact ⟨h9, h.2.1.1.2, by rw [h.2.1.1.2]; exact nI_clamp (by omega)⟩
theorem e_bakes {α ρ : Af} {span : Int32} (h : R α ρ) : Same (f_bakes α span) (g_bakes ρ span) := by
  obtain ⟨n, d, hq⟩ := h.q
  obtain ⟨h9, hn, -⟩ := hq.n9
  have hr := hq.rn
  unfold f_bakes g_bakes
  rw [h.many]
  by_cases c1 : q_within span 0 (ρ mRow 2 - 1) = true
  · rw [if_pos c1, if_pos c1]
    obtain ⟨u, hu, rfl⟩ := hs_of (v := span) (n := n) (by omega) (by rw [← hn]; exact c1)
    rw [nI_clamp (by omega), hr.1.takes hu, hr.1.2.1.2.2.1]
    by_cases c2 : r_takesU ρ u ≤ ρ mRow 3
    · rw [if_pos c2, if_pos c2]
      refine ⟨rfl, ?_⟩
      have q1 := hq.setD (j := 3) (k := 3) (v := ρ mRow 3 - r_takesU ρ u) (Or.inr (Or.inl ⟨rfl, rfl⟩))
      obtain ⟨o0, o1, o2, o3, o4, o5, o6⟩ := q1.rn.ok hu
      have q2 := q1.setS hu (w := 4) (v := 0) (by decide) ⟨o0, o1, o2, o3, ⟨0, by decide, rfl⟩, o5, o6⟩
      obtain ⟨o0, o1, o2, o3, o4, o5, o6⟩ := q2.rn.ok hu
      have q3 := q2.setS hu (w := 5) (v := 0) (by decide) ⟨o0, o1, o2, o3, o4, ⟨0, by decide, rfl⟩, o6⟩
      obtain ⟨o0, o1, o2, o3, o4, o5, o6⟩ := q3.rn.ok hu
      exact (q3.setS hu (w := 6) (v := 0) (by decide) ⟨o0, o1, o2, o3, o4, o5, Or.inl rfl⟩).1
    · rw [if_neg c2, if_neg c2]; exact h.err (by decide)
  · rw [if_neg c1, if_neg c1]; exact h.err (by decide)
theorem cap_eq {x z : Nat} (hx : x ≤ 99999) (hz : z ≤ 99) : (if nI x + nI z < 99999 then nI x + nI z else 99999) = r_held (nI x + nI z) 0 99999 := by
  rw [nI_add]
  have h0 : (0 : Int32) ≤ nI (x + z) := nI_pos' (by omega)
  unfold r_held
  rw [if_pos h0]
  by_cases c : nI (x + z) < 99999
  · rw [if_pos c, if_pos (Int32.le_of_lt c)]
  · rw [if_neg c]
    by_cases c2 : nI (x + z) ≤ 99999
    · rw [if_pos c2]
      have k1 := mt (nI_ltI (a := x + z) (b := 99999) (by omega) (by decide)).mpr c
      have k2 := (nI_leI (a := x + z) (b := 99999) (by omega) (by decide)).mp c2
      rw [show x + z = 99999 by omega]; rfl
    · rw [if_neg c2]
theorem r_gives1 {ρ : Af} {a b c : Int32} : ∃ z, z ≤ 99 ∧ r_gives ρ 1 a b c = nI z := by
  unfold r_gives
  rw [if_neg (show ¬ nI 1 = 0 by decide)]
  exact held_rg (b := 99) (by decide)
theorem Qq.carryV {α ρ : Af} {n d u : Nat} {x : Int32} (h : Qq α ρ n d) (hu : u < n) : q_carryV α 0 u x = r_carryV ρ u x := by
  unfold q_carryV r_carryV
  rw [h.2.1.bears hu, h.rn.sp hu (by decide), show q_gives α 0 1 x (r_bearsU ρ u) (ρ mRow (mS u 1)) = r_gives ρ 1 x (r_bearsU ρ u) (ρ mRow (mS u 1)) from h.2.1.gives (u := 1) (by decide)]
theorem Qq.carry {α ρ : Af} {n d u z : Nat} (h : Qq α ρ n d) (hu : u < n) (hz : z ≤ 99) : Qq (q_carryS α 0 u (nI z)) (r_carryS ρ u (nI z)) n d := by
  obtain ⟨⟨x5, x5h, e5⟩, x6, x6h, e6⟩ := h.2.1.2.2.2.2.2.2
  have hsc := h.2.1.2.1
  unfold q_carryS r_carryS
  rw [h.2.1.bears hu, h.rn.sp hu (by decide), show q_gives α 0 1 (nI z) (r_bearsU ρ u) (ρ mRow (mS u 1)) = r_gives ρ 1 (nI z) (r_bearsU ρ u) (ρ mRow (mS u 1)) from h.2.1.gives (u := 1) (by decide)]
  by_cases c : nI z ≤ r_bearsU ρ u
  · rw [if_pos c, if_pos c, hsc.2.2.2.2.2.1, e6]
    obtain ⟨y, hy, ey⟩ := r_gives1 (ρ := ρ) (a := nI z) (b := r_bearsU ρ u) (c := ρ mRow (mS u 1))
    rw [ey, cap_eq x6h hy]
    exact h.setD (Or.inr (Or.inr (Or.inr (Or.inl ⟨rfl, rfl, held_rg (b := 99999) (by decide)⟩))))
  · rw [if_neg c, if_neg c]
    obtain ⟨o0, o1, o2, o3, o4, o5, o6⟩ := h.rn.ok hu
    have q1 := h.setS hu (w := 6) (v := 1) (by decide) ⟨o0, o1, o2, o3, o4, o5, Or.inr rfl⟩
    have f1 : up α (idS 0 u) 6 1 (idD 0) 5 = nI x5 := by rw [up_ne (nS_D (by decide)), hsc.2.2.2.2.1, e5]
    have f2 : up ρ mRow (mS u 6) 1 mRow 5 = nI x5 := by rw [up_ne2 (by have := mS_ge (u := u) (w := 6); omega), e5]
    rw [f1, f2, cap_eq x5h hz]
    exact q1.setD (Or.inr (Or.inr (Or.inl ⟨rfl, rfl, held_rg (b := 99999) (by decide)⟩)))
theorem e_cross {α ρ : Af} {span load : Int32} (h : R α ρ) : Same (f_cross α span load) (g_cross ρ span load) := by
  obtain ⟨n, d, hq⟩ := h.q
  obtain ⟨h9, hn, -⟩ := hq.n9
  have hr := hq.rn
  unfold f_cross g_cross
  rw [h.many]
  by_cases c1 : q_within span 0 (ρ mRow 2 - 1) = true
  · rw [if_pos c1, if_pos c1]
    obtain ⟨u, hu, rfl⟩ := hs_of (v := span) (n := n) (by omega) (by rw [← hn]; exact c1)
    rw [nI_clamp (by omega), hr.sp hu (by decide)]
    by_cases c2 : q_isLoad load = true
    · rw [if_pos c2, if_pos c2]
      obtain ⟨z, -, hz, rfl⟩ := wi_of (v := load) (a := 0) (b := 99) rfl rfl (by decide) (by decide) c2
      rcases (hr.ok hu).2.2.2.2.2.2 with q | q
      · have q' : ρ mRow (mS u 6) = 0 := q
        rw [q', if_pos rfl, if_neg (by decide)]
        exact ⟨hq.carryV hu, (hq.carry hu hz).1⟩
      · have q' : ρ mRow (mS u 6) = 1 := q
        rw [q', if_neg (by decide), if_pos rfl]
        exact h.err (by decide)
    · rw [if_neg c2, if_neg c2]; exact h.err (by decide)
  · rw [if_neg c1, if_neg c1]; exact h.err (by decide)
/-! ## days -/
theorem Qq.dayN {α ρ : Af} {n d : Nat} (h : Qq α ρ n d) : ∀ i, d + i ≤ 9999 → Qq (q_dayN α 0 n i) (r_goN ρ n i) n (d + i)
  | 0, _ => h
  | i + 1, hi => by simp only [q_dayN, r_goN]; exact (Qq.dayN h i (by omega)).day (by omega)
theorem dmax {d m : Nat} (hd : d ≤ 9999) (hm : m ≤ 60) : (nI d ≤ 9999 - nI m ↔ d + m ≤ 9999) ∧ (nI d + nI m ≤ 9999 ↔ d + m ≤ 9999) := by
  constructor
  · rw [show (9999 : Int32) - nI m = nI (9999 - m) from pk_sub (a := 9999) (b := m) (by omega), nI_leI (by omega) (by omega)]; omega
  · rw [nI_add]; exact nI_leI (a := d + m) (b := 9999) (by omega) (by decide)
theorem e_days {α ρ : Af} {v : Int32} (h : R α ρ) : Same (f_days α v) (g_days ρ v) := by
  obtain ⟨n, d, hq⟩ := h.q
  obtain ⟨h9, hn, hc⟩ := hq.n9
  unfold f_days g_days
  rw [h.many, hq.2.1.2.1.2.2.2.1, hq.2.2.1, hc]
  by_cases c1 : q_within v 1 60 = true
  · rw [if_pos c1, if_pos c1]
    obtain ⟨m, -, hm, rfl⟩ := wi_of (v := v) (a := 1) (b := 60) rfl rfl (by decide) (by decide) c1
    obtain ⟨k1, k2⟩ := dmax hq.2.2.2 hm
    rw [nI_clamp (by omega)]
    by_cases c2 : d + m ≤ 9999
    · rw [if_pos (k1.mpr c2), if_pos (k2.mpr c2)]
      have q1 := hq.dayN m c2
      exact ⟨q1.2.1.2.1.2.2.2.1, q1.1⟩
    · rw [if_neg (mt k1.mp c2), if_neg (mt k2.mp c2)]; exact h.err (by decide)
  · rw [if_neg c1, if_neg c1]; exact h.err (by decide)
theorem rain_eq : ∀ a, a < 16 → (if (0 : Int32) < nI a - 6 then nI a - 6 else 0) = r_held (nI a - 6) 0 9 := by decide
theorem Qq.drawN {α ρ : Af} {n d : Nat} (h : Qq α ρ n d) : q_drawN α 0 = r_drawN ρ := by
  unfold q_drawN r_drawN
  rw [h.2.1.2.1.2.2.2.2.2.2.1]
theorem Qq.drawS {α ρ : Af} {n d : Nat} (h : Qq α ρ n d) : Qq (q_drawS α 0) (r_drawS ρ) n d := by
  unfold q_drawS r_drawS
  rw [h.2.1.2.1.2.2.2.2.2.2.1]
  exact h.setD (Or.inr (Or.inr (Or.inr (Or.inr ⟨rfl, rfl⟩))))
theorem Qq.rained {α ρ : Af} {n d : Nat} (h : Qq α ρ n d) : Qq (q_rained α 0) (r_rained ρ) n d := by
  have hl := r_drawN_lt (ρ := ρ)
  unfold q_rained r_rained
  rw [h.drawN]
  have e1 : jrem (nI (r_drawN ρ)) 16 = nI (r_drawN ρ % 16) := jrem_nI (n := 16) (by omega) (by decide) (by decide)
  rw [e1, rain_eq _ (Nat.mod_lt _ (by decide))]
  exact h.drawS.setD (Or.inl ⟨rfl, rfl⟩)
theorem Qq.dd {α ρ : Af} {n d : Nat} (h : Qq α ρ n d) (hd : d + 1 ≤ 9999) : q_ddB α 0 n = r_ddB ρ n ∧ Qq (q_dd α 0 n) (r_dd ρ n) n (d + 1) := by
  have h1 := h.rained
  have h2 : Qq (q_dl1 α 0) (r_dl1 ρ) n d := h1.drawS
  have h3 : Qq (q_dl2 α 0) (r_dl2 ρ) n d := h2.drawS
  have eU : q_dlU α 0 n = r_dlU ρ n := by unfold q_dlU r_dlU; rw [h1.drawN]
  have eX : q_dlX α 0 = r_dlX ρ := by unfold q_dlX r_dlX; rw [h2.drawN]
  have hl := r_drawN_lt (ρ := r_dl1 ρ)
  have eX2 : r_dlX ρ = nI (r_drawN (r_dl1 ρ) % 30) := jrem_nI (n := 30) (by omega) (by decide) (by decide)
  have hX : r_drawN (r_dl1 ρ) % 30 ≤ 99 := by have := Nat.mod_lt (r_drawN (r_dl1 ρ)) (show 30 > 0 by decide); omega
  unfold q_ddB r_ddB q_dd r_dd q_ddS r_ddS
  rw [eU, eX]
  by_cases h0 : n = 0
  · rw [if_pos h0, if_pos h0, if_pos h0, if_pos h0]
    exact ⟨rfl, h1.day hd⟩
  · have hu : r_dlU ρ n < n := Nat.mod_lt _ (by omega)
    rw [if_neg h0, if_neg h0, if_neg h0, if_neg h0, h3.rn.sp hu (by decide)]
    by_cases c : r_dl2 ρ mRow (mS (r_dlU ρ n) 6) = 0
    · rw [if_pos c, if_pos c, if_pos c, if_pos c, h3.carryV hu]
      refine ⟨rfl, ?_⟩
      rw [eX2]
      exact (h3.carry hu hX).day hd
    · rw [if_neg c, if_neg c, if_neg c, if_neg c]
      exact ⟨rfl, h3.day hd⟩
theorem Qq.lo {α ρ : Af} {n d : Nat} (h : Qq α ρ n d) : ∀ i, d + i ≤ 9999 → (q_lo α n i).1 = (r_lo ρ n i).1 ∧ Qq (q_lo α n i).2 (r_lo ρ n i).2 n (d + i)
  | 0, _ => ⟨rfl, h⟩
  | i + 1, hi => by
    obtain ⟨a1, a2⟩ := Qq.lo h i (by omega)
    obtain ⟨b1, b2⟩ := a2.dd (by omega)
    simp only [q_lo, r_lo]
    exact ⟨by rw [a1, b1], b2⟩
theorem e_loose {α ρ : Af} {v : Int32} (h : R α ρ) : Same (f_loose α v) (g_loose ρ v) := by
  obtain ⟨n, d, hq⟩ := h.q
  obtain ⟨h9, hn, hc⟩ := hq.n9
  unfold f_loose g_loose
  rw [h.many, hq.2.1.2.1.2.2.2.1, hq.2.2.1, hc]
  by_cases c1 : q_within v 1 30 = true
  · rw [if_pos c1, if_pos c1]
    obtain ⟨m, -, hm, rfl⟩ := wi_of (v := v) (a := 1) (b := 30) rfl rfl (by decide) (by decide) c1
    obtain ⟨k1, k2⟩ := dmax hq.2.2.2 (show m ≤ 60 by omega)
    rw [nI_clamp (by omega)]
    by_cases c2 : d + m ≤ 9999
    · rw [if_pos (k1.mpr c2), if_pos (k2.mpr c2)]
      obtain ⟨a1, a2⟩ := hq.lo m c2
      exact ⟨a1, a2.1⟩
    · rw [if_neg (mt k1.mp c2), if_neg (mt k2.mp c2)]; exact h.err (by decide)
  · rw [if_neg c1, if_neg c1]; exact h.err (by decide)
