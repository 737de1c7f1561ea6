/-! ## the calls, one by one -/
theorem R.fr {α α' ρ ρ' : Af} {n : Nat} (h : R α ρ) (hr : Rn α' ρ' n) (hF : ∀ i, i ≠ idD 0 → (∀ u, u < n → i ≠ idS 0 u) → α' i = α i) (hM : ∀ i, i ≠ mRow → i ≠ mBear → i ≠ mBefore → ρ' i = ρ i) : R α' ρ' := by
  have h9 := hr.1.1.1
  have ha : ∀ i, Kc i → α' i = α i := fun i hi => hF i (by unfold Kc at hi; unfold idD; omega) (fun u hu => by unfold Kc at hi; unfold idS; omega)
  refine h.row hr (h.2.2.2.2.2.of (fun e he u hu => hF _ (by unfold idL idD; omega) (fun v hv => by unfold idL idS; omega)) (fun e he u hu => ?_) (hF _ (by decide) (fun v hv => by unfold idRb idS; omega)) (fun e he => hF _ (by unfold idTp idD; omega) (fun v hv => by unfold idTp idS; omega))) ha (by rw [hM idM (by decide) (by decide) (by decide)]) (by rw [hM idM (by decide) (by decide) (by decide)]) (fun i hi => hM i ?_ ?_ ?_)
  · by_cases q : e = 0 ∧ u < n
    · obtain ⟨rfl, hu2⟩ := q
      obtain ⟨a1, -, -, -, -, -, -, a2⟩ := hr.1.2.2.1 u hu2
      rw [a1 6 (by decide)]
      exact Or.inr a2
    · exact Or.inl (by rw [hF _ (by unfold idS idD; omega) (fun v hv => by unfold idS; omega)])
  · rcases hi with rfl | rfl | rfl | rfl | rfl | rfl <;> decide
  · rcases hi with rfl | rfl | rfl | rfl | rfl | rfl <;> decide
  · rcases hi with rfl | rfl | rfl | rfl | rfl | rfl <;> decide
theorem R.many {α ρ : Af} (h : R α ρ) : α (idD 0) 1 = ρ mRow 2 := by
  obtain ⟨n, hr, -⟩ := h.1
  exact hr.2.1.1
theorem R.setS {α ρ : Af} {n u w : Nat} {v : Int32} (h : R α ρ) (hr : Rn α ρ n) (hu : u < n) (hw : w < 7) (hv : SpOk (fun j => if j = w then v else ρ mRow (mS u j))) : R (up α (idS 0 u) w v) (up ρ mRow (mS u w) v) := by
  have h9 := hr.1.1.1
  refine h.fr (n := n) ⟨by rw [up_row]; exact hr.1.upS (by decide) hw hu hv, ?_⟩ (fun i h1 h2 => up_ne (h2 u hu)) (fun i h1 _ _ => up_ne h1)
  rw [up_row, upd_ne (by have := mS_ge (u := u) (w := w); omega)]
  exact hr.2
theorem R.setD {α ρ : Af} {n j k : Nat} {v : Int32} (h : R α ρ) (hr : Rn α ρ n) (hjk : (j = 2 ∧ k = 4) ∨ (j = 3 ∧ k = 3) ∨ (j = 5 ∧ k = 5 ∧ ∃ x, x ≤ 99999 ∧ v = nI x) ∨ (j = 6 ∧ k = 6 ∧ ∃ x, x ≤ 99999 ∧ v = nI x) ∨ (j = 7 ∧ k = 1)) : R (up α (idD 0) j v) (up ρ mRow k v) := by
  refine h.fr (n := n) ⟨?_, ?_⟩ (fun i h1 _ => up_ne h1) (fun i h1 _ _ => up_ne h1)
  · rw [up_row]
    refine hr.1.set (by decide) ?_
    rcases hjk with q | q | q | q | q
    · exact Or.inl q
    · exact Or.inr (Or.inl q)
    · exact Or.inr (Or.inr (Or.inr (Or.inl q)))
    · exact Or.inr (Or.inr (Or.inr (Or.inr (Or.inl q))))
    · exact Or.inr (Or.inr (Or.inr (Or.inr (Or.inr q))))
  · have k0 : (0 : Nat) ≠ k := by rcases hjk with ⟨-, rfl⟩ | ⟨-, rfl⟩ | ⟨-, rfl, -⟩ | ⟨-, rfl, -⟩ | ⟨-, rfl⟩ <;> decide
    rw [up_row, upd_ne k0]; exact hr.2
theorem Rn.sp {α ρ : Af} {n u w : Nat} (hr : Rn α ρ n) (hu : u < n) (hw : w < 7) : α (idS 0 u) w = ρ mRow (mS u w) := (hr.1.2.2.1 u hu).1 w hw
theorem Rn.ok {α ρ : Af} {n u : Nat} (hr : Rn α ρ n) (hu : u < n) : SpOk (fun w => ρ mRow (mS u w)) := (hr.1.2.2.1 u hu).2
theorem Rn.n {α ρ : Af} {n : Nat} (hr : Rn α ρ n) : n ≤ 9 ∧ ρ mRow 2 = nI n ∧ α (idD 0) 1 = nI n := ⟨hr.1.1.1, hr.1.1.2, hr.1.2.1.1.trans hr.1.1.2⟩
theorem e_law {α ρ : Af} {use a b c : Int32} (h : R α ρ) : Same (f_law α use a b c) (g_law ρ use a b c) := by
  obtain ⟨n, hr⟩ := h.1
  unfold f_law g_law
  by_cases c1 : q_within use 0 1 = true
  · rw [if_pos c1, if_pos (show q_isUse use = true from c1)]
    obtain ⟨u, -, hu, rfl⟩ := wi_of (v := use) (a := 0) (b := 1) rfl rfl (by decide) (by decide) c1
    rw [nI_clamp (by omega)]
    exact ⟨hr.1.gives (by omega), h⟩
  · rw [if_neg c1, if_neg (show ¬ q_isUse use = true from c1)]
    exact h.err (by decide)
theorem e_spanIs {α ρ : Af} {span what : Int32} (h : R α ρ) : Same (f_spanIs α span what) (g_spanIs ρ span what) := by
  obtain ⟨n, hr⟩ := h.1
  obtain ⟨h9, hn, -⟩ := hr.n
  unfold f_spanIs g_spanIs
  rw [h.many]
  by_cases c1 : q_within span 0 (ρ mRow 2 - 1) = true
  · rw [if_pos c1, if_pos c1]
    obtain ⟨u, hu, rfl⟩ := hs_of (v := span) (n := n) (by omega) (by rw [← hn]; exact c1)
    by_cases c2 : q_within what 0 8 = true
    · rw [if_pos c2, if_pos c2]
      obtain ⟨m, -, hm, rfl⟩ := wi_of (v := what) (a := 0) (b := 8) rfl rfl (by decide) (by decide) c2
      rw [nI_clamp (by omega)]
      refine ⟨?_, h⟩
      show f_isF α u (nI m) = r_isF ρ u (nI m)
      have g6 : (if α (idS 0 u) 6 = 0 then (0 : Int32) else 1) = ρ mRow (mS u 6) := by
        rw [hr.sp hu (by decide)]
        rcases (hr.ok hu).2.2.2.2.2.2 with q | q
        · rw [show ρ mRow (mS u 6) = 0 from q]; rfl
        · rw [show ρ mRow (mS u 6) = 1 from q]; rfl
      rcases (show m = 0 ∨ m = 1 ∨ m = 2 ∨ m = 3 ∨ m = 4 ∨ m = 5 ∨ m = 6 ∨ m = 7 ∨ m = 8 by omega) with rfl | rfl | rfl | rfl | rfl | rfl | rfl | rfl | rfl
      · exact hr.sp hu (by decide)
      · exact hr.sp hu (by decide)
      · exact hr.sp hu (by decide)
      · exact hr.sp hu (by decide)
      · exact hr.sp hu (by decide)
      · exact hr.sp hu (by decide)
      · exact g6
      · exact hr.1.bears hu
      · exact hr.1.takes hu
    · rw [if_neg c2, if_neg c2]; exact h.err (by decide)
  · rw [if_neg c1, if_neg c1]; exact h.err (by decide)
theorem km_of {km : Int32} (h : q_isKm km = true) : (∃ k, k ≤ 6 ∧ km / 10 = nI k) ∧ ∃ m, m ≤ 9 ∧ jrem km 10 = nI m := by
  obtain ⟨x, -, hx, rfl⟩ := wi_of (v := km) (a := 0) (b := 69) rfl rfl (by decide) (by decide) h
  have key : ∀ x, x ≤ 69 → (nI x / 10 = nI (x / 10)) ∧ jrem (nI x) 10 = nI (x % 10) := by decide +kernel
  obtain ⟨k1, k2⟩ := key x hx
  exact ⟨⟨x / 10, by omega, k1⟩, ⟨x % 10, by omega, k2⟩⟩
theorem e_become {α ρ : Af} {span km : Int32} (h : R α ρ) : Same (f_become α span km) (g_become ρ span km) := by
  obtain ⟨n, hr⟩ := h.1
  obtain ⟨h9, hn, -⟩ := hr.n
  unfold f_become g_become
  rw [h.many]
  by_cases c1 : q_within span 0 (ρ mRow 2 - 1) = true
  · rw [if_pos c1, if_pos c1]
    obtain ⟨u, hu, rfl⟩ := hs_of (v := span) (n := n) (by omega) (by rw [← hn]; exact c1)
    rw [nI_clamp (by omega)]
    by_cases c2 : q_isKm km = true
    · rw [if_pos c2, if_pos c2]
      obtain ⟨k1, k2⟩ := km_of c2
      obtain ⟨o0, o1, o2, o3, o4, o5, o6⟩ := hr.ok hu
      refine ⟨?_, ?_⟩
      · show α (idS 0 u) 0 = _
        rw [up_ne2 (fun q => by have := mS_inj (by decide) (by decide) q; omega)]
        exact hr.sp hu (by decide)
      · have e1 : up (up α (idS 0 u) 0 (km / 10)) (idS 0 u) 1 (jrem km 10) = up (up α (idS 0 u) 1 (jrem km 10)) (idS 0 u) 0 (km / 10) := by
          funext i j
          by_cases q : i = idS 0 u
          · subst q
            rw [up_at, up_at, up_at, up_at]
            by_cases a : j = 1
            · rw [if_pos a, if_neg (by omega), if_pos a]
            · rw [if_neg a, if_neg a]
          · rw [up_ne q, up_ne q, up_ne q, up_ne q]
        show R (up (up α (idS 0 u) 0 (km / 10)) (idS 0 u) 1 (jrem km 10)) _
        rw [e1]
        have h1 := h.setS hr hu (w := 1) (v := jrem km 10) (by decide) ⟨o0, k2, o2, o3, o4, o5, o6⟩
        obtain ⟨n', hr1⟩ := h1.1
        have en : n' = n := by
          have e2 : up ρ mRow (mS u 1) (jrem km 10) mRow 2 = ρ mRow 2 := up_ne2 (by have := mS_ge (u := u) (w := 1); omega)
          have := hr1.n
          rw [e2, hn] at this
          exact ((nI_eq (a := n) (b := n') (by omega) (by omega)).mp this.2.1).symm
        subst en
        exact h1.setS hr1 hu (w := 0) (v := km / 10) (by decide) (by
          obtain ⟨p0, p1, p2, p3, p4, p5, p6⟩ := hr1.ok hu
          exact ⟨k1, p1, p2, p3, p4, p5, p6⟩)
    · rw [if_neg c2, if_neg c2]; exact h.err (by decide)
  · rw [if_neg c1, if_neg c1]; exact h.err (by decide)
theorem under_eq : ∀ k, k ≤ 6 → ∀ w, w ≤ 6 → q_under 7 (nI k) (nI w) = r_as (nI k) (nI w) := by decide +kernel
theorem e_as {α ρ : Af} {span kind : Int32} (h : R α ρ) : Same (f_as α span kind) (g_as ρ span kind) := by
  obtain ⟨n, hr⟩ := h.1
  obtain ⟨h9, hn, -⟩ := hr.n
  unfold f_as g_as
  rw [h.many]
  by_cases c1 : q_within span 0 (ρ mRow 2 - 1) = true
  · rw [if_pos c1, if_pos c1]
    obtain ⟨u, hu, rfl⟩ := hs_of (v := span) (n := n) (by omega) (by rw [← hn]; exact c1)
    rw [nI_clamp (by omega)]
    by_cases c2 : q_within kind 0 6 = true
    · rw [if_pos c2, if_pos c2]
      obtain ⟨w, -, hw, rfl⟩ := wi_of (v := kind) (a := 0) (b := 6) rfl rfl (by decide) (by decide) c2
      obtain ⟨⟨k, hk, ek⟩, -⟩ := hr.ok hu
      rw [hr.sp hu (by decide), hr.sp hu (by decide), show ρ mRow (mS u 0) = nI k from ek, under_eq k hk w hw]
      by_cases c3 : r_as (nI k) (nI w) = true
      · rw [if_pos c3, if_pos c3]; exact ⟨rfl, h⟩
      · rw [if_neg c3, if_neg c3]; exact h.err (by decide)
    · rw [if_neg c2, if_neg c2]; exact h.err (by decide)
  · rw [if_neg c1, if_neg c1]; exact h.err (by decide)
theorem e_soak {α ρ : Af} {span wet : Int32} (h : R α ρ) : Same (f_soak α span wet) (g_soak ρ span wet) := by
  obtain ⟨n, hr⟩ := h.1
  obtain ⟨h9, hn, -⟩ := hr.n
  unfold f_soak g_soak
  rw [h.many]
  by_cases c1 : q_within span 0 (ρ mRow 2 - 1) = true
  · rw [if_pos c1, if_pos c1]
    obtain ⟨u, hu, rfl⟩ := hs_of (v := span) (n := n) (by omega) (by rw [← hn]; exact c1)
    rw [nI_clamp (by omega)]
    by_cases c2 : q_within wet 0 9 = true
    · rw [if_pos c2, if_pos c2]
      obtain ⟨w, -, hw, rfl⟩ := wi_of (v := wet) (a := 0) (b := 9) rfl rfl (by decide) (by decide) c2
      obtain ⟨o0, o1, o2, o3, o4, o5, o6⟩ := hr.ok hu
      exact ⟨hr.sp hu (by decide), h.setS hr hu (w := 5) (by decide) ⟨o0, o1, o2, o3, o4, ⟨w, hw, rfl⟩, o6⟩⟩
    · rw [if_neg c2, if_neg c2]; exact h.err (by decide)
  · rw [if_neg c1, if_neg c1]; exact h.err (by decide)
theorem e_eat {α ρ : Af} {span : Int32} (h : R α ρ) : Same (f_eat α span) (g_eat ρ span) := by
  obtain ⟨n, hr⟩ := h.1
  obtain ⟨h9, hn, -⟩ := hr.n
  unfold f_eat g_eat
  rw [h.many]
  by_cases c1 : q_within span 0 (ρ mRow 2 - 1) = true
  · rw [if_pos c1, if_pos c1]
    obtain ⟨u, hu, rfl⟩ := hs_of (v := span) (n := n) (by omega) (by rw [← hn]; exact c1)
    rw [nI_clamp (by omega)]
    obtain ⟨o0, o1, o2, o3, o4, o5, o6⟩ := hr.ok hu
    refine ⟨?_, h.setS hr hu (w := 6) (by decide) ⟨o0, o1, o2, o3, o4, o5, Or.inr rfl⟩⟩
    show (if α (idS 0 u) 6 = 0 then (0 : Int32) else 1) = ρ mRow (mS u 6)
    rw [hr.sp hu (by decide)]
    rcases o6 with q | q
    · rw [show ρ mRow (mS u 6) = 0 from q]; rfl
    · rw [show ρ mRow (mS u 6) = 1 from q]; rfl
  · rw [if_neg c1, if_neg c1]; exact h.err (by decide)
theorem e_seed {α ρ : Af} {v : Int32} (h : R α ρ) : Same (f_seed α v) (g_seed ρ v) := by
  obtain ⟨n, hr⟩ := h.1
  exact ⟨hr.1.2.1.2.2.2.2.2.2.1, h.setD hr (Or.inr (Or.inr (Or.inr (Or.inr ⟨rfl, rfl⟩))))⟩
theorem e_store {α ρ : Af} {what v : Int32} (h : R α ρ) : Same (f_store α what v) (g_store ρ what v) := by
  obtain ⟨n, hr⟩ := h.1
  unfold f_store g_store
  by_cases c1 : q_within what 0 1 = true
  · rw [if_pos c1, if_pos c1]
    obtain ⟨m, -, hm, rfl⟩ := wi_of (v := what) (a := 0) (b := 1) rfl rfl (by decide) (by decide) c1
    by_cases c2 : q_within v 0 (if nI m = 0 then 9999 else 9) = true
    · rw [if_pos c2, if_pos c2, nI_clamp (by omega)]
      rcases (show m = 0 ∨ m = 1 by omega) with rfl | rfl
      · exact ⟨hr.1.2.1.2.2.1, h.setD hr (Or.inr (Or.inl ⟨rfl, rfl⟩))⟩
      · exact ⟨hr.1.2.1.2.1, h.setD hr (Or.inl ⟨rfl, rfl⟩)⟩
    · rw [if_neg c2, if_neg c2]; exact h.err (by decide)
  · rw [if_neg c1, if_neg c1]; exact h.err (by decide)
theorem e_told {α ρ : Af} {v : Int32} (h : R α ρ) : Same (f_told α v) (g_told ρ v) := by
  unfold f_told g_told
  by_cases c1 : q_within v 1 6 = true
  · rw [if_pos c1, if_pos c1]
    obtain ⟨m, -, hm, rfl⟩ := wi_of (v := v) (a := 1) (b := 6) rfl rfl (by decide) (by decide) c1
    rw [nI_clamp (by omega)]
    exact ⟨h.2.2.1 m (by omega), h⟩
  · rw [if_neg c1, if_neg c1]; exact h.err (by decide)
theorem e_body {α ρ : Af} {i : Int32} (h : R α ρ) : Same (f_body α i) (g_body ρ i) := by
  obtain ⟨t, h30, t1, t2, t3⟩ := h.2.2.2.2.1
  unfold f_body g_body
  rw [t1, t2]
  by_cases c1 : q_within i 0 (nI t - 1) = true
  · rw [if_pos c1, if_pos c1]
    obtain ⟨j, hj, rfl⟩ := hs_of (v := i) (n := t) (by omega) c1
    rw [nI_clamp (by omega)]
    exact ⟨t3 j hj, h⟩
  · rw [if_neg c1, if_neg c1]; exact h.err (by decide)
theorem e_count {α ρ : Af} {what : Int32} (h : R α ρ) : Same (f_count α what) (g_count ρ what) := by
  obtain ⟨n, hr⟩ := h.1
  obtain ⟨s1, s2, s3, s4, s5, s6, s7, s8, s9⟩ := hr.1.2.1
  obtain ⟨t, -, t1, t2, -⟩ := h.2.2.2.2.1
  unfold f_count g_count
  rw [s1, s2, s3, s4, s5, s6, s7, s8, s9, t1, t2]
  by_cases c0 : what = 0
  · rw [if_pos c0, if_pos c0]; exact ⟨rfl, h⟩
  rw [if_neg c0, if_neg c0]
  by_cases c1 : what = 1
  · rw [if_pos c1, if_pos c1]; exact ⟨rfl, h⟩
  rw [if_neg c1, if_neg c1]
  by_cases c2 : what = 2
  · rw [if_pos c2, if_pos c2]; exact ⟨rfl, h⟩
  rw [if_neg c2, if_neg c2]
  by_cases c3 : what = 3
  · rw [if_pos c3, if_pos c3]; exact ⟨rfl, h⟩
  rw [if_neg c3, if_neg c3]
  by_cases c4 : what = 4
  · rw [if_pos c4, if_pos c4]; exact ⟨rfl, h⟩
  rw [if_neg c4, if_neg c4]
  by_cases c5 : what = 5
  · rw [if_pos c5, if_pos c5]; exact ⟨rfl, h⟩
  rw [if_neg c5, if_neg c5]
  by_cases c6 : what = 6
  · rw [if_pos c6, if_pos c6]; exact ⟨rfl, h⟩
  rw [if_neg c6, if_neg c6]
  by_cases c7 : what = 7
  · rw [if_pos c7, if_pos c7]; exact ⟨rfl, h⟩
  rw [if_neg c7, if_neg c7]
  by_cases c8 : what = 8
  · rw [if_pos c8, if_pos c8]; exact ⟨rfl, h⟩
  rw [if_neg c8, if_neg c8]
  by_cases c9 : what = 9
  · rw [if_pos c9, if_pos c9]; exact ⟨rfl, h⟩
  rw [if_neg c9, if_neg c9]
  exact h.err (by decide)
