/-! ## what is thought: then, lasts, fits -/
def D2 (i : Nat) : Prop := i = 3 ∨ i = 12 ∨ i = 15 ∨ i = 35 ∨ i = 36 ∨ i = 41 ∨ i = 42 ∨ (67 ≤ i ∧ i < 76)
theorem R.th {α α' ρ ρ' : Af} (h : R α ρ) (ha : ∀ i, ¬ D2 i → α' i = α i) (hi : IC0 α') (hrow : ∀ k, k < 398 → ρ' mRow k = ρ mRow k) (hb : ∀ i, i ≠ mRow → i ≠ mBear → i ≠ mBefore → ρ' i = ρ i) : R α' ρ' := by
  obtain ⟨⟨n, hr, d, hd1, hd2⟩, -⟩ := id h
  refine h.row (n := n) ⟨hr.cong (fun _ _ _ _ _ _ => by rw [ha _ (by unfold D2 idD; omega)]) (fun u hu _ _ => by rw [ha _ (by unfold D2 idS; omega)]) (fun u hu => by rw [ha _ (by unfold D2 idL; omega), ha _ (by unfold D2 idLc; omega)]; exact ⟨rfl, rfl, fun _ _ => rfl⟩) (fun _ _ => by rw [ha _ (by unfold D2 idTp; omega)]) (fun _ _ => by rw [ha _ (by unfold D2 idWt; omega)]) hrow, d, hd1, by rw [hrow 0 (by decide)]; exact hd2⟩ hi (fun i hk => ha i (by unfold Kc at hk; unfold D2; omega)) (by rw [hb idM (by decide) (by decide) (by decide)]) (by rw [hb idM (by decide) (by decide) (by decide)]) (fun i hi => hb i ?_ ?_ ?_)
  · rcases hi with rfl | rfl | rfl | rfl | rfl | rfl <;> decide
  · rcases hi with rfl | rfl | rfl | rfl | rfl | rfl <;> decide
  · rcases hi with rfl | rfl | rfl | rfl | rfl | rfl <;> decide
theorem q_days_6 {α : Af} {e v : Nat} : ∀ n, q_days α e n (idS e v) 6 = α (idS e v) 6
  | 0 => rfl
  | n + 1 => by
    simp only [q_days]
    by_cases q : idS e v = idS e n
    · rw [q, q_dayS_at, if_neg (by decide), if_neg (by decide), ← q, q_days_6 n]
    · rw [q_dayS_ne q, q_days_6 n]
theorem IC0.day2 {α : Af} {n : Nat} (h9 : n ≤ 9) (h : IC0 α) : IC0 (q_day α 2 n) := h.of (fun e he u hu => q_day_ne (by unfold idL idD; omega) (fun v hv => by unfold idL idS; omega)) (fun e he u hu => Or.inl (by
    by_cases q : e = 2
    · subst q
      unfold q_day
      rw [up_ne (nD_S (by decide)), q_days_6]
    · rw [q_day_ne (nD_S (by decide)) (fun v hv => by unfold idS; omega)])) (q_day_ne (by decide) (fun v hv => by unfold idRb idS; omega)) (fun e he => q_day_ne (by unfold idTp idD; omega) (fun v hv => by unfold idTp idS; omega))
/-- a thought: the class's second delta against the reference's row, the row itself kept before -/
def Th (α ρ β r : Af) (n : Nat) : Prop := RowR β 2 (r mRow) n ∧ (∀ i, ¬ D2 i → β i = α i) ∧ IC0 β ∧ (∀ k, k < 398 → r mBefore k = ρ mRow k) ∧ ∀ i, i ≠ mRow → i ≠ mBear → i ≠ mBefore → r i = ρ i
theorem Qq.th {α ρ : Af} {n d : Nat} (hq : Qq α ρ n d) : Th α ρ (q_take α 2 0) (r_th ρ) n := by
  have hi := hq.1.2.2.2.2.2
  refine ⟨?_, fun i hd => ?_, hi.take (by decide) (by decide) (by decide), fun k hk => ?_, fun i _ _ h3 => r_th_ne h3⟩
  · rw [r_th_ne (by decide)]
    exact hq.2.1.take (by decide) (by decide) (by decide) (hi.lk (by decide))
  · exact q_take_ne (by unfold D2 at hd; unfold idD; omega) (fun v hv => by unfold D2 at hd; unfold idS; omega) (fun v hv => by unfold D2 at hd; unfold idL idLc; omega) (by unfold D2 at hd; unfold idTp; omega) (by unfold D2 at hd; unfold idWt; omega)
  · unfold r_th
    rw [r_copy_at (by decide), if_pos hk]
theorem Th.day {α ρ β r : Af} {n : Nat} (h : Th α ρ β r n) : Th α ρ (q_day β 2 n) (r_go r n) n := by
  obtain ⟨h1, h2, h3, h4, h5⟩ := h
  have h9 := h1.1.1
  refine ⟨h1.day (by decide), fun i hd => ?_, h3.day2 h9, fun k hk => ?_, fun i a b c => by rw [r_go_ne a]; exact h5 i a b c⟩
  · rw [q_day_ne (by unfold D2 at hd; unfold idD; omega) (fun v hv => by unfold D2 at hd; unfold idS; omega)]; exact h2 i hd
  · rw [r_go_ne (by decide)]; exact h4 k hk
theorem Th.fb {α ρ β r : Af} {n : Nat} (h : Th α ρ β r n) : Th α ρ β (r_fb r n) n := by
  obtain ⟨h1, h2, h3, h4, h5⟩ := h
  refine ⟨?_, h2, h3, fun k hk => ?_, fun i a b c => ?_⟩
  · rw [r_fb_ne (by decide)]; exact h1
  · rw [r_fb_ne (by decide)]; exact h4 k hk
  · rw [r_fb_ne b]; exact h5 i a b c
theorem Th.dayN {α ρ β r : Af} {n : Nat} (h : Th α ρ β r n) : ∀ i, Th α ρ (q_dayN β 2 n i) (r_goN r n i) n
  | 0 => h
  | i + 1 => by simp only [q_dayN, r_goN]; exact (Th.dayN h i).day
theorem Th.back {α ρ β r : Af} {n : Nat} (hR : R α ρ) (h : Th α ρ β r n) : R β (r_bf r) := by
  obtain ⟨h1, h2, h3, h4, h5⟩ := h
  refine hR.th h2 h3 (fun k hk => ?_) (fun i a b c => ?_)
  · unfold r_bf
    rw [r_copy_at (by decide), if_pos hk]; exact h4 k hk
  · unfold r_bf
    rw [r_copy_ne a]; exact h5 i a b c
theorem e_then {α ρ : Af} {span v : Int32} (h : R α ρ) : Same (f_then α span v) (g_then ρ span v) := by
  obtain ⟨n, d, hq⟩ := h.q
  obtain ⟨h9, hn, hc⟩ := hq.n9
  unfold f_then g_then
  rw [h.many, hc]
  by_cases c1 : q_within span 0 (ρ mRow 2 - 1) = true
  · rw [if_pos c1, if_pos c1]
    obtain ⟨u, hu, rfl⟩ := hs_of (v := span) (n := n) (by omega) (by rw [← hn]; exact c1)
    by_cases c2 : q_within v 0 60 = true
    · rw [if_pos c2, if_pos c2]
      obtain ⟨m, -, hm, rfl⟩ := wi_of (v := v) (a := 0) (b := 60) rfl rfl (by decide) (by decide) c2
      rw [show (nI u).toNatClampNeg = u from nI_clamp (by omega), show (nI m).toNatClampNeg = m from nI_clamp (by omega)]
      have ht := hq.th.dayN m
      exact ⟨ht.1.bears hu, ht.back h⟩
    · rw [if_neg c2, if_neg c2]; exact h.err (by decide)
  · rw [if_neg c1, if_neg c1]; exact h.err (by decide)
/-- who is joined: the class by a set, the reference by what bears -/
theorem RowR.joins {β r : Af} {e n : Nat} {load a b : Int32} (h : RowR β e (r mRow) n) : q_joins (q_endsU β e) (q_bset β e load n) n a b = r_areJ r n a b load := by
  have h9 := h.1.1
  unfold r_areJ
  refine joins_eq h9 (fun i hi => h.ends hi) (fun i hi => ?_)
  rw [q_bset_bit n h9 (by omega), decide_eq_true hi, Bool.true_and, r_fb_at hi, h.bears hi]
def r_end (s : Nat × Af) : Int32 × Af := if nI s.1 ≤ 60 then (nI s.1, r_bf s.2) else r_errP (r_bf s.2) 2
theorem end_61 {i : Nat} {r : Af} (h : i = 61) : r_end (i, r) = r_errP (r_bf r) 2 := if_neg (show ¬ nI i ≤ 60 by rw [h]; decide)
theorem end_lt {i : Nat} {r : Af} (h : i ≤ 60) : r_end (i, r) = (nI i, r_bf r) := if_pos (show nI i ≤ 60 from nI_le h (by decide))
theorem Th.la {α ρ : Af} {n : Nat} {load a b : Int32} (hR : R α ρ) : ∀ (j i : Nat) {β r : Af}, Th α ρ β r n → i + j = 61 → Same (q_la n load a b j i β) (r_end (r_la n a b load j i r))
  | 0, i, β, r, h, hi => by
    simp only [q_la, r_la]
    rw [end_61 (show i = 61 by omega)]
    exact (h.back hR).err (by decide)
  | j + 1, i, β, r, h, hi => by
    simp only [q_la, r_la]
    rw [h.1.joins]
    by_cases c : r_areJ r n a b load = true
    · rw [if_pos c, if_pos c]
      exact Th.la hR j (i + 1) h.fb.day (by omega)
    · rw [if_neg c, if_neg c, end_lt (by omega)]
      exact ⟨rfl, h.fb.back hR⟩
theorem e_lasts {α ρ : Af} {a b load : Int32} (h : R α ρ) : Same (f_lasts α a b load) (g_lasts ρ a b load) := by
  obtain ⟨n, d, hq⟩ := h.q
  obtain ⟨h9, hn, hc⟩ := hq.n9
  unfold f_lasts g_lasts
  rw [h.many, hc]
  by_cases c1 : q_areTwo a b = true
  · rw [if_pos c1, if_pos c1]
    by_cases c2 : q_isLoad load = true
    · rw [if_pos c2, if_pos c2]
      exact hq.th.la (load := load) (a := a) (b := b) h 61 0 (by decide)
    · rw [if_neg c2, if_neg c2]; exact h.err (by decide)
  · rw [if_neg c1, if_neg c1]; exact h.err (by decide)
theorem q_right_le {α : Af} {e s n : Nat} : ∀ j i, q_right α e s n j i ≤ i + j
  | 0, i => by simp [q_right]
  | j + 1, i => by
    simp only [q_right]
    split
    · split
      · have := q_right_le (α := α) (e := e) (s := s) (n := n) j (i + 1); omega
      · omega
    · omega
theorem Th.fi {α ρ : Af} {n s m : Nat} (hR : R α ρ) (hs : s < 4) (hm : m ≤ 24) (hc : ∀ i, i < m → α (idSn s) i = ρ mCells (24 * s + i)) : ∀ (j i : Nat) {β r : Af}, Th α ρ β r n → i + j = 61 → Same (q_fi s n m j i β) (r_end (r_fi s n m j i r))
  | 0, i, β, r, h, hi => by
    simp only [q_fi, r_fi]
    rw [end_61 (show i = 61 by omega)]
    exact (h.back hR).err (by decide)
  | j + 1, i, β, r, h, hi => by
    simp only [q_fi, r_fi]
    have e1 : q_right β 2 s n m 0 = r_right r s n m 0 := right_eq (fun i hi => h.1.bears hi) (fun i hi => by rw [h.2.1 _ (by unfold D2 idSn; omega), h.2.2.2.2 mCells (by decide) (by decide) (by decide)]; exact hc i hi) m 0 (by omega)
    have e2 := q_right_le (α := β) (e := 2) (s := s) (n := n) m 0
    rw [e1] at e2
    rw [e1]
    by_cases c : r_right r s n m 0 = m
    · rw [if_pos (show nI (r_right r s n m 0) = nI m by rw [c]), if_pos (show nI m ≤ nI (r_right r s n m 0) from nI_le (by omega) (by omega)), end_lt (by omega)]
      exact ⟨rfl, h.back hR⟩
    · rw [if_neg (show ¬ nI (r_right r s n m 0) = nI m from fun q => c ((nI_eq (by omega) (by omega)).mp q)), if_neg (show ¬ nI m ≤ nI (r_right r s n m 0) from fun q => by have := (nI_leI (a := m) (b := r_right r s n m 0) (by omega) (by omega)).mp q; omega)]
      exact Th.fi hR hs hm hc j (i + 1) h.day (by omega)
theorem e_fits {α ρ : Af} {v : Int32} (h : R α ρ) : Same (f_fits α v) (g_fits ρ v) := by
  obtain ⟨n, d, hq⟩ := h.q
  obtain ⟨h9, hn, hc⟩ := hq.n9
  unfold f_fits g_fits
  rcases h.nt (v := v) with ⟨c1, c2, c3⟩ | ⟨c1, c2, c3, c4⟩ | ⟨c1, c3, c4⟩
  · rw [if_pos c1, if_neg c2, if_pos c3, h.many, hc]
    obtain ⟨s, hs, rfl⟩ := sh_of c1
    obtain ⟨-, -, m, hm, m1, m2, m3⟩ := h.2.2.2.1 s hs
    rw [nI_clamp (by omega), m1, m2, nI_clamp (by omega)]
    exact hq.th.fi h hs hm m3 61 0 (by decide)
  · rw [if_pos c1, if_pos c2, if_neg c4, c3]; exact h.err (by decide)
  · rw [if_neg c1, if_neg c4, c3]; exact h.err (by decide)
