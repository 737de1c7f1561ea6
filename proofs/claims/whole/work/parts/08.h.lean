/-! ## a new span -/
theorem q_add_S {α : Af} {n : Nat} {km a b : Int32} : ∀ w, w < 7 → q_addSpan α 0 n km a b (idS 0 n) w = if w = 0 then km / 10 else if w = 1 then jrem km 10 else if w = 2 then a else if w = 3 then b else 0 := by
  intro w hw
  unfold q_addSpan
  rw [up_ne (show idS 0 n ≠ idD 0 by unfold idS idD; omega)]
  unfold q_addA q_bake
  rcases (show w = 0 ∨ w = 1 ∨ w = 2 ∨ w = 3 ∨ w = 4 ∨ w = 5 ∨ w = 6 by omega) with rfl | rfl | rfl | rfl | rfl | rfl | rfl <;> simp [up_at]
theorem q_add_ne {α : Af} {n i : Nat} {km a b : Int32} (h1 : i ≠ idD 0) (h2 : i ≠ idS 0 n) : q_addSpan α 0 n km a b i = α i := by
  unfold q_addSpan
  rw [up_ne h1, q_addA_ne h2]
theorem q_add_D {α : Af} {n j : Nat} {km a b : Int32} (hn : n < 9) : q_addSpan α 0 n km a b (idD 0) j = if j = 1 then α (idD 0) 1 + 1 else α (idD 0) j := by
  unfold q_addSpan
  rw [up_at, q_addA_ne (nS_D (by decide))]
theorem r_add_S {ρ : Af} {n : Nat} {km a b : Int32} : ∀ w, w < 7 → r_addS ρ n km a b mRow (mS n w) = if w = 0 then km / 10 else if w = 1 then jrem km 10 else if w = 2 then a else if w = 3 then b else 0 := by
  intro w hw
  have hi : ∀ w w', w < 7 → w' < 7 → w ≠ w' → mS n w ≠ mS n w' := fun w w' h h' hne q => hne (mS_inj h h' q).2
  unfold r_addS
  rcases (show w = 0 ∨ w = 1 ∨ w = 2 ∨ w = 3 ∨ w = 4 ∨ w = 5 ∨ w = 6 by omega) with rfl | rfl | rfl | rfl | rfl | rfl | rfl
  · rw [up_ne2 (hi 0 6 (by decide) (by decide) (by decide)), up_ne2 (hi 0 5 (by decide) (by decide) (by decide)), up_ne2 (hi 0 4 (by decide) (by decide) (by decide)), up_ne2 (hi 0 3 (by decide) (by decide) (by decide)), up_ne2 (hi 0 2 (by decide) (by decide) (by decide)), up_ne2 (hi 0 1 (by decide) (by decide) (by decide)), up_eq]; rfl
  · rw [up_ne2 (hi 1 6 (by decide) (by decide) (by decide)), up_ne2 (hi 1 5 (by decide) (by decide) (by decide)), up_ne2 (hi 1 4 (by decide) (by decide) (by decide)), up_ne2 (hi 1 3 (by decide) (by decide) (by decide)), up_ne2 (hi 1 2 (by decide) (by decide) (by decide)), up_eq]; rfl
  · rw [up_ne2 (hi 2 6 (by decide) (by decide) (by decide)), up_ne2 (hi 2 5 (by decide) (by decide) (by decide)), up_ne2 (hi 2 4 (by decide) (by decide) (by decide)), up_ne2 (hi 2 3 (by decide) (by decide) (by decide)), up_eq]; rfl
  · rw [up_ne2 (hi 3 6 (by decide) (by decide) (by decide)), up_ne2 (hi 3 5 (by decide) (by decide) (by decide)), up_ne2 (hi 3 4 (by decide) (by decide) (by decide)), up_eq]; rfl
  · rw [up_ne2 (hi 4 6 (by decide) (by decide) (by decide)), up_ne2 (hi 4 5 (by decide) (by decide) (by decide)), up_eq]; rfl
  · rw [up_ne2 (hi 5 6 (by decide) (by decide) (by decide)), up_eq]; rfl
  · rw [up_eq]; rfl
theorem r_add_ne {ρ : Af} {n k : Nat} {km a b : Int32} (h : ∀ w, w < 7 → k ≠ mS n w) : r_addS ρ n km a b mRow k = if k = 2 then ρ mRow 2 + 1 else ρ mRow k := by
  unfold r_addS
  rw [up_ne2 (h 6 (by decide)), up_ne2 (h 5 (by decide)), up_ne2 (h 4 (by decide)), up_ne2 (h 3 (by decide)), up_ne2 (h 2 (by decide)), up_ne2 (h 1 (by decide)), up_ne2 (h 0 (by decide)), up_at]
theorem two_ok {a b : Int32} (h : q_areTwo a b = true) : (∃ m, m < 8 ∧ a = nI m) ∧ (∃ m, m < 8 ∧ b = nI m) ∧ ¬ a = b := by
  unfold q_areTwo at h
  by_cases c1 : q_isPlace a = true
  · rw [if_pos c1] at h
    by_cases c2 : q_isPlace b = true
    · rw [if_pos c2] at h
      by_cases c3 : a = b
      · rw [if_pos c3] at h; cases h
      · exact ⟨pl_of c1, pl_of c2, c3⟩
    · rw [if_neg c2] at h; cases h
  · rw [if_neg c1] at h; cases h
theorem Qq.add {α ρ : Af} {n d : Nat} {km a b : Int32} (hq : Qq α ρ n d) (hn9 : n < 9) (hk : q_isKm km = true) (h2 : q_areTwo a b = true) : R (q_addSpan α 0 n km a b) (r_addS ρ n km a b) := by
  obtain ⟨⟨-, hn⟩, ⟨s1, s2, s3, s4, s5, s6, s7, s8, s9⟩, hsp, hlw, htp, hwt, hrg⟩ := hq.2.1
  obtain ⟨⟨k0, k0h, ek0⟩, k1, k1h, ek1⟩ := km_of hk
  obtain ⟨ha, hb, -⟩ := two_ok h2
  have lo : ∀ k, k < 9 → k ≠ 2 → r_addS ρ n km a b mRow k = ρ mRow k := fun k hk h2 => by rw [r_add_ne (fun w hw => by have := mS_ge (u := n) (w := w); omega), if_neg h2]
  have hi : ∀ k, 72 ≤ k → r_addS ρ n km a b mRow k = ρ mRow k := fun k hk => by rw [r_add_ne (fun w hw => by have := mS_lt (u := n) (w := w) hn9 hw; omega), if_neg (by omega)]
  have two : r_addS ρ n km a b mRow 2 = nI (n + 1) := by rw [r_add_ne (fun w hw => by have := mS_ge (u := n) (w := w); omega), if_pos rfl, hn]; exact nI_1 n
  have dj : ∀ j, j ≠ 1 → q_addSpan α 0 n km a b (idD 0) j = α (idD 0) j := fun j hj => by rw [q_add_D hn9, if_neg hj]
  refine hq.1.fr (n := n + 1) ⟨⟨⟨by omega, two⟩, ⟨?_, ?_, ?_, ?_, ?_, ?_, ?_, ?_, ?_⟩, fun u hu => ?_, hlw.of (fun u hu => ?_) (fun k hk _ => hi k (by omega)), htp.of (fun j _ => by rw [q_add_ne (by decide) (by unfold idTp idS; omega)]) (lo 7 (by decide) (by decide)) (fun k hk _ => hi k (by omega)), hwt.of (fun j _ => by rw [q_add_ne (by decide) (by unfold idWt idS; omega)]) (lo 8 (by decide) (by decide)) (fun k hk _ => hi k (by omega)), ?_⟩, d, hq.2.2.2, by rw [lo 0 (by decide) (by decide)]; exact hq.2.2.1⟩ (fun i h1 h2 => q_add_ne h1 (h2 n (by omega))) (fun i h1 _ _ => by unfold r_addS; rw [up_ne h1, up_ne h1, up_ne h1, up_ne h1, up_ne h1, up_ne h1, up_ne h1, up_ne h1])
  · rw [q_add_D hn9, if_pos rfl, two, s1, hn]; exact nI_1 n
  · rw [dj 2 (by decide), lo 4 (by decide) (by decide)]; exact s2
  · rw [dj 3 (by decide), lo 3 (by decide) (by decide)]; exact s3
  · rw [dj 4 (by decide), lo 0 (by decide) (by decide)]; exact s4
  · rw [dj 5 (by decide), lo 5 (by decide) (by decide)]; exact s5
  · rw [dj 6 (by decide), lo 6 (by decide) (by decide)]; exact s6
  · rw [dj 7 (by decide), lo 1 (by decide) (by decide)]; exact s7
  · rw [dj 10 (by decide), lo 7 (by decide) (by decide)]; exact s8
  · rw [dj 12 (by decide), lo 8 (by decide) (by decide)]; exact s9
  · by_cases e : u = n
    · subst e
      refine ⟨fun w hw => by rw [q_add_S w hw, r_add_S w hw], ?_, ?_, ?_, ?_, ?_, ?_, ?_⟩
      · exact ⟨k0, k0h, by show r_addS ρ u km a b mRow (mS u 0) = _; rw [r_add_S 0 (by decide)]; exact ek0⟩
      · exact ⟨k1, k1h, by show r_addS ρ u km a b mRow (mS u 1) = _; rw [r_add_S 1 (by decide)]; exact ek1⟩
      · show ∃ m, m < 8 ∧ r_addS ρ u km a b mRow (mS u 2) = nI m
        rw [r_add_S 2 (by decide)]; exact ha
      · show ∃ m, m < 8 ∧ r_addS ρ u km a b mRow (mS u 3) = nI m
        rw [r_add_S 3 (by decide)]; exact hb
      · exact ⟨0, by decide, by show r_addS ρ u km a b mRow (mS u 4) = _; rw [r_add_S 4 (by decide)]; rfl⟩
      · exact ⟨0, by decide, by show r_addS ρ u km a b mRow (mS u 5) = _; rw [r_add_S 5 (by decide)]; rfl⟩
      · exact Or.inl (by show r_addS ρ u km a b mRow (mS u 6) = _; rw [r_add_S 6 (by decide)]; rfl)
    · obtain ⟨a1, a2⟩ := hsp u (by omega)
      have e2 : ∀ w, w < 7 → r_addS ρ n km a b mRow (mS u w) = ρ mRow (mS u w) := fun w hw => by
        rw [r_add_ne (fun w' hw' q => e (mS_inj hw hw' q).1), if_neg (by have := mS_ge (u := u) (w := w); omega)]
      refine ⟨fun w hw => by rw [e2 w hw, q_add_ne (by unfold idS idD; omega) (by unfold idS; omega)]; exact a1 w hw, ?_⟩
      unfold SpOk at a2 ⊢
      simp only [e2 0 (by decide), e2 1 (by decide), e2 2 (by decide), e2 3 (by decide), e2 4 (by decide), e2 5 (by decide), e2 6 (by decide)]
      exact a2
  · rw [q_add_ne (by unfold idL idD; omega) (by unfold idL idS; omega), q_add_ne (by unfold idLc idD; omega) (by unfold idLc idS; omega)]; exact ⟨rfl, rfl, fun _ _ => rfl⟩
  · unfold RgR
    rw [lo 5 (by decide) (by decide), lo 6 (by decide) (by decide)]; exact hrg
theorem e_span {α ρ : Af} {km a b : Int32} (h : R α ρ) : Same (f_span α km a b) (g_span ρ km a b) := by
  obtain ⟨n, d, hq⟩ := h.q
  obtain ⟨h9, hn, hc⟩ := hq.n9
  unfold f_span g_span
  rw [h.many, hc, hn]
  by_cases c1 : q_isKm km = true
  · rw [if_pos c1, if_pos c1]
    by_cases c2 : q_areTwo a b = true
    · rw [if_pos c2, if_pos c2]
      by_cases c3 : n = 9
      · rw [if_neg (show ¬ nI n < 9 by rw [c3]; decide), if_pos (show nI n = 9 by rw [c3]; rfl)]
        exact h.err (by decide)
      · rw [if_pos (show nI n < 9 from (nI_ltI (a := n) (b := 9) (by omega) (by decide)).mpr (by omega)), if_neg (show ¬ nI n = 9 from fun q => c3 ((nI_eq (a := n) (b := 9) (by omega) (by decide)).mp q))]
        exact ⟨rfl, hq.add (by omega) c1 c2⟩
    · rw [if_neg c2, if_neg c2]; exact h.err (by decide)
  · rw [if_neg c1, if_neg c1]; exact h.err (by decide)
