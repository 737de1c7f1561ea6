/-! ## image and restore, and what is only thought -/
theorem q_take_other {α : Af} {e e' a : Nat} (ha : a ≠ e) (ha3 : a < 3) (he : e < 3) : q_take α e e' (idD a) = α (idD a) ∧ (∀ u, u < 9 → q_take α e e' (idS a u) = α (idS a u)) ∧ (∀ u, u < 2 → q_take α e e' (idL a u) = α (idL a u) ∧ q_take α e e' (idLc a u) = α (idLc a u)) ∧ q_take α e e' (idTp a) = α (idTp a) ∧ q_take α e e' (idWt a) = α (idWt a) := by
  refine ⟨q_take_ne (by unfold idD; omega) (fun v hv => by unfold idD idS; omega) (fun v hv => ⟨by unfold idD idL; omega, by unfold idD idLc; omega⟩) (by unfold idD idTp; omega) (by unfold idD idWt; omega), fun u hu => q_take_ne (by unfold idD idS; omega) (fun v hv => by unfold idS; omega) (fun v hv => ⟨by unfold idS idL; omega, by unfold idS idLc; omega⟩) (by unfold idS idTp; omega) (by unfold idS idWt; omega), fun u hu => ⟨q_take_ne (by unfold idD idL; omega) (fun v hv => by unfold idL idS; omega) (fun v hv => ⟨by unfold idL; omega, by unfold idL idLc; omega⟩) (by unfold idL idTp; omega) (by unfold idL idWt; omega), q_take_ne (by unfold idD idLc; omega) (fun v hv => by unfold idLc idS; omega) (fun v hv => ⟨by unfold idLc idL; omega, by unfold idLc; omega⟩) (by unfold idLc idTp; omega) (by unfold idLc idWt; omega)⟩, q_take_ne (by unfold idD idTp; omega) (fun v hv => by unfold idTp idS; omega) (fun v hv => ⟨by unfold idTp idL; omega, by unfold idTp idLc; omega⟩) (by unfold idTp; omega) (by unfold idTp idWt; omega), q_take_ne (by unfold idD idWt; omega) (fun v hv => by unfold idWt idS; omega) (fun v hv => ⟨by unfold idWt idL; omega, by unfold idWt idLc; omega⟩) (by unfold idWt idTp; omega) (by unfold idWt; omega)⟩
theorem IC0.lk {α : Af} {e : Nat} (h : IC0 α) (he : e < 3) : Lk α e := fun u hu => (h.1 e he u hu).1
theorem IC0.take {α : Af} {e e' : Nat} (he : e < 3) (he' : e' < 3) (hne : e ≠ e') (h : IC0 α) : IC0 (q_take α e e') := by
  obtain ⟨h1, h2, h3, h4⟩ := id h
  refine ⟨fun a ha u hu => ?_, fun a ha u hu => ?_, fun j hj => ?_, fun a ha j hj => ?_⟩
  · by_cases q : a = e
    · subst q
      obtain ⟨⟨n, n60, en⟩, hw⟩ := h1 e' he' u hu
      obtain ⟨l0, l1, -⟩ := take_law ha he' hne hu (h.lk he') en n60
      rw [l0, l1]
      exact ⟨⟨n, n60, rfl⟩, hw⟩
    · rw [((q_take_other q ha he).2.2.1 u hu).1]; exact h1 a ha u hu
  · by_cases q : a = e
    · subst q
      rw [q_take_S ha he' hne hu (by decide)]; exact h2 e' he' u hu
    · rw [(q_take_other q ha he).2.1 u hu]; exact h2 a ha u hu
  · rw [q_take_ne (by unfold idRb idD; omega) (fun v hv => by unfold idRb idS; omega) (fun v hv => ⟨by unfold idRb idL; omega, by unfold idRb idLc; omega⟩) (by unfold idRb idTp; omega) (by unfold idRb idWt; omega)]; exact h3 j hj
  · by_cases q : a = e
    · subst q
      rw [(take_Tp ha he' hne).1 j hj]; exact h4 e' he' j hj
    · rw [(q_take_other q ha he).2.2.2.1]; exact h4 a ha j hj
theorem RowR.other {α : Af} {e e' a n : Nat} {row : Nat → Int32} (h : RowR α a row n) (ha : a ≠ e) (ha3 : a < 3) (he : e < 3) : RowR (q_take α e e') a row n := by
  obtain ⟨k1, k2, k3, k4, k5⟩ := q_take_other (α := α) (e' := e') ha ha3 he
  exact h.cong (fun _ _ _ _ _ _ => by rw [k1]) (fun u hu _ _ => by rw [k2 u hu]) (fun u hu => by rw [(k3 u hu).1, (k3 u hu).2]; exact ⟨rfl, rfl, fun _ _ => rfl⟩) (fun _ _ => by rw [k4]) (fun _ _ => by rw [k5]) (fun _ _ => rfl)
theorem q_take_far {α : Af} {e e' i : Nat} (he : e < 3) (h : i = 0 ∨ (19 ≤ i ∧ i ≤ 30)) : q_take α e e' i = α i :=
  q_take_ne (by unfold idD; omega) (fun v hv => by unfold idS; omega) (fun v hv => ⟨by unfold idL; omega, by unfold idLc; omega⟩) (by unfold idTp; omega) (by unfold idWt; omega)
theorem RowR.rw_row {α : Af} {e n : Nat} {row row' : Nat → Int32} (h : RowR α e row n) (hr : ∀ k, k < 398 → row' k = row k) : RowR α e row' n :=
  h.cong (fun _ _ _ _ _ _ => rfl) (fun _ _ _ _ => rfl) (fun _ _ => ⟨rfl, rfl, fun _ _ => rfl⟩) (fun _ _ => rfl) (fun _ _ => rfl) hr
theorem e_image {α ρ : Af} (h : R α ρ) : Same (f_image α) (g_image ρ) := by
  obtain ⟨⟨n, hr, d, hd1, hd2⟩, ⟨hk1, hk2⟩, he, hs, ht, hi⟩ := h
  have f0 : q_take α 1 0 idB = α idB := q_take_far (by decide) (Or.inl rfl)
  have g0 : r_copy ρ mRow mKept 398 idM = ρ idM := r_copy_ne (by decide) 398
  have gr : r_copy ρ mRow mKept 398 mRow = ρ mRow := r_copy_ne (by decide) 398
  have gk : ∀ k, k < 398 → r_copy ρ mRow mKept 398 mKept k = ρ mRow k := fun k hk => by rw [r_copy_at (by decide), if_pos hk]
  unfold f_image g_image
  rw [f0, g0, hk1]
  refine ⟨?_, ?_⟩
  · show up (q_take α 1 0) idB 7 (ρ idM 3 + 1) idB 7 = up (r_copy ρ mRow mKept 398) idM 3 (ρ idM 3 + 1) idM 3
    rw [up_eq, up_eq]
  show R (up (q_take α 1 0) idB 7 (ρ idM 3 + 1)) (up (r_copy ρ mRow mKept 398) idM 3 (ρ idM 3 + 1))
  have nb : ∀ i, i ≠ 0 → up (q_take α 1 0) idB 7 (ρ idM 3 + 1) i = q_take α 1 0 i := fun i hi => up_ne hi
  have cg : ∀ e row m, e < 3 → RowR (q_take α 1 0) e row m → RowR (up (q_take α 1 0) idB 7 (ρ idM 3 + 1)) e row m := fun e row m he2 h => h.cong (fun _ _ _ _ _ _ => by rw [nb _ (by unfold idD; omega)]) (fun u hu _ _ => by rw [nb _ (by unfold idS; omega)]) (fun u hu => by rw [nb _ (by unfold idL; omega), nb _ (by unfold idLc; omega)]; exact ⟨rfl, rfl, fun _ _ => rfl⟩) (fun _ _ => by rw [nb _ (by unfold idTp; omega)]) (fun _ _ => by rw [nb _ (by unfold idWt; omega)]) (fun _ _ => rfl)
  have far : ∀ i, 19 ≤ i → i ≤ 30 → up (q_take α 1 0) idB 7 (ρ idM 3 + 1) i = α i := fun i h1 h2 => by rw [nb i (by omega), q_take_far (by decide) (Or.inr ⟨h1, h2⟩)]
  have mm : ∀ i, i ≠ idM → i ≠ mKept → up (r_copy ρ mRow mKept 398) idM 3 (ρ idM 3 + 1) i = ρ i := fun i h1 h2 => by rw [up_ne h1, r_copy_ne h2]
  refine ⟨⟨n, ?_, d, hd1, ?_⟩, ⟨by rw [up_eq, up_eq], fun _ => ⟨n, ?_, d, hd1, ?_⟩⟩, fun j hj => ?_, fun s hs4 => ?_, ?_, (hi.take (by decide) (by decide) (by decide)).of (fun e he u hu => nb _ (by unfold idL; omega)) (fun e he u hu => Or.inl (by rw [nb _ (by unfold idS; omega)])) (nb _ (by decide)) (fun e he => nb _ (by unfold idTp; omega))⟩
  · rw [mm mRow (by decide) (by decide)]
    exact cg 0 _ n (by decide) (hr.other (by decide) (by decide) (by decide))
  · rw [mm mRow (by decide) (by decide)]; exact hd2
  · rw [up_ne (show mKept ≠ idM by decide)]
    exact (cg 1 _ n (by decide) (hr.take (by decide) (by decide) (by decide) (hi.lk (by decide)))).rw_row gk
  · rw [up_ne (show mKept ≠ idM by decide), gk 0 (by decide)]; exact hd2
  · rw [far idEr (by decide) (by decide), mm mErr (by decide) (by decide)]; exact he j hj
  · rw [mm mBits (by decide) (by decide), mm mSize (by decide) (by decide), mm mCells (by decide) (by decide), far (idSh s) (by unfold idSh; omega) (by unfold idSh; omega), far (idSn s) (by unfold idSn; omega) (by unfold idSn; omega)]
    exact hs s hs4
  · unfold TrR
    rw [up_ne2 (show (19 : Nat) ≠ 3 by decide), g0, mm mTrace (by decide) (by decide), far idV (by decide) (by decide), far idVt (by decide) (by decide)]; exact ht
theorem e_restore {α ρ : Af} (h : R α ρ) : Same (f_restore α) (g_restore ρ) := by
  obtain ⟨⟨n, hr, -⟩, ⟨hk1, hk2⟩, he, hs, ht, hi⟩ := id h
  unfold f_restore g_restore
  rw [hk1]
  by_cases c : ρ idM 3 = 0
  · rw [if_pos c, if_pos c]; exact h.err (by decide)
  · rw [if_neg c, if_neg c]
    obtain ⟨m, r1, d, hd1, hd2⟩ := hk2 c
    have gk : ∀ k, k < 398 → r_copy ρ mKept mRow 398 mRow k = ρ mKept k := fun k hk => by rw [r_copy_at (by decide), if_pos hk]
    have ge : ∀ i, i ≠ mRow → r_copy ρ mKept mRow 398 i = ρ i := fun i hi => r_copy_ne hi 398
    generalize r_copy ρ mKept mRow 398 = X at gk ge ⊢
    have r2 : RowR (q_take α 0 1) 0 (X mRow) m := (r1.take (by decide) (by decide) (by decide) (hi.lk (by decide))).rw_row gk
    refine ⟨r2.2.1.2.2.2.1, ?_⟩
    show R (q_take α 0 1) X
    refine h.row' (n := m) ⟨r2, d, hd1, by rw [gk 0 (by decide)]; exact hd2⟩ (hi.take (by decide) (by decide) (by decide)) (fun i hi => ?_) ge
    exact q_take_ne (by unfold Kc at hi; unfold idD; omega) (fun v hv => by unfold Kc at hi; unfold idS; omega) (fun v hv => by unfold Kc at hi; unfold idL idLc; omega) (by unfold Kc at hi; unfold idTp; omega) (by unfold Kc at hi; unfold idWt; omega)
