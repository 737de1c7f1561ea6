/-! ## feed, ended -/
theorem ch_byte1 : ∀ b, b < 256 → (nI b).toUInt32.toUInt16.toUInt32.toInt32 = nI b ∧ (decide (0 ≤ nI b) && decide (nI b ≤ 65535)) = true := by decide +kernel
theorem ch_byte {b : Nat} (h : b < 256) : Ch (nI b) := by
  obtain ⟨h1, h2⟩ := ch_byte1 b h
  refine ⟨?_, h2⟩
  show Value.int (nI b).toUInt32.toUInt16.toUInt32.toInt32 = Value.int (nI b)
  rw [h1]
theorem Qq.tape {α ρ : Af} {n d t b : Nat} {v : Int32} (hq : Qq α ρ n d) (ht : ρ mRow 7 = nI t) (h60 : t < 60) (hv : v = nI b) (hb : b < 256) : Qq (up (up α (idTp 0) t v) (idD 0) 10 (nI (t + 1))) (up (up ρ mRow (72 + t) v) mRow 7 (nI (t + 1))) n d := by
  have hr := hq.2.1
  have ha : ∀ i, i ≠ idD 0 → i ≠ idTp 0 → (up (up α (idTp 0) t v) (idD 0) 10 (nI (t + 1))) i = α i := fun i h1 h2 => by rw [up_ne h1, up_ne h2]
  have hD : ∀ j, j ≠ 10 → (up (up α (idTp 0) t v) (idD 0) 10 (nI (t + 1))) (idD 0) j = α (idD 0) j := fun j hj => by rw [up_ne2 hj, up_ne (by decide)]
  have hrow : ∀ k, k ≠ 7 → k ≠ 72 + t → (up (up ρ mRow (72 + t) v) mRow 7 (nI (t + 1))) mRow k = ρ mRow k := fun k h1 h2 => by rw [up_ne2 h1, up_ne2 h2]
  have hb' : ∀ i, i ≠ mRow → (up (up ρ mRow (72 + t) v) mRow 7 (nI (t + 1))) i = ρ i := fun i hi => by rw [up_ne hi, up_ne hi]
  have h7 : (up (up ρ mRow (72 + t) v) mRow 7 (nI (t + 1))) mRow 7 = nI (t + 1) := up_eq
  have hT : TpR (up (up α (idTp 0) t v) (idD 0) 10 (nI (t + 1))) 0 ((up (up ρ mRow (72 + t) v) mRow 7 (nI (t + 1))) mRow) := by
    obtain ⟨t', a1, a2, a3⟩ := hr.2.2.2.2.1
    have et : t' = t := (nI_eq (a := t') (b := t) (by omega) (by omega)).mp (a2.symm.trans ht)
    subst et
    refine ⟨t' + 1, by omega, h7, fun j hj => ?_⟩
    rw [up_ne (by decide), up_at, up_ne2 (show 72 + j ≠ 7 by omega)]
    by_cases e : j = t'
    · subst e
      rw [if_pos rfl, up_eq]
      exact ⟨rfl, b, hb, hv⟩
    · rw [if_neg e, up_ne2 (by omega)]
      exact a3 j (by omega)
  have hR : RowR (up (up α (idTp 0) t v) (idD 0) 10 (nI (t + 1))) 0 ((up (up ρ mRow (72 + t) v) mRow 7 (nI (t + 1))) mRow) n := by
    refine hr.mk' (fun j h1 _ => hD j h1) (by rw [h7]; exact up_eq) ?_ (fun u hu => ha _ (by unfold idS idD; omega) (by unfold idS idTp; omega)) (fun k hk h7 _ => hrow k h7 (by omega)) (hr.2.2.2.1.of (fun u hu => ?_) (fun k hk _ => hrow k (by omega) (by omega))) hT (hr.2.2.2.2.2.1.of (fun j _ => by rw [ha _ (by decide) (by decide)]) (hrow 8 (by decide) (by omega)) (fun k hk _ => hrow k (by omega) (by omega)))
    · rw [hD 12 (by decide), hrow 8 (by decide) (by omega)]; exact hr.2.1.2.2.2.2.2.2.2.2
    · rw [ha _ (by unfold idL idD; omega) (by unfold idL idTp; omega), ha _ (by unfold idLc idD; omega) (by unfold idLc idTp; omega)]; exact ⟨rfl, rfl, fun _ _ => rfl⟩
  have h0 : (up (up ρ mRow (72 + t) v) mRow 7 (nI (t + 1))) mRow 0 = nI d := by rw [hrow 0 (by decide) (by omega)]; exact hq.2.2.1
  refine ⟨hq.1.row' (n := n) ⟨hR, d, hq.2.2.2, h0⟩ ?_ (fun i hi => ha i (by unfold Kc at hi; unfold idD; omega) (by unfold Kc at hi; unfold idTp; omega)) hb', hR, h0, hq.2.2.2⟩
  obtain ⟨i1, i2, i3, i4⟩ := hq.1.2.2.2.2.2
  refine ⟨fun e he u hu => by rw [ha _ (by unfold idL idD; omega) (by unfold idL idTp; omega)]; exact i1 e he u hu, fun e he u hu => by rw [ha _ (by unfold idS idD; omega) (by unfold idS idTp; omega)]; exact i2 e he u hu, fun j hj => by rw [ha _ (by decide) (by decide)]; exact i3 j hj, fun e he j hj => ?_⟩
  rw [up_ne (show idTp e ≠ idD 0 by unfold idTp idD; omega)]
  by_cases e1 : e = 0
  · subst e1
    rw [up_at]
    by_cases e2 : j = t
    · rw [if_pos e2, hv]; exact ch_byte hb
    · rw [if_neg e2]; exact i4 0 he j hj
  · rw [up_ne (show idTp e ≠ idTp 0 by unfold idTp; omega)]; exact i4 e he j hj
theorem Qq.tapes {α ρ : Af} {n d t : Nat} {w : Int64} (hq : Qq α ρ n d) (ht : ρ mRow 7 = nI t) : ∀ i, i ≤ 8 → t + i ≤ 60 → Qq (q_tape α 0 w i) (r_tape ρ w t i) n d
  | 0, _, _ => hq
  | i + 1, hi, h60 => by
    have ih := Qq.tapes hq ht i (by omega) (by omega) (w := w)
    have e10 : α (idD 0) 10 = nI t := hq.2.1.2.1.2.2.2.2.2.2.2.1.trans ht
    obtain ⟨e1, b, hb, e2⟩ := byte_eq (w := w) (i := i) (by omega)
    have h7 := r_tape_7 (wd := w) ht i
    have a10 := q_tape_10 (w := w) (show 0 < 3 by decide) e10 i
    have key := ih.tape h7 (by omega) e2 hb
    simp only [q_tape, r_tape]
    rw [e1, a10, nI_clamp (by omega), up_ne (show idD 0 ≠ idTp 0 by decide), a10, up_ne2 (show 7 ≠ 72 + (t + i) by omega), h7, nI_1]
    exact key
theorem e_feed {α ρ : Af} {w : Int64} {v : Int32} (h : R α ρ) : Same (f_feed α w v) (g_feed ρ w v) := by
  obtain ⟨n, d, hq⟩ := h.q
  obtain ⟨t, h60, t1, -⟩ := hq.2.1.2.2.2.2.1
  have e10 : α (idD 0) 10 = nI t := hq.2.1.2.1.2.2.2.2.2.2.2.1.trans t1
  unfold f_feed g_feed
  by_cases c1 : q_within v 1 8 = true
  · rw [if_pos c1, if_pos c1]
    obtain ⟨m, hm1, hm, rfl⟩ := wi_of (v := v) (a := 1) (b := 8) rfl rfl (by decide) (by decide) c1
    rw [e10, t1, nI_clamp (by omega), nI_clamp (by omega)]
    have s1 : (60 : Int32) - nI m = nI (60 - m) := pk_sub (a := 60) (b := m) (by omega)
    rw [s1, nI_add]
    by_cases c2 : t + m ≤ 60
    · rw [if_pos ((nI_leI (a := t) (b := 60 - m) (by omega) (by omega)).mpr (by omega)), if_pos (show nI (t + m) ≤ 60 from (nI_leI (a := t + m) (b := 60) (by omega) (by decide)).mpr c2)]
      refine ⟨(r_tape_7 t1 m).symm, (hq.tapes t1 m (by omega) c2).1⟩
    · rw [if_neg (fun q => c2 (by have := (nI_leI (a := t) (b := 60 - m) (by omega) (by omega)).mp q; omega)), if_neg (show ¬ nI (t + m) ≤ 60 from fun q => c2 ((nI_leI (a := t + m) (b := 60) (by omega) (by decide)).mp q))]
      exact h.err (by decide)
  · rw [if_neg c1, if_neg c1]; exact h.err (by decide)
