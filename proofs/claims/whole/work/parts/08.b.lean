/-! ## a row of the reference against a delta of the class -/
def ScR (α : Af) (e : Nat) (row : Nat → Int32) : Prop := α (idD e) 1 = row 2 ∧ α (idD e) 2 = row 4 ∧ α (idD e) 3 = row 3 ∧ α (idD e) 4 = row 0 ∧ α (idD e) 5 = row 5 ∧ α (idD e) 6 = row 6 ∧ α (idD e) 7 = row 1 ∧ α (idD e) 10 = row 7 ∧ α (idD e) 12 = row 8
def SpsR (α : Af) (e : Nat) (row : Nat → Int32) (n : Nat) : Prop := ∀ u, u < n → (∀ w, w < 7 → α (idS e u) w = row (mS u w)) ∧ SpOk (fun w => row (mS u w))
def LwsR (α : Af) (e : Nat) (row : Nat → Int32) : Prop := ∀ u, u < 2 → LwR (α (idL e u)) (α (idLc e u)) (row (aU u)) (fun i => row (aU u + 1 + i)) (fun i => row (aU u + 61 + i))
def TpR (α : Af) (e : Nat) (row : Nat → Int32) : Prop := ∃ t, t ≤ 60 ∧ row 7 = nI t ∧ ∀ j, j < t → α (idTp e) j = row (72 + j) ∧ ∃ b, b < 256 ∧ row (72 + j) = nI b
def WtR (α : Af) (e : Nat) (row : Nat → Int32) : Prop := ∃ w, w ≤ 24 ∧ row 8 = nI w ∧ ∀ j, j < w → α (idWt e) j = row (132 + j)
def RgR (row : Nat → Int32) : Prop := (∃ x, x ≤ 99999 ∧ row 5 = nI x) ∧ (∃ x, x ≤ 99999 ∧ row 6 = nI x)
def RowR (α : Af) (e : Nat) (row : Nat → Int32) (n : Nat) : Prop := (n ≤ 9 ∧ row 2 = nI n) ∧ ScR α e row ∧ SpsR α e row n ∧ LwsR α e row ∧ TpR α e row ∧ WtR α e row ∧ RgR row
theorem up_row {ρ : Af} {k : Nat} {v : Int32} : up ρ mRow k v mRow = upd (ρ mRow) k v := upR_eq
theorem upd_ne {f : Nat → Int32} {k j : Nat} {v : Int32} (h : j ≠ k) : upd f k v j = f j := by simp [upd, h]
theorem upd_eq {f : Nat → Int32} {k : Nat} {v : Int32} : upd f k v k = v := by simp [upd]
theorem LwR.congr {w w' code code' act act' wit wit' : Nat → Int32} {len len' : Int32} (h : LwR w code len act wit) (h0 : w' 0 = w 0) (h1 : w' 1 = w 1) (hc : ∀ i, i < 60 → code' i = code i) (hl : len' = len) (ha : ∀ i, i < 60 → act' i = act i) (hw : ∀ i, i < 60 → wit' i = wit i) : LwR w' code' len' act' wit' := by
  rcases h with ⟨a1, a2⟩ | ⟨a1, n, b1, b2, b3, b4, b5, b6⟩
  · exact Or.inl ⟨h0.trans a1, hl.trans a2⟩
  · refine Or.inr ⟨h0.trans a1, n, b1, b2, h1.trans b3, hl.trans b4, fun i hi => ?_, ?_⟩
    · rw [hc i (by omega), ha i (by omega), hw i (by omega)]; exact b5 i hi
    · have key : ∀ j i t, i + j = n → Vd act wit j i t → Vd act' wit' j i t := by
        intro j
        induction j with
        | zero => intro i t _ hv; exact hv
        | succ j ih =>
          intro i t hi hv
          simp only [Vd] at hv ⊢
          rw [ha i (by omega), hw i (by omega)]
          by_cases c1 : act i = 1
          · rw [if_pos c1] at hv ⊢; exact ⟨hv.1, ih _ _ (by omega) hv.2⟩
          by_cases c2 : act i = 2
          · rw [if_neg c1, if_pos c2] at hv ⊢; exact ⟨hv.1, hv.2.1, ih _ _ (by omega) hv.2.2⟩
          by_cases c3 : act i = 3
          · rw [if_neg c1, if_neg c2, if_pos c3] at hv ⊢; exact ⟨hv.1, hv.2.1, ih _ _ (by omega) hv.2.2⟩
          · rw [if_neg c1, if_neg c2, if_neg c3] at hv ⊢; exact ⟨hv.1, hv.2.1, ih _ _ (by omega) hv.2.2⟩
      exact key n 0 0 (by omega) b6
theorem LwsR.of {α α' : Af} {e e' : Nat} {row row' : Nat → Int32} (h : LwsR α e row) (h1 : ∀ u, u < 2 → α' (idL e' u) 0 = α (idL e u) 0 ∧ α' (idL e' u) 1 = α (idL e u) 1 ∧ ∀ i, i < 60 → α' (idLc e' u) i = α (idLc e u) i) (h2 : ∀ k, 156 ≤ k → k < 398 → row' k = row k) : LwsR α' e' row' := fun u hu =>
  (h u hu).congr (h1 u hu).1 (h1 u hu).2.1 (h1 u hu).2.2 (h2 _ (by unfold aU; omega) (by unfold aU; omega)) (fun i hi => h2 _ (by unfold aU; omega) (by unfold aU; omega)) (fun i hi => h2 _ (by unfold aU; omega) (by unfold aU; omega))
theorem TpR.of {α α' : Af} {e e' : Nat} {row row' : Nat → Int32} (h : TpR α e row) (h1 : ∀ j, j < 60 → α' (idTp e') j = α (idTp e) j) (h2 : row' 7 = row 7) (h3 : ∀ k, 72 ≤ k → k < 132 → row' k = row k) : TpR α' e' row' := by
  obtain ⟨t, a1, a2, a3⟩ := h
  exact ⟨t, a1, h2.trans a2, fun j hj => by rw [h1 j (by omega), h3 _ (by omega) (by omega)]; exact a3 j hj⟩
theorem WtR.of {α α' : Af} {e e' : Nat} {row row' : Nat → Int32} (h : WtR α e row) (h1 : ∀ j, j < 24 → α' (idWt e') j = α (idWt e) j) (h2 : row' 8 = row 8) (h3 : ∀ k, 132 ≤ k → k < 156 → row' k = row k) : WtR α' e' row' := by
  obtain ⟨t, a1, a2, a3⟩ := h
  exact ⟨t, a1, h2.trans a2, fun j hj => by rw [h1 j (by omega), h3 _ (by omega) (by omega)]; exact a3 j hj⟩
theorem RowR.bears {α ρ : Af} {e n u : Nat} (h : RowR α e (ρ mRow) n) (hu : u < n) : q_bearsU α e u = r_bearsU ρ u := by
  obtain ⟨-, hsc, hsp, -⟩ := h
  obtain ⟨h1, h2⟩ := hsp u hu
  unfold q_bearsU r_bearsU
  rw [h1 0 (by decide), h1 1 (by decide), h1 4 (by decide), h1 5 (by decide), h1 6 (by decide), hsc.2.2.2.1]
  exact bears_eq h2 _
theorem RowR.takes {α ρ : Af} {e n u : Nat} (h : RowR α e (ρ mRow) n) (hu : u < n) : q_takesU α e u = r_takesU ρ u := by
  obtain ⟨-, hsc, hsp, -⟩ := h
  obtain ⟨h1, h2⟩ := hsp u hu
  unfold q_takesU r_takesU
  rw [h1 0 (by decide), h1 1 (by decide), h1 4 (by decide)]
  exact takes_eq h2
theorem RowR.ends {α ρ : Af} {e n u : Nat} (h : RowR α e (ρ mRow) n) (hu : u < n) : q_endsU α e u = r_endsU ρ u := by
  obtain ⟨-, hsc, hsp, -⟩ := h
  obtain ⟨h1, h2⟩ := hsp u hu
  unfold q_endsU r_endsU
  rw [h1 2 (by decide), h1 3 (by decide)]
theorem RowR.gives {α ρ : Af} {e n u : Nat} {a b c : Int32} (h : RowR α e (ρ mRow) n) (hu : u < 2) : q_gives α e (nI u) a b c = r_gives ρ u a b c := gives_eq hu (h.2.2.2.1 u hu)
theorem ends_Eb : ∀ a, a < 8 → ∀ b, b < 8 → (2 ^ a ||| 2 ^ b) < 256 ∧ q_ends (nI a) (nI b) = nI (2 ^ a ||| 2 ^ b) := by decide +kernel
theorem RowR.Eb {α ρ : Af} {e n : Nat} (h : RowR α e (ρ mRow) n) : Eb (r_endsU ρ) n := fun u hu => by
  obtain ⟨-, hsc, hsp, -⟩ := h
  obtain ⟨-, -, -, ⟨a, ha, e2⟩, ⟨b, hb, e3⟩, -⟩ := hsp u hu
  unfold r_endsU
  rw [show ρ mRow (mS u 2) = nI a from e2, show ρ mRow (mS u 3) = nI b from e3]
  exact ⟨_, ends_Eb a ha b hb⟩
theorem RowR.Ml {α ρ : Af} {e n u : Nat} (h : RowR α e (ρ mRow) n) (hu : u < 2) : Ml ρ u := by
  rcases h.2.2.2.1 u hu with ⟨a1, a2⟩ | ⟨a1, m, b1, b2, b3, b4, b5, b6⟩
  · exact ⟨0, by omega, a2, fun q => absurd q (Nat.lt_irrefl _)⟩
  · exact ⟨m, b2, b4, fun _ => b6⟩
/-! ## a day -/
theorem held_rg {v : Int32} {b : Nat} (hb : b < 2 ^ 30) : ∃ z, z ≤ b ∧ r_held v 0 (nI b) = nI z := by
  unfold r_held
  by_cases c1 : (0 : Int32) ≤ v
  · rw [if_pos c1]
    have k1 := Int32.le_iff_toInt_le.mp c1
    by_cases c2 : v ≤ nI b
    · rw [if_pos c2]
      obtain ⟨m, hm, rfl⟩ := nI_of (x := v) (fun h => by have := Int32.lt_iff_toInt_lt.mp h; omega)
      exact ⟨m, (nI_leI (a := m) (b := b) hm (by omega)).mp c2, rfl⟩
    · rw [if_neg c2]; exact ⟨b, Nat.le_refl _, rfl⟩
  · rw [if_neg c1]; exact ⟨0, Nat.zero_le _, rfl⟩
theorem age_eq1 : ∀ y, y ≤ 99 → (if nI y + 1 < 99 then nI y + 1 else 99) = r_held (nI y + 1) 0 99 := by decide +kernel
theorem age_eq (y : Nat) (h : y ≤ 99) : (if nI y + 1 < 99 then nI y + 1 else 99) = r_held (nI y + 1) 0 99 ∧ ∃ z, z ≤ 99 ∧ r_held (nI y + 1) 0 99 = nI z := ⟨age_eq1 y h, held_rg (b := 99) (by decide)⟩
theorem mS_inj {u w u' w' : Nat} (hw : w < 7) (hw' : w' < 7) (h : mS u w = mS u' w') : u = u' ∧ w = w' := by
  unfold mS at h
  omega
/-- what a span's day leaves as it is -/
theorem r_goS_S {ρ : Af} {u u' w : Nat} (hw : w < 7) (h : u' ≠ u ∨ (w ≠ 4 ∧ w ≠ 5)) : r_goS ρ u mRow (mS u' w) = ρ mRow (mS u' w) :=
  r_goS_row ⟨fun q => by have := mS_inj hw (by decide) q; omega, fun q => by have := mS_inj hw (by decide) q; omega⟩
theorem r_goS_5 {ρ : Af} {u : Nat} : r_goS ρ u mRow (mS u 5) = r_held (ρ mRow (mS u 5) + r_gives ρ 0 (ρ mRow 4) (ρ mRow (mS u 5)) (ρ mRow (mS u 0))) 0 9 := by
  unfold r_goS
  rw [up_ne2 (fun q => by have := mS_inj (by decide) (by decide) q; omega), up_eq]
theorem r_goS_4 {ρ : Af} {u : Nat} : r_goS ρ u mRow (mS u 4) = r_held (ρ mRow (mS u 4) + 1) 0 99 := by
  unfold r_goS
  rw [up_eq, up_ne2 (fun q => by have := mS_inj (by decide) (by decide) q; omega)]
theorem q_dayS_at {α : Af} {e u w : Nat} : q_dayS α e u (idS e u) w = if w = 4 then (if α (idS e u) 4 + 1 < 99 then α (idS e u) 4 + 1 else 99) else if w = 5 then q_held (α (idS e u) 5 + q_gives α e 0 (α (idD e) 2) (α (idS e u) 5) (α (idS e u) 0)) 0 9 else α (idS e u) w := by
  unfold q_dayS
  rw [up_at, up_ne2 (by decide), up_at]
theorem RowR.dayS {α ρ : Af} {e n u : Nat} (he : e < 3) (h : RowR α e (ρ mRow) n) (hu : u < n) : RowR (q_dayS α e u) e (r_goS ρ u mRow) n := by
  have hg := h.gives (u := 0) (a := ρ mRow 4) (b := ρ mRow (mS u 5)) (c := ρ mRow (mS u 0)) (by decide)
  obtain ⟨⟨h9, hn⟩, hsc, hsp, hlw, htp, hwt, hrg⟩ := h
  have lo : ∀ k, k < 9 → r_goS ρ u mRow k = ρ mRow k := fun k hk => r_goS_row ⟨by have := mS_ge (u := u) (w := 4); omega, by have := mS_ge (u := u) (w := 5); omega⟩
  have hi : ∀ k, 72 ≤ k → r_goS ρ u mRow k = ρ mRow k := fun k hk => r_goS_row ⟨by have := mS_lt (u := u) (w := 4) (by omega) (by decide); omega, by have := mS_lt (u := u) (w := 5) (by omega) (by decide); omega⟩
  refine ⟨⟨h9, by rw [lo 2 (by decide)]; exact hn⟩, ?_, ?_, hlw.of (fun v hv => ?_) (fun k hk _ => hi k (by omega)), htp.of (fun j _ => ?_) (lo 7 (by decide)) (fun k hk _ => hi k (by omega)), hwt.of (fun j _ => ?_) (lo 8 (by decide)) (fun k hk _ => hi k (by omega)), ?_⟩
  · unfold ScR
    rw [q_dayS_ne (nS_D he), lo 2 (by decide), lo 4 (by decide), lo 3 (by decide), lo 0 (by decide), lo 5 (by decide), lo 6 (by decide), lo 1 (by decide), lo 7 (by decide), lo 8 (by decide)]
    exact hsc
  · intro v hv
    obtain ⟨a1, a2⟩ := hsp v hv
    by_cases e1 : v = u
    · subst e1
      obtain ⟨k, m, a, b, ⟨y, hy, ey⟩, ⟨x, hx, ex⟩, g⟩ := a2
      have ey' : ρ mRow (mS v 4) = nI y := ey
      obtain ⟨g1, z, hz, g2⟩ := age_eq y hy
      refine ⟨fun w hw => ?_, ?_, ?_, ?_, ?_, ?_, ?_, ?_⟩
      · rw [q_dayS_at]
        by_cases w4 : w = 4
        · rw [if_pos w4, w4, r_goS_4, a1 4 (by decide), ey', g1]
        · rw [if_neg w4]
          by_cases w5 : w = 5
          · rw [if_pos w5, w5, r_goS_5, held_eq (by decide), a1 5 (by decide), a1 0 (by decide), hsc.2.1, ← hg]
            rfl
          · rw [if_neg w5, r_goS_S hw (Or.inr ⟨w4, w5⟩)]
            exact a1 w hw
      · show ∃ k, k ≤ 6 ∧ r_goS ρ v mRow (mS v 0) = nI k
        rw [r_goS_S (by decide) (Or.inr ⟨by decide, by decide⟩)]; exact k
      · show ∃ k, k ≤ 9 ∧ r_goS ρ v mRow (mS v 1) = nI k
        rw [r_goS_S (by decide) (Or.inr ⟨by decide, by decide⟩)]; exact m
      · show ∃ k, k < 8 ∧ r_goS ρ v mRow (mS v 2) = nI k
        rw [r_goS_S (by decide) (Or.inr ⟨by decide, by decide⟩)]; exact a
      · show ∃ k, k < 8 ∧ r_goS ρ v mRow (mS v 3) = nI k
        rw [r_goS_S (by decide) (Or.inr ⟨by decide, by decide⟩)]; exact b
      · show ∃ k, k ≤ 99 ∧ r_goS ρ v mRow (mS v 4) = nI k
        rw [r_goS_4, ey']; exact ⟨z, hz, g2⟩
      · show ∃ k, k ≤ 9 ∧ r_goS ρ v mRow (mS v 5) = nI k
        rw [r_goS_5]; exact held_rg (b := 9) (by decide)
      · show r_goS ρ v mRow (mS v 6) = 0 ∨ r_goS ρ v mRow (mS v 6) = 1
        rw [r_goS_S (by decide) (Or.inr ⟨by decide, by decide⟩)]; exact g
    · have e2 : ∀ w, w < 7 → r_goS ρ u mRow (mS v w) = ρ mRow (mS v w) := fun w hw => r_goS_S hw (Or.inl e1)
      refine ⟨fun w hw => ?_, ?_⟩
      · rw [e2 w hw, q_dayS_ne (by unfold idS; omega)]; exact a1 w hw
      · unfold SpOk at a2 ⊢
        simp only [e2 0 (by decide), e2 1 (by decide), e2 2 (by decide), e2 3 (by decide), e2 4 (by decide), e2 5 (by decide), e2 6 (by decide)]
        exact a2
  · rw [q_dayS_ne (nS_L he hv), q_dayS_ne (nS_Lc he hv)]; exact ⟨rfl, rfl, fun _ _ => rfl⟩
  · rw [q_dayS_ne (by unfold idTp idS; omega)]
  · rw [q_dayS_ne (by unfold idWt idS; omega)]
  · unfold RgR
    rw [lo 5 (by decide), lo 6 (by decide)]; exact hrg
theorem RowR.days {α ρ : Af} {e n : Nat} (he : e < 3) (h : RowR α e (ρ mRow) n) : ∀ i, i ≤ n → RowR (q_days α e i) e (r_gos ρ i mRow) n
  | 0, _ => h
  | i + 1, hi => by
    have ih := RowR.days he h i (by omega)
    simp only [q_days, r_gos]
    exact ih.dayS he (by omega)
theorem pr_set {α : Af} {i j k a b : Nat} {row : Nat → Int32} {v : Int32} (h : α i a = row b) (hc : (a = j ∧ b = k) ∨ (a ≠ j ∧ b ≠ k)) : up α i j v i a = upd row k v b := by
  rcases hc with ⟨rfl, rfl⟩ | ⟨h1, h2⟩
  · rw [up_eq, upd_eq]
  · rw [up_ne2 h1, upd_ne h2]; exact h
theorem ScR.set {α : Af} {e j k : Nat} {row : Nat → Int32} {v : Int32} (h : ScR α e row) (hjk : (j = 1 ∧ k = 2) ∨ (j = 2 ∧ k = 4) ∨ (j = 3 ∧ k = 3) ∨ (j = 4 ∧ k = 0) ∨ (j = 5 ∧ k = 5) ∨ (j = 6 ∧ k = 6) ∨ (j = 7 ∧ k = 1) ∨ (j = 10 ∧ k = 7) ∨ (j = 12 ∧ k = 8)) : ScR (up α (idD e) j v) e (upd row k v) := by
  obtain ⟨h1, h2, h3, h4, h5, h6, h7, h8, h9⟩ := h
  unfold ScR
  rcases hjk with ⟨rfl, rfl⟩ | ⟨rfl, rfl⟩ | ⟨rfl, rfl⟩ | ⟨rfl, rfl⟩ | ⟨rfl, rfl⟩ | ⟨rfl, rfl⟩ | ⟨rfl, rfl⟩ | ⟨rfl, rfl⟩ | ⟨rfl, rfl⟩ <;> exact ⟨pr_set h1 (by decide), pr_set h2 (by decide), pr_set h3 (by decide), pr_set h4 (by decide), pr_set h5 (by decide), pr_set h6 (by decide), pr_set h7 (by decide), pr_set h8 (by decide), pr_set h9 (by decide)⟩
/-- scalars that only they change: day, z, flour, rain, lost, toll -/
theorem RowR.set0 {α : Af} {e n j k : Nat} {row : Nat → Int32} {v : Int32} (he : e < 3) (h : RowR α e row n) (hk7 : k < 7) (hk2 : k ≠ 2) (hs : ScR (up α (idD e) j v) e (upd row k v)) (hr : RgR (upd row k v)) : RowR (up α (idD e) j v) e (upd row k v) n := by
  obtain ⟨⟨h9, hn⟩, -, hsp, hlw, htp, hwt, -⟩ := h
  refine ⟨⟨h9, by rw [upd_ne (by omega)]; exact hn⟩, hs, fun u hu => ?_, hlw.of (fun v hv => ?_) (fun k hk _ => upd_ne (by omega)), htp.of (fun j _ => ?_) (upd_ne (by omega)) (fun k hk _ => upd_ne (by omega)), hwt.of (fun j _ => ?_) (upd_ne (by omega)) (fun k hk _ => upd_ne (by omega)), hr⟩
  · obtain ⟨a1, a2⟩ := hsp u hu
    have e2 : ∀ w, upd row k v (mS u w) = row (mS u w) := fun w => upd_ne (by have := mS_ge (u := u) (w := w); omega)
    refine ⟨fun w hw => by rw [e2, up_ne (nD_S he)]; exact a1 w hw, ?_⟩
    simp only [e2]
    exact a2
  · rw [up_ne (nD_L he), up_ne (by unfold idLc idD; omega)]; exact ⟨rfl, rfl, fun _ _ => rfl⟩
  · rw [up_ne (by unfold idTp idD; omega)]
  · rw [up_ne (by unfold idWt idD; omega)]
theorem RowR.set {α : Af} {e n j k : Nat} {row : Nat → Int32} {v : Int32} (he : e < 3) (h : RowR α e row n) (hjk : (j = 2 ∧ k = 4) ∨ (j = 3 ∧ k = 3) ∨ (j = 4 ∧ k = 0) ∨ (j = 5 ∧ k = 5 ∧ ∃ x, x ≤ 99999 ∧ v = nI x) ∨ (j = 6 ∧ k = 6 ∧ ∃ x, x ≤ 99999 ∧ v = nI x) ∨ (j = 7 ∧ k = 1)) : RowR (up α (idD e) j v) e (upd row k v) n := by
  obtain ⟨r5, r6⟩ := h.2.2.2.2.2.2
  have hsc := h.2.1
  rcases hjk with ⟨rfl, rfl⟩ | ⟨rfl, rfl⟩ | ⟨rfl, rfl⟩ | ⟨rfl, rfl, hx⟩ | ⟨rfl, rfl, hx⟩ | ⟨rfl, rfl⟩
  · exact h.set0 he (by decide) (by decide) (hsc.set (by decide)) (by unfold RgR; rw [upd_ne (by decide), upd_ne (by decide)]; exact ⟨r5, r6⟩)
  · exact h.set0 he (by decide) (by decide) (hsc.set (by decide)) (by unfold RgR; rw [upd_ne (by decide), upd_ne (by decide)]; exact ⟨r5, r6⟩)
  · exact h.set0 he (by decide) (by decide) (hsc.set (by decide)) (by unfold RgR; rw [upd_ne (by decide), upd_ne (by decide)]; exact ⟨r5, r6⟩)
  · exact h.set0 he (by decide) (by decide) (hsc.set (by decide)) (by unfold RgR; rw [upd_eq, upd_ne (by decide)]; exact ⟨hx, r6⟩)
  · exact h.set0 he (by decide) (by decide) (hsc.set (by decide)) (by unfold RgR; rw [upd_ne (by decide), upd_eq]; exact ⟨r5, hx⟩)
  · exact h.set0 he (by decide) (by decide) (hsc.set (by decide)) (by unfold RgR; rw [upd_ne (by decide), upd_ne (by decide)]; exact ⟨r5, r6⟩)
theorem RowR.day {α ρ : Af} {e n : Nat} (he : e < 3) (h : RowR α e (ρ mRow) n) : RowR (q_day α e n) e (r_go ρ n mRow) n := by
  have h1 := h.days he n (Nat.le_refl _)
  have e4 := h1.2.1.2.2.2.1
  unfold q_day r_go
  rw [up_row, e4]
  exact h1.set he (Or.inr (Or.inr (Or.inl ⟨rfl, rfl⟩)))
theorem RowR.dayN {α ρ : Af} {e n : Nat} (he : e < 3) (h : RowR α e (ρ mRow) n) : ∀ i, RowR (q_dayN α e n i) e (r_goN ρ n i mRow) n
  | 0 => h
  | i + 1 => by simp only [q_dayN, r_goN]; exact (RowR.dayN he h i).day he
theorem RowR.cong {α α' : Af} {e e' n : Nat} {row row' : Nat → Int32} (h : RowR α e row n) (h1 : ∀ j, j < 13 → j ≠ 0 → j ≠ 8 → j ≠ 9 → j ≠ 11 → α' (idD e') j = α (idD e) j) (h2 : ∀ u, u < 9 → ∀ w, w < 7 → α' (idS e' u) w = α (idS e u) w) (h3 : ∀ u, u < 2 → α' (idL e' u) 0 = α (idL e u) 0 ∧ α' (idL e' u) 1 = α (idL e u) 1 ∧ ∀ i, i < 60 → α' (idLc e' u) i = α (idLc e u) i) (h4 : ∀ j, j < 60 → α' (idTp e') j = α (idTp e) j) (h5 : ∀ j, j < 24 → α' (idWt e') j = α (idWt e) j) (h6 : ∀ k, k < 398 → row' k = row k) : RowR α' e' row' n := by
  obtain ⟨⟨h9, hn⟩, hsc, hsp, hlw, htp, hwt, hrg⟩ := h
  refine ⟨⟨h9, by rw [h6 2 (by decide)]; exact hn⟩, ?_, fun u hu => ?_, hlw.of h3 (fun k _ hk => h6 k hk), htp.of h4 (h6 7 (by decide)) (fun k _ hk => h6 k (by omega)), hwt.of h5 (h6 8 (by decide)) (fun k _ hk => h6 k (by omega)), ?_⟩
  · unfold ScR
    rw [h1 1 (by decide) (by decide) (by decide) (by decide) (by decide), h1 2 (by decide) (by decide) (by decide) (by decide) (by decide), h1 3 (by decide) (by decide) (by decide) (by decide) (by decide), h1 4 (by decide) (by decide) (by decide) (by decide) (by decide), h1 5 (by decide) (by decide) (by decide) (by decide) (by decide), h1 6 (by decide) (by decide) (by decide) (by decide) (by decide), h1 7 (by decide) (by decide) (by decide) (by decide) (by decide), h1 10 (by decide) (by decide) (by decide) (by decide) (by decide), h1 12 (by decide) (by decide) (by decide) (by decide) (by decide), h6 2 (by decide), h6 4 (by decide), h6 3 (by decide), h6 0 (by decide), h6 5 (by decide), h6 6 (by decide), h6 1 (by decide), h6 7 (by decide), h6 8 (by decide)]
    exact hsc
  · obtain ⟨a1, a2⟩ := hsp u hu
    have e2 : ∀ w, w < 7 → row' (mS u w) = row (mS u w) := fun w hw => h6 _ (Nat.lt_trans (mS_lt (by omega) hw) (by decide))
    refine ⟨fun w hw => by rw [e2 w hw, h2 u (by omega) w hw]; exact a1 w hw, ?_⟩
    unfold SpOk at a2 ⊢
    simp only [e2 0 (by decide), e2 1 (by decide), e2 2 (by decide), e2 3 (by decide), e2 4 (by decide), e2 5 (by decide), e2 6 (by decide)]
    exact a2
  · unfold RgR
    rw [h6 5 (by decide), h6 6 (by decide)]; exact hrg
/-! ## a walk over a span, and a day by draws -/
theorem RowR.upS {α : Af} {e n u w : Nat} {row : Nat → Int32} {v : Int32} (he : e < 3) (h : RowR α e row n) (hw : w < 7) (hu : u < n) (hv : SpOk (fun j => if j = w then v else row (mS u j))) : RowR (up α (idS e u) w v) e (upd row (mS u w) v) n := by
  obtain ⟨⟨h9, hn⟩, hsc, hsp, hlw, htp, hwt, hrg⟩ := h
  have g1 := mS_ge (u := u) (w := w)
  have g2 := mS_lt (u := u) (w := w) (by omega) hw
  refine ⟨⟨h9, by rw [upd_ne (by omega)]; exact hn⟩, ?_, fun u' hu' => ?_, hlw.of (fun v hv => ?_) (fun k hk _ => upd_ne (by omega)), htp.of (fun j _ => ?_) (upd_ne (by omega)) (fun k hk _ => upd_ne (by omega)), hwt.of (fun j _ => ?_) (upd_ne (by omega)) (fun k hk _ => upd_ne (by omega)), ?_⟩
  · unfold ScR
    rw [up_ne (nS_D he)]
    simp only [upd_ne (show (2 : Nat) ≠ mS u w by omega), upd_ne (show (4 : Nat) ≠ mS u w by omega), upd_ne (show (3 : Nat) ≠ mS u w by omega), upd_ne (show (0 : Nat) ≠ mS u w by omega), upd_ne (show (5 : Nat) ≠ mS u w by omega), upd_ne (show (6 : Nat) ≠ mS u w by omega), upd_ne (show (1 : Nat) ≠ mS u w by omega), upd_ne (show (7 : Nat) ≠ mS u w by omega), upd_ne (show (8 : Nat) ≠ mS u w by omega)]
    exact hsc
  · obtain ⟨a1, a2⟩ := hsp u' hu'
    by_cases e1 : u' = u
    · subst e1
      have e3 : ∀ j, j < 7 → upd row (mS u' w) v (mS u' j) = (if j = w then v else row (mS u' j)) := fun j hj => by
        by_cases q : j = w
        · rw [if_pos q, q, upd_eq]
        · rw [if_neg q, upd_ne (fun z => q (mS_inj hj hw z).2)]
      refine ⟨fun j hj => ?_, ?_⟩
      · rw [e3 j hj, up_at]
        by_cases q : j = w
        · rw [if_pos q, if_pos q]
        · rw [if_neg q, if_neg q]; exact a1 j hj
      · unfold SpOk at hv ⊢
        simp only [e3 0 (by decide), e3 1 (by decide), e3 2 (by decide), e3 3 (by decide), e3 4 (by decide), e3 5 (by decide), e3 6 (by decide)]
        exact hv
    · have e3 : ∀ j, j < 7 → upd row (mS u w) v (mS u' j) = row (mS u' j) := fun j hj => upd_ne (fun z => e1 (mS_inj hj hw z).1)
      refine ⟨fun j hj => ?_, ?_⟩
      · rw [e3 j hj, up_ne (by unfold idS; omega)]; exact a1 j hj
      · unfold SpOk at a2 ⊢
        simp only [e3 0 (by decide), e3 1 (by decide), e3 2 (by decide), e3 3 (by decide), e3 4 (by decide), e3 5 (by decide), e3 6 (by decide)]
        exact a2
  · rw [up_ne (nS_L he hv), up_ne (nS_Lc he hv)]; exact ⟨rfl, rfl, fun _ _ => rfl⟩
  · rw [up_ne (by unfold idTp idS; omega)]
  · rw [up_ne (by unfold idWt idS; omega)]
  · unfold RgR
    rw [upd_ne (by omega), upd_ne (by omega)]; exact hrg
