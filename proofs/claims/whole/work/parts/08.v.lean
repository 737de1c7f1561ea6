/-! ## voices -/
def Vo (α₀ ρ₀ : Af) (u k : Nat) (α ρ : Af) : Prop := (∃ t, t ≤ 30 ∧ α idV 1 = nI t ∧ ρ idM 19 = nI t ∧ ∀ j, j < t → α idVt j = ρ mTrace j) ∧ α idV 2 = ρ idM 20 ∧ α idV 3 = nI k ∧ α idV 4 = ρ₀ mRow (mS u 1) ∧ α idV 5 = nI u ∧ (∀ i, i ≠ idV → i ≠ idVt → α i = α₀ i) ∧ (∀ i, i ≠ idM → i ≠ mTrace → ρ i = ρ₀ i) ∧ (∀ j, j ≠ 19 → j ≠ 20 → ρ idM j = ρ₀ idM j)
def Vu (α₀ ρ₀ : Af) (u k : Nat) (α ρ : Af) : Prop := Vo α₀ ρ₀ u k α ρ ∧ α idV 2 = 0
def Sm (α₀ ρ₀ : Af) (u k : Nat) (p q : Int32 × Af) : Prop := p.1 = q.1 ∧ Vu α₀ ρ₀ u k p.2 q.2
theorem Vo.bg {α₀ ρ₀ α ρ : Af} {u k : Nat} {b : Int32} (h : Vo α₀ ρ₀ u k α ρ) : Vo α₀ ρ₀ u k (q_push α b) (r_bg ρ b) ∧ q_push α b idV 2 = α idV 2 := by
  obtain ⟨⟨t, t1, t2, t3, t4⟩, h2, h3, h4, h5, h6, h7, h8⟩ := h
  unfold q_push r_bg
  rw [t2, t3]
  by_cases c : (30 : Int32) ≤ nI t
  · rw [if_pos c, if_pos c]
    exact ⟨⟨⟨t, t1, t2, t3, t4⟩, h2, h3, h4, h5, h6, h7, h8⟩, rfl⟩
  · rw [if_neg c, if_neg c]
    have t9 : t < 30 := by
      have := mt (nI_leI (a := 30) (b := t) (by decide) (by omega)).mpr c
      omega
    have e1 : r_bgA ρ b = up ρ mTrace t b := by unfold r_bgA; rw [t3, nI_clamp (by omega)]
    rw [e1, nI_clamp (by omega), up_ne (show idV ≠ idVt by decide), up_ne (show idM ≠ mTrace by decide), t2, t3, nI_1]
    have gV : ∀ j, j ≠ 1 → up (up α idVt t b) idV 1 (nI (t + 1)) idV j = α idV j := fun j hj => by rw [up_ne2 hj, up_ne (by decide)]
    have gM : ∀ j, j ≠ 19 → up (up ρ mTrace t b) idM 19 (nI (t + 1)) idM j = ρ idM j := fun j hj => by rw [up_ne2 hj, up_ne (by decide)]
    refine ⟨⟨⟨t + 1, by omega, up_eq, up_eq, fun j hj => ?_⟩, by rw [gV 2 (by decide), gM 20 (by decide)]; exact h2, by rw [gV 3 (by decide)]; exact h3, by rw [gV 4 (by decide)]; exact h4, by rw [gV 5 (by decide)]; exact h5, fun i a c => by rw [up_ne a, up_ne c]; exact h6 i a c, fun i a c => by rw [up_ne a, up_ne c]; exact h7 i a c, fun j a c => by rw [gM j a]; exact h8 j a c⟩, gV 2 (by decide)⟩
    rw [up_ne (show idVt ≠ idV by decide), up_ne (show mTrace ≠ idM by decide), up_at, up_at]
    by_cases e : j = t
    · rw [if_pos e, if_pos e]
    · rw [if_neg e, if_neg e]; exact t4 j (by omega)
theorem Vu.bg {α₀ ρ₀ α ρ : Af} {u k : Nat} {b : Int32} (h : Vu α₀ ρ₀ u k α ρ) : Vu α₀ ρ₀ u k (q_push α b) (r_bg ρ b) := ⟨h.1.bg.1, h.1.bg.2.trans h.2⟩
theorem Vo.row {α₀ ρ₀ α ρ : Af} {u k j : Nat} (h : Vo α₀ ρ₀ u k α ρ) : ρ mRow j = ρ₀ mRow j := by rw [h.2.2.2.2.2.2.1 mRow (by decide) (by decide)]
theorem body_0 : ∀ f, f ≤ 6 → q_body 0 7 (nI f) = if f = 1 then (20, 0) else if f = 4 then (50, 1) else if f = 6 then (70, 0) else (10, -1) := by decide +kernel
theorem body_1 : ∀ f, f ≤ 6 → q_body 1 7 (nI f) = if f = 2 then (30, 0) else if f = 5 then (60, 2) else if f = 6 then (71, 0) else (11, -1) := by decide +kernel
theorem body_2 : ∀ f, f ≤ 6 → q_body 2 7 (nI f) = if f = 3 then (40, 0) else if f = 4 then (51, 1) else (12, -1) := by decide +kernel
theorem body_3 : ∀ f, f ≤ 6 → q_body 3 7 (nI f) = if f = 1 ∨ f = 4 then (21, 0) else (13, -1) := by decide +kernel
theorem say_b {n : Nat} {α : Af} {f vo b a x : Int32} (h : q_within vo 0 3 = true) (hb : q_body vo 7 f = (b, a)) (hne : ¬ b = 0) : q_say (n + 1) α f vo x = q_begin (q_say n) α b a x := by
  simp only [q_say]
  rw [if_pos h, hb, if_neg hne]
section
variable {S : Af → Int32 → Int32 → Int32 → Int32 × Af} {α : Af} {a x : Int32}
theorem bg_10 (h : α idV 2 = 0) : q_begin S α 10 a x = (x + q_push α 10 idV 5, q_push α 10) := by unfold q_begin; simp (decide := true) only [h, ↓reduceIte]
theorem bg_11 (h : α idV 2 = 0) : q_begin S α 11 a x = ((S (q_push α 11) (q_push α 11 idV 3) 0 x).1 * 2, (S (q_push α 11) (q_push α 11 idV 3) 0 x).2) := by unfold q_begin; simp (decide := true) only [h, ↓reduceIte]
theorem bg_12 (h : α idV 2 = 0) : q_begin S α 12 a x = ((S (q_push α 12) (q_push α 12 idV 3) 1 x).1 - (S (q_push α 12) (q_push α 12 idV 3) 1 x).2 idV 4, (S (q_push α 12) (q_push α 12 idV 3) 1 x).2) := by unfold q_begin; simp (decide := true) only [h, ↓reduceIte]
theorem bg_13 (h : α idV 2 = 0) : q_begin S α 13 a x = q_part (q_push α 13) x (q_push α 13 idV 4 - q_push α 13 idV 5) := by unfold q_begin; simp (decide := true) only [h, ↓reduceIte]
theorem bg_20 (h : α idV 2 = 0) : q_begin S α 20 a x = ((S (q_push α 20) a 0 x).1 - 4, (S (q_push α 20) a 0 x).2) := by unfold q_begin; simp (decide := true) only [h, ↓reduceIte]
theorem bg_21 (h : α idV 2 = 0) : q_begin S α 21 a x = ((S (q_push α 21) a 3 x).1 + (S (S (q_push α 21) a 3 x).2 ((S (q_push α 21) a 3 x).2 idV 3) 1 1).1, (S (S (q_push α 21) a 3 x).2 ((S (q_push α 21) a 3 x).2 idV 3) 1 1).2) := by unfold q_begin; simp (decide := true) only [h, ↓reduceIte]
theorem bg_30 (h : α idV 2 = 0) : q_begin S α 30 a x = (0 - (S (q_push α 30) a 1 x).1, (S (q_push α 30) a 1 x).2) := by unfold q_begin; simp (decide := true) only [h, ↓reduceIte]
theorem bg_40 (h : α idV 2 = 0) : q_begin S α 40 a x = S (q_push α 40) a 2 (x / 2) := by unfold q_begin; simp (decide := true) only [h, ↓reduceIte]
theorem bg_50 (h : α idV 2 = 0) : q_begin S α 50 a x = ((S (q_push α 50) a 0 x).1 * 3, (S (q_push α 50) a 0 x).2) := by unfold q_begin; simp (decide := true) only [h, ↓reduceIte]
theorem bg_51 (h : α idV 2 = 0) : q_begin S α 51 a x = ((S (q_push α 51) a 2 x).1 ^^^ (S (q_push α 51) a 2 x).2 idV 5, (S (q_push α 51) a 2 x).2) := by unfold q_begin; simp (decide := true) only [h, ↓reduceIte]
theorem bg_60 (h : α idV 2 = 0) : q_begin S α 60 a x = S (q_push α 60) a 1 (x + 1) := by unfold q_begin; simp (decide := true) only [h, ↓reduceIte]
theorem bg_70 (h : α idV 2 = 0) : q_begin S α 70 a x = (9, q_push α 70) := by unfold q_begin; simp (decide := true) only [h, ↓reduceIte]
theorem bg_71 (h : α idV 2 = 0) : q_begin S α 71 a x = ((S (q_push α 71) a 1 x).1 + (S (q_push α 71) a 1 x).2 idV 4, (S (q_push α 71) a 1 x).2) := by unfold q_begin; simp (decide := true) only [h, ↓reduceIte]
end
theorem s_PC {α₀ ρ₀ α ρ : Af} {u k n f : Nat} {x : Int32} (h : Vu α₀ ρ₀ u k α ρ) (hf : f ≤ 6) (h1 : f ≠ 1) (h4 : f ≠ 4) (h6 : f ≠ 6) : Sm α₀ ρ₀ u k (q_say (n + 1) α (nI f) 0 x) (r_vPC ρ u x) := by
  rw [say_b (b := 10) (a := -1) (by decide) (by rw [body_0 f hf, if_neg h1, if_neg h4, if_neg h6]) (by decide), bg_10 h.2]
  have hb := h.bg (b := 10)
  refine ⟨?_, hb⟩
  show x + q_push α 10 idV 5 = x + nI u
  rw [hb.1.2.2.2.2.1]
theorem s_RC {α₀ ρ₀ α ρ : Af} {u k n : Nat} {x : Int32} (h : Vu α₀ ρ₀ u k α ρ) : Sm α₀ ρ₀ u k (q_say (n + 2) α 1 0 x) (r_vRC ρ u x) := by
  rw [say_b (n := n + 1) (f := 1) (b := 20) (a := 0) (by decide) (body_0 1 (by decide)) (by decide), bg_20 h.2]
  have g := s_PC (n := n) (f := 0) (x := x) (h.bg (b := 20)) (by decide) (by decide) (by decide) (by decide)
  exact ⟨congrArg (· - 4) g.1, g.2⟩
theorem s_C {α₀ ρ₀ α ρ : Af} {u k n : Nat} {x : Int32} (hk : k ≤ 6) (ek : ρ₀ mRow (mS u 0) = nI k) (h : Vu α₀ ρ₀ u k α ρ) : Sm α₀ ρ₀ u k (q_say (n + 3) α (nI k) 0 x) (r_vC ρ u x) := by
  have er : ρ mRow (mS u 0) = nI k := h.1.row.trans ek
  unfold r_vC
  rw [er]
  by_cases k1 : k = 1
  · rw [k1, if_pos (show nI 1 = 1 from rfl)]
    subst k1
    exact s_RC (n := n + 1) h
  by_cases k4 : k = 4
  · subst k4
    rw [if_neg (by decide), if_pos (show nI 4 = 4 from rfl), say_b (n := n + 2) (b := 50) (a := 1) (by decide) (body_0 4 (by decide)) (by decide), bg_50 h.2]
    have g := s_RC (n := n) (x := x) (h.bg (b := 50))
    exact ⟨congrArg (· * 3) g.1, g.2⟩
  by_cases k6 : k = 6
  · subst k6
    rw [if_neg (by decide), if_neg (by decide), if_pos (show nI 6 = 6 from rfl), say_b (n := n + 2) (b := 70) (a := 0) (by decide) (body_0 6 (by decide)) (by decide), bg_70 h.2]
    exact ⟨rfl, h.bg⟩
  rw [if_neg (show ¬ nI k = 1 from fun q => k1 ((nI_eq (a := k) (b := 1) (by omega) (by decide)).mp q)), if_neg (show ¬ nI k = 4 from fun q => k4 ((nI_eq (a := k) (b := 4) (by omega) (by decide)).mp q)), if_neg (show ¬ nI k = 6 from fun q => k6 ((nI_eq (a := k) (b := 6) (by omega) (by decide)).mp q))]
  exact s_PC (n := n + 2) h hk k1 k4 k6
theorem s_PS {α₀ ρ₀ α ρ : Af} {u k n f : Nat} {x : Int32} (hk : k ≤ 6) (ek : ρ₀ mRow (mS u 0) = nI k) (h : Vu α₀ ρ₀ u k α ρ) (hf : f ≤ 6) (h2 : f ≠ 2) (h5 : f ≠ 5) (h6 : f ≠ 6) : Sm α₀ ρ₀ u k (q_say (n + 4) α (nI f) 1 x) (r_vPS ρ u x) := by
  rw [say_b (n := n + 3) (b := 11) (a := -1) (by decide) (by rw [body_1 f hf, if_neg h2, if_neg h5, if_neg h6]) (by decide), bg_11 h.2, (h.bg (b := 11)).1.2.2.1]
  have g := s_C (n := n) (x := x) hk ek (h.bg (b := 11))
  exact ⟨congrArg (· * 2) g.1, g.2⟩
theorem zsub (x : Int32) : 0 - x = -x := Int32.toBitVec_inj.mp (BitVec.zero_sub _)
theorem s_BS {α₀ ρ₀ α ρ : Af} {u k n : Nat} {x : Int32} (hk : k ≤ 6) (ek : ρ₀ mRow (mS u 0) = nI k) (h : Vu α₀ ρ₀ u k α ρ) : Sm α₀ ρ₀ u k (q_say (n + 5) α 2 1 x) (r_vBS ρ u x) := by
  rw [say_b (n := n + 4) (f := 2) (b := 30) (a := 0) (by decide) (body_1 2 (by decide)) (by decide), bg_30 h.2]
  have g := s_PS (n := n) (f := 0) (x := x) hk ek (h.bg (b := 30)) (by decide) (by decide) (by decide) (by decide)
  refine ⟨?_, g.2⟩
  show 0 - (q_say (n + 4) (q_push α 30) 0 1 x).1 = -(r_vPS (r_bg ρ 30) u x).1
  rw [zsub]
  exact congrArg (- ·) g.1
theorem s_S {α₀ ρ₀ α ρ : Af} {u k n : Nat} {x : Int32} (hk : k ≤ 6) (ek : ρ₀ mRow (mS u 0) = nI k) (h : Vu α₀ ρ₀ u k α ρ) : Sm α₀ ρ₀ u k (q_say (n + 6) α (nI k) 1 x) (r_vS ρ u x) := by
  have er : ρ mRow (mS u 0) = nI k := h.1.row.trans ek
  unfold r_vS
  rw [er]
  by_cases k2 : k = 2
  · rw [k2, if_pos (show nI 2 = 2 from rfl)]
    subst k2
    exact s_BS (n := n + 1) hk ek h
  by_cases k5 : k = 5
  · subst k5
    rw [if_neg (by decide), if_pos (show nI 5 = 5 from rfl), say_b (n := n + 5) (b := 60) (a := 2) (by decide) (body_1 5 (by decide)) (by decide), bg_60 h.2]
    exact s_BS (n := n) hk ek (h.bg (b := 60))
  by_cases k6 : k = 6
  · subst k6
    rw [if_neg (by decide), if_neg (by decide), if_pos (show nI 6 = 6 from rfl), say_b (n := n + 5) (b := 71) (a := 0) (by decide) (body_1 6 (by decide)) (by decide), bg_71 h.2]
    have g := s_PS (n := n + 1) (f := 0) (x := x) hk ek (h.bg (b := 71)) (by decide) (by decide) (by decide) (by decide)
    refine ⟨?_, g.2⟩
    show (q_say (n + 5) (q_push α 71) 0 1 x).1 + (q_say (n + 5) (q_push α 71) 0 1 x).2 idV 4 = (r_vPS (r_bg ρ 71) u x).1 + (r_vPS (r_bg ρ 71) u x).2 mRow (mS u 1)
    have e1 : (q_say (n + 5) (q_push α 71) 0 1 x).1 = (r_vPS (r_bg ρ 71) u x).1 := g.1
    have e2 : (q_say (n + 5) (q_push α 71) 0 1 x).2 idV 4 = (r_vPS (r_bg ρ 71) u x).2 mRow (mS u 1) := g.2.1.2.2.2.1.trans g.2.1.row.symm
    rw [e1, e2]
  rw [if_neg (show ¬ nI k = 2 from fun q => k2 ((nI_eq (a := k) (b := 2) (by omega) (by decide)).mp q)), if_neg (show ¬ nI k = 5 from fun q => k5 ((nI_eq (a := k) (b := 5) (by omega) (by decide)).mp q)), if_neg (show ¬ nI k = 6 from fun q => k6 ((nI_eq (a := k) (b := 6) (by omega) (by decide)).mp q))]
  exact s_PS (n := n + 2) hk ek h hk k2 k5 k6
theorem s_PK {α₀ ρ₀ α ρ : Af} {u k n f : Nat} {x : Int32} (hk : k ≤ 6) (ek : ρ₀ mRow (mS u 0) = nI k) (h : Vu α₀ ρ₀ u k α ρ) (hf : f ≤ 6) (h3 : f ≠ 3) (h4 : f ≠ 4) : Sm α₀ ρ₀ u k (q_say (n + 7) α (nI f) 2 x) (r_vPK ρ u x) := by
  rw [say_b (n := n + 6) (b := 12) (a := -1) (by decide) (by rw [body_2 f hf, if_neg h3, if_neg h4]) (by decide), bg_12 h.2, (h.bg (b := 12)).1.2.2.1]
  have g := s_S (n := n) (x := x) hk ek (h.bg (b := 12))
  refine ⟨?_, g.2⟩
  show (q_say (n + 6) (q_push α 12) (nI k) 1 x).1 - (q_say (n + 6) (q_push α 12) (nI k) 1 x).2 idV 4 = (r_vS (r_bg ρ 12) u x).1 - (r_vS (r_bg ρ 12) u x).2 mRow (mS u 1)
  rw [g.1, g.2.1.2.2.2.1, g.2.1.row]
theorem s_K {α₀ ρ₀ α ρ : Af} {u k n : Nat} {x : Int32} (hk : k ≤ 6) (ek : ρ₀ mRow (mS u 0) = nI k) (h : Vu α₀ ρ₀ u k α ρ) : Sm α₀ ρ₀ u k (q_say (n + 8) α (nI k) 2 x) (r_vK ρ u x) := by
  have er : ρ mRow (mS u 0) = nI k := h.1.row.trans ek
  unfold r_vK
  rw [er]
  by_cases k3 : k = 3
  · subst k3
    rw [if_pos (show nI 3 = 3 from rfl), say_b (n := n + 7) (b := 40) (a := 0) (by decide) (body_2 3 (by decide)) (by decide), bg_40 h.2]
    exact s_PK (n := n) (f := 0) hk ek (h.bg (b := 40)) (by decide) (by decide) (by decide)
  by_cases k4 : k = 4
  · subst k4
    rw [if_neg (by decide), if_pos (show nI 4 = 4 from rfl), say_b (n := n + 7) (b := 51) (a := 1) (by decide) (body_2 4 (by decide)) (by decide), bg_51 h.2]
    have g := s_PK (n := n) (f := 1) (x := x) hk ek (h.bg (b := 51)) (by decide) (by decide) (by decide)
    refine ⟨?_, g.2⟩
    show (q_say (n + 7) (q_push α 51) 1 2 x).1 ^^^ (q_say (n + 7) (q_push α 51) 1 2 x).2 idV 5 = (r_vPK (r_bg ρ 51) u x).1 ^^^ nI u
    have e1 : (q_say (n + 7) (q_push α 51) 1 2 x).1 = (r_vPK (r_bg ρ 51) u x).1 := g.1
    have e2 : (q_say (n + 7) (q_push α 51) 1 2 x).2 idV 5 = nI u := g.2.1.2.2.2.2.1
    rw [e1, e2]
  rw [if_neg (show ¬ nI k = 3 from fun q => k3 ((nI_eq (a := k) (b := 3) (by omega) (by decide)).mp q)), if_neg (show ¬ nI k = 4 from fun q => k4 ((nI_eq (a := k) (b := 4) (by omega) (by decide)).mp q))]
  exact s_PK (n := n + 1) hk ek h hk k3 k4
/-- a voice that may part -/
def Sp (α₀ ρ₀ : Af) (u k : Nat) (p q : Int32 × Af) : Prop := (p.2 idV 2 = 0 → p.1 = q.1) ∧ Vo α₀ ρ₀ u k p.2 q.2
theorem Vo.part {α₀ ρ₀ α ρ : Af} {u k : Nat} {v : Int32} (h : Vo α₀ ρ₀ u k α ρ) : Vo α₀ ρ₀ u k (up α idV 2 v) (up ρ idM 20 v) := by
  obtain ⟨⟨t, t1, t2, t3, t4⟩, h2, h3, h4, h5, h6, h7, h8⟩ := h
  refine ⟨⟨t, t1, by rw [up_ne2 (by decide)]; exact t2, by rw [up_ne2 (by decide)]; exact t3, fun j hj => by rw [up_ne (by decide), up_ne (by decide)]; exact t4 j hj⟩, by rw [up_eq, up_eq], by rw [up_ne2 (by decide)]; exact h3, by rw [up_ne2 (by decide)]; exact h4, by rw [up_ne2 (by decide)]; exact h5, fun i a c => by rw [up_ne a]; exact h6 i a c, fun i a c => by rw [up_ne a]; exact h7 i a c, fun j a c => by rw [up_ne2 c]; exact h8 j a c⟩
theorem Vo.part0 {α₀ ρ₀ α ρ : Af} {u k : Nat} (h : Vu α₀ ρ₀ u k α ρ) : Vo α₀ ρ₀ u k α (up ρ idM 20 0) := by
  have e : up ρ idM 20 0 = ρ := by
    funext i j
    by_cases q : i = idM
    · subst q
      rw [up_at]
      by_cases q2 : j = 20
      · rw [if_pos q2, q2]; exact h.2.symm.trans h.1.2.1
      · rw [if_neg q2]
    · rw [up_ne q]
  rw [e]; exact h.1
theorem s_PP {α₀ ρ₀ α ρ : Af} {u k n f : Nat} {x : Int32} (h : Vu α₀ ρ₀ u k α ρ) (hf : f ≤ 6) (h1 : f ≠ 1) (h4 : f ≠ 4) : Sp α₀ ρ₀ u k (q_say (n + 1) α (nI f) 3 x) (r_vPP ρ u x) := by
  rw [say_b (n := n) (b := 13) (a := -1) (by decide) (by rw [body_3 f hf, if_neg (by omega)]) (by decide), bg_13 h.2]
  have hb := h.bg (b := 13)
  have e1 : q_push α 13 idV 4 - q_push α 13 idV 5 = r_vD ρ u := by unfold r_vD; rw [hb.1.2.2.2.1, hb.1.2.2.2.2.1, hb.1.row]
  unfold q_part r_vPP r_vPPS
  rw [e1]
  by_cases c : r_vD ρ u = 0
  · rw [if_pos c, if_pos c, if_pos c]
    exact ⟨fun _ => rfl, hb.1.part⟩
  · rw [if_neg c, if_neg c, if_neg c]
    exact ⟨fun _ => rfl, Vo.part0 hb⟩
theorem s_PB {α₀ ρ₀ α ρ : Af} {u k n : Nat} {x : Int32} (hk : k ≤ 6) (ek : ρ₀ mRow (mS u 0) = nI k) (h : Vu α₀ ρ₀ u k α ρ) : Sp α₀ ρ₀ u k (q_say (n + 7) α (nI k) 3 x) (r_vPB ρ u x) := by
  have er : ρ mRow (mS u 0) = nI k := h.1.row.trans ek
  have r1 : k = 1 ∨ k = 4 → (if nI k = 1 then true else if nI k = 4 then true else false) = true := by
    intro q; rcases q with rfl | rfl <;> decide
  have r2 : ¬ (k = 1 ∨ k = 4) → ¬ (if nI k = 1 then true else if nI k = 4 then true else false) = true := by
    intro q
    rw [if_neg (show ¬ nI k = 1 from fun p => q (Or.inl ((nI_eq (a := k) (b := 1) (by omega) (by decide)).mp p))), if_neg (show ¬ nI k = 4 from fun p => q (Or.inr ((nI_eq (a := k) (b := 4) (by omega) (by decide)).mp p)))]
    decide
  unfold r_vPB
  rw [er]
  by_cases c : k = 1 ∨ k = 4
  · rw [if_pos (r1 c), say_b (n := n + 6) (b := 21) (a := 0) (by decide) (by rw [body_3 k hk, if_pos c]) (by decide), bg_21 h.2]
    have g : Sp α₀ ρ₀ u k (q_say (n + 6) (q_push α 21) 0 3 x) (r_vPP (r_bg ρ 21) u x) := s_PP (n := n + 5) (f := 0) (x := x) (h.bg (b := 21)) (by decide) (by decide) (by decide)
    generalize q_say (n + 6) (q_push α 21) 0 3 x = p at g
    generalize r_vPP (r_bg ρ 21) u x = q at g
    obtain ⟨g1, g2⟩ := g
    have e2 := g2.2.1
    rw [g2.2.2.1]
    by_cases c2 : q.2 idM 20 = 0
    · rw [if_pos c2]
      have z := e2.trans c2
      have s := s_S (n := n) (x := 1) hk ek (show Vu α₀ ρ₀ u k p.2 q.2 from ⟨g2, z⟩)
      refine ⟨fun _ => ?_, s.2.1⟩
      show p.1 + (q_say (n + 6) p.2 (nI k) 1 1).1 = q.1 + (r_vS q.2 u 1).1
      rw [g1 z, s.1]
    · rw [if_neg c2]
      have z : ¬ p.2 idV 2 = 0 := fun w => c2 (e2.symm.trans w)
      have e3 : q_say (n + 6) p.2 (nI k) 1 1 = (0, p.2) := by
        have hb0 : ∀ f, f ≤ 6 → ¬ (q_body 1 7 (nI f)).1 = 0 := by decide +kernel
        simp only [q_say]
        rw [if_pos (by decide), if_neg (hb0 k hk)]
        unfold q_begin
        rw [if_neg z]
      rw [e3]
      exact ⟨fun w => absurd w z, g2⟩
  · rw [if_neg (r2 c)]
    exact s_PP (n := n + 6) h hk (fun q => c (Or.inl q)) (fun q => c (Or.inr q))
theorem Vo.R {α₀ ρ₀ α ρ : Af} {u k : Nat} (h0 : R α₀ ρ₀) (h : Vo α₀ ρ₀ u k α ρ) : R α ρ := by
  obtain ⟨⟨t, t1, t2, t3, t4⟩, -, -, -, -, h6, h7, h8⟩ := h
  obtain ⟨⟨n, hr, d, hd1, hd2⟩, ⟨hk1, hk2⟩, he, hs, -, hi⟩ := h0
  have cg : ∀ e row m, e < 3 → RowR α₀ e row m → RowR α e row m := fun e row m he2 h => h.cong (fun _ _ _ _ _ _ => by rw [h6 _ (by unfold idD idV; omega) (by unfold idD idVt; omega)]) (fun u hu _ _ => by rw [h6 _ (by unfold idS idV; omega) (by unfold idS idVt; omega)]) (fun u hu => by rw [h6 _ (by unfold idL idV; omega) (by unfold idL idVt; omega), h6 _ (by unfold idLc idV; omega) (by unfold idLc idVt; omega)]; exact ⟨rfl, rfl, fun _ _ => rfl⟩) (fun _ _ => by rw [h6 _ (by unfold idTp idV; omega) (by unfold idTp idVt; omega)]) (fun _ _ => by rw [h6 _ (by unfold idWt idV; omega) (by unfold idWt idVt; omega)]) (fun _ _ => rfl)
  refine ⟨⟨n, ?_, d, hd1, by rw [h7 mRow (by decide) (by decide)]; exact hd2⟩, ⟨by rw [h6 idB (by decide) (by decide), h8 3 (by decide) (by decide)]; exact hk1, fun q => ?_⟩, fun i hi7 => by rw [h6 idEr (by decide) (by decide), h7 mErr (by decide) (by decide)]; exact he i hi7, fun s hs4 => ?_, ⟨t, t1, t2, t3, t4⟩, hi.of (fun e he u hu => h6 _ (by unfold idL idV; omega) (by unfold idL idVt; omega)) (fun e he u hu => Or.inl (by rw [h6 _ (by unfold idS idV; omega) (by unfold idS idVt; omega)])) (h6 _ (by decide) (by decide)) (fun e he => h6 _ (by unfold idTp idV; omega) (by unfold idTp idVt; omega))⟩
  · rw [h7 mRow (by decide) (by decide)]; exact cg 0 _ n (by decide) hr
  · rw [h7 mKept (by decide) (by decide)]
    rw [h8 3 (by decide) (by decide)] at q
    obtain ⟨m, r1, r2⟩ := hk2 q
    exact ⟨m, cg 1 _ m (by decide) r1, r2⟩
  · rw [h7 mBits (by decide) (by decide), h7 mSize (by decide) (by decide), h7 mCells (by decide) (by decide), h6 (idSh s) (by unfold idSh idV; omega) (by unfold idSh idVt; omega), h6 (idSn s) (by unfold idSn idV; omega) (by unfold idSn idVt; omega)]; exact hs s hs4
theorem e_voice {α ρ : Af} {span vo x : Int32} (h : R α ρ) : Same (f_voice α span vo x) (g_voice ρ span vo x) := by
  obtain ⟨n, hr⟩ := h.1
  obtain ⟨h9, hn, -⟩ := hr.n
  unfold f_voice g_voice
  rw [h.many]
  by_cases c1 : q_within span 0 (ρ mRow 2 - 1) = true
  · rw [if_pos c1, if_pos c1]
    obtain ⟨u, hu, rfl⟩ := hs_of (v := span) (n := n) (by omega) (by rw [← hn]; exact c1)
    by_cases c2 : q_within vo 0 3 = true
    · rw [if_pos c2, if_pos c2, nI_clamp (by omega)]
      obtain ⟨⟨k, hk, ek⟩, -⟩ := hr.ok hu
      have ek : ρ mRow (mS u 0) = nI k := ek
      have h0 : Vu α ρ u k (q_speakA α (idS 0 u) (nI u)) (r_vo0 ρ) := by
        have nv : idS 0 u ≠ idV := by unfold idS idV; omega
        unfold q_speakA r_vo0
        refine ⟨⟨⟨0, by decide, ?_, ?_, fun j hj => absurd hj (Nat.not_lt_zero _)⟩, ?_, ?_, ?_, ?_, fun i a c => ?_, fun i a c => ?_, fun j a c => ?_⟩, ?_⟩
        · rw [up_ne2 (by decide), up_eq]; rfl
        · rw [up_ne2 (by decide), up_eq]; rfl
        · rw [up_eq, up_eq]
        · rw [up_ne2 (by decide), up_ne2 (by decide), up_ne2 (by decide), up_ne2 (by decide), up_eq, hr.sp hu (by decide), ek]
        · rw [up_ne2 (by decide), up_ne2 (by decide), up_ne2 (by decide), up_eq, up_ne nv, hr.sp hu (by decide)]
        · rw [up_ne2 (by decide), up_ne2 (by decide), up_eq]
        · rw [up_ne a, up_ne a, up_ne a, up_ne a, up_ne a]
        · rw [up_ne a, up_ne a]
        · rw [up_ne2 c, up_ne2 a]
        · rw [up_eq]
      have key : Sp α ρ u k (q_speak α (idS 0 u) (nI u) vo x) (r_vo ρ u vo x) := by
        unfold q_speak r_vo
        rw [h0.1.2.2.1]
        obtain ⟨v, -, hv, rfl⟩ := wi_of (v := vo) (a := 0) (b := 3) rfl rfl (by decide) (by decide) c2
        rcases (show v = 0 ∨ v = 1 ∨ v = 2 ∨ v = 3 by omega) with rfl | rfl | rfl | rfl
        · have g := s_C (n := 38) (x := x) hk ek h0
          exact ⟨fun _ => g.1, g.2.1⟩
        · have g := s_S (n := 35) (x := x) hk ek h0
          exact ⟨fun _ => g.1, g.2.1⟩
        · have g := s_K (n := 33) (x := x) hk ek h0
          exact ⟨fun _ => g.1, g.2.1⟩
        · exact s_PB (n := 34) (x := x) hk ek h0
      generalize q_speak α (idS 0 u) (nI u) vo x = p at key
      generalize r_vo ρ u vo x = q at key
      obtain ⟨g1, g2⟩ := key
      rw [← g2.2.1]
      by_cases c3 : p.2 idV 2 = 0
      · rw [if_pos c3, if_pos c3]
        exact ⟨g1 c3, g2.R h⟩
      · rw [if_neg c3, if_neg c3]
        exact (g2.R h).err (by decide)
    · rw [if_neg c2, if_neg c2]; exact h.err (by decide)
  · rw [if_neg c1, if_neg c1]; exact h.err (by decide)
