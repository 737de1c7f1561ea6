/-! the reference's reader -/
def hv (ρ : Af) : Nat := (ρ idM 13).toNatClampNeg
def Mk (ρ : Af) : Prop := (∃ t, t ≤ 60 ∧ ρ mRow 7 = nI t) ∧ (∃ h, h ≤ 60 ∧ ρ idM 13 = nI h) ∧ ∃ m, m ≤ 60 ∧ ρ idM 12 = nI m
def Mo (m : Nat) (ρ : Af) : Prop := Mk ρ ∧ ρ idM 14 = nI (5 - m)
def r_look (ρ : Af) : Int32 := if ρ mRow 7 ≤ ρ idM 13 then -1 else ρ mRow (72 + hv ρ)
def r_adv (ρ : Af) : Af := up ρ idM 13 (ρ idM 13 + 1)
def r_stA (ρ : Af) (x v : Int32) : Af := up (up ρ mAct (ρ idM 12).toNatClampNeg x) mWith (ρ idM 12).toNatClampNeg v
def r_stp (ρ : Af) (x v : Int32) : Af := if 60 ≤ ρ idM 12 then ρ else up (r_stA ρ x v) idM 12 (r_stA ρ x v idM 12 + 1)
def r_nm1 (u b : Int32) : Int32 := if u = 0 then (if b = 114 then 0 else if b = 119 then 1 else 2) else -1
def r_nm2 (u b : Int32) : Int32 := if u = 1 then (if b = 108 then 0 else if b = 98 then 1 else 2) else -1
def r_name (u b : Int32) : Int32 := if b = 98 then r_nm2 u b else if b = 107 then r_nm1 u b else if b = 108 then r_nm2 u b else if b = 109 then r_nm2 u b else if b = 114 then r_nm1 u b else if b = 119 then r_nm1 u b else -1
def r_numL : Nat → Nat → Int32 → Af → Nat × Int32 × Af
  | 0, i, v, ρ => (i, v, ρ)
  | j + 1, i, v, ρ => if q_within (r_look ρ) 48 57 = true then r_numL j (i + 1) (10 * v + r_look ρ - 48) (r_adv ρ) else (i, v, ρ)
def r_numB (s : Nat × Int32 × Af) : Af := r_stp (up s.2.2 idM 15 (if s.1 = 0 then 1 else 0)) 1 s.2.1
def r_number (ρ : Af) : Af := r_numB (r_numL 4 0 0 ρ)
abbrev Pm : Type := Af → Af
def r_binL (sub : Pm) (isS : Int32 → Bool) : Nat → Pm
  | 0, ρ => ρ
  | j + 1, ρ => if ρ idM 15 = 0 then (if isS (r_look ρ) = true then r_binL sub isS j (r_stp (sub (r_adv ρ)) (r_look ρ) 0) else ρ) else ρ
def r_bin (sub : Pm) (isS : Int32 → Bool) : Pm := fun ρ => r_binL sub isS 60 (sub ρ)
def r_cmp (sub : Pm) : Pm := fun ρ => if sub ρ idM 15 = 0 then (if q_isCmp (r_look (sub ρ)) = true then r_stp (sub (r_adv (sub ρ))) (r_look (sub ρ)) 0 else sub ρ) else sub ρ
def r_anyP (one : Pm) : Pm := r_bin (r_bin (r_cmp (r_bin (r_bin one q_isProd) q_isSum)) q_isAll) q_isAny
def r_opA (ρ : Af) : Af := r_adv (up ρ idM 14 (ρ idM 14 + 1))
def r_clB (B : Af) : Af := up B idM 15 (if B idM 15 = 0 then (if r_look B = 41 then 0 else 1) else 1)
def r_clC (C : Af) : Af := up C idM 13 (C idM 13 + (if C idM 15 = 0 then 1 else 0))
def r_dec (E : Af) : Af := up E idM 14 (E idM 14 - 1)
def r_opens (one any : Pm) (sign : Int32) : Pm := fun ρ => if ρ idM 14 = 5 then up ρ idM 15 1 else if sign = 33 then r_dec (r_stp (one (r_opA ρ)) 3 0) else r_dec (r_clC (r_clB (any (r_opA ρ))))
def r_named (ρ : Af) : Af := r_stp (r_adv ρ) 2 (r_name (ρ idM 16) (r_look ρ))
def r_one : Nat → Pm
  | 0, ρ => if r_name (ρ idM 16) (r_look ρ) < 0 then (if q_isOpen (r_look ρ) = true then up ρ idM 15 1 else r_number ρ) else r_named ρ
  | m + 1, ρ => if r_name (ρ idM 16) (r_look ρ) < 0 then (if q_isOpen (r_look ρ) = true then r_opens (r_one m) (r_anyP (r_one m)) (r_look ρ) ρ else r_number ρ) else r_named ρ
theorem Mk.h {ρ : Af} (h : Mk ρ) : ρ idM 13 = nI (hv ρ) ∧ hv ρ ≤ 60 := by
  obtain ⟨-, ⟨a, h1, h2⟩, -⟩ := h
  unfold hv
  rw [h2, nI_clamp (by omega)]
  exact ⟨rfl, h1⟩
theorem look_lt {ρ : Af} (h : Mk ρ) (c : ¬ ρ mRow 7 ≤ ρ idM 13) : hv ρ < 60 := by
  obtain ⟨e1, -⟩ := h.h
  obtain ⟨⟨t, h1, h2⟩, -, -⟩ := h
  rw [e1, h2] at c
  have := mt (nI_leI (a := t) (b := hv ρ) (by omega) (by unfold hv; exact Nat.lt_of_le_of_lt (Nat.le_of_lt_succ (by have := Int32.toInt_lt (ρ idM 13); show (ρ idM 13).toInt.toNat < 2147483648; omega)) (by decide) : hv ρ < 2 ^ 31)).mpr c
  omega
theorem look_ge {ρ : Af} (h : Mk ρ) (c : 60 ≤ hv ρ) : r_look ρ = -1 := by
  obtain ⟨e1, e2⟩ := h.h
  obtain ⟨⟨t, h1, h2⟩, -, -⟩ := h
  unfold r_look
  rw [if_pos]
  rw [e1, h2]
  exact nI_le (by omega) (by omega)
theorem look_ne {ρ : Af} (h : Mk ρ) (c : ¬ r_look ρ = -1) : hv ρ < 60 := by
  rcases Nat.lt_or_ge (hv ρ) 60 with q | q
  · exact q
  · exact absurd (look_ge h q) c
theorem Mk.adv {ρ : Af} (h : Mk ρ) (c : hv ρ < 60) : Mk (r_adv ρ) ∧ hv (r_adv ρ) = hv ρ + 1 := by
  obtain ⟨e1, e2⟩ := h.h
  unfold r_adv
  have e3 : up ρ idM 13 (ρ idM 13 + 1) idM 13 = nI (hv ρ + 1) := by rw [up_eq, e1]; exact nI_1 _
  refine ⟨⟨?_, ⟨hv ρ + 1, by omega, e3⟩, ?_⟩, ?_⟩
  · rw [up_ne (by decide)]; exact h.1
  · rw [up_ne2 (by decide)]; exact h.2.2
  · show (up ρ idM 13 (ρ idM 13 + 1) idM 13).toNatClampNeg = _
    rw [e3, nI_clamp (by omega)]
theorem r_stA_ne {ρ : Af} {x v : Int32} {i : Nat} (h1 : i ≠ mAct) (h2 : i ≠ mWith) : r_stA ρ x v i = ρ i := by unfold r_stA; rw [up_ne h2, up_ne h1]
theorem r_stp_ne {ρ : Af} {x v : Int32} {i : Nat} (h1 : i ≠ mAct) (h2 : i ≠ mWith) (h3 : i ≠ idM) : r_stp ρ x v i = ρ i := by
  unfold r_stp
  split
  · rfl
  · rw [up_ne h3, r_stA_ne h1 h2]
theorem r_stp_M {ρ : Af} {x v : Int32} {k : Nat} (h : k ≠ 12) : r_stp ρ x v idM k = ρ idM k := by
  unfold r_stp
  split
  · rfl
  · rw [up_ne2 h, r_stA_ne (by decide) (by decide)]
theorem Mk.stp {ρ : Af} {x v : Int32} (h : Mk ρ) : Mk (r_stp ρ x v) ∧ hv (r_stp ρ x v) = hv ρ := by
  refine ⟨⟨?_, ?_, ?_⟩, by unfold hv; rw [r_stp_M (by decide)]⟩
  · rw [r_stp_ne (by decide) (by decide) (by decide)]; exact h.1
  · rw [r_stp_M (by decide)]; exact h.2.1
  · obtain ⟨-, -, m, h1, h2⟩ := h
    unfold r_stp
    rw [h2]
    by_cases c : (60 : Int32) ≤ nI m
    · rw [if_pos c]; exact ⟨m, h1, h2⟩
    · rw [if_neg c]
      have hm := mt (nI_leI (a := 60) (b := m) (by decide) (by omega)).mpr c
      exact ⟨m + 1, by omega, by rw [up_eq, r_stA_ne (by decide) (by decide), h2]; exact nI_1 m⟩
theorem Mk.bad {ρ : Af} {v : Int32} (h : Mk ρ) : Mk (up ρ idM 15 v) ∧ hv (up ρ idM 15 v) = hv ρ := by
  refine ⟨⟨?_, ?_, ?_⟩, by unfold hv; rw [up_ne2 (by decide)]⟩
  · rw [up_ne (by decide)]; exact h.1
  · rw [up_ne2 (by decide)]; exact h.2.1
  · rw [up_ne2 (by decide)]; exact h.2.2
theorem Mk.opn {ρ : Af} {v : Int32} (h : Mk ρ) : Mk (up ρ idM 14 v) ∧ hv (up ρ idM 14 v) = hv ρ := by
  refine ⟨⟨?_, ?_, ?_⟩, by unfold hv; rw [up_ne2 (by decide)]⟩
  · rw [up_ne (by decide)]; exact h.1
  · rw [up_ne2 (by decide)]; exact h.2.1
  · rw [up_ne2 (by decide)]; exact h.2.2
/-- a part's reader keeps what must be kept, and never goes back -/
def PrM (m : Nat) (sub : Pm) : Prop := ∀ ρ, Mo m ρ → Mo m (sub ρ) ∧ hv ρ ≤ hv (sub ρ) ∧ sub ρ mRow = ρ mRow ∧ sub ρ idM 16 = ρ idM 16
theorem isS_ne {isS : Int32 → Bool} (hs : isS (-1) = false) {ρ : Af} (c : isS (r_look ρ) = true) : ¬ r_look ρ = -1 := fun h => by rw [h, hs] at c; cases c
theorem Mo.adv {m : Nat} {ρ : Af} (h : Mo m ρ) (c : hv ρ < 60) : Mo m (r_adv ρ) ∧ hv (r_adv ρ) = hv ρ + 1 := ⟨⟨(h.1.adv c).1, by unfold r_adv; rw [up_ne2 (by decide)]; exact h.2⟩, (h.1.adv c).2⟩
theorem Mo.stp {m : Nat} {ρ : Af} {x v : Int32} (h : Mo m ρ) : Mo m (r_stp ρ x v) := ⟨h.1.stp.1, by rw [r_stp_M (by decide)]; exact h.2⟩
theorem r_adv_row {ρ : Af} : r_adv ρ mRow = ρ mRow := up_ne (by decide)
theorem r_adv_16 {ρ : Af} : r_adv ρ idM 16 = ρ idM 16 := up_ne2 (by decide)
theorem r_stp_row {ρ : Af} {x v : Int32} : r_stp ρ x v mRow = ρ mRow := r_stp_ne (by decide) (by decide) (by decide)
theorem PrM.binL {m : Nat} {sub : Pm} {isS : Int32 → Bool} (hS : isS (-1) = false) (hs : PrM m sub) : ∀ j, PrM m (r_binL sub isS j)
  | 0, ρ, h => ⟨h, Nat.le_refl _, rfl, rfl⟩
  | j + 1, ρ, h => by
    simp only [r_binL]
    by_cases c1 : ρ idM 15 = 0
    · rw [if_pos c1]
      by_cases c2 : isS (r_look ρ) = true
      · rw [if_pos c2]
        obtain ⟨a1, a2⟩ := h.adv (look_ne h.1 (isS_ne hS c2))
        obtain ⟨b1, b2, b3, b4⟩ := hs _ a1
        obtain ⟨d1, d2, d3, d4⟩ := PrM.binL hS hs j _ (b1.stp (x := r_look ρ) (v := 0))
        have e1 := (b1.1.stp (x := r_look ρ) (v := 0)).2
        exact ⟨d1, by omega, by rw [d3, r_stp_row, b3, r_adv_row], by rw [d4, r_stp_M (by decide), b4, r_adv_16]⟩
      · rw [if_neg c2]; exact ⟨h, Nat.le_refl _, rfl, rfl⟩
    · rw [if_neg c1]; exact ⟨h, Nat.le_refl _, rfl, rfl⟩
theorem PrM.bin {m : Nat} {sub : Pm} {isS : Int32 → Bool} (hS : isS (-1) = false) (hs : PrM m sub) : PrM m (r_bin sub isS) := by
  intro ρ h
  obtain ⟨b1, b2, b3, b4⟩ := hs _ h
  obtain ⟨d1, d2, d3, d4⟩ := PrM.binL hS hs 60 _ b1
  exact ⟨d1, Nat.le_trans b2 d2, by unfold r_bin; rw [d3, b3], by unfold r_bin; rw [d4, b4]⟩
theorem PrM.cmp {m : Nat} {sub : Pm} (hs : PrM m sub) : PrM m (r_cmp sub) := by
  intro ρ h
  obtain ⟨b1, b2, b3, b4⟩ := hs _ h
  unfold r_cmp
  by_cases c1 : sub ρ idM 15 = 0
  · rw [if_pos c1]
    by_cases c2 : q_isCmp (r_look (sub ρ)) = true
    · rw [if_pos c2]
      obtain ⟨a1, a2⟩ := b1.adv (look_ne b1.1 (isS_ne (isS := q_isCmp) rfl c2))
      obtain ⟨d1, d2, d3, d4⟩ := hs _ a1
      have e1 := (d1.1.stp (x := r_look (sub ρ)) (v := 0)).2
      exact ⟨d1.stp, by omega, by rw [r_stp_row, d3, r_adv_row, b3], by rw [r_stp_M (by decide), d4, r_adv_16, b4]⟩
    · rw [if_neg c2]; exact ⟨b1, b2, b3, b4⟩
  · rw [if_neg c1]; exact ⟨b1, b2, b3, b4⟩
theorem PrM.anyP {m : Nat} {one : Pm} (hs : PrM m one) : PrM m (r_anyP one) := ((((hs.bin rfl).bin rfl).cmp).bin rfl).bin rfl
theorem numL_M {m : Nat} : ∀ (j i : Nat) (v : Int32) (ρ : Af), Mo m ρ → Mo m (r_numL j i v ρ).2.2 ∧ hv ρ ≤ hv (r_numL j i v ρ).2.2 ∧ (r_numL j i v ρ).2.2 mRow = ρ mRow ∧ (r_numL j i v ρ).2.2 idM 16 = ρ idM 16
  | 0, i, v, ρ, h => ⟨h, Nat.le_refl _, rfl, rfl⟩
  | j + 1, i, v, ρ, h => by
    simp only [r_numL]
    by_cases c : q_within (r_look ρ) 48 57 = true
    · rw [if_pos c]
      obtain ⟨a1, a2⟩ := h.adv (look_ne h.1 (isS_ne (isS := fun x => q_within x 48 57) rfl c))
      obtain ⟨d1, d2, d3, d4⟩ := numL_M j (i + 1) (10 * v + r_look ρ - 48) _ a1
      exact ⟨d1, by omega, by rw [d3, r_adv_row], by rw [d4, r_adv_16]⟩
    · rw [if_neg c]; exact ⟨h, Nat.le_refl _, rfl, rfl⟩
theorem PrM.number {m : Nat} : PrM m r_number := by
  intro ρ h
  obtain ⟨d1, d2, d3, d4⟩ := numL_M 4 0 0 ρ h
  unfold r_number r_numB
  have e := d1.1.bad (v := if (r_numL 4 0 0 ρ).1 = 0 then 1 else 0)
  have e2 := e.1.stp (x := 1) (v := (r_numL 4 0 0 ρ).2.1)
  exact ⟨⟨e2.1, by rw [r_stp_M (by decide), up_ne2 (by decide)]; exact d1.2⟩, by omega, by rw [r_stp_row, up_ne (by decide), d3], by rw [r_stp_M (by decide), up_ne2 (by decide), d4]⟩
theorem name_lt {u b : Int32} (h : ¬ r_name u b < 0) : ¬ b = -1 := by
  intro e
  apply h
  rw [e]
  unfold r_name
  rw [if_neg (by decide), if_neg (by decide), if_neg (by decide), if_neg (by decide), if_neg (by decide), if_neg (by decide)]
  decide
theorem PrM.named {m : Nat} {ρ : Af} (h : Mo m ρ) (c : ¬ r_name (ρ idM 16) (r_look ρ) < 0) : Mo m (r_named ρ) ∧ hv ρ ≤ hv (r_named ρ) ∧ r_named ρ mRow = ρ mRow ∧ r_named ρ idM 16 = ρ idM 16 := by
  obtain ⟨a1, a2⟩ := h.adv (look_ne h.1 (name_lt c))
  unfold r_named
  have e := (a1.1.stp (x := 2) (v := r_name (ρ idM 16) (r_look ρ))).2
  exact ⟨a1.stp, by omega, by rw [r_stp_row, r_adv_row], by rw [r_stp_M (by decide), r_adv_16]⟩
theorem open_ne {ρ : Af} (h : q_isOpen (r_look ρ) = true) : ¬ r_look ρ = -1 := isS_ne (isS := q_isOpen) rfl h
theorem Mo.opA {m : Nat} {ρ : Af} (hm : m + 1 ≤ 5) (h : Mo (m + 1) ρ) (c : hv ρ < 60) : Mo m (r_opA ρ) ∧ hv (r_opA ρ) = hv ρ + 1 := by
  have e := h.1.opn (v := ρ idM 14 + 1)
  have e2 := e.1.adv (by rw [e.2]; exact c)
  unfold r_opA
  refine ⟨⟨e2.1, ?_⟩, by rw [e2.2, e.2]⟩
  unfold r_adv
  rw [up_ne2 (by decide), up_eq, h.2, nI_1, show 5 - (m + 1) + 1 = 5 - m by omega]
theorem Mo.dec {m : Nat} {E : Af} (hm : m + 1 ≤ 5) (h : Mo m E) : Mo (m + 1) (r_dec E) ∧ hv (r_dec E) = hv E := by
  have e := h.1.opn (v := E idM 14 - 1)
  unfold r_dec
  refine ⟨⟨e.1, ?_⟩, e.2⟩
  rw [up_eq, h.2]
  exact (pk_sub (a := 5 - m) (b := 1) (by omega)).trans (by rw [show 5 - m - 1 = 5 - (m + 1) by omega])
theorem clB_0 {B : Af} (h : r_clB B idM 15 = 0) : B idM 15 = 0 ∧ r_look B = 41 := by
  unfold r_clB at h
  rw [up_eq] at h
  by_cases c1 : B idM 15 = 0
  · rw [if_pos c1] at h
    by_cases c2 : r_look B = 41
    · exact ⟨c1, c2⟩
    · rw [if_neg c2] at h; exact absurd h (by decide)
  · rw [if_neg c1] at h; exact absurd h (by decide)
theorem Mo.cl {m : Nat} {B : Af} (h : Mo m B) : Mo m (r_clC (r_clB B)) ∧ hv B ≤ hv (r_clC (r_clB B)) ∧ r_clC (r_clB B) mRow = B mRow ∧ r_clC (r_clB B) idM 16 = B idM 16 := by
  have e := h.1.bad (v := if B idM 15 = 0 then (if r_look B = 41 then 0 else 1) else 1)
  have e14 : r_clB B idM 14 = nI (5 - m) := by unfold r_clB; rw [up_ne2 (by decide)]; exact h.2
  have hr : r_clC (r_clB B) mRow = B mRow := by unfold r_clC r_clB; rw [up_ne (by decide), up_ne (by decide)]
  have h16 : r_clC (r_clB B) idM 16 = B idM 16 := by unfold r_clC r_clB; rw [up_ne2 (by decide), up_ne2 (by decide)]
  by_cases c : r_clB B idM 15 = 0
  · have h2 := (clB_0 c).2
    have hl : hv B < 60 := look_ne h.1 (by rw [h2]; decide)
    have e2 := e.1.adv (by rw [e.2]; exact hl)
    have e3 : r_clC (r_clB B) = r_adv (r_clB B) := by unfold r_clC; rw [if_pos c]; rfl
    rw [e3] at hr h16 ⊢
    refine ⟨⟨e2.1, ?_⟩, ?_, hr, h16⟩
    · unfold r_adv; rw [up_ne2 (by decide)]; exact e14
    · have : hv (r_adv (r_clB B)) = hv B + 1 := by rw [show hv (r_adv (r_clB B)) = hv (r_clB B) + 1 from e2.2, show hv (r_clB B) = hv B from e.2]
      omega
  · have e3 : r_clC (r_clB B) = r_clB B := by
      unfold r_clC
      rw [if_neg c]
      unfold up
      rw [Int32.add_zero]
      have : upd (r_clB B idM) 13 (r_clB B idM 13) = r_clB B idM := by funext j; by_cases q : j = 13 <;> simp [upd, q]
      rw [this, upR_self]
    rw [e3] at hr h16 ⊢
    exact ⟨⟨e.1, e14⟩, Nat.le_of_eq e.2.symm, hr, h16⟩
theorem PrM.one : ∀ m, m ≤ 5 → PrM m (r_one m)
  | 0, _, ρ, h => by
    simp only [r_one]
    by_cases c1 : r_name (ρ idM 16) (r_look ρ) < 0
    · rw [if_pos c1]
      by_cases c2 : q_isOpen (r_look ρ) = true
      · rw [if_pos c2]
        exact ⟨⟨(h.1.bad).1, by rw [up_ne2 (by decide)]; exact h.2⟩, Nat.le_of_eq (h.1.bad).2.symm, up_ne (by decide), up_ne2 (by decide)⟩
      · rw [if_neg c2]; exact PrM.number ρ h
    · rw [if_neg c1]; exact PrM.named h c1
  | m + 1, hm, ρ, h => by
    simp only [r_one]
    by_cases c1 : r_name (ρ idM 16) (r_look ρ) < 0
    · rw [if_pos c1]
      by_cases c2 : q_isOpen (r_look ρ) = true
      · rw [if_pos c2]
        unfold r_opens
        rw [if_neg (by rw [h.2]; exact fun q => by have := (nI_eq (a := 5 - (m + 1)) (b := 5) (by omega) (by decide)).mp q; omega)]
        obtain ⟨a1, a2⟩ := h.opA hm (look_ne h.1 (open_ne c2))
        have ar : r_opA ρ mRow = ρ mRow := by unfold r_opA; rw [r_adv_row, up_ne (by decide)]
        have a16 : r_opA ρ idM 16 = ρ idM 16 := by unfold r_opA; rw [r_adv_16, up_ne2 (by decide)]
        by_cases c3 : r_look ρ = 33
        · rw [if_pos c3]
          obtain ⟨d1, d2, d3, d4⟩ := PrM.one m (by omega) _ a1
          have e := (d1.1.stp (x := 3) (v := 0)).2
          obtain ⟨f1, f2⟩ := Mo.dec hm (d1.stp (x := 3) (v := 0))
          exact ⟨f1, by omega, by unfold r_dec; rw [up_ne (by decide), r_stp_row, d3, ar], by unfold r_dec; rw [up_ne2 (by decide), r_stp_M (by decide), d4, a16]⟩
        · rw [if_neg c3]
          obtain ⟨d1, d2, d3, d4⟩ := (PrM.one m (by omega)).anyP _ a1
          obtain ⟨g1, g2, g3, g4⟩ := d1.cl
          obtain ⟨f1, f2⟩ := Mo.dec hm g1
          exact ⟨f1, by omega, by unfold r_dec; rw [up_ne (by decide), g3, d3, ar], by unfold r_dec; rw [up_ne2 (by decide), g4, d4, a16]⟩
      · rw [if_neg c2]; exact PrM.number ρ h
    · rw [if_neg c1]; exact PrM.named h c1

set_option maxRecDepth 100000 in
set_option maxHeartbeats 4000000 in
theorem c_yX7_look {k : Nat} {l : Launch} {G : Gm} {α ρ : Af}  (h : Mk ρ) : CI k l G yX7_look (Cond.code yX7_look cX7_look 1 (some .int)) 1 [.ref (gA G idM)] α ρ (PI (r_look ρ) α ρ) := by
  refine CI.of [some (.ref (gA G idM))] (by decide) (Nat.le_of_ble_eq_true rfl) rfl rfl (fun C K => ?_)
  have K : Ok l _ G C RX7 cX7_look (some .int) 1 := K
  refine x_aload_n (pc := 0) (i := 0) K dX7_look_0 rfl rfl ?_
  refine gf_X7_117 (pc := 1)  K dX7_look_1 ?_
  refine x_aload_n (pc := 4) (i := 0) K dX7_look_4 rfl rfl ?_
  refine gf_X7_9 (pc := 5)  K dX7_look_5 ?_
  refine x_bipush (pc := 8) (v := 7) K dX7_look_8 (by decide) ?_
  refine ib_mRow (pc := 10) 7 (by decide) rfl K dX7_look_10 ?_
  refine x_icmp_ge (pc := 11) (tgt := 29) K dX7_look_11 (by decide) (fun c_11 => ?_) (fun c_11 => ?_)
  · refine x_iconst (pc := 29) (v := (-1)) K dX7_look_29 (by decide) ?_
    exact x_iretI (pc := 30) K dX7_look_30 ⟨by unfold r_look; rw [if_pos c_11], rfl, rfl⟩
  · refine x_aload_n (pc := 14) (i := 0) K dX7_look_14 rfl rfl ?_
    refine gf_X7_9 (pc := 15)  K dX7_look_15 ?_
    refine x_bipush (pc := 18) (v := 72) K dX7_look_18 (by decide) ?_
    refine x_aload_n (pc := 20) (i := 0) K dX7_look_20 rfl rfl ?_
    refine gf_X7_117 (pc := 21)  K dX7_look_21 ?_
    refine x_iadd (pc := 24) K dX7_look_24 ?_
    refine ib_mRow (pc := 25) (72 + hv ρ) (by have := look_lt h c_11; omega) (by rw [h.h.1]; show nI 72 + nI (hv ρ) = _; rw [nI_add]) K dX7_look_25 ?_
    refine x_goto (pc := 26) (tgt := 30) K dX7_look_26 (by decide) ?_
    exact x_iretI (pc := 30) K dX7_look_30 ⟨by unfold r_look; rw [if_neg c_11], rfl, rfl⟩

set_option maxRecDepth 100000 in
set_option maxHeartbeats 4000000 in
theorem c_yX7_step {k : Nat} {l : Launch} {G : Gm} {α ρ : Af} {x v : Int32} (h : Mk ρ) : CI k l G yX7_step (Cond.code yX7_step cX7_step 3 none) 1 [.ref (gA G idM), .int x, .int v] α ρ (PV α (r_stp ρ x v)) := by
  refine CI.of [some (.ref (gA G idM)), some (.int x), some (.int v)] (by decide) (Nat.le_of_ble_eq_true rfl) rfl rfl (fun C K => ?_)
  have K : Ok l _ G C RX7 cX7_step none 3 := K
  refine x_aload_n (pc := 0) (i := 0) K dX7_step_0 rfl rfl ?_
  refine gf_X7_121 (pc := 1)  K dX7_step_1 ?_
  refine x_aload_n (pc := 4) (i := 0) K dX7_step_4 rfl rfl ?_
  refine gf_X7_31 (pc := 5)  K dX7_step_5 ?_
  refine x_alen_m (pc := 8) (t := 0) (n := 60) K (by decide) (scr_no (by decide)) (fun f => rfl) rfl rfl dX7_step_8 ?_
  refine x_icmp_ge (pc := 9) (tgt := 42) K dX7_step_9 (by decide) (fun c_9 => ?_) (fun c_9 => ?_)
  · exact x_vretI (pc := 42) K dX7_step_42 ⟨rfl, by unfold r_stp; rw [if_pos (show  (60 : Int32) ≤ ρ idM 12 from c_9)]⟩
  · refine x_aload_n (pc := 12) (i := 0) K dX7_step_12 rfl rfl ?_
    refine gf_X7_31 (pc := 13)  K dX7_step_13 ?_
    refine x_aload_n (pc := 16) (i := 0) K dX7_step_16 rfl rfl ?_
    refine gf_X7_121 (pc := 17)  K dX7_step_17 ?_
    refine x_iload_n (pc := 20) (i := 1) K dX7_step_20 rfl rfl ?_
    refine js_mAct (pc := 21) (ρ idM 12).toNatClampNeg (by obtain ⟨m, h1, h2⟩ := h.2.2; rw [h2] at c_9 ⊢; rw [nI_clamp (by omega)]; have := mt (nI_leI (a := 60) (b := m) (by decide) (by omega)).mpr c_9; omega) (by obtain ⟨m, h1, h2⟩ := h.2.2; rw [h2, nI_clamp (by omega)]) K dX7_step_21 ?_
    refine x_aload_n (pc := 22) (i := 0) K dX7_step_22 rfl rfl ?_
    refine gf_X7_34 (pc := 23)  K dX7_step_23 ?_
    refine x_aload_n (pc := 26) (i := 0) K dX7_step_26 rfl rfl ?_
    refine gf_X7_121 (pc := 27)  K dX7_step_27 ?_
    refine x_topi K (show _ = ρ idM 12 from by rw [up_ne (by decide)]) ?_
    refine x_iload_n (pc := 30) (i := 2) K dX7_step_30 rfl rfl ?_
    refine js_mWith (pc := 31) (ρ idM 12).toNatClampNeg (by obtain ⟨m, h1, h2⟩ := h.2.2; rw [h2] at c_9 ⊢; rw [nI_clamp (by omega)]; have := mt (nI_leI (a := 60) (b := m) (by decide) (by omega)).mpr c_9; omega) (by obtain ⟨m, h1, h2⟩ := h.2.2; rw [h2, nI_clamp (by omega)]) K dX7_step_31 ?_
    refine x_st (r := r_stA ρ x v) rfl rfl ?_
    refine x_aload_n (pc := 32) (i := 0) K dX7_step_32 rfl rfl ?_
    refine x_dup (pc := 33) K dX7_step_33 rfl ?_
    refine gf_X7_121 (pc := 34)  K dX7_step_34 ?_
    refine x_iconst (pc := 37) (v := 1) K dX7_step_37 (by decide) ?_
    refine x_iadd (pc := 38) K dX7_step_38 ?_
    refine pf_X7_121 (pc := 39)  K dX7_step_39 ?_
    exact x_vretI (pc := 42) K dX7_step_42 ⟨rfl, by unfold r_stp; rw [if_neg (show ¬ (60 : Int32) ≤ ρ idM 12 from c_9)]⟩

set_option maxRecDepth 100000 in
set_option maxHeartbeats 4000000 in
theorem c_yX7_nameOf {k : Nat} {l : Launch} {G : Gm} {α ρ : Af} {b : Int32}  : CI k l G yX7_nameOf (Cond.code yX7_nameOf cX7_nameOf 2 (some .int)) 1 [.ref (gA G idM), .int b] α ρ (PI (r_name (ρ idM 16) b) α ρ) := by
  refine CI.of [some (.ref (gA G idM)), some (.int b)] (by decide) (Nat.le_of_ble_eq_true rfl) rfl rfl (fun C K => ?_)
  have K : Ok l _ G C RX7 cX7_nameOf (some .int) 2 := K
  refine x_iload_n (pc := 0) (i := 1) K dX7_nameOf_0 rfl rfl ?_
  by_cases s_1_98 : b = 98
  · refine x_lookup (pc := 1) (off := 92) (tgt := 93) K dX7_nameOf_1 (by decide) (by rw [s_1_98]; decide) (by decide) ?_
    refine x_aload_n (pc := 93) (i := 0) K dX7_nameOf_93 rfl rfl ?_
    refine gf_X7_124 (pc := 94)  K dX7_nameOf_94 ?_
    refine x_iconst (pc := 97) (v := 1) K dX7_nameOf_97 (by decide) ?_
    refine x_icmp_eq (pc := 98) (tgt := 105) K dX7_nameOf_98 (by decide) (fun c_98 => ?_) (fun c_98 => ?_)
    · refine x_iload_n (pc := 105) (i := 1) K dX7_nameOf_105 rfl rfl ?_
      refine x_bipush (pc := 106) (v := 108) K dX7_nameOf_106 (by decide) ?_
      refine x_icmp_ne (pc := 108) (tgt := 115) K dX7_nameOf_108 (by decide) (fun c_108 => ?_) (fun c_108 => ?_)
      · refine x_iload_n (pc := 115) (i := 1) K dX7_nameOf_115 rfl rfl ?_
        refine x_bipush (pc := 116) (v := 98) K dX7_nameOf_116 (by decide) ?_
        refine x_icmp_ne (pc := 118) (tgt := 125) K dX7_nameOf_118 (by decide) (fun c_118 => ?_) (fun c_118 => ?_)
        · refine x_iconst (pc := 125) (v := 2) K dX7_nameOf_125 (by decide) ?_
          exact x_iretI (pc := 126) K dX7_nameOf_126 ⟨by unfold r_name; rw [if_pos s_1_98]; unfold r_nm2; rw [if_pos c_98, if_neg c_108, if_neg c_118], rfl, rfl⟩
        · refine x_iconst (pc := 121) (v := 1) K dX7_nameOf_121 (by decide) ?_
          refine x_goto (pc := 122) (tgt := 126) K dX7_nameOf_122 (by decide) ?_
          exact x_iretI (pc := 126) K dX7_nameOf_126 ⟨by unfold r_name; rw [if_pos s_1_98]; unfold r_nm2; rw [if_pos c_98, if_neg c_108, if_pos c_118], rfl, rfl⟩
      · refine x_iconst (pc := 111) (v := 0) K dX7_nameOf_111 (by decide) ?_
        refine x_goto (pc := 112) (tgt := 126) K dX7_nameOf_112 (by decide) ?_
        exact x_iretI (pc := 126) K dX7_nameOf_126 ⟨by unfold r_name; rw [if_pos s_1_98]; unfold r_nm2; rw [if_pos c_98, if_pos c_108], rfl, rfl⟩
    · refine x_iconst (pc := 101) (v := (-1)) K dX7_nameOf_101 (by decide) ?_
      refine x_goto (pc := 102) (tgt := 126) K dX7_nameOf_102 (by decide) ?_
      exact x_iretI (pc := 126) K dX7_nameOf_126 ⟨by unfold r_name; rw [if_pos s_1_98]; unfold r_nm2; rw [if_neg c_98], rfl, rfl⟩
  by_cases s_1_107 : b = 107
  · refine x_lookup (pc := 1) (off := 59) (tgt := 60) K dX7_nameOf_1 (by decide) (by rw [s_1_107]; decide) (by decide) ?_
    refine x_aload_n (pc := 60) (i := 0) K dX7_nameOf_60 rfl rfl ?_
    refine gf_X7_124 (pc := 61)  K dX7_nameOf_61 ?_
    refine x_if_eq (pc := 64) (tgt := 71) K dX7_nameOf_64 (by decide) (fun c_64 => ?_) (fun c_64 => ?_)
    · refine x_iload_n (pc := 71) (i := 1) K dX7_nameOf_71 rfl rfl ?_
      refine x_bipush (pc := 72) (v := 114) K dX7_nameOf_72 (by decide) ?_
      refine x_icmp_ne (pc := 74) (tgt := 81) K dX7_nameOf_74 (by decide) (fun c_74 => ?_) (fun c_74 => ?_)
      · refine x_iload_n (pc := 81) (i := 1) K dX7_nameOf_81 rfl rfl ?_
        refine x_bipush (pc := 82) (v := 119) K dX7_nameOf_82 (by decide) ?_
        refine x_icmp_ne (pc := 84) (tgt := 91) K dX7_nameOf_84 (by decide) (fun c_84 => ?_) (fun c_84 => ?_)
        · refine x_iconst (pc := 91) (v := 2) K dX7_nameOf_91 (by decide) ?_
          exact x_iretI (pc := 92) K dX7_nameOf_92 ⟨by unfold r_name; rw [if_neg s_1_98, if_pos s_1_107]; unfold r_nm1; rw [if_pos c_64, if_neg c_74, if_neg c_84], rfl, rfl⟩
        · refine x_iconst (pc := 87) (v := 1) K dX7_nameOf_87 (by decide) ?_
          refine x_goto (pc := 88) (tgt := 92) K dX7_nameOf_88 (by decide) ?_
          exact x_iretI (pc := 92) K dX7_nameOf_92 ⟨by unfold r_name; rw [if_neg s_1_98, if_pos s_1_107]; unfold r_nm1; rw [if_pos c_64, if_neg c_74, if_pos c_84], rfl, rfl⟩
      · refine x_iconst (pc := 77) (v := 0) K dX7_nameOf_77 (by decide) ?_
        refine x_goto (pc := 78) (tgt := 92) K dX7_nameOf_78 (by decide) ?_
        exact x_iretI (pc := 92) K dX7_nameOf_92 ⟨by unfold r_name; rw [if_neg s_1_98, if_pos s_1_107]; unfold r_nm1; rw [if_pos c_64, if_pos c_74], rfl, rfl⟩
    · refine x_iconst (pc := 67) (v := (-1)) K dX7_nameOf_67 (by decide) ?_
      refine x_goto (pc := 68) (tgt := 92) K dX7_nameOf_68 (by decide) ?_
      exact x_iretI (pc := 92) K dX7_nameOf_92 ⟨by unfold r_name; rw [if_neg s_1_98, if_pos s_1_107]; unfold r_nm1; rw [if_neg c_64], rfl, rfl⟩
  by_cases s_1_108 : b = 108
  · refine x_lookup (pc := 1) (off := 92) (tgt := 93) K dX7_nameOf_1 (by decide) (by rw [s_1_108]; decide) (by decide) ?_
    refine x_aload_n (pc := 93) (i := 0) K dX7_nameOf_93 rfl rfl ?_
    refine gf_X7_124 (pc := 94)  K dX7_nameOf_94 ?_
    refine x_iconst (pc := 97) (v := 1) K dX7_nameOf_97 (by decide) ?_
    refine x_icmp_eq (pc := 98) (tgt := 105) K dX7_nameOf_98 (by decide) (fun c_98 => ?_) (fun c_98 => ?_)
    · refine x_iload_n (pc := 105) (i := 1) K dX7_nameOf_105 rfl rfl ?_
      refine x_bipush (pc := 106) (v := 108) K dX7_nameOf_106 (by decide) ?_
      refine x_icmp_ne (pc := 108) (tgt := 115) K dX7_nameOf_108 (by decide) (fun c_108 => ?_) (fun c_108 => ?_)
      · refine x_iload_n (pc := 115) (i := 1) K dX7_nameOf_115 rfl rfl ?_
        refine x_bipush (pc := 116) (v := 98) K dX7_nameOf_116 (by decide) ?_
        refine x_icmp_ne (pc := 118) (tgt := 125) K dX7_nameOf_118 (by decide) (fun c_118 => ?_) (fun c_118 => ?_)
        · refine x_iconst (pc := 125) (v := 2) K dX7_nameOf_125 (by decide) ?_
          exact x_iretI (pc := 126) K dX7_nameOf_126 ⟨by unfold r_name; rw [if_neg s_1_98, if_neg s_1_107, if_pos s_1_108]; unfold r_nm2; rw [if_pos c_98, if_neg c_108, if_neg c_118], rfl, rfl⟩
        · refine x_iconst (pc := 121) (v := 1) K dX7_nameOf_121 (by decide) ?_
          refine x_goto (pc := 122) (tgt := 126) K dX7_nameOf_122 (by decide) ?_
          exact x_iretI (pc := 126) K dX7_nameOf_126 ⟨by unfold r_name; rw [if_neg s_1_98, if_neg s_1_107, if_pos s_1_108]; unfold r_nm2; rw [if_pos c_98, if_neg c_108, if_pos c_118], rfl, rfl⟩
      · refine x_iconst (pc := 111) (v := 0) K dX7_nameOf_111 (by decide) ?_
        refine x_goto (pc := 112) (tgt := 126) K dX7_nameOf_112 (by decide) ?_
        exact x_iretI (pc := 126) K dX7_nameOf_126 ⟨by unfold r_name; rw [if_neg s_1_98, if_neg s_1_107, if_pos s_1_108]; unfold r_nm2; rw [if_pos c_98, if_pos c_108], rfl, rfl⟩
    · refine x_iconst (pc := 101) (v := (-1)) K dX7_nameOf_101 (by decide) ?_
      refine x_goto (pc := 102) (tgt := 126) K dX7_nameOf_102 (by decide) ?_
      exact x_iretI (pc := 126) K dX7_nameOf_126 ⟨by unfold r_name; rw [if_neg s_1_98, if_neg s_1_107, if_pos s_1_108]; unfold r_nm2; rw [if_neg c_98], rfl, rfl⟩
  by_cases s_1_109 : b = 109
  · refine x_lookup (pc := 1) (off := 92) (tgt := 93) K dX7_nameOf_1 (by decide) (by rw [s_1_109]; decide) (by decide) ?_
    refine x_aload_n (pc := 93) (i := 0) K dX7_nameOf_93 rfl rfl ?_
    refine gf_X7_124 (pc := 94)  K dX7_nameOf_94 ?_
    refine x_iconst (pc := 97) (v := 1) K dX7_nameOf_97 (by decide) ?_
    refine x_icmp_eq (pc := 98) (tgt := 105) K dX7_nameOf_98 (by decide) (fun c_98 => ?_) (fun c_98 => ?_)
    · refine x_iload_n (pc := 105) (i := 1) K dX7_nameOf_105 rfl rfl ?_
      refine x_bipush (pc := 106) (v := 108) K dX7_nameOf_106 (by decide) ?_
      refine x_icmp_ne (pc := 108) (tgt := 115) K dX7_nameOf_108 (by decide) (fun c_108 => ?_) (fun c_108 => ?_)
      · refine x_iload_n (pc := 115) (i := 1) K dX7_nameOf_115 rfl rfl ?_
        refine x_bipush (pc := 116) (v := 98) K dX7_nameOf_116 (by decide) ?_
        refine x_icmp_ne (pc := 118) (tgt := 125) K dX7_nameOf_118 (by decide) (fun c_118 => ?_) (fun c_118 => ?_)
        · refine x_iconst (pc := 125) (v := 2) K dX7_nameOf_125 (by decide) ?_
          exact x_iretI (pc := 126) K dX7_nameOf_126 ⟨by unfold r_name; rw [if_neg s_1_98, if_neg s_1_107, if_neg s_1_108, if_pos s_1_109]; unfold r_nm2; rw [if_pos c_98, if_neg c_108, if_neg c_118], rfl, rfl⟩
        · refine x_iconst (pc := 121) (v := 1) K dX7_nameOf_121 (by decide) ?_
          refine x_goto (pc := 122) (tgt := 126) K dX7_nameOf_122 (by decide) ?_
          exact x_iretI (pc := 126) K dX7_nameOf_126 ⟨by unfold r_name; rw [if_neg s_1_98, if_neg s_1_107, if_neg s_1_108, if_pos s_1_109]; unfold r_nm2; rw [if_pos c_98, if_neg c_108, if_pos c_118], rfl, rfl⟩
      · refine x_iconst (pc := 111) (v := 0) K dX7_nameOf_111 (by decide) ?_
        refine x_goto (pc := 112) (tgt := 126) K dX7_nameOf_112 (by decide) ?_
        exact x_iretI (pc := 126) K dX7_nameOf_126 ⟨by unfold r_name; rw [if_neg s_1_98, if_neg s_1_107, if_neg s_1_108, if_pos s_1_109]; unfold r_nm2; rw [if_pos c_98, if_pos c_108], rfl, rfl⟩
    · refine x_iconst (pc := 101) (v := (-1)) K dX7_nameOf_101 (by decide) ?_
      refine x_goto (pc := 102) (tgt := 126) K dX7_nameOf_102 (by decide) ?_
      exact x_iretI (pc := 126) K dX7_nameOf_126 ⟨by unfold r_name; rw [if_neg s_1_98, if_neg s_1_107, if_neg s_1_108, if_pos s_1_109]; unfold r_nm2; rw [if_neg c_98], rfl, rfl⟩
  by_cases s_1_114 : b = 114
  · refine x_lookup (pc := 1) (off := 59) (tgt := 60) K dX7_nameOf_1 (by decide) (by rw [s_1_114]; decide) (by decide) ?_
    refine x_aload_n (pc := 60) (i := 0) K dX7_nameOf_60 rfl rfl ?_
    refine gf_X7_124 (pc := 61)  K dX7_nameOf_61 ?_
    refine x_if_eq (pc := 64) (tgt := 71) K dX7_nameOf_64 (by decide) (fun c_64 => ?_) (fun c_64 => ?_)
    · refine x_iload_n (pc := 71) (i := 1) K dX7_nameOf_71 rfl rfl ?_
      refine x_bipush (pc := 72) (v := 114) K dX7_nameOf_72 (by decide) ?_
      refine x_icmp_ne (pc := 74) (tgt := 81) K dX7_nameOf_74 (by decide) (fun c_74 => ?_) (fun c_74 => ?_)
      · refine x_iload_n (pc := 81) (i := 1) K dX7_nameOf_81 rfl rfl ?_
        refine x_bipush (pc := 82) (v := 119) K dX7_nameOf_82 (by decide) ?_
        refine x_icmp_ne (pc := 84) (tgt := 91) K dX7_nameOf_84 (by decide) (fun c_84 => ?_) (fun c_84 => ?_)
        · refine x_iconst (pc := 91) (v := 2) K dX7_nameOf_91 (by decide) ?_
          exact x_iretI (pc := 92) K dX7_nameOf_92 ⟨by unfold r_name; rw [if_neg s_1_98, if_neg s_1_107, if_neg s_1_108, if_neg s_1_109, if_pos s_1_114]; unfold r_nm1; rw [if_pos c_64, if_neg c_74, if_neg c_84], rfl, rfl⟩
        · refine x_iconst (pc := 87) (v := 1) K dX7_nameOf_87 (by decide) ?_
          refine x_goto (pc := 88) (tgt := 92) K dX7_nameOf_88 (by decide) ?_
          exact x_iretI (pc := 92) K dX7_nameOf_92 ⟨by unfold r_name; rw [if_neg s_1_98, if_neg s_1_107, if_neg s_1_108, if_neg s_1_109, if_pos s_1_114]; unfold r_nm1; rw [if_pos c_64, if_neg c_74, if_pos c_84], rfl, rfl⟩
      · refine x_iconst (pc := 77) (v := 0) K dX7_nameOf_77 (by decide) ?_
        refine x_goto (pc := 78) (tgt := 92) K dX7_nameOf_78 (by decide) ?_
        exact x_iretI (pc := 92) K dX7_nameOf_92 ⟨by unfold r_name; rw [if_neg s_1_98, if_neg s_1_107, if_neg s_1_108, if_neg s_1_109, if_pos s_1_114]; unfold r_nm1; rw [if_pos c_64, if_pos c_74], rfl, rfl⟩
    · refine x_iconst (pc := 67) (v := (-1)) K dX7_nameOf_67 (by decide) ?_
      refine x_goto (pc := 68) (tgt := 92) K dX7_nameOf_68 (by decide) ?_
      exact x_iretI (pc := 92) K dX7_nameOf_92 ⟨by unfold r_name; rw [if_neg s_1_98, if_neg s_1_107, if_neg s_1_108, if_neg s_1_109, if_pos s_1_114]; unfold r_nm1; rw [if_neg c_64], rfl, rfl⟩
  by_cases s_1_119 : b = 119
  · refine x_lookup (pc := 1) (off := 59) (tgt := 60) K dX7_nameOf_1 (by decide) (by rw [s_1_119]; decide) (by decide) ?_
    refine x_aload_n (pc := 60) (i := 0) K dX7_nameOf_60 rfl rfl ?_
    refine gf_X7_124 (pc := 61)  K dX7_nameOf_61 ?_
    refine x_if_eq (pc := 64) (tgt := 71) K dX7_nameOf_64 (by decide) (fun c_64 => ?_) (fun c_64 => ?_)
    · refine x_iload_n (pc := 71) (i := 1) K dX7_nameOf_71 rfl rfl ?_
      refine x_bipush (pc := 72) (v := 114) K dX7_nameOf_72 (by decide) ?_
      refine x_icmp_ne (pc := 74) (tgt := 81) K dX7_nameOf_74 (by decide) (fun c_74 => ?_) (fun c_74 => ?_)
      · refine x_iload_n (pc := 81) (i := 1) K dX7_nameOf_81 rfl rfl ?_
        refine x_bipush (pc := 82) (v := 119) K dX7_nameOf_82 (by decide) ?_
        refine x_icmp_ne (pc := 84) (tgt := 91) K dX7_nameOf_84 (by decide) (fun c_84 => ?_) (fun c_84 => ?_)
        · refine x_iconst (pc := 91) (v := 2) K dX7_nameOf_91 (by decide) ?_
          exact x_iretI (pc := 92) K dX7_nameOf_92 ⟨by unfold r_name; rw [if_neg s_1_98, if_neg s_1_107, if_neg s_1_108, if_neg s_1_109, if_neg s_1_114, if_pos s_1_119]; unfold r_nm1; rw [if_pos c_64, if_neg c_74, if_neg c_84], rfl, rfl⟩
        · refine x_iconst (pc := 87) (v := 1) K dX7_nameOf_87 (by decide) ?_
          refine x_goto (pc := 88) (tgt := 92) K dX7_nameOf_88 (by decide) ?_
          exact x_iretI (pc := 92) K dX7_nameOf_92 ⟨by unfold r_name; rw [if_neg s_1_98, if_neg s_1_107, if_neg s_1_108, if_neg s_1_109, if_neg s_1_114, if_pos s_1_119]; unfold r_nm1; rw [if_pos c_64, if_neg c_74, if_pos c_84], rfl, rfl⟩
      · refine x_iconst (pc := 77) (v := 0) K dX7_nameOf_77 (by decide) ?_
        refine x_goto (pc := 78) (tgt := 92) K dX7_nameOf_78 (by decide) ?_
        exact x_iretI (pc := 92) K dX7_nameOf_92 ⟨by unfold r_name; rw [if_neg s_1_98, if_neg s_1_107, if_neg s_1_108, if_neg s_1_109, if_neg s_1_114, if_pos s_1_119]; unfold r_nm1; rw [if_pos c_64, if_pos c_74], rfl, rfl⟩
    · refine x_iconst (pc := 67) (v := (-1)) K dX7_nameOf_67 (by decide) ?_
      refine x_goto (pc := 68) (tgt := 92) K dX7_nameOf_68 (by decide) ?_
      exact x_iretI (pc := 92) K dX7_nameOf_92 ⟨by unfold r_name; rw [if_neg s_1_98, if_neg s_1_107, if_neg s_1_108, if_neg s_1_109, if_neg s_1_114, if_pos s_1_119]; unfold r_nm1; rw [if_neg c_64], rfl, rfl⟩
  refine x_lookup (pc := 1) (off := 126) (tgt := 127) K dX7_nameOf_1 (by decide) (by simp [Op.lookupswitch.offset, show ¬ 98 = (b).toInt from fun h => s_1_98 (Int32.toInt_inj.mp h.symm), show ¬ 107 = (b).toInt from fun h => s_1_107 (Int32.toInt_inj.mp h.symm), show ¬ 108 = (b).toInt from fun h => s_1_108 (Int32.toInt_inj.mp h.symm), show ¬ 109 = (b).toInt from fun h => s_1_109 (Int32.toInt_inj.mp h.symm), show ¬ 114 = (b).toInt from fun h => s_1_114 (Int32.toInt_inj.mp h.symm), show ¬ 119 = (b).toInt from fun h => s_1_119 (Int32.toInt_inj.mp h.symm)]) (by decide) ?_
  refine x_iconst (pc := 127) (v := (-1)) K dX7_nameOf_127 (by decide) ?_
  exact x_iretI (pc := 128) K dX7_nameOf_128 ⟨by unfold r_name; rw [if_neg s_1_98, if_neg s_1_107, if_neg s_1_108, if_neg s_1_109, if_neg s_1_114, if_neg s_1_119], rfl, rfl⟩

set_option maxRecDepth 100000 in
set_option maxHeartbeats 4000000 in
theorem l_numM {k : Nat} {l : Launch} {G : Gm} {C : Cx} {α : Af} (K : Ok l 2 G C RX7 cX7_number none 3)  : ∀ (j i : Nat) (v : Int32) (ρ : Af), Mk ρ → i + j = 4 → ∀ T, r_numB (r_numL j i v ρ) = T → X k l 2 G C (PV α T) 3 4 [some (.ref (gA G idM)), some (.int v), some (.int (nI i))] [] α ρ := by
  intro j
  induction j with
  | zero =>
    intro i v ρ h hi T hT
    refine x_iload_n (pc := 4) (i := 2) K dX7_number_4 rfl rfl ?_
    refine x_iconst (pc := 5) (v := 4) K dX7_number_5 (by decide) ?_
    refine x_icmp_ge (pc := 6) (tgt := 52) K dX7_number_6 (by decide) (fun c_6 => ?_) (fun c_6 => ?_)
    · refine x_aload_n (pc := 52) (i := 0) K dX7_number_52 rfl rfl ?_
      refine x_iload_n (pc := 53) (i := 2) K dX7_number_53 rfl rfl ?_
      refine x_if_ne (pc := 54) (tgt := 61) K dX7_number_54 (by decide) (fun c_54 => ?_) (fun c_54 => ?_)
      · refine x_iconst (pc := 61) (v := 0) K dX7_number_61 (by decide) ?_
        refine pf_X7_131 (pc := 62)  K ⟨rfl, rfl⟩ dX7_number_62 ?_
        refine x_aload_n (pc := 65) (i := 0) K dX7_number_65 rfl rfl ?_
        refine x_iconst (pc := 66) (v := 1) K dX7_number_66 (by decide) ?_
        refine x_iload_n (pc := 67) (i := 1) K dX7_number_67 rfl rfl ?_
        refine x_V2v (pc := 68) K (c_yX7_step h.bad.1) mw_yX7_step ⟨im_yX7_step, se_yX7_step⟩ mk_X7_135 rc_M rfl ⟨Nat.le_of_ble_eq_true rfl, Nat.le_of_ble_eq_true rfl, Nat.le_of_ble_eq_true rfl⟩ dX7_number_68 ?_
        exact x_vretI (pc := 71) K dX7_number_71 ⟨rfl, by simp only [r_numL] at hT; rw [← hT]; unfold r_numB; rw [if_neg (fun q => c_54 (by rw [show i = 0 from q]; rfl))]⟩
      · refine x_iconst (pc := 57) (v := 1) K dX7_number_57 (by decide) ?_
        refine x_goto (pc := 58) (tgt := 62) K dX7_number_58 (by decide) ?_
        refine pf_X7_131 (pc := 62)  K ⟨rfl, rfl⟩ dX7_number_62 ?_
        refine x_aload_n (pc := 65) (i := 0) K dX7_number_65 rfl rfl ?_
        refine x_iconst (pc := 66) (v := 1) K dX7_number_66 (by decide) ?_
        refine x_iload_n (pc := 67) (i := 1) K dX7_number_67 rfl rfl ?_
        refine x_V2v (pc := 68) K (c_yX7_step h.bad.1) mw_yX7_step ⟨im_yX7_step, se_yX7_step⟩ mk_X7_135 rc_M rfl ⟨Nat.le_of_ble_eq_true rfl, Nat.le_of_ble_eq_true rfl, Nat.le_of_ble_eq_true rfl⟩ dX7_number_68 ?_
        exact x_vretI (pc := 71) K dX7_number_71 ⟨rfl, by simp only [r_numL] at hT; rw [← hT]; unfold r_numB; rw [if_pos ((nI_eq (a := i) (b := 0) (by omega) (by decide)).mp c_54)]⟩
    · exact absurd (by rw [show i = 4 by omega]; decide) c_6
  | succ j ih =>
    intro i v ρ h hi T hT
    refine x_iload_n (pc := 4) (i := 2) K dX7_number_4 rfl rfl ?_
    refine x_iconst (pc := 5) (v := 4) K dX7_number_5 (by decide) ?_
    refine x_icmp_ge (pc := 6) (tgt := 52) K dX7_number_6 (by decide) (fun c_6 => ?_) (fun c_6 => ?_)
    · exact absurd ((nI_leI (a := 4) (b := i) (by decide) (by omega)).mp c_6) (by omega)
    · refine x_aload_n (pc := 9) (i := 0) K dX7_number_9 rfl rfl ?_
      refine x_V0i (pc := 10) K (c_yX7_look h) mw_yX7_look ⟨im_yX7_look, se_yX7_look⟩ mk_X7_127 rc_M rfl ⟨Nat.le_of_ble_eq_true rfl, Nat.le_of_ble_eq_true rfl, Nat.le_of_ble_eq_true rfl⟩ dX7_number_10 ?_
      refine x_bipush (pc := 13) (v := 48) K dX7_number_13 (by decide) ?_
      refine x_bipush (pc := 15) (v := 57) K dX7_number_15 (by decide) ?_
      refine x_S3i (pc := 17) K (c_yX7_in) mw_yX7_in st_yX7_in mk_X7_54 ⟨Nat.le_of_ble_eq_true rfl, Nat.le_of_ble_eq_true rfl, Nat.le_of_ble_eq_true rfl⟩ dX7_number_17 ?_
      refine x_ifeq_b (pc := 20) (tgt := 52) K dX7_number_20 (by decide) (fun c_20 => ?_) (fun c_20 => ?_)
      · refine x_aload_n (pc := 52) (i := 0) K dX7_number_52 rfl rfl ?_
        refine x_iload_n (pc := 53) (i := 2) K dX7_number_53 rfl rfl ?_
        refine x_if_ne (pc := 54) (tgt := 61) K dX7_number_54 (by decide) (fun c_54 => ?_) (fun c_54 => ?_)
        · refine x_iconst (pc := 61) (v := 0) K dX7_number_61 (by decide) ?_
          refine pf_X7_131 (pc := 62)  K ⟨rfl, rfl⟩ dX7_number_62 ?_
          refine x_aload_n (pc := 65) (i := 0) K dX7_number_65 rfl rfl ?_
          refine x_iconst (pc := 66) (v := 1) K dX7_number_66 (by decide) ?_
          refine x_iload_n (pc := 67) (i := 1) K dX7_number_67 rfl rfl ?_
          refine x_V2v (pc := 68) K (c_yX7_step h.bad.1) mw_yX7_step ⟨im_yX7_step, se_yX7_step⟩ mk_X7_135 rc_M rfl ⟨Nat.le_of_ble_eq_true rfl, Nat.le_of_ble_eq_true rfl, Nat.le_of_ble_eq_true rfl⟩ dX7_number_68 ?_
          exact x_vretI (pc := 71) K dX7_number_71 ⟨rfl, by simp only [r_numL, c_20, Bool.false_eq_true, ↓reduceIte] at hT; rw [← hT]; unfold r_numB; rw [if_neg (fun q => c_54 (by rw [show i = 0 from q]; rfl))]⟩
        · refine x_iconst (pc := 57) (v := 1) K dX7_number_57 (by decide) ?_
          refine x_goto (pc := 58) (tgt := 62) K dX7_number_58 (by decide) ?_
          refine pf_X7_131 (pc := 62)  K ⟨rfl, rfl⟩ dX7_number_62 ?_
          refine x_aload_n (pc := 65) (i := 0) K dX7_number_65 rfl rfl ?_
          refine x_iconst (pc := 66) (v := 1) K dX7_number_66 (by decide) ?_
          refine x_iload_n (pc := 67) (i := 1) K dX7_number_67 rfl rfl ?_
          refine x_V2v (pc := 68) K (c_yX7_step h.bad.1) mw_yX7_step ⟨im_yX7_step, se_yX7_step⟩ mk_X7_135 rc_M rfl ⟨Nat.le_of_ble_eq_true rfl, Nat.le_of_ble_eq_true rfl, Nat.le_of_ble_eq_true rfl⟩ dX7_number_68 ?_
          exact x_vretI (pc := 71) K dX7_number_71 ⟨rfl, by simp only [r_numL, c_20, Bool.false_eq_true, ↓reduceIte] at hT; rw [← hT]; unfold r_numB; rw [if_pos ((nI_eq (a := i) (b := 0) (by omega) (by decide)).mp c_54)]⟩
      · refine x_bipush (pc := 23) (v := 10) K dX7_number_23 (by decide) ?_
        refine x_iload_n (pc := 25) (i := 1) K dX7_number_25 rfl rfl ?_
        refine x_imul (pc := 26) K dX7_number_26 ?_
        refine x_aload_n (pc := 27) (i := 0) K dX7_number_27 rfl rfl ?_
        refine x_V0i (pc := 28) K (c_yX7_look h) mw_yX7_look ⟨im_yX7_look, se_yX7_look⟩ mk_X7_127 rc_M rfl ⟨Nat.le_of_ble_eq_true rfl, Nat.le_of_ble_eq_true rfl, Nat.le_of_ble_eq_true rfl⟩ dX7_number_28 ?_
        refine x_iadd (pc := 31) K dX7_number_31 ?_
        refine x_bipush (pc := 32) (v := 48) K dX7_number_32 (by decide) ?_
        refine x_isub (pc := 34) K dX7_number_34 ?_
        refine x_istore_n (pc := 35) (i := 1) K dX7_number_35 rfl rfl (by decide) ?_
        refine x_aload_n (pc := 36) (i := 0) K dX7_number_36 rfl rfl ?_
        refine x_dup (pc := 37) K dX7_number_37 rfl ?_
        refine gf_X7_117 (pc := 38)  K dX7_number_38 ?_
        refine x_iconst (pc := 41) (v := 1) K dX7_number_41 (by decide) ?_
        refine x_iadd (pc := 42) K dX7_number_42 ?_
        refine pf_X7_117 (pc := 43)  K dX7_number_43 ?_
        refine x_iinc (pc := 46) (i := 2) (v := nI (i + 1)) K dX7_number_46 rfl (nI_1 _) rfl ?_
        refine x_goto (pc := 49) (tgt := 4) K dX7_number_49 (by decide) ?_
        exact ih (i + 1) _ _ (h.adv (look_ne h (isS_ne (isS := fun x => q_within x 48 57) rfl c_20))).1 (by omega) T (by rw [← hT]; simp only [r_numL, c_20, ↓reduceIte])

set_option maxRecDepth 100000 in
set_option maxHeartbeats 4000000 in
theorem c_yX7_number {k : Nat} {l : Launch} {G : Gm} {α ρ : Af}  (h : Mk ρ) : CI k l G yX7_number (Cond.code yX7_number cX7_number 3 none) 2 [.ref (gA G idM)] α ρ (PV α (r_number ρ)) := by
  refine CI.of [some (.ref (gA G idM)), none, none] (by decide) (Nat.le_of_ble_eq_true rfl) rfl rfl (fun C K => ?_)
  have K : Ok l _ G C RX7 cX7_number none 3 := K
  refine x_iconst (pc := 0) (v := 0) K dX7_number_0 (by decide) ?_
  refine x_istore_n (pc := 1) (i := 1) K dX7_number_1 rfl rfl (by decide) ?_
  refine x_iconst (pc := 2) (v := 0) K dX7_number_2 (by decide) ?_
  refine x_istore_n (pc := 3) (i := 2) K dX7_number_3 rfl rfl (by decide) ?_
  exact l_numM K 4 0 0 ρ h (by omega) _ rfl

set_option maxRecDepth 100000 in
set_option maxHeartbeats 4000000 in
theorem l_mtimes {k : Nat} {l : Launch} {G : Gm} {C : Cx} {m : Nat} {sub : Pm} {ds : Nat} {α : Af} (K : Ok l (ds + 1) G C RX7 cX7_times none 2) (hsub : ∀ (α ρ : Af), Mo m ρ → CI k l G yX7_one (Cond.code yX7_one cX7_one 3 none) ds [.ref (gA G idM)] α ρ (PV α (sub ρ))) (hK : PrM m sub) (hds : 3 ≤ ds) : ∀ (j : Nat) (y : Option Value) (ρ : Af), Mo m ρ → 60 ≤ hv ρ + j → ∀ T, r_binL sub q_isProd j ρ = T → X k l (ds + 1) G C (PV α T) 2 4 [some (.ref (gA G idM)), y] [] α ρ := by
  intro j
  induction j with
  | zero =>
    intro y ρ h hi T hT
    refine x_aload_n (pc := 4) (i := 0) K dX7_times_4 rfl rfl ?_
    refine gf_X7_131 (pc := 5)  K dX7_times_5 ?_
    refine x_if_ne (pc := 8) (tgt := 66) K dX7_times_8 (by decide) (fun c_8 => ?_) (fun c_8 => ?_)
    · exact x_vretI (pc := 66) K dX7_times_66 ⟨rfl, by rw [← hT]; rfl⟩
    · refine x_aload_n (pc := 11) (i := 0) K dX7_times_11 rfl rfl ?_
      refine x_V0i (pc := 12) K (c_yX7_look h.1) mw_yX7_look ⟨im_yX7_look, se_yX7_look⟩ mk_X7_127 rc_M rfl ⟨(by omega), Nat.le_of_ble_eq_true rfl, Nat.le_of_ble_eq_true rfl⟩ dX7_times_12 ?_
      refine x_bipush (pc := 15) (v := 42) K dX7_times_15 (by decide) ?_
      refine x_icmp_eq (pc := 17) (tgt := 38) K dX7_times_17 (by decide) (fun c_17 => ?_) (fun c_17 => ?_)
      · exact absurd (c_17.symm.trans (look_ge h.1 hi)) (by decide)
      · refine x_aload_n (pc := 20) (i := 0) K dX7_times_20 rfl rfl ?_
        refine x_V0i (pc := 21) K (c_yX7_look h.1) mw_yX7_look ⟨im_yX7_look, se_yX7_look⟩ mk_X7_127 rc_M rfl ⟨(by omega), Nat.le_of_ble_eq_true rfl, Nat.le_of_ble_eq_true rfl⟩ dX7_times_21 ?_
        refine x_bipush (pc := 24) (v := 47) K dX7_times_24 (by decide) ?_
        refine x_icmp_eq (pc := 26) (tgt := 38) K dX7_times_26 (by decide) (fun c_26 => ?_) (fun c_26 => ?_)
        · exact absurd (c_26.symm.trans (look_ge h.1 hi)) (by decide)
        · refine x_aload_n (pc := 29) (i := 0) K dX7_times_29 rfl rfl ?_
          refine x_V0i (pc := 30) K (c_yX7_look h.1) mw_yX7_look ⟨im_yX7_look, se_yX7_look⟩ mk_X7_127 rc_M rfl ⟨(by omega), Nat.le_of_ble_eq_true rfl, Nat.le_of_ble_eq_true rfl⟩ dX7_times_30 ?_
          refine x_bipush (pc := 33) (v := 37) K dX7_times_33 (by decide) ?_
          refine x_icmp_ne (pc := 35) (tgt := 66) K dX7_times_35 (by decide) (fun c_35 => ?_) (fun c_35 => ?_)
          · exact x_vretI (pc := 66) K dX7_times_66 ⟨rfl, by rw [← hT]; rfl⟩
          · exact absurd (c_35.symm.trans (look_ge h.1 hi)) (by decide)
  | succ j ih =>
    intro y ρ h hi T hT
    refine x_aload_n (pc := 4) (i := 0) K dX7_times_4 rfl rfl ?_
    refine gf_X7_131 (pc := 5)  K dX7_times_5 ?_
    refine x_if_ne (pc := 8) (tgt := 66) K dX7_times_8 (by decide) (fun c_8 => ?_) (fun c_8 => ?_)
    · exact x_vretI (pc := 66) K dX7_times_66 ⟨rfl, by rw [← hT]; simp only [r_binL]; rw [if_neg c_8]⟩
    · refine x_aload_n (pc := 11) (i := 0) K dX7_times_11 rfl rfl ?_
      refine x_V0i (pc := 12) K (c_yX7_look h.1) mw_yX7_look ⟨im_yX7_look, se_yX7_look⟩ mk_X7_127 rc_M rfl ⟨(by omega), Nat.le_of_ble_eq_true rfl, Nat.le_of_ble_eq_true rfl⟩ dX7_times_12 ?_
      refine x_bipush (pc := 15) (v := 42) K dX7_times_15 (by decide) ?_
      refine x_icmp_eq (pc := 17) (tgt := 38) K dX7_times_17 (by decide) (fun c_17 => ?_) (fun c_17 => ?_)
      · refine x_aload_n (pc := 38) (i := 0) K dX7_times_38 rfl rfl ?_
        refine x_V0i (pc := 39) K (c_yX7_look h.1) mw_yX7_look ⟨im_yX7_look, se_yX7_look⟩ mk_X7_127 rc_M rfl ⟨(by omega), Nat.le_of_ble_eq_true rfl, Nat.le_of_ble_eq_true rfl⟩ dX7_times_39 ?_
        refine x_istore_n (pc := 42) (i := 1) K dX7_times_42 rfl rfl (by decide) ?_
        refine x_aload_n (pc := 43) (i := 0) K dX7_times_43 rfl rfl ?_
        refine x_dup (pc := 44) K dX7_times_44 rfl ?_
        refine gf_X7_117 (pc := 45)  K dX7_times_45 ?_
        refine x_iconst (pc := 48) (v := 1) K dX7_times_48 (by decide) ?_
        refine x_iadd (pc := 49) K dX7_times_49 ?_
        refine pf_X7_117 (pc := 50)  K dX7_times_50 ?_
        have hS : q_isProd (r_look ρ) = true := by unfold q_isProd; rw [if_pos c_17]
        obtain ⟨hA, hA2⟩ := h.adv (look_ne h.1 (isS_ne rfl hS))
        refine x_st (r := r_adv ρ) rfl rfl ?_
        refine x_aload_n (pc := 53) (i := 0) K dX7_times_53 rfl rfl ?_
        refine x_V0v (pc := 54) K (hsub _ _ hA) mw_yX7_one ⟨im_yX7_one, se_yX7_one⟩ mk_X7_142 rc_M rfl ⟨(by omega), Nat.le_of_ble_eq_true rfl, Nat.le_of_ble_eq_true rfl⟩ dX7_times_54 ?_
        refine x_aload_n (pc := 57) (i := 0) K dX7_times_57 rfl rfl ?_
        refine x_iload_n (pc := 58) (i := 1) K dX7_times_58 rfl rfl ?_
        refine x_iconst (pc := 59) (v := 0) K dX7_times_59 (by decide) ?_
        refine x_V2v (pc := 60) K (c_yX7_step (hK _ hA).1.1) mw_yX7_step ⟨im_yX7_step, se_yX7_step⟩ mk_X7_135 rc_M rfl ⟨(by omega), Nat.le_of_ble_eq_true rfl, Nat.le_of_ble_eq_true rfl⟩ dX7_times_60 ?_
        refine x_goto (pc := 63) (tgt := 4) K dX7_times_63 (by decide) ?_
        exact ih _ _ (hK _ hA).1.stp (by have e1 := ((hK _ hA).1.1.stp (x := r_look ρ) (v := 0)).2; have e2 := (hK _ hA).2.1; omega) T (by rw [← hT]; simp only [r_binL]; rw [if_pos c_8, if_pos hS])
      · refine x_aload_n (pc := 20) (i := 0) K dX7_times_20 rfl rfl ?_
        refine x_V0i (pc := 21) K (c_yX7_look h.1) mw_yX7_look ⟨im_yX7_look, se_yX7_look⟩ mk_X7_127 rc_M rfl ⟨(by omega), Nat.le_of_ble_eq_true rfl, Nat.le_of_ble_eq_true rfl⟩ dX7_times_21 ?_
        refine x_bipush (pc := 24) (v := 47) K dX7_times_24 (by decide) ?_
        refine x_icmp_eq (pc := 26) (tgt := 38) K dX7_times_26 (by decide) (fun c_26 => ?_) (fun c_26 => ?_)
        · refine x_aload_n (pc := 38) (i := 0) K dX7_times_38 rfl rfl ?_
          refine x_V0i (pc := 39) K (c_yX7_look h.1) mw_yX7_look ⟨im_yX7_look, se_yX7_look⟩ mk_X7_127 rc_M rfl ⟨(by omega), Nat.le_of_ble_eq_true rfl, Nat.le_of_ble_eq_true rfl⟩ dX7_times_39 ?_
          refine x_istore_n (pc := 42) (i := 1) K dX7_times_42 rfl rfl (by decide) ?_
          refine x_aload_n (pc := 43) (i := 0) K dX7_times_43 rfl rfl ?_
          refine x_dup (pc := 44) K dX7_times_44 rfl ?_
          refine gf_X7_117 (pc := 45)  K dX7_times_45 ?_
          refine x_iconst (pc := 48) (v := 1) K dX7_times_48 (by decide) ?_
          refine x_iadd (pc := 49) K dX7_times_49 ?_
          refine pf_X7_117 (pc := 50)  K dX7_times_50 ?_
          have hS : q_isProd (r_look ρ) = true := by unfold q_isProd; rw [if_neg c_17, if_pos c_26]
          obtain ⟨hA, hA2⟩ := h.adv (look_ne h.1 (isS_ne rfl hS))
          refine x_st (r := r_adv ρ) rfl rfl ?_
          refine x_aload_n (pc := 53) (i := 0) K dX7_times_53 rfl rfl ?_
          refine x_V0v (pc := 54) K (hsub _ _ hA) mw_yX7_one ⟨im_yX7_one, se_yX7_one⟩ mk_X7_142 rc_M rfl ⟨(by omega), Nat.le_of_ble_eq_true rfl, Nat.le_of_ble_eq_true rfl⟩ dX7_times_54 ?_
          refine x_aload_n (pc := 57) (i := 0) K dX7_times_57 rfl rfl ?_
          refine x_iload_n (pc := 58) (i := 1) K dX7_times_58 rfl rfl ?_
          refine x_iconst (pc := 59) (v := 0) K dX7_times_59 (by decide) ?_
          refine x_V2v (pc := 60) K (c_yX7_step (hK _ hA).1.1) mw_yX7_step ⟨im_yX7_step, se_yX7_step⟩ mk_X7_135 rc_M rfl ⟨(by omega), Nat.le_of_ble_eq_true rfl, Nat.le_of_ble_eq_true rfl⟩ dX7_times_60 ?_
          refine x_goto (pc := 63) (tgt := 4) K dX7_times_63 (by decide) ?_
          exact ih _ _ (hK _ hA).1.stp (by have e1 := ((hK _ hA).1.1.stp (x := r_look ρ) (v := 0)).2; have e2 := (hK _ hA).2.1; omega) T (by rw [← hT]; simp only [r_binL]; rw [if_pos c_8, if_pos hS])
        · refine x_aload_n (pc := 29) (i := 0) K dX7_times_29 rfl rfl ?_
          refine x_V0i (pc := 30) K (c_yX7_look h.1) mw_yX7_look ⟨im_yX7_look, se_yX7_look⟩ mk_X7_127 rc_M rfl ⟨(by omega), Nat.le_of_ble_eq_true rfl, Nat.le_of_ble_eq_true rfl⟩ dX7_times_30 ?_
          refine x_bipush (pc := 33) (v := 37) K dX7_times_33 (by decide) ?_
          refine x_icmp_ne (pc := 35) (tgt := 66) K dX7_times_35 (by decide) (fun c_35 => ?_) (fun c_35 => ?_)
          · exact x_vretI (pc := 66) K dX7_times_66 ⟨rfl, by rw [← hT]; simp only [r_binL]; rw [if_pos c_8, if_neg (show ¬ q_isProd (r_look ρ) = true from by unfold q_isProd; rw [if_neg c_17, if_neg c_26, if_neg c_35]; decide)]⟩
          · refine x_aload_n (pc := 38) (i := 0) K dX7_times_38 rfl rfl ?_
            refine x_V0i (pc := 39) K (c_yX7_look h.1) mw_yX7_look ⟨im_yX7_look, se_yX7_look⟩ mk_X7_127 rc_M rfl ⟨(by omega), Nat.le_of_ble_eq_true rfl, Nat.le_of_ble_eq_true rfl⟩ dX7_times_39 ?_
            refine x_istore_n (pc := 42) (i := 1) K dX7_times_42 rfl rfl (by decide) ?_
            refine x_aload_n (pc := 43) (i := 0) K dX7_times_43 rfl rfl ?_
            refine x_dup (pc := 44) K dX7_times_44 rfl ?_
            refine gf_X7_117 (pc := 45)  K dX7_times_45 ?_
            refine x_iconst (pc := 48) (v := 1) K dX7_times_48 (by decide) ?_
            refine x_iadd (pc := 49) K dX7_times_49 ?_
            refine pf_X7_117 (pc := 50)  K dX7_times_50 ?_
            have hS : q_isProd (r_look ρ) = true := by unfold q_isProd; rw [if_neg c_17, if_neg c_26, if_pos c_35]
            obtain ⟨hA, hA2⟩ := h.adv (look_ne h.1 (isS_ne rfl hS))
            refine x_st (r := r_adv ρ) rfl rfl ?_
            refine x_aload_n (pc := 53) (i := 0) K dX7_times_53 rfl rfl ?_
            refine x_V0v (pc := 54) K (hsub _ _ hA) mw_yX7_one ⟨im_yX7_one, se_yX7_one⟩ mk_X7_142 rc_M rfl ⟨(by omega), Nat.le_of_ble_eq_true rfl, Nat.le_of_ble_eq_true rfl⟩ dX7_times_54 ?_
            refine x_aload_n (pc := 57) (i := 0) K dX7_times_57 rfl rfl ?_
            refine x_iload_n (pc := 58) (i := 1) K dX7_times_58 rfl rfl ?_
            refine x_iconst (pc := 59) (v := 0) K dX7_times_59 (by decide) ?_
            refine x_V2v (pc := 60) K (c_yX7_step (hK _ hA).1.1) mw_yX7_step ⟨im_yX7_step, se_yX7_step⟩ mk_X7_135 rc_M rfl ⟨(by omega), Nat.le_of_ble_eq_true rfl, Nat.le_of_ble_eq_true rfl⟩ dX7_times_60 ?_
            refine x_goto (pc := 63) (tgt := 4) K dX7_times_63 (by decide) ?_
            exact ih _ _ (hK _ hA).1.stp (by have e1 := ((hK _ hA).1.1.stp (x := r_look ρ) (v := 0)).2; have e2 := (hK _ hA).2.1; omega) T (by rw [← hT]; simp only [r_binL]; rw [if_pos c_8, if_pos hS])

set_option maxRecDepth 100000 in
set_option maxHeartbeats 4000000 in
theorem c_yX7_times {k : Nat} {l : Launch} {G : Gm} {α ρ : Af} {m : Nat} {sub : Pm} {ds : Nat} (hsub : ∀ (α ρ : Af), Mo m ρ → CI k l G yX7_one (Cond.code yX7_one cX7_one 3 none) ds [.ref (gA G idM)] α ρ (PV α (sub ρ))) (hK : PrM m sub) (hds : 3 ≤ ds) (h : Mo m ρ) : CI k l G yX7_times (Cond.code yX7_times cX7_times 2 none) (ds + 1) [.ref (gA G idM)] α ρ (PV α (r_bin sub q_isProd ρ)) := by
  refine CI.of [some (.ref (gA G idM)), none] (by decide) (Nat.le_of_ble_eq_true rfl) rfl rfl (fun C K => ?_)
  have K : Ok l _ G C RX7 cX7_times none 2 := K
  refine x_aload_n (pc := 0) (i := 0) K dX7_times_0 rfl rfl ?_
  refine x_V0v (pc := 1) K (hsub _ _ h) mw_yX7_one ⟨im_yX7_one, se_yX7_one⟩ mk_X7_142 rc_M rfl ⟨(by omega), Nat.le_of_ble_eq_true rfl, Nat.le_of_ble_eq_true rfl⟩ dX7_times_1 ?_
  exact l_mtimes K hsub hK hds 60 none _ (hK _ h).1 (by omega) _ rfl

set_option maxRecDepth 100000 in
set_option maxHeartbeats 4000000 in
theorem l_msum {k : Nat} {l : Launch} {G : Gm} {C : Cx} {m : Nat} {sub : Pm} {ds : Nat} {α : Af} (K : Ok l (ds + 1) G C RX7 cX7_sum none 2) (hsub : ∀ (α ρ : Af), Mo m ρ → CI k l G yX7_times (Cond.code yX7_times cX7_times 2 none) ds [.ref (gA G idM)] α ρ (PV α (sub ρ))) (hK : PrM m sub) (hds : 3 ≤ ds) : ∀ (j : Nat) (y : Option Value) (ρ : Af), Mo m ρ → 60 ≤ hv ρ + j → ∀ T, r_binL sub q_isSum j ρ = T → X k l (ds + 1) G C (PV α T) 2 4 [some (.ref (gA G idM)), y] [] α ρ := by
  intro j
  induction j with
  | zero =>
    intro y ρ h hi T hT
    refine x_aload_n (pc := 4) (i := 0) K dX7_sum_4 rfl rfl ?_
    refine gf_X7_131 (pc := 5)  K dX7_sum_5 ?_
    refine x_if_ne (pc := 8) (tgt := 57) K dX7_sum_8 (by decide) (fun c_8 => ?_) (fun c_8 => ?_)
    · exact x_vretI (pc := 57) K dX7_sum_57 ⟨rfl, by rw [← hT]; rfl⟩
    · refine x_aload_n (pc := 11) (i := 0) K dX7_sum_11 rfl rfl ?_
      refine x_V0i (pc := 12) K (c_yX7_look h.1) mw_yX7_look ⟨im_yX7_look, se_yX7_look⟩ mk_X7_127 rc_M rfl ⟨(by omega), Nat.le_of_ble_eq_true rfl, Nat.le_of_ble_eq_true rfl⟩ dX7_sum_12 ?_
      refine x_bipush (pc := 15) (v := 43) K dX7_sum_15 (by decide) ?_
      refine x_icmp_eq (pc := 17) (tgt := 29) K dX7_sum_17 (by decide) (fun c_17 => ?_) (fun c_17 => ?_)
      · exact absurd (c_17.symm.trans (look_ge h.1 hi)) (by decide)
      · refine x_aload_n (pc := 20) (i := 0) K dX7_sum_20 rfl rfl ?_
        refine x_V0i (pc := 21) K (c_yX7_look h.1) mw_yX7_look ⟨im_yX7_look, se_yX7_look⟩ mk_X7_127 rc_M rfl ⟨(by omega), Nat.le_of_ble_eq_true rfl, Nat.le_of_ble_eq_true rfl⟩ dX7_sum_21 ?_
        refine x_bipush (pc := 24) (v := 45) K dX7_sum_24 (by decide) ?_
        refine x_icmp_ne (pc := 26) (tgt := 57) K dX7_sum_26 (by decide) (fun c_26 => ?_) (fun c_26 => ?_)
        · exact x_vretI (pc := 57) K dX7_sum_57 ⟨rfl, by rw [← hT]; rfl⟩
        · exact absurd (c_26.symm.trans (look_ge h.1 hi)) (by decide)
  | succ j ih =>
    intro y ρ h hi T hT
    refine x_aload_n (pc := 4) (i := 0) K dX7_sum_4 rfl rfl ?_
    refine gf_X7_131 (pc := 5)  K dX7_sum_5 ?_
    refine x_if_ne (pc := 8) (tgt := 57) K dX7_sum_8 (by decide) (fun c_8 => ?_) (fun c_8 => ?_)
    · exact x_vretI (pc := 57) K dX7_sum_57 ⟨rfl, by rw [← hT]; simp only [r_binL]; rw [if_neg c_8]⟩
    · refine x_aload_n (pc := 11) (i := 0) K dX7_sum_11 rfl rfl ?_
      refine x_V0i (pc := 12) K (c_yX7_look h.1) mw_yX7_look ⟨im_yX7_look, se_yX7_look⟩ mk_X7_127 rc_M rfl ⟨(by omega), Nat.le_of_ble_eq_true rfl, Nat.le_of_ble_eq_true rfl⟩ dX7_sum_12 ?_
      refine x_bipush (pc := 15) (v := 43) K dX7_sum_15 (by decide) ?_
      refine x_icmp_eq (pc := 17) (tgt := 29) K dX7_sum_17 (by decide) (fun c_17 => ?_) (fun c_17 => ?_)
      · refine x_aload_n (pc := 29) (i := 0) K dX7_sum_29 rfl rfl ?_
        refine x_V0i (pc := 30) K (c_yX7_look h.1) mw_yX7_look ⟨im_yX7_look, se_yX7_look⟩ mk_X7_127 rc_M rfl ⟨(by omega), Nat.le_of_ble_eq_true rfl, Nat.le_of_ble_eq_true rfl⟩ dX7_sum_30 ?_
        refine x_istore_n (pc := 33) (i := 1) K dX7_sum_33 rfl rfl (by decide) ?_
        refine x_aload_n (pc := 34) (i := 0) K dX7_sum_34 rfl rfl ?_
        refine x_dup (pc := 35) K dX7_sum_35 rfl ?_
        refine gf_X7_117 (pc := 36)  K dX7_sum_36 ?_
        refine x_iconst (pc := 39) (v := 1) K dX7_sum_39 (by decide) ?_
        refine x_iadd (pc := 40) K dX7_sum_40 ?_
        refine pf_X7_117 (pc := 41)  K dX7_sum_41 ?_
        have hS : q_isSum (r_look ρ) = true := by unfold q_isSum; rw [if_pos c_17]
        obtain ⟨hA, hA2⟩ := h.adv (look_ne h.1 (isS_ne rfl hS))
        refine x_st (r := r_adv ρ) rfl rfl ?_
        refine x_aload_n (pc := 44) (i := 0) K dX7_sum_44 rfl rfl ?_
        refine x_V0v (pc := 45) K (hsub _ _ hA) mw_yX7_times ⟨im_yX7_times, se_yX7_times⟩ mk_X7_158 rc_M rfl ⟨(by omega), Nat.le_of_ble_eq_true rfl, Nat.le_of_ble_eq_true rfl⟩ dX7_sum_45 ?_
        refine x_aload_n (pc := 48) (i := 0) K dX7_sum_48 rfl rfl ?_
        refine x_iload_n (pc := 49) (i := 1) K dX7_sum_49 rfl rfl ?_
        refine x_iconst (pc := 50) (v := 0) K dX7_sum_50 (by decide) ?_
        refine x_V2v (pc := 51) K (c_yX7_step (hK _ hA).1.1) mw_yX7_step ⟨im_yX7_step, se_yX7_step⟩ mk_X7_135 rc_M rfl ⟨(by omega), Nat.le_of_ble_eq_true rfl, Nat.le_of_ble_eq_true rfl⟩ dX7_sum_51 ?_
        refine x_goto (pc := 54) (tgt := 4) K dX7_sum_54 (by decide) ?_
        exact ih _ _ (hK _ hA).1.stp (by have e1 := ((hK _ hA).1.1.stp (x := r_look ρ) (v := 0)).2; have e2 := (hK _ hA).2.1; omega) T (by rw [← hT]; simp only [r_binL]; rw [if_pos c_8, if_pos hS])
      · refine x_aload_n (pc := 20) (i := 0) K dX7_sum_20 rfl rfl ?_
        refine x_V0i (pc := 21) K (c_yX7_look h.1) mw_yX7_look ⟨im_yX7_look, se_yX7_look⟩ mk_X7_127 rc_M rfl ⟨(by omega), Nat.le_of_ble_eq_true rfl, Nat.le_of_ble_eq_true rfl⟩ dX7_sum_21 ?_
        refine x_bipush (pc := 24) (v := 45) K dX7_sum_24 (by decide) ?_
        refine x_icmp_ne (pc := 26) (tgt := 57) K dX7_sum_26 (by decide) (fun c_26 => ?_) (fun c_26 => ?_)
        · exact x_vretI (pc := 57) K dX7_sum_57 ⟨rfl, by rw [← hT]; simp only [r_binL]; rw [if_pos c_8, if_neg (show ¬ q_isSum (r_look ρ) = true from by unfold q_isSum; rw [if_neg c_17, if_neg c_26]; decide)]⟩
        · refine x_aload_n (pc := 29) (i := 0) K dX7_sum_29 rfl rfl ?_
          refine x_V0i (pc := 30) K (c_yX7_look h.1) mw_yX7_look ⟨im_yX7_look, se_yX7_look⟩ mk_X7_127 rc_M rfl ⟨(by omega), Nat.le_of_ble_eq_true rfl, Nat.le_of_ble_eq_true rfl⟩ dX7_sum_30 ?_
          refine x_istore_n (pc := 33) (i := 1) K dX7_sum_33 rfl rfl (by decide) ?_
          refine x_aload_n (pc := 34) (i := 0) K dX7_sum_34 rfl rfl ?_
          refine x_dup (pc := 35) K dX7_sum_35 rfl ?_
          refine gf_X7_117 (pc := 36)  K dX7_sum_36 ?_
          refine x_iconst (pc := 39) (v := 1) K dX7_sum_39 (by decide) ?_
          refine x_iadd (pc := 40) K dX7_sum_40 ?_
          refine pf_X7_117 (pc := 41)  K dX7_sum_41 ?_
          have hS : q_isSum (r_look ρ) = true := by unfold q_isSum; rw [if_neg c_17, if_pos c_26]
          obtain ⟨hA, hA2⟩ := h.adv (look_ne h.1 (isS_ne rfl hS))
          refine x_st (r := r_adv ρ) rfl rfl ?_
          refine x_aload_n (pc := 44) (i := 0) K dX7_sum_44 rfl rfl ?_
          refine x_V0v (pc := 45) K (hsub _ _ hA) mw_yX7_times ⟨im_yX7_times, se_yX7_times⟩ mk_X7_158 rc_M rfl ⟨(by omega), Nat.le_of_ble_eq_true rfl, Nat.le_of_ble_eq_true rfl⟩ dX7_sum_45 ?_
          refine x_aload_n (pc := 48) (i := 0) K dX7_sum_48 rfl rfl ?_
          refine x_iload_n (pc := 49) (i := 1) K dX7_sum_49 rfl rfl ?_
          refine x_iconst (pc := 50) (v := 0) K dX7_sum_50 (by decide) ?_
          refine x_V2v (pc := 51) K (c_yX7_step (hK _ hA).1.1) mw_yX7_step ⟨im_yX7_step, se_yX7_step⟩ mk_X7_135 rc_M rfl ⟨(by omega), Nat.le_of_ble_eq_true rfl, Nat.le_of_ble_eq_true rfl⟩ dX7_sum_51 ?_
          refine x_goto (pc := 54) (tgt := 4) K dX7_sum_54 (by decide) ?_
          exact ih _ _ (hK _ hA).1.stp (by have e1 := ((hK _ hA).1.1.stp (x := r_look ρ) (v := 0)).2; have e2 := (hK _ hA).2.1; omega) T (by rw [← hT]; simp only [r_binL]; rw [if_pos c_8, if_pos hS])

set_option maxRecDepth 100000 in
set_option maxHeartbeats 4000000 in
theorem c_yX7_sum {k : Nat} {l : Launch} {G : Gm} {α ρ : Af} {m : Nat} {sub : Pm} {ds : Nat} (hsub : ∀ (α ρ : Af), Mo m ρ → CI k l G yX7_times (Cond.code yX7_times cX7_times 2 none) ds [.ref (gA G idM)] α ρ (PV α (sub ρ))) (hK : PrM m sub) (hds : 3 ≤ ds) (h : Mo m ρ) : CI k l G yX7_sum (Cond.code yX7_sum cX7_sum 2 none) (ds + 1) [.ref (gA G idM)] α ρ (PV α (r_bin sub q_isSum ρ)) := by
  refine CI.of [some (.ref (gA G idM)), none] (by decide) (Nat.le_of_ble_eq_true rfl) rfl rfl (fun C K => ?_)
  have K : Ok l _ G C RX7 cX7_sum none 2 := K
  refine x_aload_n (pc := 0) (i := 0) K dX7_sum_0 rfl rfl ?_
  refine x_V0v (pc := 1) K (hsub _ _ h) mw_yX7_times ⟨im_yX7_times, se_yX7_times⟩ mk_X7_158 rc_M rfl ⟨(by omega), Nat.le_of_ble_eq_true rfl, Nat.le_of_ble_eq_true rfl⟩ dX7_sum_1 ?_
  exact l_msum K hsub hK hds 60 none _ (hK _ h).1 (by omega) _ rfl

set_option maxRecDepth 100000 in
set_option maxHeartbeats 4000000 in
theorem c_yX7_compares {k : Nat} {l : Launch} {G : Gm} {α ρ : Af} {m : Nat} {sub : Pm} {ds : Nat} (hsub : ∀ (α ρ : Af), Mo m ρ → CI k l G yX7_sum (Cond.code yX7_sum cX7_sum 2 none) ds [.ref (gA G idM)] α ρ (PV α (sub ρ))) (hK : PrM m sub) (hds : 3 ≤ ds) (h : Mo m ρ) : CI k l G yX7_compares (Cond.code yX7_compares cX7_compares 2 none) (ds + 1) [.ref (gA G idM)] α ρ (PV α (r_cmp sub ρ)) := by
  refine CI.of [some (.ref (gA G idM)), none] (by decide) (Nat.le_of_ble_eq_true rfl) rfl rfl (fun C K => ?_)
  have K : Ok l _ G C RX7 cX7_compares none 2 := K
  refine x_aload_n (pc := 0) (i := 0) K dX7_compares_0 rfl rfl ?_
  refine x_V0v (pc := 1) K (hsub _ _ h) mw_yX7_sum ⟨im_yX7_sum, se_yX7_sum⟩ mk_X7_161 rc_M rfl ⟨(by omega), Nat.le_of_ble_eq_true rfl, Nat.le_of_ble_eq_true rfl⟩ dX7_compares_1 ?_
  refine x_aload_n (pc := 4) (i := 0) K dX7_compares_4 rfl rfl ?_
  refine x_V0i (pc := 5) K (c_yX7_look (hK _ h).1.1) mw_yX7_look ⟨im_yX7_look, se_yX7_look⟩ mk_X7_127 rc_M rfl ⟨(by omega), Nat.le_of_ble_eq_true rfl, Nat.le_of_ble_eq_true rfl⟩ dX7_compares_5 ?_
  refine x_istore_n (pc := 8) (i := 1) K dX7_compares_8 rfl rfl (by decide) ?_
  refine x_aload_n (pc := 9) (i := 0) K dX7_compares_9 rfl rfl ?_
  refine gf_X7_131 (pc := 10)  K dX7_compares_10 ?_
  refine x_if_ne (pc := 13) (tgt := 54) K dX7_compares_13 (by decide) (fun c_13 => ?_) (fun c_13 => ?_)
  · exact x_vretI (pc := 54) K dX7_compares_54 ⟨rfl, by unfold r_cmp; rw [if_neg c_13]⟩
  · refine x_iload_n (pc := 16) (i := 1) K dX7_compares_16 rfl rfl ?_
    refine x_bipush (pc := 17) (v := 60) K dX7_compares_17 (by decide) ?_
    refine x_icmp_eq (pc := 19) (tgt := 34) K dX7_compares_19 (by decide) (fun c_19 => ?_) (fun c_19 => ?_)
    · refine x_aload_n (pc := 34) (i := 0) K dX7_compares_34 rfl rfl ?_
      refine x_dup (pc := 35) K dX7_compares_35 rfl ?_
      refine gf_X7_117 (pc := 36)  K dX7_compares_36 ?_
      refine x_iconst (pc := 39) (v := 1) K dX7_compares_39 (by decide) ?_
      refine x_iadd (pc := 40) K dX7_compares_40 ?_
      refine pf_X7_117 (pc := 41)  K dX7_compares_41 ?_
      have hS : q_isCmp (r_look (sub ρ)) = true := by unfold q_isCmp; rw [if_pos c_19]
      obtain ⟨hA, hA2⟩ := (hK _ h).1.adv (look_ne (hK _ h).1.1 (isS_ne (isS := q_isCmp) rfl hS))
      refine x_st (r := r_adv (sub ρ)) rfl rfl ?_
      refine x_aload_n (pc := 44) (i := 0) K dX7_compares_44 rfl rfl ?_
      refine x_V0v (pc := 45) K (hsub _ _ hA) mw_yX7_sum ⟨im_yX7_sum, se_yX7_sum⟩ mk_X7_161 rc_M rfl ⟨(by omega), Nat.le_of_ble_eq_true rfl, Nat.le_of_ble_eq_true rfl⟩ dX7_compares_45 ?_
      refine x_aload_n (pc := 48) (i := 0) K dX7_compares_48 rfl rfl ?_
      refine x_iload_n (pc := 49) (i := 1) K dX7_compares_49 rfl rfl ?_
      refine x_iconst (pc := 50) (v := 0) K dX7_compares_50 (by decide) ?_
      refine x_V2v (pc := 51) K (c_yX7_step (hK _ hA).1.1) mw_yX7_step ⟨im_yX7_step, se_yX7_step⟩ mk_X7_135 rc_M rfl ⟨(by omega), Nat.le_of_ble_eq_true rfl, Nat.le_of_ble_eq_true rfl⟩ dX7_compares_51 ?_
      exact x_vretI (pc := 54) K dX7_compares_54 ⟨rfl, by unfold r_cmp; rw [if_pos c_13, if_pos hS]⟩
    · refine x_iload_n (pc := 22) (i := 1) K dX7_compares_22 rfl rfl ?_
      refine x_bipush (pc := 23) (v := 61) K dX7_compares_23 (by decide) ?_
      refine x_icmp_eq (pc := 25) (tgt := 34) K dX7_compares_25 (by decide) (fun c_25 => ?_) (fun c_25 => ?_)
      · refine x_aload_n (pc := 34) (i := 0) K dX7_compares_34 rfl rfl ?_
        refine x_dup (pc := 35) K dX7_compares_35 rfl ?_
        refine gf_X7_117 (pc := 36)  K dX7_compares_36 ?_
        refine x_iconst (pc := 39) (v := 1) K dX7_compares_39 (by decide) ?_
        refine x_iadd (pc := 40) K dX7_compares_40 ?_
        refine pf_X7_117 (pc := 41)  K dX7_compares_41 ?_
        have hS : q_isCmp (r_look (sub ρ)) = true := by unfold q_isCmp; rw [if_neg c_19, if_pos c_25]
        obtain ⟨hA, hA2⟩ := (hK _ h).1.adv (look_ne (hK _ h).1.1 (isS_ne (isS := q_isCmp) rfl hS))
        refine x_st (r := r_adv (sub ρ)) rfl rfl ?_
        refine x_aload_n (pc := 44) (i := 0) K dX7_compares_44 rfl rfl ?_
        refine x_V0v (pc := 45) K (hsub _ _ hA) mw_yX7_sum ⟨im_yX7_sum, se_yX7_sum⟩ mk_X7_161 rc_M rfl ⟨(by omega), Nat.le_of_ble_eq_true rfl, Nat.le_of_ble_eq_true rfl⟩ dX7_compares_45 ?_
        refine x_aload_n (pc := 48) (i := 0) K dX7_compares_48 rfl rfl ?_
        refine x_iload_n (pc := 49) (i := 1) K dX7_compares_49 rfl rfl ?_
        refine x_iconst (pc := 50) (v := 0) K dX7_compares_50 (by decide) ?_
        refine x_V2v (pc := 51) K (c_yX7_step (hK _ hA).1.1) mw_yX7_step ⟨im_yX7_step, se_yX7_step⟩ mk_X7_135 rc_M rfl ⟨(by omega), Nat.le_of_ble_eq_true rfl, Nat.le_of_ble_eq_true rfl⟩ dX7_compares_51 ?_
        exact x_vretI (pc := 54) K dX7_compares_54 ⟨rfl, by unfold r_cmp; rw [if_pos c_13, if_pos hS]⟩
      · refine x_iload_n (pc := 28) (i := 1) K dX7_compares_28 rfl rfl ?_
        refine x_bipush (pc := 29) (v := 62) K dX7_compares_29 (by decide) ?_
        refine x_icmp_ne (pc := 31) (tgt := 54) K dX7_compares_31 (by decide) (fun c_31 => ?_) (fun c_31 => ?_)
        · exact x_vretI (pc := 54) K dX7_compares_54 ⟨rfl, by unfold r_cmp; rw [if_pos c_13, if_neg (show ¬ q_isCmp (r_look (sub ρ)) = true from by unfold q_isCmp; rw [if_neg c_19, if_neg c_25, if_neg c_31]; decide)]⟩
        · refine x_aload_n (pc := 34) (i := 0) K dX7_compares_34 rfl rfl ?_
          refine x_dup (pc := 35) K dX7_compares_35 rfl ?_
          refine gf_X7_117 (pc := 36)  K dX7_compares_36 ?_
          refine x_iconst (pc := 39) (v := 1) K dX7_compares_39 (by decide) ?_
          refine x_iadd (pc := 40) K dX7_compares_40 ?_
          refine pf_X7_117 (pc := 41)  K dX7_compares_41 ?_
          have hS : q_isCmp (r_look (sub ρ)) = true := by unfold q_isCmp; rw [if_neg c_19, if_neg c_25, if_pos c_31]
          obtain ⟨hA, hA2⟩ := (hK _ h).1.adv (look_ne (hK _ h).1.1 (isS_ne (isS := q_isCmp) rfl hS))
          refine x_st (r := r_adv (sub ρ)) rfl rfl ?_
          refine x_aload_n (pc := 44) (i := 0) K dX7_compares_44 rfl rfl ?_
          refine x_V0v (pc := 45) K (hsub _ _ hA) mw_yX7_sum ⟨im_yX7_sum, se_yX7_sum⟩ mk_X7_161 rc_M rfl ⟨(by omega), Nat.le_of_ble_eq_true rfl, Nat.le_of_ble_eq_true rfl⟩ dX7_compares_45 ?_
          refine x_aload_n (pc := 48) (i := 0) K dX7_compares_48 rfl rfl ?_
          refine x_iload_n (pc := 49) (i := 1) K dX7_compares_49 rfl rfl ?_
          refine x_iconst (pc := 50) (v := 0) K dX7_compares_50 (by decide) ?_
          refine x_V2v (pc := 51) K (c_yX7_step (hK _ hA).1.1) mw_yX7_step ⟨im_yX7_step, se_yX7_step⟩ mk_X7_135 rc_M rfl ⟨(by omega), Nat.le_of_ble_eq_true rfl, Nat.le_of_ble_eq_true rfl⟩ dX7_compares_51 ?_
          exact x_vretI (pc := 54) K dX7_compares_54 ⟨rfl, by unfold r_cmp; rw [if_pos c_13, if_pos hS]⟩

set_option maxRecDepth 100000 in
set_option maxHeartbeats 4000000 in
theorem l_mall {k : Nat} {l : Launch} {G : Gm} {C : Cx} {m : Nat} {sub : Pm} {ds : Nat} {α : Af} (K : Ok l (ds + 1) G C RX7 cX7_all none 1) (hsub : ∀ (α ρ : Af), Mo m ρ → CI k l G yX7_compares (Cond.code yX7_compares cX7_compares 2 none) ds [.ref (gA G idM)] α ρ (PV α (sub ρ))) (hK : PrM m sub) (hds : 3 ≤ ds) : ∀ (j : Nat) (ρ : Af), Mo m ρ → 60 ≤ hv ρ + j → ∀ T, r_binL sub q_isAll j ρ = T → X k l (ds + 1) G C (PV α T) 1 4 [some (.ref (gA G idM))] [] α ρ := by
  intro j
  induction j with
  | zero =>
    intro ρ h hi T hT
    refine x_aload_n (pc := 4) (i := 0) K dX7_all_4 rfl rfl ?_
    refine gf_X7_131 (pc := 5)  K dX7_all_5 ?_
    refine x_if_ne (pc := 8) (tgt := 44) K dX7_all_8 (by decide) (fun c_8 => ?_) (fun c_8 => ?_)
    · exact x_vretI (pc := 44) K dX7_all_44 ⟨rfl, by rw [← hT]; rfl⟩
    · refine x_aload_n (pc := 11) (i := 0) K dX7_all_11 rfl rfl ?_
      refine x_V0i (pc := 12) K (c_yX7_look h.1) mw_yX7_look ⟨im_yX7_look, se_yX7_look⟩ mk_X7_127 rc_M rfl ⟨(by omega), Nat.le_of_ble_eq_true rfl, Nat.le_of_ble_eq_true rfl⟩ dX7_all_12 ?_
      refine x_bipush (pc := 15) (v := 38) K dX7_all_15 (by decide) ?_
      refine x_icmp_ne (pc := 17) (tgt := 44) K dX7_all_17 (by decide) (fun c_17 => ?_) (fun c_17 => ?_)
      · exact x_vretI (pc := 44) K dX7_all_44 ⟨rfl, by rw [← hT]; rfl⟩
      · exact absurd (c_17.symm.trans (look_ge h.1 hi)) (by decide)
  | succ j ih =>
    intro ρ h hi T hT
    refine x_aload_n (pc := 4) (i := 0) K dX7_all_4 rfl rfl ?_
    refine gf_X7_131 (pc := 5)  K dX7_all_5 ?_
    refine x_if_ne (pc := 8) (tgt := 44) K dX7_all_8 (by decide) (fun c_8 => ?_) (fun c_8 => ?_)
    · exact x_vretI (pc := 44) K dX7_all_44 ⟨rfl, by rw [← hT]; simp only [r_binL]; rw [if_neg c_8]⟩
    · refine x_aload_n (pc := 11) (i := 0) K dX7_all_11 rfl rfl ?_
      refine x_V0i (pc := 12) K (c_yX7_look h.1) mw_yX7_look ⟨im_yX7_look, se_yX7_look⟩ mk_X7_127 rc_M rfl ⟨(by omega), Nat.le_of_ble_eq_true rfl, Nat.le_of_ble_eq_true rfl⟩ dX7_all_12 ?_
      refine x_bipush (pc := 15) (v := 38) K dX7_all_15 (by decide) ?_
      refine x_icmp_ne (pc := 17) (tgt := 44) K dX7_all_17 (by decide) (fun c_17 => ?_) (fun c_17 => ?_)
      · exact x_vretI (pc := 44) K dX7_all_44 ⟨rfl, by rw [← hT]; simp only [r_binL]; rw [if_pos c_8, if_neg (show ¬ q_isAll (r_look ρ) = true from by unfold q_isAll; rw [if_neg c_17]; decide)]⟩
      · refine x_aload_n (pc := 20) (i := 0) K dX7_all_20 rfl rfl ?_
        refine x_dup (pc := 21) K dX7_all_21 rfl ?_
        refine gf_X7_117 (pc := 22)  K dX7_all_22 ?_
        refine x_iconst (pc := 25) (v := 1) K dX7_all_25 (by decide) ?_
        refine x_iadd (pc := 26) K dX7_all_26 ?_
        refine pf_X7_117 (pc := 27)  K dX7_all_27 ?_
        have hS : q_isAll (r_look ρ) = true := by unfold q_isAll; rw [if_pos c_17]
        obtain ⟨hA, hA2⟩ := h.adv (look_ne h.1 (isS_ne rfl hS))
        refine x_st (r := r_adv ρ) rfl rfl ?_
        refine x_aload_n (pc := 30) (i := 0) K dX7_all_30 rfl rfl ?_
        refine x_V0v (pc := 31) K (hsub _ _ hA) mw_yX7_compares ⟨im_yX7_compares, se_yX7_compares⟩ mk_X7_164 rc_M rfl ⟨(by omega), Nat.le_of_ble_eq_true rfl, Nat.le_of_ble_eq_true rfl⟩ dX7_all_31 ?_
        refine x_aload_n (pc := 34) (i := 0) K dX7_all_34 rfl rfl ?_
        refine x_bipush (pc := 35) (v := 38) K dX7_all_35 (by decide) ?_
        refine x_iconst (pc := 37) (v := 0) K dX7_all_37 (by decide) ?_
        refine x_V2v (pc := 38) K (c_yX7_step (hK _ hA).1.1) mw_yX7_step ⟨im_yX7_step, se_yX7_step⟩ mk_X7_135 rc_M rfl ⟨(by omega), Nat.le_of_ble_eq_true rfl, Nat.le_of_ble_eq_true rfl⟩ dX7_all_38 ?_
        refine x_goto (pc := 41) (tgt := 4) K dX7_all_41 (by decide) ?_
        exact ih _ (hK _ hA).1.stp (by have e1 := ((hK _ hA).1.1.stp (x := 38) (v := 0)).2; have e2 := (hK _ hA).2.1; omega) T (by rw [← hT]; simp only [r_binL]; rw [if_pos c_8, if_pos hS, show r_look ρ = 38 from c_17])

set_option maxRecDepth 100000 in
set_option maxHeartbeats 4000000 in
theorem c_yX7_all {k : Nat} {l : Launch} {G : Gm} {α ρ : Af} {m : Nat} {sub : Pm} {ds : Nat} (hsub : ∀ (α ρ : Af), Mo m ρ → CI k l G yX7_compares (Cond.code yX7_compares cX7_compares 2 none) ds [.ref (gA G idM)] α ρ (PV α (sub ρ))) (hK : PrM m sub) (hds : 3 ≤ ds) (h : Mo m ρ) : CI k l G yX7_all (Cond.code yX7_all cX7_all 1 none) (ds + 1) [.ref (gA G idM)] α ρ (PV α (r_bin sub q_isAll ρ)) := by
  refine CI.of [some (.ref (gA G idM))] (by decide) (Nat.le_of_ble_eq_true rfl) rfl rfl (fun C K => ?_)
  have K : Ok l _ G C RX7 cX7_all none 1 := K
  refine x_aload_n (pc := 0) (i := 0) K dX7_all_0 rfl rfl ?_
  refine x_V0v (pc := 1) K (hsub _ _ h) mw_yX7_compares ⟨im_yX7_compares, se_yX7_compares⟩ mk_X7_164 rc_M rfl ⟨(by omega), Nat.le_of_ble_eq_true rfl, Nat.le_of_ble_eq_true rfl⟩ dX7_all_1 ?_
  exact l_mall K hsub hK hds 60 _ (hK _ h).1 (by omega) _ rfl

set_option maxRecDepth 100000 in
set_option maxHeartbeats 4000000 in
theorem l_many {k : Nat} {l : Launch} {G : Gm} {C : Cx} {m : Nat} {sub : Pm} {ds : Nat} {α : Af} (K : Ok l (ds + 1) G C RX7 cX7_any none 1) (hsub : ∀ (α ρ : Af), Mo m ρ → CI k l G yX7_all (Cond.code yX7_all cX7_all 1 none) ds [.ref (gA G idM)] α ρ (PV α (sub ρ))) (hK : PrM m sub) (hds : 3 ≤ ds) : ∀ (j : Nat) (ρ : Af), Mo m ρ → 60 ≤ hv ρ + j → ∀ T, r_binL sub q_isAny j ρ = T → X k l (ds + 1) G C (PV α T) 1 4 [some (.ref (gA G idM))] [] α ρ := by
  intro j
  induction j with
  | zero =>
    intro ρ h hi T hT
    refine x_aload_n (pc := 4) (i := 0) K dX7_any_4 rfl rfl ?_
    refine gf_X7_131 (pc := 5)  K dX7_any_5 ?_
    refine x_if_ne (pc := 8) (tgt := 44) K dX7_any_8 (by decide) (fun c_8 => ?_) (fun c_8 => ?_)
    · exact x_vretI (pc := 44) K dX7_any_44 ⟨rfl, by rw [← hT]; rfl⟩
    · refine x_aload_n (pc := 11) (i := 0) K dX7_any_11 rfl rfl ?_
      refine x_V0i (pc := 12) K (c_yX7_look h.1) mw_yX7_look ⟨im_yX7_look, se_yX7_look⟩ mk_X7_127 rc_M rfl ⟨(by omega), Nat.le_of_ble_eq_true rfl, Nat.le_of_ble_eq_true rfl⟩ dX7_any_12 ?_
      refine x_bipush (pc := 15) (v := 124) K dX7_any_15 (by decide) ?_
      refine x_icmp_ne (pc := 17) (tgt := 44) K dX7_any_17 (by decide) (fun c_17 => ?_) (fun c_17 => ?_)
      · exact x_vretI (pc := 44) K dX7_any_44 ⟨rfl, by rw [← hT]; rfl⟩
      · exact absurd (c_17.symm.trans (look_ge h.1 hi)) (by decide)
  | succ j ih =>
    intro ρ h hi T hT
    refine x_aload_n (pc := 4) (i := 0) K dX7_any_4 rfl rfl ?_
    refine gf_X7_131 (pc := 5)  K dX7_any_5 ?_
    refine x_if_ne (pc := 8) (tgt := 44) K dX7_any_8 (by decide) (fun c_8 => ?_) (fun c_8 => ?_)
    · exact x_vretI (pc := 44) K dX7_any_44 ⟨rfl, by rw [← hT]; simp only [r_binL]; rw [if_neg c_8]⟩
    · refine x_aload_n (pc := 11) (i := 0) K dX7_any_11 rfl rfl ?_
      refine x_V0i (pc := 12) K (c_yX7_look h.1) mw_yX7_look ⟨im_yX7_look, se_yX7_look⟩ mk_X7_127 rc_M rfl ⟨(by omega), Nat.le_of_ble_eq_true rfl, Nat.le_of_ble_eq_true rfl⟩ dX7_any_12 ?_
      refine x_bipush (pc := 15) (v := 124) K dX7_any_15 (by decide) ?_
      refine x_icmp_ne (pc := 17) (tgt := 44) K dX7_any_17 (by decide) (fun c_17 => ?_) (fun c_17 => ?_)
      · exact x_vretI (pc := 44) K dX7_any_44 ⟨rfl, by rw [← hT]; simp only [r_binL]; rw [if_pos c_8, if_neg (show ¬ q_isAny (r_look ρ) = true from by unfold q_isAny; rw [if_neg c_17]; decide)]⟩
      · refine x_aload_n (pc := 20) (i := 0) K dX7_any_20 rfl rfl ?_
        refine x_dup (pc := 21) K dX7_any_21 rfl ?_
        refine gf_X7_117 (pc := 22)  K dX7_any_22 ?_
        refine x_iconst (pc := 25) (v := 1) K dX7_any_25 (by decide) ?_
        refine x_iadd (pc := 26) K dX7_any_26 ?_
        refine pf_X7_117 (pc := 27)  K dX7_any_27 ?_
        have hS : q_isAny (r_look ρ) = true := by unfold q_isAny; rw [if_pos c_17]
        obtain ⟨hA, hA2⟩ := h.adv (look_ne h.1 (isS_ne rfl hS))
        refine x_st (r := r_adv ρ) rfl rfl ?_
        refine x_aload_n (pc := 30) (i := 0) K dX7_any_30 rfl rfl ?_
        refine x_V0v (pc := 31) K (hsub _ _ hA) mw_yX7_all ⟨im_yX7_all, se_yX7_all⟩ mk_X7_167 rc_M rfl ⟨(by omega), Nat.le_of_ble_eq_true rfl, Nat.le_of_ble_eq_true rfl⟩ dX7_any_31 ?_
        refine x_aload_n (pc := 34) (i := 0) K dX7_any_34 rfl rfl ?_
        refine x_bipush (pc := 35) (v := 124) K dX7_any_35 (by decide) ?_
        refine x_iconst (pc := 37) (v := 0) K dX7_any_37 (by decide) ?_
        refine x_V2v (pc := 38) K (c_yX7_step (hK _ hA).1.1) mw_yX7_step ⟨im_yX7_step, se_yX7_step⟩ mk_X7_135 rc_M rfl ⟨(by omega), Nat.le_of_ble_eq_true rfl, Nat.le_of_ble_eq_true rfl⟩ dX7_any_38 ?_
        refine x_goto (pc := 41) (tgt := 4) K dX7_any_41 (by decide) ?_
        exact ih _ (hK _ hA).1.stp (by have e1 := ((hK _ hA).1.1.stp (x := 124) (v := 0)).2; have e2 := (hK _ hA).2.1; omega) T (by rw [← hT]; simp only [r_binL]; rw [if_pos c_8, if_pos hS, show r_look ρ = 124 from c_17])

set_option maxRecDepth 100000 in
set_option maxHeartbeats 4000000 in
theorem c_yX7_any {k : Nat} {l : Launch} {G : Gm} {α ρ : Af} {m : Nat} {sub : Pm} {ds : Nat} (hsub : ∀ (α ρ : Af), Mo m ρ → CI k l G yX7_all (Cond.code yX7_all cX7_all 1 none) ds [.ref (gA G idM)] α ρ (PV α (sub ρ))) (hK : PrM m sub) (hds : 3 ≤ ds) (h : Mo m ρ) : CI k l G yX7_any (Cond.code yX7_any cX7_any 1 none) (ds + 1) [.ref (gA G idM)] α ρ (PV α (r_bin sub q_isAny ρ)) := by
  refine CI.of [some (.ref (gA G idM))] (by decide) (Nat.le_of_ble_eq_true rfl) rfl rfl (fun C K => ?_)
  have K : Ok l _ G C RX7 cX7_any none 1 := K
  refine x_aload_n (pc := 0) (i := 0) K dX7_any_0 rfl rfl ?_
  refine x_V0v (pc := 1) K (hsub _ _ h) mw_yX7_all ⟨im_yX7_all, se_yX7_all⟩ mk_X7_167 rc_M rfl ⟨(by omega), Nat.le_of_ble_eq_true rfl, Nat.le_of_ble_eq_true rfl⟩ dX7_any_1 ?_
  exact l_many K hsub hK hds 60 _ (hK _ h).1 (by omega) _ rfl

theorem c_anyM {k : Nat} {l : Launch} {G : Gm} {m : Nat} {one : Pm} {ds : Nat} (h : ∀ (α ρ : Af), Mo m ρ → CI k l G yX7_one (Cond.code yX7_one cX7_one 3 none) ds [.ref (gA G idM)] α ρ (PV α (one ρ))) (hK : PrM m one) (hds : 3 ≤ ds) {α ρ : Af} (hr : Mo m ρ) : CI k l G yX7_any (Cond.code yX7_any cX7_any 1 none) (ds + 5) [.ref (gA G idM)] α ρ (PV α (r_anyP one ρ)) :=
  c_yX7_any (ds := ds + 4) (fun _ _ h4 => c_yX7_all (ds := ds + 3) (fun _ _ h3 => c_yX7_compares (ds := ds + 2) (fun _ _ h2 => c_yX7_sum (ds := ds + 1) (fun _ _ h1 => c_yX7_times h hK hds h1) (hK.bin rfl) (by omega) h2) ((hK.bin rfl).bin rfl) (by omega) h3) ((hK.bin rfl).bin rfl).cmp (by omega) h4) (((hK.bin rfl).bin rfl).cmp.bin rfl) (by omega) hr
set_option maxRecDepth 100000 in
set_option maxHeartbeats 4000000 in
theorem c0_opens {k : Nat} {l : Launch} {G : Gm} {α ρ : Af} {sign : Int32} (h5 : ρ idM 14 = 5) : CI k l G yX7_opens (Cond.code yX7_opens cX7_opens 2 none) 1 [.ref (gA G idM), .int sign] α ρ (PV α (up ρ idM 15 1)) := by
  refine CI.of [some (.ref (gA G idM)), some (.int sign)] (by decide) (Nat.le_of_ble_eq_true rfl) rfl rfl (fun C K => ?_)
  have K : Ok l _ G C RX7 cX7_opens none 2 := K
  refine x_aload_n (pc := 0) (i := 0) K dX7_opens_0 rfl rfl ?_
  refine gf_X7_139 (pc := 1)  K dX7_opens_1 ?_
  refine x_iconst (pc := 4) (v := 5) K dX7_opens_4 (by decide) ?_
  refine x_icmp_ne (pc := 5) (tgt := 14) K dX7_opens_5 (by decide) (fun c_5 => ?_) (fun c_5 => ?_)
  · exact absurd h5 c_5
  · refine x_aload_n (pc := 8) (i := 0) K dX7_opens_8 rfl rfl ?_
    refine x_iconst (pc := 9) (v := 1) K dX7_opens_9 (by decide) ?_
    refine pf_X7_131 (pc := 10)  K ⟨rfl, rfl⟩ dX7_opens_10 ?_
    exact x_vretI (pc := 13) K dX7_opens_13 ⟨rfl, rfl⟩

set_option maxRecDepth 100000 in
set_option maxHeartbeats 4000000 in
theorem c_yX7_opens {k : Nat} {l : Launch} {G : Gm} {α ρ : Af} {m ds : Nat} {one any : Pm} {sign : Int32} (h1 : ∀ (α ρ : Af), Mo m ρ → CI k l G yX7_one (Cond.code yX7_one cX7_one 3 none) ds [.ref (gA G idM)] α ρ (PV α (one ρ))) (ha : ∀ (α ρ : Af), Mo m ρ → CI k l G yX7_any (Cond.code yX7_any cX7_any 1 none) (ds + 5) [.ref (gA G idM)] α ρ (PV α (any ρ))) (hK1 : PrM m one) (hKa : PrM m any) (hds : 3 ≤ ds) (hm : m + 1 ≤ 5) (h : Mo (m + 1) ρ) (hl : hv ρ < 60) : CI k l G yX7_opens (Cond.code yX7_opens cX7_opens 2 none) (ds + 6) [.ref (gA G idM), .int sign] α ρ (PV α (r_opens one any sign ρ)) := by
  have h5 : ¬ ρ idM 14 = 5 := by rw [h.2]; exact fun q => by have := (nI_eq (a := 5 - (m + 1)) (b := 5) (by omega) (by decide)).mp q; omega
  have hA := (Mo.opA hm h hl).1
  refine CI.of [some (.ref (gA G idM)), some (.int sign)] (by decide) (Nat.le_of_ble_eq_true rfl) rfl rfl (fun C K => ?_)
  have K : Ok l _ G C RX7 cX7_opens none 2 := K
  refine x_aload_n (pc := 0) (i := 0) K dX7_opens_0 rfl rfl ?_
  refine gf_X7_139 (pc := 1)  K dX7_opens_1 ?_
  refine x_iconst (pc := 4) (v := 5) K dX7_opens_4 (by decide) ?_
  refine x_icmp_ne (pc := 5) (tgt := 14) K dX7_opens_5 (by decide) (fun c_5 => ?_) (fun c_5 => ?_)
  · refine x_aload_n (pc := 14) (i := 0) K dX7_opens_14 rfl rfl ?_
    refine x_dup (pc := 15) K dX7_opens_15 rfl ?_
    refine gf_X7_139 (pc := 16)  K dX7_opens_16 ?_
    refine x_iconst (pc := 19) (v := 1) K dX7_opens_19 (by decide) ?_
    refine x_iadd (pc := 20) K dX7_opens_20 ?_
    refine pf_X7_139 (pc := 21)  K dX7_opens_21 ?_
    refine x_aload_n (pc := 24) (i := 0) K dX7_opens_24 rfl rfl ?_
    refine x_dup (pc := 25) K dX7_opens_25 rfl ?_
    refine gf_X7_117 (pc := 26)  K dX7_opens_26 ?_
    refine x_iconst (pc := 29) (v := 1) K dX7_opens_29 (by decide) ?_
    refine x_iadd (pc := 30) K dX7_opens_30 ?_
    refine pf_X7_117 (pc := 31)  K dX7_opens_31 ?_
    refine x_st (r := r_opA ρ) rfl rfl ?_
    refine x_iload_n (pc := 34) (i := 1) K dX7_opens_34 rfl rfl ?_
    refine x_bipush (pc := 35) (v := 33) K dX7_opens_35 (by decide) ?_
    refine x_icmp_ne (pc := 37) (tgt := 53) K dX7_opens_37 (by decide) (fun c_37 => ?_) (fun c_37 => ?_)
    · refine x_aload_n (pc := 53) (i := 0) K dX7_opens_53 rfl rfl ?_
      refine x_V0v (pc := 54) K (ha _ _ hA) mw_yX7_any ⟨im_yX7_any, se_yX7_any⟩ mk_X7_145 rc_M rfl ⟨(by omega), Nat.le_of_ble_eq_true rfl, Nat.le_of_ble_eq_true rfl⟩ dX7_opens_54 ?_
      refine x_aload_n (pc := 57) (i := 0) K dX7_opens_57 rfl rfl ?_
      refine x_aload_n (pc := 58) (i := 0) K dX7_opens_58 rfl rfl ?_
      refine gf_X7_131 (pc := 59)  K dX7_opens_59 ?_
      refine x_if_ne (pc := 62) (tgt := 74) K dX7_opens_62 (by decide) (fun c_62 => ?_) (fun c_62 => ?_)
      · refine x_iconst (pc := 74) (v := 1) K dX7_opens_74 (by decide) ?_
        refine x_goto (pc := 75) (tgt := 79) K dX7_opens_75 (by decide) ?_
        refine pf_X7_131 (pc := 79)  K ⟨rfl, rfl⟩ dX7_opens_79 ?_
        refine x_st (r := r_clB (any (r_opA ρ))) rfl (by unfold r_clB; rw [if_neg c_62]) ?_
        refine x_aload_n (pc := 82) (i := 0) K dX7_opens_82 rfl rfl ?_
        refine x_dup (pc := 83) K dX7_opens_83 rfl ?_
        refine gf_X7_117 (pc := 84)  K dX7_opens_84 ?_
        refine x_aload_n (pc := 87) (i := 0) K dX7_opens_87 rfl rfl ?_
        refine gf_X7_131 (pc := 88)  K dX7_opens_88 ?_
        refine x_if_eq (pc := 91) (tgt := 98) K dX7_opens_91 (by decide) (fun c_91 => ?_) (fun c_91 => ?_)
        · refine x_iconst (pc := 98) (v := 1) K dX7_opens_98 (by decide) ?_
          refine x_iadd (pc := 99) K dX7_opens_99 ?_
          refine pf_X7_117 (pc := 100)  K dX7_opens_100 ?_
          refine x_st (r := r_clC (r_clB (any (r_opA ρ)))) rfl (by unfold r_clC; rw [if_pos c_91]) ?_
          refine x_aload_n (pc := 103) (i := 0) K dX7_opens_103 rfl rfl ?_
          refine x_dup (pc := 104) K dX7_opens_104 rfl ?_
          refine gf_X7_139 (pc := 105)  K dX7_opens_105 ?_
          refine x_iconst (pc := 108) (v := 1) K dX7_opens_108 (by decide) ?_
          refine x_isub (pc := 109) K dX7_opens_109 ?_
          refine pf_X7_139 (pc := 110)  K dX7_opens_110 ?_
          exact x_vretI (pc := 113) K dX7_opens_113 ⟨rfl, by unfold r_opens; rw [if_neg h5, if_neg c_37]; rfl⟩
        · refine x_iconst (pc := 94) (v := 0) K dX7_opens_94 (by decide) ?_
          refine x_goto (pc := 95) (tgt := 99) K dX7_opens_95 (by decide) ?_
          refine x_iadd (pc := 99) K dX7_opens_99 ?_
          refine pf_X7_117 (pc := 100)  K dX7_opens_100 ?_
          refine x_st (r := r_clC (r_clB (any (r_opA ρ)))) rfl (by unfold r_clC; rw [if_neg c_91]) ?_
          refine x_aload_n (pc := 103) (i := 0) K dX7_opens_103 rfl rfl ?_
          refine x_dup (pc := 104) K dX7_opens_104 rfl ?_
          refine gf_X7_139 (pc := 105)  K dX7_opens_105 ?_
          refine x_iconst (pc := 108) (v := 1) K dX7_opens_108 (by decide) ?_
          refine x_isub (pc := 109) K dX7_opens_109 ?_
          refine pf_X7_139 (pc := 110)  K dX7_opens_110 ?_
          exact x_vretI (pc := 113) K dX7_opens_113 ⟨rfl, by unfold r_opens; rw [if_neg h5, if_neg c_37]; rfl⟩
      · refine x_aload_n (pc := 65) (i := 0) K dX7_opens_65 rfl rfl ?_
        refine x_V0i (pc := 66) K (c_yX7_look (hKa _ hA).1.1) mw_yX7_look ⟨im_yX7_look, se_yX7_look⟩ mk_X7_127 rc_M rfl ⟨(by omega), Nat.le_of_ble_eq_true rfl, Nat.le_of_ble_eq_true rfl⟩ dX7_opens_66 ?_
        refine x_bipush (pc := 69) (v := 41) K dX7_opens_69 (by decide) ?_
        refine x_icmp_eq (pc := 71) (tgt := 78) K dX7_opens_71 (by decide) (fun c_71 => ?_) (fun c_71 => ?_)
        · refine x_iconst (pc := 78) (v := 0) K dX7_opens_78 (by decide) ?_
          refine pf_X7_131 (pc := 79)  K ⟨rfl, rfl⟩ dX7_opens_79 ?_
          refine x_st (r := r_clB (any (r_opA ρ))) rfl (by unfold r_clB; rw [if_pos c_62, if_pos c_71]) ?_
          refine x_aload_n (pc := 82) (i := 0) K dX7_opens_82 rfl rfl ?_
          refine x_dup (pc := 83) K dX7_opens_83 rfl ?_
          refine gf_X7_117 (pc := 84)  K dX7_opens_84 ?_
          refine x_aload_n (pc := 87) (i := 0) K dX7_opens_87 rfl rfl ?_
          refine gf_X7_131 (pc := 88)  K dX7_opens_88 ?_
          refine x_if_eq (pc := 91) (tgt := 98) K dX7_opens_91 (by decide) (fun c_91 => ?_) (fun c_91 => ?_)
          · refine x_iconst (pc := 98) (v := 1) K dX7_opens_98 (by decide) ?_
            refine x_iadd (pc := 99) K dX7_opens_99 ?_
            refine pf_X7_117 (pc := 100)  K dX7_opens_100 ?_
            refine x_st (r := r_clC (r_clB (any (r_opA ρ)))) rfl (by unfold r_clC; rw [if_pos c_91]) ?_
            refine x_aload_n (pc := 103) (i := 0) K dX7_opens_103 rfl rfl ?_
            refine x_dup (pc := 104) K dX7_opens_104 rfl ?_
            refine gf_X7_139 (pc := 105)  K dX7_opens_105 ?_
            refine x_iconst (pc := 108) (v := 1) K dX7_opens_108 (by decide) ?_
            refine x_isub (pc := 109) K dX7_opens_109 ?_
            refine pf_X7_139 (pc := 110)  K dX7_opens_110 ?_
            exact x_vretI (pc := 113) K dX7_opens_113 ⟨rfl, by unfold r_opens; rw [if_neg h5, if_neg c_37]; rfl⟩
          · refine x_iconst (pc := 94) (v := 0) K dX7_opens_94 (by decide) ?_
            refine x_goto (pc := 95) (tgt := 99) K dX7_opens_95 (by decide) ?_
            refine x_iadd (pc := 99) K dX7_opens_99 ?_
            refine pf_X7_117 (pc := 100)  K dX7_opens_100 ?_
            refine x_st (r := r_clC (r_clB (any (r_opA ρ)))) rfl (by unfold r_clC; rw [if_neg c_91]) ?_
            refine x_aload_n (pc := 103) (i := 0) K dX7_opens_103 rfl rfl ?_
            refine x_dup (pc := 104) K dX7_opens_104 rfl ?_
            refine gf_X7_139 (pc := 105)  K dX7_opens_105 ?_
            refine x_iconst (pc := 108) (v := 1) K dX7_opens_108 (by decide) ?_
            refine x_isub (pc := 109) K dX7_opens_109 ?_
            refine pf_X7_139 (pc := 110)  K dX7_opens_110 ?_
            exact x_vretI (pc := 113) K dX7_opens_113 ⟨rfl, by unfold r_opens; rw [if_neg h5, if_neg c_37]; rfl⟩
        · refine x_iconst (pc := 74) (v := 1) K dX7_opens_74 (by decide) ?_
          refine x_goto (pc := 75) (tgt := 79) K dX7_opens_75 (by decide) ?_
          refine pf_X7_131 (pc := 79)  K ⟨rfl, rfl⟩ dX7_opens_79 ?_
          refine x_st (r := r_clB (any (r_opA ρ))) rfl (by unfold r_clB; rw [if_pos c_62, if_neg c_71]) ?_
          refine x_aload_n (pc := 82) (i := 0) K dX7_opens_82 rfl rfl ?_
          refine x_dup (pc := 83) K dX7_opens_83 rfl ?_
          refine gf_X7_117 (pc := 84)  K dX7_opens_84 ?_
          refine x_aload_n (pc := 87) (i := 0) K dX7_opens_87 rfl rfl ?_
          refine gf_X7_131 (pc := 88)  K dX7_opens_88 ?_
          refine x_if_eq (pc := 91) (tgt := 98) K dX7_opens_91 (by decide) (fun c_91 => ?_) (fun c_91 => ?_)
          · refine x_iconst (pc := 98) (v := 1) K dX7_opens_98 (by decide) ?_
            refine x_iadd (pc := 99) K dX7_opens_99 ?_
            refine pf_X7_117 (pc := 100)  K dX7_opens_100 ?_
            refine x_st (r := r_clC (r_clB (any (r_opA ρ)))) rfl (by unfold r_clC; rw [if_pos c_91]) ?_
            refine x_aload_n (pc := 103) (i := 0) K dX7_opens_103 rfl rfl ?_
            refine x_dup (pc := 104) K dX7_opens_104 rfl ?_
            refine gf_X7_139 (pc := 105)  K dX7_opens_105 ?_
            refine x_iconst (pc := 108) (v := 1) K dX7_opens_108 (by decide) ?_
            refine x_isub (pc := 109) K dX7_opens_109 ?_
            refine pf_X7_139 (pc := 110)  K dX7_opens_110 ?_
            exact x_vretI (pc := 113) K dX7_opens_113 ⟨rfl, by unfold r_opens; rw [if_neg h5, if_neg c_37]; rfl⟩
          · refine x_iconst (pc := 94) (v := 0) K dX7_opens_94 (by decide) ?_
            refine x_goto (pc := 95) (tgt := 99) K dX7_opens_95 (by decide) ?_
            refine x_iadd (pc := 99) K dX7_opens_99 ?_
            refine pf_X7_117 (pc := 100)  K dX7_opens_100 ?_
            refine x_st (r := r_clC (r_clB (any (r_opA ρ)))) rfl (by unfold r_clC; rw [if_neg c_91]) ?_
            refine x_aload_n (pc := 103) (i := 0) K dX7_opens_103 rfl rfl ?_
            refine x_dup (pc := 104) K dX7_opens_104 rfl ?_
            refine gf_X7_139 (pc := 105)  K dX7_opens_105 ?_
            refine x_iconst (pc := 108) (v := 1) K dX7_opens_108 (by decide) ?_
            refine x_isub (pc := 109) K dX7_opens_109 ?_
            refine pf_X7_139 (pc := 110)  K dX7_opens_110 ?_
            exact x_vretI (pc := 113) K dX7_opens_113 ⟨rfl, by unfold r_opens; rw [if_neg h5, if_neg c_37]; rfl⟩
    · refine x_aload_n (pc := 40) (i := 0) K dX7_opens_40 rfl rfl ?_
      refine x_V0v (pc := 41) K (h1 _ _ hA) mw_yX7_one ⟨im_yX7_one, se_yX7_one⟩ mk_X7_142 rc_M rfl ⟨(by omega), Nat.le_of_ble_eq_true rfl, Nat.le_of_ble_eq_true rfl⟩ dX7_opens_41 ?_
      refine x_aload_n (pc := 44) (i := 0) K dX7_opens_44 rfl rfl ?_
      refine x_iconst (pc := 45) (v := 3) K dX7_opens_45 (by decide) ?_
      refine x_iconst (pc := 46) (v := 0) K dX7_opens_46 (by decide) ?_
      refine x_V2v (pc := 47) K (c_yX7_step (hK1 _ hA).1.1) mw_yX7_step ⟨im_yX7_step, se_yX7_step⟩ mk_X7_135 rc_M rfl ⟨(by omega), Nat.le_of_ble_eq_true rfl, Nat.le_of_ble_eq_true rfl⟩ dX7_opens_47 ?_
      refine x_goto (pc := 50) (tgt := 103) K dX7_opens_50 (by decide) ?_
      refine x_aload_n (pc := 103) (i := 0) K dX7_opens_103 rfl rfl ?_
      refine x_dup (pc := 104) K dX7_opens_104 rfl ?_
      refine gf_X7_139 (pc := 105)  K dX7_opens_105 ?_
      refine x_iconst (pc := 108) (v := 1) K dX7_opens_108 (by decide) ?_
      refine x_isub (pc := 109) K dX7_opens_109 ?_
      refine pf_X7_139 (pc := 110)  K dX7_opens_110 ?_
      exact x_vretI (pc := 113) K dX7_opens_113 ⟨rfl, by unfold r_opens; rw [if_neg h5, if_pos c_37]; rfl⟩
  · exact absurd c_5 h5

set_option maxRecDepth 100000 in
set_option maxHeartbeats 4000000 in
theorem c_oneM {k : Nat} {l : Launch} {G : Gm} : ∀ (m : Nat) {α ρ : Af}, m ≤ 5 → Mo m ρ → CI k l G yX7_one (Cond.code yX7_one cX7_one 3 none) (8 + 7 * m) [.ref (gA G idM)] α ρ (PV α (r_one m ρ)) := by
  intro m
  induction m with
  | zero =>
    intro α ρ hm hr
    refine CI.of [some (.ref (gA G idM)), none, none] (by decide) (Nat.le_of_ble_eq_true rfl) rfl rfl (fun C K => ?_)
    have K : Ok l _ G C RX7 cX7_one none 3 := K
    refine x_aload_n (pc := 0) (i := 0) K dX7_one_0 rfl rfl ?_
    refine x_V0i (pc := 1) K (c_yX7_look hr.1) mw_yX7_look ⟨im_yX7_look, se_yX7_look⟩ mk_X7_127 rc_M rfl ⟨(by omega), Nat.le_of_ble_eq_true rfl, Nat.le_of_ble_eq_true rfl⟩ dX7_one_1 ?_
    refine x_istore_n (pc := 4) (i := 1) K dX7_one_4 rfl rfl (by decide) ?_
    refine x_aload_n (pc := 5) (i := 0) K dX7_one_5 rfl rfl ?_
    refine x_iload_n (pc := 6) (i := 1) K dX7_one_6 rfl rfl ?_
    refine x_V1i (pc := 7) K (c_yX7_nameOf) mw_yX7_nameOf ⟨im_yX7_nameOf, se_yX7_nameOf⟩ mk_X7_148 rc_M rfl ⟨(by omega), Nat.le_of_ble_eq_true rfl, Nat.le_of_ble_eq_true rfl⟩ dX7_one_7 ?_
    refine x_istore_n (pc := 10) (i := 2) K dX7_one_10 rfl rfl (by decide) ?_
    refine x_iload_n (pc := 11) (i := 2) K dX7_one_11 rfl rfl ?_
    refine x_if_lt (pc := 12) (tgt := 34) K dX7_one_12 (by decide) (fun c_12 => ?_) (fun c_12 => ?_)
    · refine x_iload_n (pc := 34) (i := 1) K dX7_one_34 rfl rfl ?_
      refine x_bipush (pc := 35) (v := 33) K dX7_one_35 (by decide) ?_
      refine x_icmp_eq (pc := 37) (tgt := 46) K dX7_one_37 (by decide) (fun c_37 => ?_) (fun c_37 => ?_)
      · have hO : q_isOpen (r_look ρ) = true := by unfold q_isOpen; rw [if_pos c_37]
        refine x_aload_n (pc := 46) (i := 0) K dX7_one_46 rfl rfl ?_
        refine x_iload_n (pc := 47) (i := 1) K dX7_one_47 rfl rfl ?_
        refine x_V1v (pc := 48) K (c0_opens (hr.2.trans rfl)) mw_yX7_opens ⟨im_yX7_opens, se_yX7_opens⟩ mk_X7_151 rc_M rfl ⟨(by omega), Nat.le_of_ble_eq_true rfl, Nat.le_of_ble_eq_true rfl⟩ dX7_one_48 ?_
        refine x_goto (pc := 51) (tgt := 58) K dX7_one_51 (by decide) ?_
        exact x_vretI (pc := 58) K dX7_one_58 ⟨rfl, by simp only [r_one]; rw [if_pos c_12, if_pos hO]⟩
      · refine x_iload_n (pc := 40) (i := 1) K dX7_one_40 rfl rfl ?_
        refine x_bipush (pc := 41) (v := 40) K dX7_one_41 (by decide) ?_
        refine x_icmp_ne (pc := 43) (tgt := 54) K dX7_one_43 (by decide) (fun c_43 => ?_) (fun c_43 => ?_)
        · refine x_aload_n (pc := 54) (i := 0) K dX7_one_54 rfl rfl ?_
          refine x_V0v (pc := 55) K (c_yX7_number hr.1) mw_yX7_number ⟨im_yX7_number, se_yX7_number⟩ mk_X7_155 rc_M rfl ⟨(by omega), Nat.le_of_ble_eq_true rfl, Nat.le_of_ble_eq_true rfl⟩ dX7_one_55 ?_
          exact x_vretI (pc := 58) K dX7_one_58 ⟨rfl, by simp only [r_one]; rw [if_pos c_12, if_neg (show ¬ q_isOpen (r_look ρ) = true from by unfold q_isOpen; rw [if_neg c_37, if_neg c_43]; decide)]⟩
        · have hO : q_isOpen (r_look ρ) = true := by unfold q_isOpen; rw [if_neg c_37, if_pos c_43]
          refine x_aload_n (pc := 46) (i := 0) K dX7_one_46 rfl rfl ?_
          refine x_iload_n (pc := 47) (i := 1) K dX7_one_47 rfl rfl ?_
          refine x_V1v (pc := 48) K (c0_opens (hr.2.trans rfl)) mw_yX7_opens ⟨im_yX7_opens, se_yX7_opens⟩ mk_X7_151 rc_M rfl ⟨(by omega), Nat.le_of_ble_eq_true rfl, Nat.le_of_ble_eq_true rfl⟩ dX7_one_48 ?_
          refine x_goto (pc := 51) (tgt := 58) K dX7_one_51 (by decide) ?_
          exact x_vretI (pc := 58) K dX7_one_58 ⟨rfl, by simp only [r_one]; rw [if_pos c_12, if_pos hO]⟩
    · refine x_aload_n (pc := 15) (i := 0) K dX7_one_15 rfl rfl ?_
      refine x_dup (pc := 16) K dX7_one_16 rfl ?_
      refine gf_X7_117 (pc := 17)  K dX7_one_17 ?_
      refine x_iconst (pc := 20) (v := 1) K dX7_one_20 (by decide) ?_
      refine x_iadd (pc := 21) K dX7_one_21 ?_
      refine pf_X7_117 (pc := 22)  K dX7_one_22 ?_
      refine x_st (r := r_adv ρ) rfl rfl ?_
      refine x_aload_n (pc := 25) (i := 0) K dX7_one_25 rfl rfl ?_
      refine x_iconst (pc := 26) (v := 2) K dX7_one_26 (by decide) ?_
      refine x_iload_n (pc := 27) (i := 2) K dX7_one_27 rfl rfl ?_
      refine x_V2v (pc := 28) K (c_yX7_step (hr.1.adv (look_ne hr.1 (name_lt c_12))).1) mw_yX7_step ⟨im_yX7_step, se_yX7_step⟩ mk_X7_135 rc_M rfl ⟨(by omega), Nat.le_of_ble_eq_true rfl, Nat.le_of_ble_eq_true rfl⟩ dX7_one_28 ?_
      refine x_goto (pc := 31) (tgt := 58) K dX7_one_31 (by decide) ?_
      exact x_vretI (pc := 58) K dX7_one_58 ⟨rfl, by simp only [r_one]; rw [if_neg c_12]; rfl⟩
  | succ m ih =>
    intro α ρ hm hr
    refine CI.of [some (.ref (gA G idM)), none, none] (by decide) (Nat.le_of_ble_eq_true rfl) rfl rfl (fun C K => ?_)
    have K : Ok l _ G C RX7 cX7_one none 3 := K
    refine x_aload_n (pc := 0) (i := 0) K dX7_one_0 rfl rfl ?_
    refine x_V0i (pc := 1) K (c_yX7_look hr.1) mw_yX7_look ⟨im_yX7_look, se_yX7_look⟩ mk_X7_127 rc_M rfl ⟨(by omega), Nat.le_of_ble_eq_true rfl, Nat.le_of_ble_eq_true rfl⟩ dX7_one_1 ?_
    refine x_istore_n (pc := 4) (i := 1) K dX7_one_4 rfl rfl (by decide) ?_
    refine x_aload_n (pc := 5) (i := 0) K dX7_one_5 rfl rfl ?_
    refine x_iload_n (pc := 6) (i := 1) K dX7_one_6 rfl rfl ?_
    refine x_V1i (pc := 7) K (c_yX7_nameOf) mw_yX7_nameOf ⟨im_yX7_nameOf, se_yX7_nameOf⟩ mk_X7_148 rc_M rfl ⟨(by omega), Nat.le_of_ble_eq_true rfl, Nat.le_of_ble_eq_true rfl⟩ dX7_one_7 ?_
    refine x_istore_n (pc := 10) (i := 2) K dX7_one_10 rfl rfl (by decide) ?_
    refine x_iload_n (pc := 11) (i := 2) K dX7_one_11 rfl rfl ?_
    refine x_if_lt (pc := 12) (tgt := 34) K dX7_one_12 (by decide) (fun c_12 => ?_) (fun c_12 => ?_)
    · refine x_iload_n (pc := 34) (i := 1) K dX7_one_34 rfl rfl ?_
      refine x_bipush (pc := 35) (v := 33) K dX7_one_35 (by decide) ?_
      refine x_icmp_eq (pc := 37) (tgt := 46) K dX7_one_37 (by decide) (fun c_37 => ?_) (fun c_37 => ?_)
      · have hO : q_isOpen (r_look ρ) = true := by unfold q_isOpen; rw [if_pos c_37]
        refine x_aload_n (pc := 46) (i := 0) K dX7_one_46 rfl rfl ?_
        refine x_iload_n (pc := 47) (i := 1) K dX7_one_47 rfl rfl ?_
        refine x_V1v (pc := 48) K (c_yX7_opens (m := m) (ds := 8 + 7 * m) (fun _ _ h => ih (by omega) h) (fun _ _ h => c_anyM (fun _ _ h => ih (by omega) h) (PrM.one m (by omega)) (by omega) h) (PrM.one m (by omega)) (PrM.one m (by omega)).anyP (by omega) hm hr (look_ne hr.1 (open_ne hO))) mw_yX7_opens ⟨im_yX7_opens, se_yX7_opens⟩ mk_X7_151 rc_M rfl ⟨(by omega), Nat.le_of_ble_eq_true rfl, Nat.le_of_ble_eq_true rfl⟩ dX7_one_48 ?_
        refine x_goto (pc := 51) (tgt := 58) K dX7_one_51 (by decide) ?_
        exact x_vretI (pc := 58) K dX7_one_58 ⟨rfl, by simp only [r_one]; rw [if_pos c_12, if_pos hO]⟩
      · refine x_iload_n (pc := 40) (i := 1) K dX7_one_40 rfl rfl ?_
        refine x_bipush (pc := 41) (v := 40) K dX7_one_41 (by decide) ?_
        refine x_icmp_ne (pc := 43) (tgt := 54) K dX7_one_43 (by decide) (fun c_43 => ?_) (fun c_43 => ?_)
        · refine x_aload_n (pc := 54) (i := 0) K dX7_one_54 rfl rfl ?_
          refine x_V0v (pc := 55) K (c_yX7_number hr.1) mw_yX7_number ⟨im_yX7_number, se_yX7_number⟩ mk_X7_155 rc_M rfl ⟨(by omega), Nat.le_of_ble_eq_true rfl, Nat.le_of_ble_eq_true rfl⟩ dX7_one_55 ?_
          exact x_vretI (pc := 58) K dX7_one_58 ⟨rfl, by simp only [r_one]; rw [if_pos c_12, if_neg (show ¬ q_isOpen (r_look ρ) = true from by unfold q_isOpen; rw [if_neg c_37, if_neg c_43]; decide)]⟩
        · have hO : q_isOpen (r_look ρ) = true := by unfold q_isOpen; rw [if_neg c_37, if_pos c_43]
          refine x_aload_n (pc := 46) (i := 0) K dX7_one_46 rfl rfl ?_
          refine x_iload_n (pc := 47) (i := 1) K dX7_one_47 rfl rfl ?_
          refine x_V1v (pc := 48) K (c_yX7_opens (m := m) (ds := 8 + 7 * m) (fun _ _ h => ih (by omega) h) (fun _ _ h => c_anyM (fun _ _ h => ih (by omega) h) (PrM.one m (by omega)) (by omega) h) (PrM.one m (by omega)) (PrM.one m (by omega)).anyP (by omega) hm hr (look_ne hr.1 (open_ne hO))) mw_yX7_opens ⟨im_yX7_opens, se_yX7_opens⟩ mk_X7_151 rc_M rfl ⟨(by omega), Nat.le_of_ble_eq_true rfl, Nat.le_of_ble_eq_true rfl⟩ dX7_one_48 ?_
          refine x_goto (pc := 51) (tgt := 58) K dX7_one_51 (by decide) ?_
          exact x_vretI (pc := 58) K dX7_one_58 ⟨rfl, by simp only [r_one]; rw [if_pos c_12, if_pos hO]⟩
    · refine x_aload_n (pc := 15) (i := 0) K dX7_one_15 rfl rfl ?_
      refine x_dup (pc := 16) K dX7_one_16 rfl ?_
      refine gf_X7_117 (pc := 17)  K dX7_one_17 ?_
      refine x_iconst (pc := 20) (v := 1) K dX7_one_20 (by decide) ?_
      refine x_iadd (pc := 21) K dX7_one_21 ?_
      refine pf_X7_117 (pc := 22)  K dX7_one_22 ?_
      refine x_st (r := r_adv ρ) rfl rfl ?_
      refine x_aload_n (pc := 25) (i := 0) K dX7_one_25 rfl rfl ?_
      refine x_iconst (pc := 26) (v := 2) K dX7_one_26 (by decide) ?_
      refine x_iload_n (pc := 27) (i := 2) K dX7_one_27 rfl rfl ?_
      refine x_V2v (pc := 28) K (c_yX7_step (hr.1.adv (look_ne hr.1 (name_lt c_12))).1) mw_yX7_step ⟨im_yX7_step, se_yX7_step⟩ mk_X7_135 rc_M rfl ⟨(by omega), Nat.le_of_ble_eq_true rfl, Nat.le_of_ble_eq_true rfl⟩ dX7_one_28 ?_
      refine x_goto (pc := 31) (tgt := 58) K dX7_one_31 (by decide) ?_
      exact x_vretI (pc := 58) K dX7_one_58 ⟨rfl, by simp only [r_one]; rw [if_neg c_12]; rfl⟩

def r_t0 (ρ : Af) (u : Int32) : Af := up (up (up (up (up ρ idM 16 u) idM 12 0) idM 13 0) idM 14 0) idM 15 0
def r_t1 (ρ : Af) (u : Int32) : Af := r_anyP (r_one 5) (r_t0 ρ u)
def r_t2 (B : Af) : Af := up B idM 15 (if B idM 15 = 0 then (if B mRow 7 ≤ B idM 13 then 0 else 1) else 1)
def r_t3 (ρ : Af) (u : Int32) : Af := up (r_t2 (r_t1 ρ u)) mRow 7 0
def r_lay (E : Af) (u : Nat) : Nat → Af
  | 0 => up E mRow (aU u) (E idM 12)
  | i + 1 => up (up (r_lay E u i) mRow (aU u + 1 + i) (r_lay E u i mAct i)) mRow (aU u + 61 + i) (up (r_lay E u i) mRow (aU u + 1 + i) (r_lay E u i mAct i) mWith i)
def r_textV (ρ : Af) (x : Int32) : Int32 := if q_within x 0 1 = true then (if r_t3 ρ x idM 15 = 0 then 1 else -10 - r_t3 ρ x idM 13) else -1000000000 - nI 1
def r_textS (ρ : Af) (x : Int32) : Af := if q_within x 0 1 = true then (if r_t3 ρ x idM 15 = 0 then r_lay (r_t3 ρ x) x.toNatClampNeg (r_t3 ρ x idM 12).toNatClampNeg else r_t3 ρ x) else r_err ρ 1
theorem r_lay_ne {E : Af} {u : Nat} {i : Nat} (h : i ≠ mRow) : ∀ n, r_lay E u n i = E i
  | 0 => up_ne h
  | n + 1 => by simp only [r_lay]; rw [up_ne h, up_ne h, r_lay_ne h n]
theorem r_t0_Mo {ρ : Af} {u : Int32} (h : ∃ t, t ≤ 60 ∧ ρ mRow 7 = nI t) : Mo 5 (r_t0 ρ u) :=
  ⟨⟨h, ⟨0, by decide, rfl⟩, ⟨0, by decide, rfl⟩⟩, rfl⟩
theorem r_t1_M {ρ : Af} {u : Int32} (h : ∃ t, t ≤ 60 ∧ ρ mRow 7 = nI t) : Mk (r_t1 ρ u) := ((PrM.one 5 (by decide)).anyP _ (r_t0_Mo h)).1.1
theorem r_t3_12 {ρ : Af} {u : Int32} (h : ∃ t, t ≤ 60 ∧ ρ mRow 7 = nI t) : ∃ n, n ≤ 60 ∧ r_t3 ρ u idM 12 = nI n := by
  obtain ⟨-, -, n, h1, h2⟩ := r_t1_M (u := u) h
  refine ⟨n, h1, ?_⟩
  unfold r_t3 r_t2
  rw [up_ne (by decide), up_ne2 (by decide)]
  exact h2
set_option maxRecDepth 100000 in
set_option maxHeartbeats 4000000 in
theorem l_text {k : Nat} {l : Launch} {G : Gm} {C : Cx} {P : Po} {n u : Nat} {E α : Af} (K : Ok l 100 G C RX7 cX7_text (some .int) 4) (hu : u < 2) (h60 : n ≤ 60) (hn : E idM 12 = nI n) : ∀ (j i : Nat), i + j = n → X k l 100 G C (P) 4 166 [some (.ref (gA G idM)), some (.int (nI u)), some (.int (nI (aU u))), some (.int (nI n))] [] α (r_lay E u n) → X k l 100 G C (P) 4 119 [some (.ref (gA G idM)), some (.int (nI u)), some (.int (nI (aU u))), some (.int (nI i))] [] α (r_lay E u i) := by
  intro j
  induction j with
  | zero =>
    intro i hi hx
    have hm : r_lay E u i idM 12 = nI n := by rw [r_lay_ne (by decide)]; exact hn
    refine x_iload_n (pc := 119) (i := 3) K dX7_text_119 rfl rfl ?_
    refine x_aload_n (pc := 120) (i := 0) K dX7_text_120 rfl rfl ?_
    refine gf_X7_121 (pc := 121)  K dX7_text_121 ?_
    refine x_icmp_ge (pc := 124) (tgt := 166) K dX7_text_124 (by decide) (fun c_124 => ?_) (fun c_124 => ?_)
    · obtain rfl : i = n := by omega
      exact hx
    · exact absurd (by rw [hm]; exact nI_le (by omega) (by omega)) c_124
  | succ j ih =>
    intro i hi hx
    have hm : r_lay E u i idM 12 = nI n := by rw [r_lay_ne (by decide)]; exact hn
    refine x_iload_n (pc := 119) (i := 3) K dX7_text_119 rfl rfl ?_
    refine x_aload_n (pc := 120) (i := 0) K dX7_text_120 rfl rfl ?_
    refine gf_X7_121 (pc := 121)  K dX7_text_121 ?_
    refine x_icmp_ge (pc := 124) (tgt := 166) K dX7_text_124 (by decide) (fun c_124 => ?_) (fun c_124 => ?_)
    · exact (nI_ge (a := i) (b := n) (by omega) (by omega) (by rw [hm] at c_124; exact c_124)).elim
    · refine x_aload_n (pc := 127) (i := 0) K dX7_text_127 rfl rfl ?_
      refine gf_X7_9 (pc := 128)  K dX7_text_128 ?_
      refine x_iload_n (pc := 131) (i := 2) K dX7_text_131 rfl rfl ?_
      refine x_iconst (pc := 132) (v := 1) K dX7_text_132 (by decide) ?_
      refine x_iadd (pc := 133) K dX7_text_133 ?_
      refine x_iload_n (pc := 134) (i := 3) K dX7_text_134 rfl rfl ?_
      refine x_iadd (pc := 135) K dX7_text_135 ?_
      refine x_aload_n (pc := 136) (i := 0) K dX7_text_136 rfl rfl ?_
      refine gf_X7_31 (pc := 137)  K dX7_text_137 ?_
      refine x_iload_n (pc := 140) (i := 3) K dX7_text_140 rfl rfl ?_
      refine ib_mAct (pc := 141) i (by omega) rfl K dX7_text_141 ?_
      refine js_mRow (pc := 142) (aU u + 1 + i) (by unfold aU; omega) (by show nI (aU u) + nI 1 + nI i = _; rw [nI_add, nI_add]) K dX7_text_142 ?_
      refine x_aload_n (pc := 143) (i := 0) K dX7_text_143 rfl rfl ?_
      refine gf_X7_9 (pc := 144)  K dX7_text_144 ?_
      refine x_iload_n (pc := 147) (i := 2) K dX7_text_147 rfl rfl ?_
      refine x_bipush (pc := 148) (v := 61) K dX7_text_148 (by decide) ?_
      refine x_iadd (pc := 150) K dX7_text_150 ?_
      refine x_iload_n (pc := 151) (i := 3) K dX7_text_151 rfl rfl ?_
      refine x_iadd (pc := 152) K dX7_text_152 ?_
      refine x_aload_n (pc := 153) (i := 0) K dX7_text_153 rfl rfl ?_
      refine gf_X7_34 (pc := 154)  K dX7_text_154 ?_
      refine x_iload_n (pc := 157) (i := 3) K dX7_text_157 rfl rfl ?_
      refine ib_mWith (pc := 158) i (by omega) rfl K dX7_text_158 ?_
      refine js_mRow (pc := 159) (aU u + 61 + i) (by unfold aU; omega) (by show nI (aU u) + nI 61 + nI i = _; rw [nI_add, nI_add]) K dX7_text_159 ?_
      refine x_iinc (pc := 160) (i := 3) (v := nI (i + 1)) K dX7_text_160 rfl (nI_1 _) rfl ?_
      refine x_goto (pc := 163) (tgt := 119) K dX7_text_163 (by decide) ?_
      exact ih (i + 1) (by omega) hx

set_option maxRecDepth 100000 in
set_option maxHeartbeats 4000000 in
theorem c_yX7_text {k : Nat} {l : Launch} {G : Gm} {α ρ : Af} {x : Int32} (ht : ∃ t, t ≤ 60 ∧ ρ mRow 7 = nI t) : CI k l G yX7_text (Cond.code yX7_text cX7_text 4 (some .int)) 100 [.ref (gA G idM), .int x] α ρ (PI (r_textV ρ x) α (r_textS ρ x)) := by
  refine CI.of [some (.ref (gA G idM)), some (.int x), none, none] (by decide) (Nat.le_of_ble_eq_true rfl) rfl rfl (fun C K => ?_)
  have K : Ok l _ G C RX7 cX7_text (some .int) 4 := K
  refine x_iload_n (pc := 0) (i := 1) K dX7_text_0 rfl rfl ?_
  refine x_iconst (pc := 1) (v := 0) K dX7_text_1 (by decide) ?_
  refine x_iconst (pc := 2) (v := 1) K dX7_text_2 (by decide) ?_
  refine x_S3i (pc := 3) K (c_yX7_in) mw_yX7_in st_yX7_in mk_X7_54 ⟨Nat.le_of_ble_eq_true rfl, Nat.le_of_ble_eq_true rfl, Nat.le_of_ble_eq_true rfl⟩ dX7_text_3 ?_
  refine x_ifne_b (pc := 6) (tgt := 16) K dX7_text_6 (by decide) (fun c_6 => ?_) (fun c_6 => ?_)
  · obtain ⟨u, -, hu, rfl⟩ := wi_of (a := 0) (b := 1) rfl rfl (by decide) (by decide) c_6
    obtain ⟨n, h60, hn⟩ := r_t3_12 (u := nI u) ht
    refine x_aload_n (pc := 16) (i := 0) K dX7_text_16 rfl rfl ?_
    refine x_iload_n (pc := 17) (i := 1) K dX7_text_17 rfl rfl ?_
    refine pf_X7_124 (pc := 18)  K dX7_text_18 ?_
    refine x_aload_n (pc := 21) (i := 0) K dX7_text_21 rfl rfl ?_
    refine x_iconst (pc := 22) (v := 0) K dX7_text_22 (by decide) ?_
    refine pf_X7_121 (pc := 23)  K dX7_text_23 ?_
    refine x_aload_n (pc := 26) (i := 0) K dX7_text_26 rfl rfl ?_
    refine x_iconst (pc := 27) (v := 0) K dX7_text_27 (by decide) ?_
    refine pf_X7_117 (pc := 28)  K dX7_text_28 ?_
    refine x_aload_n (pc := 31) (i := 0) K dX7_text_31 rfl rfl ?_
    refine x_iconst (pc := 32) (v := 0) K dX7_text_32 (by decide) ?_
    refine pf_X7_139 (pc := 33)  K dX7_text_33 ?_
    refine x_aload_n (pc := 36) (i := 0) K dX7_text_36 rfl rfl ?_
    refine x_iconst (pc := 37) (v := 0) K dX7_text_37 (by decide) ?_
    refine pf_X7_131 (pc := 38)  K ⟨rfl, rfl⟩ dX7_text_38 ?_
    refine x_st (r := r_t0 ρ (nI u)) rfl rfl ?_
    refine x_aload_n (pc := 41) (i := 0) K dX7_text_41 rfl rfl ?_
    refine x_V0v (pc := 42) K (c_anyM (m := 5) (one := r_one 5) (ds := 8 + 7 * 5) (fun _ _ h => c_oneM 5 (by decide) h) (PrM.one 5 (by decide)) (by decide) (r_t0_Mo ht)) mw_yX7_any ⟨im_yX7_any, se_yX7_any⟩ mk_X7_145 rc_M rfl ⟨Nat.le_of_ble_eq_true rfl, Nat.le_of_ble_eq_true rfl, Nat.le_of_ble_eq_true rfl⟩ dX7_text_42 ?_
    refine x_st (r := r_t1 ρ (nI u)) rfl rfl ?_
    refine x_aload_n (pc := 45) (i := 0) K dX7_text_45 rfl rfl ?_
    refine x_aload_n (pc := 46) (i := 0) K dX7_text_46 rfl rfl ?_
    refine gf_X7_131 (pc := 47)  K dX7_text_47 ?_
    refine x_if_ne (pc := 50) (tgt := 67) K dX7_text_50 (by decide) (fun c_50 => ?_) (fun c_50 => ?_)
    · refine x_iconst (pc := 67) (v := 1) K dX7_text_67 (by decide) ?_
      refine x_goto (pc := 68) (tgt := 72) K dX7_text_68 (by decide) ?_
      refine pf_X7_131 (pc := 72)  K ⟨rfl, rfl⟩ dX7_text_72 ?_
      refine x_st (r := r_t2 (r_t1 ρ (nI u))) rfl (by unfold r_t2; rw [if_neg c_50]) ?_
      refine x_aload_n (pc := 75) (i := 0) K dX7_text_75 rfl rfl ?_
      refine gf_X7_9 (pc := 76)  K dX7_text_76 ?_
      refine x_bipush (pc := 79) (v := 7) K dX7_text_79 (by decide) ?_
      refine x_iconst (pc := 81) (v := 0) K dX7_text_81 (by decide) ?_
      refine js_mRow (pc := 82) 7 (by decide) rfl K dX7_text_82 ?_
      refine x_st (r := r_t3 ρ (nI u)) rfl rfl ?_
      refine x_aload_n (pc := 83) (i := 0) K dX7_text_83 rfl rfl ?_
      refine gf_X7_131 (pc := 84)  K dX7_text_84 ?_
      refine x_if_eq (pc := 87) (tgt := 98) K dX7_text_87 (by decide) (fun c_87 => ?_) (fun c_87 => ?_)
      · refine x_sipush (pc := 98) (v := 156) K dX7_text_98 (by decide) ?_
        refine x_bipush (pc := 101) (v := 121) K dX7_text_101 (by decide) ?_
        refine x_iload_n (pc := 103) (i := 1) K dX7_text_103 rfl rfl ?_
        refine x_imul (pc := 104) K dX7_text_104 ?_
        refine x_iadd (pc := 105) K dX7_text_105 ?_
        refine x_topi K (show _ = nI (aU u) from by show nI 156 + nI 121 * nI u = _; rw [pk_mul, nI_add]; rfl) ?_
        refine x_istore_n (pc := 106) (i := 2) K dX7_text_106 rfl rfl (by decide) ?_
        refine x_aload_n (pc := 107) (i := 0) K dX7_text_107 rfl rfl ?_
        refine gf_X7_9 (pc := 108)  K dX7_text_108 ?_
        refine x_iload_n (pc := 111) (i := 2) K dX7_text_111 rfl rfl ?_
        refine x_aload_n (pc := 112) (i := 0) K dX7_text_112 rfl rfl ?_
        refine gf_X7_121 (pc := 113)  K dX7_text_113 ?_
        refine js_mRow (pc := 116) ((aU u)) (by unfold aU; omega) rfl K dX7_text_116 ?_
        refine x_st (r := r_lay (r_t3 ρ (nI u)) u 0) rfl rfl ?_
        refine x_iconst (pc := 117) (v := 0) K dX7_text_117 (by decide) ?_
        refine x_istore_n (pc := 118) (i := 3) K dX7_text_118 rfl rfl (by decide) ?_
        refine l_text K (by omega) h60 hn n 0 (by omega) ?_
        refine x_iconst (pc := 166) (v := 1) K dX7_text_166 (by decide) ?_
        exact x_iretI (pc := 167) K dX7_text_167 ⟨by unfold r_textV; rw [if_pos c_6, if_pos c_87], rfl, by unfold r_textS; rw [if_pos c_6, if_pos c_87, hn, nI_clamp (by omega), nI_clamp (by omega)]⟩
      · refine x_bipush (pc := 90) (v := (-10)) K dX7_text_90 (by decide) ?_
        refine x_aload_n (pc := 92) (i := 0) K dX7_text_92 rfl rfl ?_
        refine gf_X7_117 (pc := 93)  K dX7_text_93 ?_
        refine x_isub (pc := 96) K dX7_text_96 ?_
        exact x_iretI (pc := 97) K dX7_text_97 ⟨by unfold r_textV; rw [if_pos c_6, if_neg c_87], rfl, by unfold r_textS; rw [if_pos c_6, if_neg c_87]⟩
    · refine x_aload_n (pc := 53) (i := 0) K dX7_text_53 rfl rfl ?_
      refine gf_X7_117 (pc := 54)  K dX7_text_54 ?_
      refine x_aload_n (pc := 57) (i := 0) K dX7_text_57 rfl rfl ?_
      refine gf_X7_9 (pc := 58)  K dX7_text_58 ?_
      refine x_bipush (pc := 61) (v := 7) K dX7_text_61 (by decide) ?_
      refine ib_mRow (pc := 63) 7 (by decide) rfl K dX7_text_63 ?_
      refine x_icmp_ge (pc := 64) (tgt := 71) K dX7_text_64 (by decide) (fun c_64 => ?_) (fun c_64 => ?_)
      · refine x_iconst (pc := 71) (v := 0) K dX7_text_71 (by decide) ?_
        refine pf_X7_131 (pc := 72)  K ⟨rfl, rfl⟩ dX7_text_72 ?_
        refine x_st (r := r_t2 (r_t1 ρ (nI u))) rfl (by unfold r_t2; rw [if_pos c_50, if_pos c_64]) ?_
        refine x_aload_n (pc := 75) (i := 0) K dX7_text_75 rfl rfl ?_
        refine gf_X7_9 (pc := 76)  K dX7_text_76 ?_
        refine x_bipush (pc := 79) (v := 7) K dX7_text_79 (by decide) ?_
        refine x_iconst (pc := 81) (v := 0) K dX7_text_81 (by decide) ?_
        refine js_mRow (pc := 82) 7 (by decide) rfl K dX7_text_82 ?_
        refine x_st (r := r_t3 ρ (nI u)) rfl rfl ?_
        refine x_aload_n (pc := 83) (i := 0) K dX7_text_83 rfl rfl ?_
        refine gf_X7_131 (pc := 84)  K dX7_text_84 ?_
        refine x_if_eq (pc := 87) (tgt := 98) K dX7_text_87 (by decide) (fun c_87 => ?_) (fun c_87 => ?_)
        · refine x_sipush (pc := 98) (v := 156) K dX7_text_98 (by decide) ?_
          refine x_bipush (pc := 101) (v := 121) K dX7_text_101 (by decide) ?_
          refine x_iload_n (pc := 103) (i := 1) K dX7_text_103 rfl rfl ?_
          refine x_imul (pc := 104) K dX7_text_104 ?_
          refine x_iadd (pc := 105) K dX7_text_105 ?_
          refine x_topi K (show _ = nI (aU u) from by show nI 156 + nI 121 * nI u = _; rw [pk_mul, nI_add]; rfl) ?_
          refine x_istore_n (pc := 106) (i := 2) K dX7_text_106 rfl rfl (by decide) ?_
          refine x_aload_n (pc := 107) (i := 0) K dX7_text_107 rfl rfl ?_
          refine gf_X7_9 (pc := 108)  K dX7_text_108 ?_
          refine x_iload_n (pc := 111) (i := 2) K dX7_text_111 rfl rfl ?_
          refine x_aload_n (pc := 112) (i := 0) K dX7_text_112 rfl rfl ?_
          refine gf_X7_121 (pc := 113)  K dX7_text_113 ?_
          refine js_mRow (pc := 116) ((aU u)) (by unfold aU; omega) rfl K dX7_text_116 ?_
          refine x_st (r := r_lay (r_t3 ρ (nI u)) u 0) rfl rfl ?_
          refine x_iconst (pc := 117) (v := 0) K dX7_text_117 (by decide) ?_
          refine x_istore_n (pc := 118) (i := 3) K dX7_text_118 rfl rfl (by decide) ?_
          refine l_text K (by omega) h60 hn n 0 (by omega) ?_
          refine x_iconst (pc := 166) (v := 1) K dX7_text_166 (by decide) ?_
          exact x_iretI (pc := 167) K dX7_text_167 ⟨by unfold r_textV; rw [if_pos c_6, if_pos c_87], rfl, by unfold r_textS; rw [if_pos c_6, if_pos c_87, hn, nI_clamp (by omega), nI_clamp (by omega)]⟩
        · refine x_bipush (pc := 90) (v := (-10)) K dX7_text_90 (by decide) ?_
          refine x_aload_n (pc := 92) (i := 0) K dX7_text_92 rfl rfl ?_
          refine gf_X7_117 (pc := 93)  K dX7_text_93 ?_
          refine x_isub (pc := 96) K dX7_text_96 ?_
          exact x_iretI (pc := 97) K dX7_text_97 ⟨by unfold r_textV; rw [if_pos c_6, if_neg c_87], rfl, by unfold r_textS; rw [if_pos c_6, if_neg c_87]⟩
      · refine x_iconst (pc := 67) (v := 1) K dX7_text_67 (by decide) ?_
        refine x_goto (pc := 68) (tgt := 72) K dX7_text_68 (by decide) ?_
        refine pf_X7_131 (pc := 72)  K ⟨rfl, rfl⟩ dX7_text_72 ?_
        refine x_st (r := r_t2 (r_t1 ρ (nI u))) rfl (by unfold r_t2; rw [if_pos c_50, if_neg c_64]) ?_
        refine x_aload_n (pc := 75) (i := 0) K dX7_text_75 rfl rfl ?_
        refine gf_X7_9 (pc := 76)  K dX7_text_76 ?_
        refine x_bipush (pc := 79) (v := 7) K dX7_text_79 (by decide) ?_
        refine x_iconst (pc := 81) (v := 0) K dX7_text_81 (by decide) ?_
        refine js_mRow (pc := 82) 7 (by decide) rfl K dX7_text_82 ?_
        refine x_st (r := r_t3 ρ (nI u)) rfl rfl ?_
        refine x_aload_n (pc := 83) (i := 0) K dX7_text_83 rfl rfl ?_
        refine gf_X7_131 (pc := 84)  K dX7_text_84 ?_
        refine x_if_eq (pc := 87) (tgt := 98) K dX7_text_87 (by decide) (fun c_87 => ?_) (fun c_87 => ?_)
        · refine x_sipush (pc := 98) (v := 156) K dX7_text_98 (by decide) ?_
          refine x_bipush (pc := 101) (v := 121) K dX7_text_101 (by decide) ?_
          refine x_iload_n (pc := 103) (i := 1) K dX7_text_103 rfl rfl ?_
          refine x_imul (pc := 104) K dX7_text_104 ?_
          refine x_iadd (pc := 105) K dX7_text_105 ?_
          refine x_topi K (show _ = nI (aU u) from by show nI 156 + nI 121 * nI u = _; rw [pk_mul, nI_add]; rfl) ?_
          refine x_istore_n (pc := 106) (i := 2) K dX7_text_106 rfl rfl (by decide) ?_
          refine x_aload_n (pc := 107) (i := 0) K dX7_text_107 rfl rfl ?_
          refine gf_X7_9 (pc := 108)  K dX7_text_108 ?_
          refine x_iload_n (pc := 111) (i := 2) K dX7_text_111 rfl rfl ?_
          refine x_aload_n (pc := 112) (i := 0) K dX7_text_112 rfl rfl ?_
          refine gf_X7_121 (pc := 113)  K dX7_text_113 ?_
          refine js_mRow (pc := 116) ((aU u)) (by unfold aU; omega) rfl K dX7_text_116 ?_
          refine x_st (r := r_lay (r_t3 ρ (nI u)) u 0) rfl rfl ?_
          refine x_iconst (pc := 117) (v := 0) K dX7_text_117 (by decide) ?_
          refine x_istore_n (pc := 118) (i := 3) K dX7_text_118 rfl rfl (by decide) ?_
          refine l_text K (by omega) h60 hn n 0 (by omega) ?_
          refine x_iconst (pc := 166) (v := 1) K dX7_text_166 (by decide) ?_
          exact x_iretI (pc := 167) K dX7_text_167 ⟨by unfold r_textV; rw [if_pos c_6, if_pos c_87], rfl, by unfold r_textS; rw [if_pos c_6, if_pos c_87, hn, nI_clamp (by omega), nI_clamp (by omega)]⟩
        · refine x_bipush (pc := 90) (v := (-10)) K dX7_text_90 (by decide) ?_
          refine x_aload_n (pc := 92) (i := 0) K dX7_text_92 rfl rfl ?_
          refine gf_X7_117 (pc := 93)  K dX7_text_93 ?_
          refine x_isub (pc := 96) K dX7_text_96 ?_
          exact x_iretI (pc := 97) K dX7_text_97 ⟨by unfold r_textV; rw [if_pos c_6, if_neg c_87], rfl, by unfold r_textS; rw [if_pos c_6, if_neg c_87]⟩
  · refine x_aload_n (pc := 9) (i := 0) K dX7_text_9 rfl rfl ?_
    refine x_ldc (pc := 10) K kn_X7_80 dX7_text_10 ?_
    refine x_V1i (pc := 12) K (c_yX7_error (j := 1) (by decide) (by decide)) mw_yX7_error ⟨im_yX7_error, se_yX7_error⟩ mk_X7_81 rc_M rfl ⟨Nat.le_of_ble_eq_true rfl, Nat.le_of_ble_eq_true rfl, Nat.le_of_ble_eq_true rfl⟩ dX7_text_12 ?_
    exact x_iretI (pc := 15) K dX7_text_15 ⟨by unfold r_textV; rw [if_neg (by rw [c_6]; decide)]; rfl, rfl, by unfold r_textS; rw [if_neg (by rw [c_6]; decide)]⟩
