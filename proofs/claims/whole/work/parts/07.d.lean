/-! the reference's reader -/
def hv (ρ : Af) : Nat := (ρ idM 13).toNatClampNeg
def Mk (ρ : Af) : Prop := (∃ t, t ≤ 60 ∧ ρ mRow 7 = nI t) ∧ (∃ h, h ≤ 60 ∧ ρ idM 13 = nI h) ∧ ∃ m, m ≤ 60 ∧ ρ idM 12 = nI m
def Mo (m : Nat) (ρ : Af) : Prop := Mk ρ ∧ ρ idM 14 = nI (5 - m)
def r_look (ρ : Af) : Int32 := if ρ mRow 7 ≤ ρ idM 13 then -1 else ρ mRow (72 + hv ρ)
def r_adv (ρ : Af) : Af := up ρ idM 13 (ρ idM 13 + 1)
def r_stA (ρ : Af) (x v : Int32) : Af := up (up ρ mAct (ρ idM 12).toNatClampNeg x) mWith (ρ idM 12).toNatClampNeg v
def r_stp (ρ : Af) (x v : Int32) : Af := if 60 ≤ ρ idM 12 then ρ else up (r_stA ρ x v) idM 12 (r_stA ρ x v idM 12 + 1)
def r_nm1 (u b : Int32) : Int32 := if u = 0 then (if b = 114 then 0 else if b = 119 then 1 else 2) else -1
def r_nm2 (u b : Int32) : Int32 := if u = 1 then (if b = 108 then 0 else if b = 98 then 1 else 2) else -1
def r_name (u b : Int32) : Int32 := if b = 98 then r_nm2 u b else if b = 107 then r_nm1 u b else if b = 108 then r_nm2 u b else if b = 109 then r_nm2 u b else if b = 114 then r_nm1 u b else if b = 119 then r_nm1 u b else -1
def r_numL : Nat → Nat → Int32 → Af → Nat × Int32 × Af
  | 0, i, v, ρ => (i, v, ρ)
  | j + 1, i, v, ρ => if q_within (r_look ρ) 48 57 = true then r_numL j (i + 1) (10 * v + r_look ρ - 48) (r_adv ρ) else (i, v, ρ)
def r_numB (s : Nat × Int32 × Af) : Af := r_stp (up s.2.2 idM 15 (if s.1 = 0 then 1 else 0)) 1 s.2.1
def r_number (ρ : Af) : Af := r_numB (r_numL 4 0 0 ρ)
abbrev Pm : Type := Af → Af
def r_binL (sub : Pm) (isS : Int32 → Bool) : Nat → Pm
  | 0, ρ => ρ
  | j + 1, ρ => if ρ idM 15 = 0 then (if isS (r_look ρ) = true then r_binL sub isS j (r_stp (sub (r_adv ρ)) (r_look ρ) 0) else ρ) else ρ
def r_bin (sub : Pm) (isS : Int32 → Bool) : Pm := fun ρ => r_binL sub isS 60 (sub ρ)
def r_cmp (sub : Pm) : Pm := fun ρ => if sub ρ idM 15 = 0 then (if q_isCmp (r_look (sub ρ)) = true then r_stp (sub (r_adv (sub ρ))) (r_look (sub ρ)) 0 else sub ρ) else sub ρ
def r_anyP (one : Pm) : Pm := r_bin (r_bin (r_cmp (r_bin (r_bin one q_isProd) q_isSum)) q_isAll) q_isAny
def r_opA (ρ : Af) : Af := r_adv (up ρ idM 14 (ρ idM 14 + 1))
def r_clB (B : Af) : Af := up B idM 15 (if B idM 15 = 0 then (if r_look B = 41 then 0 else 1) else 1)
def r_clC (C : Af) : Af := up C idM 13 (C idM 13 + (if C idM 15 = 0 then 1 else 0))
def r_dec (E : Af) : Af := up E idM 14 (E idM 14 - 1)
def r_opens (one any : Pm) (sign : Int32) : Pm := fun ρ => if ρ idM 14 = 5 then up ρ idM 15 1 else if sign = 33 then r_dec (r_stp (one (r_opA ρ)) 3 0) else r_dec (r_clC (r_clB (any (r_opA ρ))))
def r_named (ρ : Af) : Af := r_stp (r_adv ρ) 2 (r_name (ρ idM 16) (r_look ρ))
def r_one : Nat → Pm
  | 0, ρ => if r_name (ρ idM 16) (r_look ρ) < 0 then (if q_isOpen (r_look ρ) = true then up ρ idM 15 1 else r_number ρ) else r_named ρ
  | m + 1, ρ => if r_name (ρ idM 16) (r_look ρ) < 0 then (if q_isOpen (r_look ρ) = true then r_opens (r_one m) (r_anyP (r_one m)) (r_look ρ) ρ else r_number ρ) else r_named ρ
theorem Mk.h {ρ : Af} (h : Mk ρ) : ρ idM 13 = nI (hv ρ) ∧ hv ρ ≤ 60 := by
  obtain ⟨-, ⟨a, h1, h2⟩, -⟩ := h
  unfold hv
  rw [h2, nI_clamp (by omega)]
  exact ⟨rfl, h1⟩
theorem look_lt {ρ : Af} (h : Mk ρ) (c : ¬ ρ mRow 7 ≤ ρ idM 13) : hv ρ < 60 := by
  obtain ⟨e1, -⟩ := h.h
  obtain ⟨⟨t, h1, h2⟩, -, -⟩ := h
  rw [e1, h2] at c
  have := mt (nI_leI (a := t) (b := hv ρ) (by omega) (by unfold hv; exact Nat.lt_of_le_of_lt (Nat.le_of_lt_succ (by have := Int32.toInt_lt (ρ idM 13); show (ρ idM 13).toInt.toNat < 2147483648; omega)) (by decide) : hv ρ < 2 ^ 31)).mpr c
  omega
theorem look_ge {ρ : Af} (h : Mk ρ) (c : 60 ≤ hv ρ) : r_look ρ = -1 := by
  obtain ⟨e1, e2⟩ := h.h
  obtain ⟨⟨t, h1, h2⟩, -, -⟩ := h
  unfold r_look
  rw [if_pos]
  rw [e1, h2]
  exact nI_le (by omega) (by omega)
theorem look_ne {ρ : Af} (h : Mk ρ) (c : ¬ r_look ρ = -1) : hv ρ < 60 := by
  rcases Nat.lt_or_ge (hv ρ) 60 with q | q
  · exact q
  · exact absurd (look_ge h q) c
theorem Mk.adv {ρ : Af} (h : Mk ρ) (c : hv ρ < 60) : Mk (r_adv ρ) ∧ hv (r_adv ρ) = hv ρ + 1 := by
  obtain ⟨e1, e2⟩ := h.h
  unfold r_adv
  have e3 : up ρ idM 13 (ρ idM 13 + 1) idM 13 = nI (hv ρ + 1) := by rw [up_eq, e1]; exact nI_1 _
  refine ⟨⟨?_, ⟨hv ρ + 1, by omega, e3⟩, ?_⟩, ?_⟩
  · rw [up_ne (by decide)]; exact h.1
  · rw [up_ne2 (by decide)]; exact h.2.2
  · show (up ρ idM 13 (ρ idM 13 + 1) idM 13).toNatClampNeg = _
    rw [e3, nI_clamp (by omega)]
theorem r_stA_ne {ρ : Af} {x v : Int32} {i : Nat} (h1 : i ≠ mAct) (h2 : i ≠ mWith) : r_stA ρ x v i = ρ i := by unfold r_stA; rw [up_ne h2, up_ne h1]
theorem r_stp_ne {ρ : Af} {x v : Int32} {i : Nat} (h1 : i ≠ mAct) (h2 : i ≠ mWith) (h3 : i ≠ idM) : r_stp ρ x v i = ρ i := by
  unfold r_stp
  split
  · rfl
  · rw [up_ne h3, r_stA_ne h1 h2]
theorem r_stp_M {ρ : Af} {x v : Int32} {k : Nat} (h : k ≠ 12) : r_stp ρ x v idM k = ρ idM k := by
  unfold r_stp
  split
  · rfl
  · rw [up_ne2 h, r_stA_ne (by decide) (by decide)]
theorem Mk.stp {ρ : Af} {x v : Int32} (h : Mk ρ) : Mk (r_stp ρ x v) ∧ hv (r_stp ρ x v) = hv ρ := by
  refine ⟨⟨?_, ?_, ?_⟩, by unfold hv; rw [r_stp_M (by decide)]⟩
  · rw [r_stp_ne (by decide) (by decide) (by decide)]; exact h.1
  · rw [r_stp_M (by decide)]; exact h.2.1
  · obtain ⟨-, -, m, h1, h2⟩ := h
    unfold r_stp
    rw [h2]
    by_cases c : (60 : Int32) ≤ nI m
    · rw [if_pos c]; exact ⟨m, h1, h2⟩
    · rw [if_neg c]
      have hm := mt (nI_leI (a := 60) (b := m) (by decide) (by omega)).mpr c
      exact ⟨m + 1, by omega, by rw [up_eq, r_stA_ne (by decide) (by decide), h2]; exact nI_1 m⟩
theorem Mk.bad {ρ : Af} {v : Int32} (h : Mk ρ) : Mk (up ρ idM 15 v) ∧ hv (up ρ idM 15 v) = hv ρ := by
  refine ⟨⟨?_, ?_, ?_⟩, by unfold hv; rw [up_ne2 (by decide)]⟩
  · rw [up_ne (by decide)]; exact h.1
  · rw [up_ne2 (by decide)]; exact h.2.1
  · rw [up_ne2 (by decide)]; exact h.2.2
theorem Mk.opn {ρ : Af} {v : Int32} (h : Mk ρ) : Mk (up ρ idM 14 v) ∧ hv (up ρ idM 14 v) = hv ρ := by
  refine ⟨⟨?_, ?_, ?_⟩, by unfold hv; rw [up_ne2 (by decide)]⟩
  · rw [up_ne (by decide)]; exact h.1
  · rw [up_ne2 (by decide)]; exact h.2.1
  · rw [up_ne2 (by decide)]; exact h.2.2
/-- a part's reader keeps what must be kept, and never goes back -/
def PrM (m : Nat) (sub : Pm) : Prop := ∀ ρ, Mo m ρ → Mo m (sub ρ) ∧ hv ρ ≤ hv (sub ρ) ∧ sub ρ mRow = ρ mRow ∧ sub ρ idM 16 = ρ idM 16
theorem isS_ne {isS : Int32 → Bool} (hs : isS (-1) = false) {ρ : Af} (c : isS (r_look ρ) = true) : ¬ r_look ρ = -1 := fun h => by rw [h, hs] at c; cases c
theorem Mo.adv {m : Nat} {ρ : Af} (h : Mo m ρ) (c : hv ρ < 60) : Mo m (r_adv ρ) ∧ hv (r_adv ρ) = hv ρ + 1 := ⟨⟨(h.1.adv c).1, by unfold r_adv; rw [up_ne2 (by decide)]; exact h.2⟩, (h.1.adv c).2⟩
theorem Mo.stp {m : Nat} {ρ : Af} {x v : Int32} (h : Mo m ρ) : Mo m (r_stp ρ x v) := ⟨h.1.stp.1, by rw [r_stp_M (by decide)]; exact h.2⟩
theorem r_adv_row {ρ : Af} : r_adv ρ mRow = ρ mRow := up_ne (by decide)
theorem r_adv_16 {ρ : Af} : r_adv ρ idM 16 = ρ idM 16 := up_ne2 (by decide)
theorem r_stp_row {ρ : Af} {x v : Int32} : r_stp ρ x v mRow = ρ mRow := r_stp_ne (by decide) (by decide) (by decide)
theorem PrM.binL {m : Nat} {sub : Pm} {isS : Int32 → Bool} (hS : isS (-1) = false) (hs : PrM m sub) : ∀ j, PrM m (r_binL sub isS j)
  | 0, ρ, h => ⟨h, Nat.le_refl _, rfl, rfl⟩
  | j + 1, ρ, h => by
    simp only [r_binL]
    by_cases c1 : ρ idM 15 = 0
    · rw [if_pos c1]
      by_cases c2 : isS (r_look ρ) = true
      · rw [if_pos c2]
        obtain ⟨a1, a2⟩ := h.adv (look_ne h.1 (isS_ne hS c2))
        obtain ⟨b1, b2, b3, b4⟩ := hs _ a1
        obtain ⟨d1, d2, d3, d4⟩ := PrM.binL hS hs j _ (b1.stp (x := r_look ρ) (v := 0))
        have e1 := (b1.1.stp (x := r_look ρ) (v := 0)).2
        exact ⟨d1, by omega, by rw [d3, r_stp_row, b3, r_adv_row], by rw [d4, r_stp_M (by decide), b4, r_adv_16]⟩
      · rw [if_neg c2]; exact ⟨h, Nat.le_refl _, rfl, rfl⟩
    · rw [if_neg c1]; exact ⟨h, Nat.le_refl _, rfl, rfl⟩
theorem PrM.bin {m : Nat} {sub : Pm} {isS : Int32 → Bool} (hS : isS (-1) = false) (hs : PrM m sub) : PrM m (r_bin sub isS) := by
  intro ρ h
  obtain ⟨b1, b2, b3, b4⟩ := hs _ h
  obtain ⟨d1, d2, d3, d4⟩ := PrM.binL hS hs 60 _ b1
  exact ⟨d1, Nat.le_trans b2 d2, by unfold r_bin; rw [d3, b3], by unfold r_bin; rw [d4, b4]⟩
theorem PrM.cmp {m : Nat} {sub : Pm} (hs : PrM m sub) : PrM m (r_cmp sub) := by
  intro ρ h
  obtain ⟨b1, b2, b3, b4⟩ := hs _ h
  unfold r_cmp
  by_cases c1 : sub ρ idM 15 = 0
  · rw [if_pos c1]
    by_cases c2 : q_isCmp (r_look (sub ρ)) = true
    · rw [if_pos c2]
      obtain ⟨a1, a2⟩ := b1.adv (look_ne b1.1 (isS_ne (isS := q_isCmp) rfl c2))
      obtain ⟨d1, d2, d3, d4⟩ := hs _ a1
      have e1 := (d1.1.stp (x := r_look (sub ρ)) (v := 0)).2
      exact ⟨d1.stp, by omega, by rw [r_stp_row, d3, r_adv_row, b3], by rw [r_stp_M (by decide), d4, r_adv_16, b4]⟩
    · rw [if_neg c2]; exact ⟨b1, b2, b3, b4⟩
  · rw [if_neg c1]; exact ⟨b1, b2, b3, b4⟩
theorem PrM.anyP {m : Nat} {one : Pm} (hs : PrM m one) : PrM m (r_anyP one) := ((((hs.bin rfl).bin rfl).cmp).bin rfl).bin rfl
theorem numL_M {m : Nat} : ∀ (j i : Nat) (v : Int32) (ρ : Af), Mo m ρ → Mo m (r_numL j i v ρ).2.2 ∧ hv ρ ≤ hv (r_numL j i v ρ).2.2 ∧ (r_numL j i v ρ).2.2 mRow = ρ mRow ∧ (r_numL j i v ρ).2.2 idM 16 = ρ idM 16
  | 0, i, v, ρ, h => ⟨h, Nat.le_refl _, rfl, rfl⟩
  | j + 1, i, v, ρ, h => by
    simp only [r_numL]
    by_cases c : q_within (r_look ρ) 48 57 = true
    · rw [if_pos c]
      obtain ⟨a1, a2⟩ := h.adv (look_ne h.1 (isS_ne (isS := fun x => q_within x 48 57) rfl c))
      obtain ⟨d1, d2, d3, d4⟩ := numL_M j (i + 1) (10 * v + r_look ρ - 48) _ a1
      exact ⟨d1, by omega, by rw [d3, r_adv_row], by rw [d4, r_adv_16]⟩
    · rw [if_neg c]; exact ⟨h, Nat.le_refl _, rfl, rfl⟩
theorem PrM.number {m : Nat} : PrM m r_number := by
  intro ρ h
  obtain ⟨d1, d2, d3, d4⟩ := numL_M 4 0 0 ρ h
  unfold r_number r_numB
  have e := d1.1.bad (v := if (r_numL 4 0 0 ρ).1 = 0 then 1 else 0)
  have e2 := e.1.stp (x := 1) (v := (r_numL 4 0 0 ρ).2.1)
  exact ⟨⟨e2.1, by rw [r_stp_M (by decide), up_ne2 (by decide)]; exact d1.2⟩, by omega, by rw [r_stp_row, up_ne (by decide), d3], by rw [r_stp_M (by decide), up_ne2 (by decide), d4]⟩
theorem name_lt {u b : Int32} (h : ¬ r_name u b < 0) : ¬ b = -1 := by
  intro e
  apply h
  rw [e]
  unfold r_name
  rw [if_neg (by decide), if_neg (by decide), if_neg (by decide), if_neg (by decide), if_neg (by decide), if_neg (by decide)]
  decide
theorem PrM.named {m : Nat} {ρ : Af} (h : Mo m ρ) (c : ¬ r_name (ρ idM 16) (r_look ρ) < 0) : Mo m (r_named ρ) ∧ hv ρ ≤ hv (r_named ρ) ∧ r_named ρ mRow = ρ mRow ∧ r_named ρ idM 16 = ρ idM 16 := by
  obtain ⟨a1, a2⟩ := h.adv (look_ne h.1 (name_lt c))
  unfold r_named
  have e := (a1.1.stp (x := 2) (v := r_name (ρ idM 16) (r_look ρ))).2
  exact ⟨a1.stp, by omega, by rw [r_stp_row, r_adv_row], by rw [r_stp_M (by decide), r_adv_16]⟩
theorem open_ne {ρ : Af} (h : q_isOpen (r_look ρ) = true) : ¬ r_look ρ = -1 := isS_ne (isS := q_isOpen) rfl h
theorem Mo.opA {m : Nat} {ρ : Af} (hm : m + 1 ≤ 5) (h : Mo (m + 1) ρ) (c : hv ρ < 60) : Mo m (r_opA ρ) ∧ hv (r_opA ρ) = hv ρ + 1 := by
  have e := h.1.opn (v := ρ idM 14 + 1)
  have e2 := e.1.adv (by rw [e.2]; exact c)
  unfold r_opA
  refine ⟨⟨e2.1, ?_⟩, by rw [e2.2, e.2]⟩
  unfold r_adv
  rw [up_ne2 (by decide), up_eq, h.2, nI_1, show 5 - (m + 1) + 1 = 5 - m by omega]
theorem Mo.dec {m : Nat} {E : Af} (hm : m + 1 ≤ 5) (h : Mo m E) : Mo (m + 1) (r_dec E) ∧ hv (r_dec E) = hv E := by
  have e := h.1.opn (v := E idM 14 - 1)
  unfold r_dec
  refine ⟨⟨e.1, ?_⟩, e.2⟩
  rw [up_eq, h.2]
  exact (pk_sub (a := 5 - m) (b := 1) (by omega)).trans (by rw [show 5 - m - 1 = 5 - (m + 1) by omega])
theorem clB_0 {B : Af} (h : r_clB B idM 15 = 0) : B idM 15 = 0 ∧ r_look B = 41 := by
  unfold r_clB at h
  rw [up_eq] at h
  by_cases c1 : B idM 15 = 0
  · rw [if_pos c1] at h
    by_cases c2 : r_look B = 41
    · exact ⟨c1, c2⟩
    · rw [if_neg c2] at h; exact absurd h (by decide)
  · rw [if_neg c1] at h; exact absurd h (by decide)
theorem Mo.cl {m : Nat} {B : Af} (h : Mo m B) : Mo m (r_clC (r_clB B)) ∧ hv B ≤ hv (r_clC (r_clB B)) ∧ r_clC (r_clB B) mRow = B mRow ∧ r_clC (r_clB B) idM 16 = B idM 16 := by
  have e := h.1.bad (v := if B idM 15 = 0 then (if r_look B = 41 then 0 else 1) else 1)
  have e14 : r_clB B idM 14 = nI (5 - m) := by unfold r_clB; rw [up_ne2 (by decide)]; exact h.2
  have hr : r_clC (r_clB B) mRow = B mRow := by unfold r_clC r_clB; rw [up_ne (by decide), up_ne (by decide)]
  have h16 : r_clC (r_clB B) idM 16 = B idM 16 := by unfold r_clC r_clB; rw [up_ne2 (by decide), up_ne2 (by decide)]
  by_cases c : r_clB B idM 15 = 0
  · have h2 := (clB_0 c).2
    have hl : hv B < 60 := look_ne h.1 (by rw [h2]; decide)
    have e2 := e.1.adv (by rw [e.2]; exact hl)
    have e3 : r_clC (r_clB B) = r_adv (r_clB B) := by unfold r_clC; rw [if_pos c]; rfl
    rw [e3] at hr h16 ⊢
    refine ⟨⟨e2.1, ?_⟩, ?_, hr, h16⟩
    · unfold r_adv; rw [up_ne2 (by decide)]; exact e14
    · have : hv (r_adv (r_clB B)) = hv B + 1 := by rw [show hv (r_adv (r_clB B)) = hv (r_clB B) + 1 from e2.2, show hv (r_clB B) = hv B from e.2]
      omega
  · have e3 : r_clC (r_clB B) = r_clB B := by
      unfold r_clC
      rw [if_neg c]
      unfold up
      rw [Int32.add_zero]
      have : upd (r_clB B idM) 13 (r_clB B idM 13) = r_clB B idM := by funext j; by_cases q : j = 13 <;> simp [upd, q]
      rw [this, upR_self]
    rw [e3] at hr h16 ⊢
    exact ⟨⟨e.1, e14⟩, Nat.le_of_eq e.2.symm, hr, h16⟩
theorem PrM.one : ∀ m, m ≤ 5 → PrM m (r_one m)
  | 0, _, ρ, h => by
    simp only [r_one]
    by_cases c1 : r_name (ρ idM 16) (r_look ρ) < 0
    · rw [if_pos c1]
      by_cases c2 : q_isOpen (r_look ρ) = true
      · rw [if_pos c2]
        exact ⟨⟨(h.1.bad).1, by rw [up_ne2 (by decide)]; exact h.2⟩, Nat.le_of_eq (h.1.bad).2.symm, up_ne (by decide), up_ne2 (by decide)⟩
      · rw [if_neg c2]; exact PrM.number ρ h
    · rw [if_neg c1]; exact PrM.named h c1
  | m + 1, hm, ρ, h => by
    simp only [r_one]
    by_cases c1 : r_name (ρ idM 16) (r_look ρ) < 0
    · rw [if_pos c1]
      by_cases c2 : q_isOpen (r_look ρ) = true
      · rw [if_pos c2]
        unfold r_opens
        rw [if_neg (by rw [h.2]; exact fun q => by have := (nI_eq (a := 5 - (m + 1)) (b := 5) (by omega) (by decide)).mp q; omega)]
        obtain ⟨a1, a2⟩ := h.opA hm (look_ne h.1 (open_ne c2))
        have ar : r_opA ρ mRow = ρ mRow := by unfold r_opA; rw [r_adv_row, up_ne (by decide)]
        have a16 : r_opA ρ idM 16 = ρ idM 16 := by unfold r_opA; rw [r_adv_16, up_ne2 (by decide)]
        by_cases c3 : r_look ρ = 33
        · rw [if_pos c3]
          obtain ⟨d1, d2, d3, d4⟩ := PrM.one m (by omega) _ a1
          have e := (d1.1.stp (x := 3) (v := 0)).2
          obtain ⟨f1, f2⟩ := Mo.dec hm (d1.stp (x := 3) (v := 0))
          exact ⟨f1, by omega, by unfold r_dec; rw [up_ne (by decide), r_stp_row, d3, ar], by unfold r_dec; rw [up_ne2 (by decide), r_stp_M (by decide), d4, a16]⟩
        · rw [if_neg c3]
          obtain ⟨d1, d2, d3, d4⟩ := (PrM.one m (by omega)).anyP _ a1
          obtain ⟨g1, g2, g3, g4⟩ := d1.cl
          obtain ⟨f1, f2⟩ := Mo.dec hm g1
          exact ⟨f1, by omega, by unfold r_dec; rw [up_ne (by decide), g3, d3, ar], by unfold r_dec; rw [up_ne2 (by decide), g4, d4, a16]⟩
      · rw [if_neg c2]; exact PrM.number ρ h
    · rw [if_neg c1]; exact PrM.named h c1
