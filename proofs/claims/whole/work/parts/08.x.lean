/-! ## a part of a text -/
theorem nm_in1 : ∀ u, u < 2 → ∀ b, b < 256 → 0 ≤ q_ix u (nI b) → q_isOpen (nI b) = false := by decide +kernel
theorem nm_in2 : ∀ u, u < 2 → ∀ b, b < 256 → 0 ≤ q_ix u (nI b) → q_isDigit (nI b) = false := by decide +kernel
theorem nm_in3 : ∀ u, u < 2 → ∀ b, b < 256 → 0 ≤ q_ix u (nI b) → ¬ r_name (nI u) (nI b) < 0 := by decide +kernel
def nmV (v c : Int32) : Bool := (v == nI 0 && c == -1) || (v == nI 1 && c == -2) || (v == nI 2 && c == -3)
theorem nm_in4 : ∀ u, u < 2 → ∀ b, b < 256 → 0 ≤ q_ix u (nI b) → nmV (r_name (nI u) (nI b)) (-1 - q_ix u (nI b)) = true := by decide +kernel
theorem nmV_ok {v c : Int32} (h : nmV v c = true) : (v = nI 0 ∧ c = -1) ∨ (v = nI 1 ∧ c = -2) ∨ (v = nI 2 ∧ c = -3) := by
  unfold nmV at h
  rw [Bool.or_eq_true, Bool.or_eq_true, Bool.and_eq_true, Bool.and_eq_true, Bool.and_eq_true, beq_iff_eq, beq_iff_eq, beq_iff_eq, beq_iff_eq, beq_iff_eq, beq_iff_eq] at h
  rcases h with (h | h) | h
  · exact Or.inl h
  · exact Or.inr (Or.inl h)
  · exact Or.inr (Or.inr h)
theorem nm_in (u : Nat) (hu : u < 2) (b : Nat) (hb : b < 256) (h : 0 ≤ q_ix u (nI b)) : q_isOpen (nI b) = false ∧ q_isDigit (nI b) = false ∧ ¬ r_name (nI u) (nI b) < 0 ∧ ((r_name (nI u) (nI b) = nI 0 ∧ -1 - q_ix u (nI b) = -1) ∨ (r_name (nI u) (nI b) = nI 1 ∧ -1 - q_ix u (nI b) = -2) ∨ (r_name (nI u) (nI b) = nI 2 ∧ -1 - q_ix u (nI b) = -3)) := ⟨nm_in1 u hu b hb h, nm_in2 u hu b hb h, nm_in3 u hu b hb h, nmV_ok (nm_in4 u hu b hb h)⟩
theorem nm_out : ∀ u, u < 2 → ∀ b, b < 256 → ¬ 0 ≤ q_ix u (nI b) → r_name (nI u) (nI b) < 0 := by decide +kernel
theorem nm_end : ∀ u, u < 2 → ¬ 0 ≤ q_ix u 0 ∧ r_name (nI u) (-1) < 0 := by decide +kernel
theorem dig_eq : ∀ b, b < 256 → q_within (nI b) 48 57 = q_isDigit (nI b) := by decide +kernel
theorem dig_in : ∀ b, b < 256 → q_isDigit (nI b) = true → 48 ≤ b ∧ b ≤ 57 := by decide +kernel
theorem nm_tau {v c : Int32} (h : (v = nI 0 ∧ c = -1) ∨ (v = nI 1 ∧ c = -2) ∨ (v = nI 2 ∧ c = -3)) : StOk 2 v ∧ c = tau 2 v := by
  rcases h with ⟨rfl, rfl⟩ | ⟨rfl, rfl⟩ | ⟨rfl, rfl⟩
  · exact ⟨Or.inr (Or.inl ⟨rfl, 0, by decide, rfl⟩), by decide⟩
  · exact ⟨Or.inr (Or.inl ⟨rfl, 1, by decide, rfl⟩), by decide⟩
  · exact ⟨Or.inr (Or.inl ⟨rfl, 2, by decide, rfl⟩), by decide⟩
section
variable {α₀ ρ₀ α ρ : Af} {t u m h n : Nat}
theorem num_ok (hb : Bs α₀ ρ₀ t u) : ∀ (j k w i : Nat) (α ρ : Af) (h n : Nat), Ts α₀ ρ₀ t m h n α ρ → k + j = 4 → w + 1 ≤ 10 ^ k → ∃ h' w', Ts α₀ ρ₀ t m h' n (q_num j (nI w) α).2 (r_numL j i (nI w) ρ).2.2 ∧ (q_num j (nI w) α).1 = nI w' ∧ (r_numL j i (nI w) ρ).2.1 = nI w' ∧ w' ≤ 9999 ∧ h ≤ h' ∧ i ≤ (r_numL j i (nI w) ρ).1 ∧ (r_numL j i (nI w) ρ).2.2 mAct = ρ mAct
  | 0, k, w, i, α, ρ, h, n, T, hk, hw => by
    have e : k = 4 := by omega
    rw [e] at hw
    exact ⟨h, w, T, rfl, rfl, by omega, Nat.le_refl h, Nat.le_refl i, rfl⟩
  | j + 1, k, w, i, α, ρ, h, n, T, hk, hw => by
    have w9 : w ≤ 9999 := by
      have : 10 ^ k ≤ 10 ^ 4 := Nat.pow_le_pow_right (by decide) (by omega)
      omega
    simp only [q_num, r_numL]
    rcases T.look hb with ⟨hlt, b, hb2, e1, e2⟩ | ⟨-, e1, e2⟩
    · rw [e1, e2, dig_eq b hb2]
      by_cases c : q_isDigit (nI b) = true
      · rw [if_pos c, if_pos c]
        obtain ⟨d1, d2⟩ := dig_in b hb2 c
        have a1 : nI w * 10 + (nI b - 48) = nI (w * 10 + (b - 48)) := by
          rw [show (48 : Int32) = nI 48 from rfl, pk_sub (a := b) (b := 48) d1, show (10 : Int32) = nI 10 from rfl, pk_mul, nI_add]
        have a2 : 10 * nI w + nI b - 48 = nI (w * 10 + (b - 48)) := by
          rw [show (10 : Int32) = nI 10 from rfl, pk_mul, nI_add, show (48 : Int32) = nI 48 from rfl, pk_sub (a := 10 * w + b) (b := 48) (by omega), show 10 * w + b - 48 = w * 10 + (b - 48) by omega]
        rw [a1, a2]
        obtain ⟨h', w', r1, r2, r3, r4, r5, r6, r7⟩ := num_ok hb j (k + 1) (w * 10 + (b - 48)) (i + 1) _ _ (h + 1) n (T.adv hlt) (by omega) (by rw [Nat.pow_succ]; omega)
        exact ⟨h', w', r1, r2, r3, r4, by omega, by omega, by rw [r7]; exact up_ne (by decide)⟩
      · rw [if_neg c, if_neg c]
        exact ⟨h, w, T, rfl, rfl, w9, Nat.le_refl h, Nat.le_refl i, rfl⟩
    · rw [e1, e2, if_neg (by decide), if_neg (by decide)]
      exact ⟨h, w, T, rfl, rfl, w9, Nat.le_refl h, Nat.le_refl i, rfl⟩
theorem Ts.m15 (T : Ts α₀ ρ₀ t m h n α ρ) : Ts α₀ ρ₀ t m h n α (up ρ idM 15 0) := by
  obtain ⟨f, ⟨h1, h2, h3⟩, ⟨n1, n2, n3, c1, c2⟩, e14, e15⟩ := T
  refine ⟨f.M (by decide), ⟨h1, h2, by rw [up_ne2 (by decide)]; exact h3⟩, ⟨n1, n2, by rw [up_ne2 (by decide)]; exact n3, ?_, ?_⟩, by rw [up_ne2 (by decide)]; exact e14, up_eq⟩
  · rw [up_ne (by decide), up_ne (by decide)]; exact c1
  · rw [up_ne (by decide)]; exact c2
theorem number_ok {b : Nat} (hb : Bs α₀ ρ₀ t u) (T : Ts α₀ ρ₀ t m h n α ρ) (hlt : h < t) (hb2 : b < 256) (e1 : q_ahead α = nI b) (e2 : r_look ρ = nI b) (c : q_isDigit (nI b) = true) : Okk α₀ ρ₀ t m h n (dp (ρ mAct) n) (true, q_number α) (r_number ρ) := by
  obtain ⟨d1, d2⟩ := dig_in b hb2 c
  have a0 : (48 : Int32) = nI 48 := rfl
  have q4 : q_num 4 0 α = q_num 3 (nI (b - 48)) (q_step α) := by
    simp only [q_num]
    rw [e1, if_pos c, a0, pk_sub (a := b) (b := 48) d1, show (0 : Int32) * 10 + nI (b - 48) = nI (b - 48) by rw [show (0 : Int32) * 10 = nI 0 from by decide, nI_add, Nat.zero_add]]
  have r4 : r_numL 4 0 0 ρ = r_numL 3 1 (nI (b - 48)) (r_adv ρ) := by
    simp only [r_numL]
    rw [e2, dig_eq b hb2, if_pos c, a0, show (10 : Int32) * 0 + nI b = nI b by rw [show (10 : Int32) * 0 = nI 0 from by decide, nI_add, Nat.zero_add], pk_sub (a := b) (b := 48) d1]
  obtain ⟨h', w', s1, s2, s3, s4, s5, s6, s7⟩ := num_ok hb 3 1 (b - 48) 1 _ _ (h + 1) n (T.adv hlt) rfl (by omega)
  have k1 := T.2.2.1.1
  unfold q_number r_number r_numB
  rw [q4, r4, s2, s3, if_neg (by omega)]
  obtain ⟨T3, e3⟩ := s1.m15.make (x := 1) (v := nI w') (c := nI w') hb.1 (by omega) (Or.inl ⟨rfl, w', s4, rfl⟩) rfl (fun q => absurd q (by decide)) (fun q => absurd rfl q)
  rw [if_pos (Or.inl rfl), up_ne (by decide), s7, show r_adv ρ mAct = ρ mAct from up_ne (by decide)] at e3
  exact Or.inl ⟨rfl, h', n + 1, T3, by omega, by omega, e3⟩
theorem number_no (T : Ts α₀ ρ₀ t m h n α ρ) (c : ¬ q_within (r_look ρ) 48 57 = true) : Fl α₀ ρ₀ t α (r_number ρ) := by
  have e : r_numL 4 0 0 ρ = (0, 0, ρ) := by simp only [r_numL]; rw [if_neg c]
  unfold r_number r_numB
  rw [e]
  exact (T.fail (v := 1) (by decide)).stp
theorem nm_u (hb : Bs α₀ ρ₀ t u) (T : Ts α₀ ρ₀ t m h n α ρ) : q_nm α = u ∧ ρ idM 16 = nI u := by
  refine ⟨?_, (T.1.2.2.2.2 16 (by decide)).trans hb.2.2.2.2.2.2⟩
  unfold q_nm
  rw [T.1.2.2.1, hb.2.2.2.2.2.1]
  have := hb.2.1
  rcases (show u = 0 ∨ u = 1 by omega) with rfl | rfl <;> decide
theorem plain_ok (hb : Bs α₀ ρ₀ t u) (T : Ts α₀ ρ₀ t m h n α ρ) : Okk α₀ ρ₀ t m h n (dp (ρ mAct) n) (q_plain α) (if r_name (ρ idM 16) (r_look ρ) < 0 then r_number ρ else r_named ρ) := by
  obtain ⟨u1, u2⟩ := nm_u hb T
  have hu := hb.2.1
  have k1 := T.2.2.1.1
  unfold q_plain r_named
  rw [u1, u2]
  rcases T.look hb with ⟨hlt, b, hb2, e1, e2⟩ | ⟨-, e1, e2⟩
  · rw [e1, e2]
    by_cases c : q_isDigit (nI b) = true
    · rw [if_pos c, if_pos (nm_out u hu b hb2 (fun q => by rw [(nm_in u hu b hb2 q).2.1] at c; cases c))]
      exact number_ok hb T hlt hb2 e1 e2 c
    · rw [if_neg c]
      by_cases c2 : 0 ≤ q_ix u (nI b)
      · obtain ⟨-, -, g3, g4⟩ := nm_in u hu b hb2 c2
        obtain ⟨t1, t2⟩ := nm_tau g4
        rw [if_pos c2, if_neg g3]
        obtain ⟨T3, e3⟩ := (T.adv hlt).make (x := 2) hb.1 (by omega) t1 t2 (fun q => absurd q (by decide)) (fun _ q => absurd rfl q)
        rw [if_pos (Or.inr rfl), show r_adv ρ mAct = ρ mAct from up_ne (by decide)] at e3
        exact Or.inl ⟨rfl, h + 1, n + 1, T3, by omega, by omega, e3⟩
      · rw [if_neg c2, if_pos (nm_out u hu b hb2 c2)]
        exact Or.inr ⟨rfl, number_no T (by rw [e2, dig_eq b hb2]; exact c)⟩
  · rw [e1, e2, if_neg (by decide), if_neg (nm_end u hu).1, if_pos (nm_end u hu).2]
    exact Or.inr ⟨rfl, number_no T (by rw [e2]; decide)⟩
theorem open_b (hb : Bs α₀ ρ₀ t u) (T : Ts α₀ ρ₀ t m h n α ρ) (c : q_isOpen (q_ahead α) = true) : h < t ∧ q_isOpen (r_look ρ) = true ∧ r_name (ρ idM 16) (r_look ρ) < 0 ∧ q_ahead α = r_look ρ := by
  obtain ⟨u1, u2⟩ := nm_u hb T
  have hu := hb.2.1
  rcases T.look hb with ⟨hlt, b, hb2, e1, e2⟩ | ⟨-, e1, e2⟩
  · rw [e1] at c
    rw [e1, e2, u2]
    exact ⟨hlt, c, nm_out u hu b hb2 (fun q => by rw [(nm_in u hu b hb2 q).1] at c; cases c), rfl⟩
  · rw [e1] at c; cases c
theorem open_n (hb : Bs α₀ ρ₀ t u) (T : Ts α₀ ρ₀ t m h n α ρ) (c : ¬ q_isOpen (q_ahead α) = true) : ¬ q_isOpen (r_look ρ) = true := by
  rcases T.look hb with ⟨hlt, b, hb2, e1, e2⟩ | ⟨-, e1, e2⟩
  · rw [e1] at c; rw [e2]; exact c
  · rw [e2]; decide
theorem one_ok (hb : Bs α₀ ρ₀ t u) : ∀ m, m ≤ 5 → Sb α₀ ρ₀ t m (q_one m) (r_one m)
  | 0, _, α, ρ, h, n, T => by
    simp only [q_one, r_one]
    by_cases c : q_isOpen (q_ahead α) = true
    · obtain ⟨-, o1, o2, -⟩ := open_b hb T c
      rw [if_pos c, if_pos o2, if_pos o1]
      exact Or.inr ⟨rfl, T.fail (by decide)⟩
    · rw [if_neg c, if_neg (open_n hb T c)]
      exact plain_ok hb T
  | m + 1, hm, α, ρ, h, n, T => by
    have ih := one_ok hb m (by omega)
    simp only [q_one, r_one]
    by_cases c : q_isOpen (q_ahead α) = true
    · obtain ⟨hlt, o1, o2, o3⟩ := open_b hb T c
      rw [if_pos c, if_pos o2, if_pos o1, o3]
      have k1 := T.2.2.1.1
      have n5 : ¬ ρ idM 14 = 5 := by
        rw [T.2.2.2.1]
        intro q
        have := (nI_eq (a := 5 - (m + 1)) (b := 5) (by omega) (by decide)).mp q
        omega
      have eA : r_opA ρ = r_adv (up ρ idM 14 (nI (5 - m))) := by
        unfold r_opA
        rw [T.2.2.2.1, nI_1, show 5 - (m + 1) + 1 = 5 - m by omega]
      have TA : Ts α₀ ρ₀ t m (h + 1) n (q_step α) (r_opA ρ) := by rw [eA]; exact (T.m14 (m' := m)).adv hlt
      have dA : dp (r_opA ρ mAct) n = dp (ρ mAct) n := by rw [eA]; unfold r_adv; rw [up_ne (by decide), up_ne (by decide)]
      have dcT : ∀ {α' ρ' : Af} {h' n' : Nat}, Ts α₀ ρ₀ t m h' n' α' ρ' → Ts α₀ ρ₀ t (m + 1) h' n' α' (r_dec ρ') ∧ r_dec ρ' mAct = ρ' mAct := by
        intro α' ρ' h' n' T'
        have e : r_dec ρ' = up ρ' idM 14 (nI (5 - (m + 1))) := by
          unfold r_dec
          rw [T'.2.2.2.1, show (1 : Int32) = nI 1 from rfl, pk_sub (a := 5 - m) (b := 1) (by omega), show 5 - m - 1 = 5 - (m + 1) by omega]
        rw [e]
        exact ⟨T'.m14, up_ne (by decide)⟩
      unfold r_opens
      rw [if_neg n5]
      by_cases c33 : r_look ρ = 33
      · rw [if_pos c33, if_pos c33]
        unfold q_not_
        rcases ih _ _ _ _ TA with ⟨s1, h', n', T2, s2, s3, s4⟩ | ⟨s1, F⟩
        · rw [if_pos s1]
          rw [dA] at s4
          obtain ⟨T3, e3⟩ := T2.make (x := 3) (v := 0) (c := -33) hb.1 (by omega) (Or.inr (Or.inr (Or.inl rfl))) (by decide) (fun _ => by omega) (fun _ _ q => absurd rfl q)
          rw [if_neg (by decide), if_pos rfl, s4] at e3
          obtain ⟨T4, e4⟩ := dcT T3
          exact Or.inl ⟨rfl, h', n' + 1, T4, by omega, by omega, by rw [e4]; exact e3⟩
        · rw [if_neg (by rw [s1]; decide)]
          exact Or.inr ⟨rfl, F.stp.m14⟩
      · rw [if_neg c33, if_neg c33]
        unfold q_within_
        rcases (ih.any hb) _ _ _ _ TA with ⟨s1, h', n', T2, s2, s3, s4⟩ | ⟨s1, F⟩
        · rw [if_pos s1]
          rw [dA] at s4
          have e15 := T2.2.2.2.2
          unfold r_clB
          rw [e15, if_pos rfl]
          rcases T2.look hb with ⟨hlt2, b, hb2, e1, e2⟩ | ⟨-, e1, e2⟩
          · rw [e1, e2]
            by_cases c41 : nI b = 41
            · rw [if_pos c41, if_pos c41]
              have e5 : r_clC (up (r_anyP (r_one m) (r_opA ρ)) idM 15 0) = r_adv (up (r_anyP (r_one m) (r_opA ρ)) idM 15 0) := by
                unfold r_clC r_adv
                rw [up_eq, if_pos rfl]
              rw [e5]
              obtain ⟨T4, e4⟩ := dcT (T2.m15.adv hlt2)
              refine Or.inl ⟨rfl, h' + 1, n', T4, by omega, by omega, ?_⟩
              rw [e4, show r_adv (up (r_anyP (r_one m) (r_opA ρ)) idM 15 0) mAct = r_anyP (r_one m) (r_opA ρ) mAct from by unfold r_adv; rw [up_ne (by decide), up_ne (by decide)]]
              exact s4
            · rw [if_neg c41, if_neg c41]
              have F := T2.fail (v := 1) (by decide)
              refine Or.inr ⟨rfl, ?_⟩
              have e5 : r_clC (up (r_anyP (r_one m) (r_opA ρ)) idM 15 1) = up (up (r_anyP (r_one m) (r_opA ρ)) idM 15 1) idM 13 (nI h') := by
                unfold r_clC
                rw [up_eq, if_neg (by decide), up_ne2 (by decide), T2.2.1.2.2, Int32.add_zero]
              rw [e5]
              have F2 : Fl α₀ ρ₀ t (q_anyP (q_one m) (q_step α)).2 (up (up (r_anyP (r_one m) (r_opA ρ)) idM 15 1) idM 13 (nI h')) := ⟨F.1.M (by decide), ⟨h', T2.2.1.1, T2.2.1.2.1, up_eq⟩, by rw [up_ne2 (by decide)]; exact F.2.2⟩
              exact F2.m14
          · rw [e1, e2, if_neg (by decide), if_neg (by decide)]
            have F := T2.fail (v := 1) (by decide)
            refine Or.inr ⟨rfl, ?_⟩
            have e5 : r_clC (up (r_anyP (r_one m) (r_opA ρ)) idM 15 1) = up (up (r_anyP (r_one m) (r_opA ρ)) idM 15 1) idM 13 (nI h') := by
              unfold r_clC
              rw [up_eq, if_neg (by decide), up_ne2 (by decide), T2.2.1.2.2, Int32.add_zero]
            rw [e5]
            have F2 : Fl α₀ ρ₀ t (q_anyP (q_one m) (q_step α)).2 (up (up (r_anyP (r_one m) (r_opA ρ)) idM 15 1) idM 13 (nI h')) := ⟨F.1.M (by decide), ⟨h', T2.2.1.1, T2.2.1.2.1, up_eq⟩, by rw [up_ne2 (by decide)]; exact F.2.2⟩
            exact F2.m14
        · rw [if_neg (by rw [s1]; decide)]
          obtain ⟨f, ⟨h', p1, p2, p3⟩, e⟩ := F
          refine Or.inr ⟨rfl, ?_⟩
          have e5 : r_clC (r_clB (r_anyP (r_one m) (r_opA ρ))) = up (up (r_anyP (r_one m) (r_opA ρ)) idM 15 1) idM 13 (nI h') := by
            unfold r_clC r_clB
            rw [if_neg e, up_eq, if_neg (by decide), up_ne2 (by decide), p3, Int32.add_zero]
          rw [e5]
          have F2 : Fl α₀ ρ₀ t (q_anyP (q_one m) (q_step α)).2 (up (up (r_anyP (r_one m) (r_opA ρ)) idM 15 1) idM 13 (nI h')) := ⟨(f.M (by decide)).M (by decide), ⟨h', p1, p2, up_eq⟩, by rw [up_ne2 (by decide), up_eq]; decide⟩
          exact F2.m14
    · rw [if_neg c, if_neg (open_n hb T c)]
      exact plain_ok hb T
end
