/-! ## text -/
theorem held_60 : ∀ n, n ≤ 60 → q_held (nI n) 0 60 = nI n := by decide +kernel
theorem r_t0_ne {ρ : Af} {v : Int32} {i : Nat} (hi : i ≠ idM) : r_t0 ρ v i = ρ i := by unfold r_t0; rw [up_ne hi, up_ne hi, up_ne hi, up_ne hi, up_ne hi]
theorem r_t0_M {ρ : Af} {v : Int32} {j : Nat} (hj : j < 12 ∨ 16 < j) : r_t0 ρ v idM j = ρ idM j := by unfold r_t0; rw [up_ne2 (by omega), up_ne2 (by omega), up_ne2 (by omega), up_ne2 (by omega), up_ne2 (by omega)]
theorem readsA_ne {α : Af} {e : Nat} {len use : Int32} {i : Nat} (h1 : i ≠ idR) (h2 : i ≠ idRb) : q_readsA α e len use i = α i := by
  simp only [q_readsA]
  rw [up_ne h1, up_ne h1, up_ne h1, upR_ne h2, up_ne h1]
theorem readsA_Rb {α : Af} {use : Int32} {t j : Nat} (ht : t ≤ 60) : q_readsA α 0 (nI t) use idRb j = if j < t then α (idTp 0) j else α idRb j := by
  simp only [q_readsA]
  rw [up_ne (by decide), up_ne (by decide), up_ne (by decide), upR_eq, up_eq, up_ne (show idTp 0 ≠ idR by decide), up_ne (show idRb ≠ idR by decide), held_60 t ht, nI_clamp (by omega)]
  unfold va_cpy
  rw [show (0 : Int32).toNatClampNeg = 0 by decide]
  by_cases c : j < t
  · rw [if_pos c, if_pos ⟨Nat.zero_le j, by omega⟩, show 0 + (j - 0) = j by omega]
  · rw [if_neg c, if_neg (by omega)]
theorem text_base {α ρ : Af} {n d u t : Nat} (hq : Qq α ρ n d) (hu : u < 2) (ht : ρ mRow 7 = nI t) (h60 : t ≤ 60) : Bs (q_readsA α 0 (nI t) (nI u)) (r_t0 ρ (nI u)) t u ∧ Ts (q_readsA α 0 (nI t) (nI u)) (r_t0 ρ (nI u)) t 5 0 0 (q_readsA α 0 (nI t) (nI u)) (r_t0 ρ (nI u)) := by
  obtain ⟨t', a1, a2, a3⟩ := hq.2.1.2.2.2.2.1
  have et : t' = t := (nI_eq (a := t') (b := t) (by omega) (by omega)).mp (a2.symm.trans ht)
  subst et
  refine ⟨⟨h60, hu, ?_, by rw [r_t0_ne (by decide)]; exact ht, fun j hj => ?_, ?_, ?_⟩, ⟨fun _ _ _ => rfl, rfl, rfl, fun _ _ _ _ => rfl, fun _ _ => rfl⟩, ⟨Nat.zero_le _, ?_, ?_⟩, ⟨Nat.le_refl 0, ?_, ?_, fun i hi => absurd hi (Nat.not_lt_zero i), fun i hi => absurd hi (Nat.not_lt_zero i)⟩, ?_, ?_⟩
  · simp only [q_readsA]
    rw [up_ne2 (by decide), up_ne2 (by decide), up_ne2 (by decide), upR_ne (by decide), up_eq, held_60 t' h60]
  · rw [readsA_Rb h60, if_pos hj, r_t0_ne (by decide)]
    exact a3 j hj
  · simp only [q_readsA]
    rw [up_ne2 (by decide), up_ne2 (by decide), up_eq]
  · unfold r_t0
    rw [up_ne2 (by decide), up_ne2 (by decide), up_ne2 (by decide), up_ne2 (by decide), up_eq]
  · simp only [q_readsA]
    rw [up_eq]; rfl
  · unfold r_t0
    rw [up_ne2 (by decide), up_ne2 (by decide), up_eq]; rfl
  · simp only [q_readsA]
    rw [up_ne2 (by decide), up_eq]; rfl
  · unfold r_t0
    rw [up_ne2 (by decide), up_ne2 (by decide), up_ne2 (by decide), up_eq]; rfl
  · unfold r_t0
    rw [up_ne2 (by decide), up_eq]; rfl
  · unfold r_t0
    rw [up_eq]
theorem text_R {α ρ α' ρ' : Af} {n d u : Nat} (hq : Qq α ρ n d) (hu : u < 2) (ha : ∀ i, i ≠ idR → i ≠ idRc → i ≠ idRb → i ≠ idD 0 → i ≠ idL 0 u → i ≠ idLc 0 u → α' i = α i) (hD : ∀ j, j ≠ 10 → α' (idD 0) j = α (idD 0) j) (h10 : α' (idD 0) 10 = 0) (hr : ∀ k, k < 156 → k ≠ 7 → ρ' mRow k = ρ mRow k) (h7 : ρ' mRow 7 = 0) (hM : ∀ i, i ≠ idM → i ≠ mAct → i ≠ mWith → i ≠ mRow → ρ' i = ρ i) (h3 : ρ' idM 3 = ρ idM 3) (h19 : ρ' idM 19 = ρ idM 19) (hl : LwsR α' 0 (ρ' mRow)) (hi : IC0 α') : R α' ρ' := by
  refine hq.1.row (n := n) ⟨hq.2.1.mk' (fun j a _ => hD j a) (h10.trans h7.symm) ?_ (fun v hv => ha _ (by unfold idS idR; omega) (by unfold idS idRc; omega) (by unfold idS idRb; omega) (by unfold idS idD; omega) (by unfold idS idL; omega) (by unfold idS idLc; omega)) (fun k hk a _ => hr k (by omega) a) hl ⟨0, by decide, h7, fun j hj => absurd hj (Nat.not_lt_zero j)⟩ (hq.2.1.2.2.2.2.2.1.of (fun j _ => by rw [ha _ (by decide) (by decide) (by decide) (by decide) (by unfold idWt idL; omega) (by unfold idWt idLc; omega)]) (hr 8 (by decide) (by decide)) (fun k hk hk2 => hr k (by omega) (by omega))), d, hq.2.2.2, by rw [hr 0 (by decide) (by decide)]; exact hq.2.2.1⟩ hi (fun i hi => ?_) h3 h19 (fun i hi => ?_)
  · rw [hD 12 (by decide), hr 8 (by decide) (by decide)]; exact hq.2.1.2.1.2.2.2.2.2.2.2.2
  · unfold Kc at hi
    exact ha i (by unfold idR; omega) (by unfold idRc; omega) (by unfold idRb; omega) (by unfold idD; omega) (by unfold idL; omega) (by unfold idLc; omega)
  · rcases hi with rfl | rfl | rfl | rfl | rfl | rfl <;> exact hM _ (by decide) (by decide) (by decide) (by decide)
theorem r_lay_at {E : Af} {u : Nat} : ∀ n, n ≤ 60 → ∀ k, r_lay E u n mRow k = if k = aU u then E idM 12 else if aU u + 1 ≤ k ∧ k < aU u + 1 + n then E mAct (k - (aU u + 1)) else if aU u + 61 ≤ k ∧ k < aU u + 61 + n then E mWith (k - (aU u + 61)) else E mRow k
  | 0, _, k => by
    simp only [r_lay]
    rw [up_at]
    by_cases c : k = aU u
    · rw [if_pos c, if_pos c]
    · rw [if_neg c, if_neg c, if_neg (by omega), if_neg (by omega)]
  | n + 1, hn, k => by
    simp only [r_lay]
    have ih := r_lay_at (E := E) (u := u) n (by omega) k
    have eA : r_lay E u n mAct = E mAct := r_lay_ne (by decide) n
    have eW : up (r_lay E u n) mRow (aU u + 1 + n) (r_lay E u n mAct n) mWith = E mWith := by rw [up_ne (by decide)]; exact r_lay_ne (by decide) n
    rw [up_at, up_at, eW, eA, ih]
    by_cases c1 : k = aU u + 61 + n
    · rw [if_pos c1, if_neg (by omega), if_neg (by omega), if_pos (by omega), c1, show aU u + 61 + n - (aU u + 61) = n by omega]
    · rw [if_neg c1]
      by_cases c2 : k = aU u + 1 + n
      · rw [if_pos c2, if_neg (by omega), if_pos (by omega), c2, show aU u + 1 + n - (aU u + 1) = n by omega]
      · rw [if_neg c2]
        by_cases c3 : k = aU u
        · rw [if_pos c3, if_pos c3]
        · rw [if_neg c3, if_neg c3]
          have n4 : (aU u + 1 ≤ k ∧ k < aU u + 1 + (n + 1)) ↔ (aU u + 1 ≤ k ∧ k < aU u + 1 + n) := by omega
          have n5 : (aU u + 61 ≤ k ∧ k < aU u + 61 + (n + 1)) ↔ (aU u + 61 ≤ k ∧ k < aU u + 61 + n) := by omega
          simp only [n4, n5]
theorem write_at {α : Af} {u n : Nat} (hn : n ≤ 60) : (∀ i, i ≠ idL 0 u → i ≠ idLc 0 u → q_write α 0 u idRc (nI n) i = α i) ∧ q_write α 0 u idRc (nI n) (idL 0 u) 0 = 1 ∧ q_write α 0 u idRc (nI n) (idL 0 u) 1 = nI n ∧ (u < 2 → ∀ j, j < n → q_write α 0 u idRc (nI n) (idLc 0 u) j = α idRc j) := by
  simp only [q_write]
  refine ⟨fun i h1 h2 => by rw [up_ne h1, upR_ne h2, up_ne h1], up_eq, ?_, fun hu j hj => ?_⟩
  · rw [up_ne2 (by decide), upR_ne (by unfold idL idLc; omega), up_eq, held_60 n hn]
  · rw [up_ne (show idLc 0 u ≠ idL 0 u by unfold idL idLc; omega), upR_eq, up_eq, held_60 n hn, nI_clamp (by omega), up_ne (show idRc ≠ idL 0 u by unfold idL idRc; omega)]
    unfold va_cpy
    rw [show (0 : Int32).toNatClampNeg = 0 by decide, if_pos ⟨Nat.zero_le j, by omega⟩, show 0 + (j - 0) = j by omega]
theorem e_text {α ρ : Af} {use : Int32} (h : R α ρ) : f_text α use = (r_textV ρ use, (f_text α use).2) ∧ R (f_text α use).2 (r_textS ρ use) := by
  obtain ⟨n, d, hq⟩ := h.q
  obtain ⟨t, h60, t1, -⟩ := id hq.2.1.2.2.2.2.1
  have e10 : α (idD 0) 10 = nI t := hq.2.1.2.1.2.2.2.2.2.2.2.1.trans t1
  have hi0 := h.2.2.2.2.2
  unfold f_text r_textV r_textS
  by_cases c1 : q_within use 0 1 = true
  · rw [if_pos c1, if_pos c1, if_pos (show q_isUse use = true from c1)]
    obtain ⟨u, -, hu', rfl⟩ := wi_of (v := use) (a := 0) (b := 1) rfl rfl (by decide) (by decide) c1
    have hu : u < 2 := by omega
    rw [nI_clamp (show u < 2 ^ 31 by omega)]
    obtain ⟨hb, T0⟩ := text_base hq hu t1 h60
    have key : Okk (q_readsA α 0 (nI t) (nI u)) (r_t0 ρ (nI u)) t 5 0 0 0 (q_anyP (q_one 5) (q_readsA α 0 (nI t) (nI u))) (r_t1 ρ (nI u)) := ((one_ok hb 5 (by decide)).any hb) _ _ 0 0 T0
    unfold q_txR q_readsB
    rw [e10]
    have eqA : ∀ i, i ≠ idR → i ≠ idRb → q_readsA α 0 (nI t) (nI u) i = α i := fun i a b => readsA_ne a b
    have eqRb : ∀ j, q_readsA α 0 (nI t) (nI u) idRb j = if j < t then α (idTp 0) j else α idRb j := fun j => readsA_Rb h60
    have eqB : ∀ i, i ≠ idM → r_t0 ρ (nI u) i = ρ i := fun i hi => r_t0_ne hi
    have eqM : ∀ j, j < 12 ∨ 16 < j → r_t0 ρ (nI u) idM j = ρ idM j := fun j hj => r_t0_M hj
    have e3 : r_t3 ρ (nI u) = up (r_t2 (r_t1 ρ (nI u))) mRow 7 0 := rfl
    rw [e3]
    generalize q_anyP (q_one 5) (q_readsA α 0 (nI t) (nI u)) = r at key
    generalize r_t1 ρ (nI u) = B at key
    generalize q_readsA α 0 (nI t) (nI u) = A at hb T0 key eqA eqRb
    generalize r_t0 ρ (nI u) = B0 at hb T0 key eqB eqM
    have frame : ∀ {v : Int32}, Fr A B0 r.2 B → (∀ i, i ≠ idR → i ≠ idRc → i ≠ idRb → i ≠ idD 0 → up r.2 (idD 0) 10 0 i = α i) ∧ (∀ j, j ≠ 10 → up r.2 (idD 0) 10 0 (idD 0) j = α (idD 0) j) ∧ (∀ k, k ≠ 7 → up (up B idM 15 v) mRow 7 0 mRow k = ρ mRow k) ∧ (∀ i, i ≠ idM → i ≠ mAct → i ≠ mWith → i ≠ mRow → up (up B idM 15 v) mRow 7 0 i = ρ i) ∧ up (up B idM 15 v) mRow 7 0 idM 3 = ρ idM 3 ∧ up (up B idM 15 v) mRow 7 0 idM 19 = ρ idM 19 ∧ (∀ j, j < 60 → Ch (up r.2 (idD 0) 10 0 idRb j)) := by
      intro v f
      refine ⟨fun i a b c e => by rw [up_ne e, f.1 i a b, eqA i a c], fun j hj => by rw [up_ne2 hj, f.1 _ (by decide) (by decide), eqA _ (by decide) (by decide)], fun k hk => by rw [up_ne2 hk, up_ne (by decide), f.2.2.2.1 _ (by decide) (by decide) (by decide), eqB _ (by decide)], fun i a b c e => by rw [up_ne e, up_ne a, f.2.2.2.1 i a b c, eqB i a], ?_, ?_, fun j hj => ?_⟩
      · rw [up_ne (by decide), up_ne2 (by decide), f.2.2.2.2 3 (by decide), eqM 3 (by decide)]
      · rw [up_ne (by decide), up_ne2 (by decide), f.2.2.2.2 19 (by decide), eqM 19 (by decide)]
      · rw [up_ne (by decide), f.1 _ (by decide) (by decide), eqRb]
        split
        · exact hi0.2.2.2 0 (by decide) j hj
        · exact hi0.2.2.1 j hj
    have bad : ∀ {v : Int32}, Fr A B0 r.2 B → R (up r.2 (idD 0) 10 0) (up (up B idM 15 v) mRow 7 0) := by
      intro v f
      obtain ⟨fa, fD, fr, fM, f3, f19, fb⟩ := frame (v := v) f
      refine text_R hq hu (fun i a b c e _ _ => fa i a b c e) fD up_eq (fun k _ hk => fr k hk) up_eq fM f3 f19 ?_ ?_
      · exact hq.2.1.2.2.2.1.of (fun v hv => by rw [fa _ (by unfold idL idR; omega) (by unfold idL idRc; omega) (by unfold idL idRb; omega) (by unfold idL idD; omega), fa _ (by unfold idLc idR; omega) (by unfold idLc idRc; omega) (by unfold idLc idRb; omega) (by unfold idLc idD; omega)]; exact ⟨rfl, rfl, fun _ _ => rfl⟩) (fun k hk _ => fr k (by omega))
      · obtain ⟨i1, i2, i3, i4⟩ := hi0
        exact ⟨fun e he v hv => by rw [fa _ (by unfold idL idR; omega) (by unfold idL idRc; omega) (by unfold idL idRb; omega) (by unfold idL idD; omega)]; exact i1 e he v hv, fun e he v hv => by rw [fa _ (by unfold idS idR; omega) (by unfold idS idRc; omega) (by unfold idS idRb; omega) (by unfold idS idD; omega)]; exact i2 e he v hv, fb, fun e he j hj => by rw [fa _ (by unfold idTp idR; omega) (by unfold idTp idRc; omega) (by unfold idTp idRb; omega) (by unfold idTp idD; omega)]; exact i4 e he j hj⟩
    rcases key with ⟨s1, h', n', T, -, -, sd⟩ | ⟨s1, f, ⟨h', p1, p2, p3⟩, e15⟩
    · have f := T.1
      have eR2 : r.2 idR 2 = nI h' := T.2.1.2.1
      have eR4 : r.2 idR 4 = nI t := f.2.1.trans hb.2.2.1
      have eB7 : B mRow 7 = nI t := (by rw [f.2.2.2.1 _ (by decide) (by decide) (by decide)]; exact hb.2.2.2.1)
      have eB13 : B idM 13 = nI h' := T.2.1.2.2
      have p1 := T.2.1.1
      unfold r_t2
      rw [if_pos s1, eR2, eR4, T.2.2.2.2, if_pos rfl, eB7, eB13]
      by_cases c2 : h' = t
      · subst c2
        rw [if_pos rfl, if_pos rfl, if_pos (show nI h' ≤ nI h' from Int32.le_refl _), up_ne (show idM ≠ mRow by decide), up_eq, if_pos rfl, if_pos rfl]
        refine ⟨rfl, ?_⟩
        obtain ⟨fa, fD, fr, fM, f3, f19, fb⟩ := frame (v := 0) f
        have n60 : n' ≤ 60 := by have := T.2.2.1.1; omega
        have eR1 : up r.2 (idD 0) 10 0 idR 1 = nI n' := by rw [up_ne (by decide)]; exact T.2.2.1.2.1
        have eM12 : up (up B idM 15 0) mRow 7 0 idM 12 = nI n' := by rw [up_ne (by decide), up_ne2 (by decide)]; exact T.2.2.1.2.2.1
        have gA : up (up B idM 15 0) mRow 7 0 mAct = B mAct := by rw [up_ne (by decide), up_ne (by decide)]
        have gW : up (up B idM 15 0) mRow 7 0 mWith = B mWith := by rw [up_ne (by decide), up_ne (by decide)]
        have gC : up r.2 (idD 0) 10 0 idRc = r.2 idRc := up_ne (by decide)
        obtain ⟨cd1, cd2⟩ := T.2.2.1.2.2.2
        dsimp only
        rw [eR1, show up B idM 15 0 idM 12 = nI n' by rw [up_ne2 (by decide)]; exact T.2.2.1.2.2.1, nI_clamp (by omega)]
        generalize hA1 : up r.2 (idD 0) 10 0 = A1 at fa fD fb gC eR1 ⊢
        generalize hB1 : up (up B idM 15 0) mRow 7 0 = B1 at fr fM f3 f19 gA gW eM12 ⊢
        have z7 : B1 mRow 7 = 0 := by rw [← hB1]; exact up_eq
        have z10 : A1 (idD 0) 10 = 0 := by rw [← hA1]; exact up_eq
        obtain ⟨w1, w2, w3, w4⟩ := write_at (α := A1) (u := u) n60
        have w4 := w4 hu
        have lr := r_lay_at (E := B1) (u := u) n' n60
        have la : 156 ≤ aU u := by unfold aU; omega
        have nL : idL 0 u ≠ idD 0 := by unfold idL idD; omega
        have nLc : idLc 0 u ≠ idD 0 := by unfold idLc idD; omega
        refine text_R hq hu (fun i a b c e k1 k2 => by rw [w1 i k1 k2]; exact fa i a b c e) (fun j hj => by rw [w1 _ nL.symm nLc.symm]; exact fD j hj) (by rw [w1 _ nL.symm nLc.symm]; exact z10) (fun k hk hk7 => by rw [lr, if_neg (by omega), if_neg (by omega), if_neg (by omega)]; exact fr k hk7) (by rw [lr, if_neg (by omega), if_neg (by omega), if_neg (by omega)]; exact z7) (fun i a b c e => by rw [r_lay_ne e]; exact fM i a b c e) (by rw [r_lay_ne (by decide)]; exact f3) (by rw [r_lay_ne (by decide)]; exact f19) ?_ ?_
        · intro v hv
          by_cases e : v = u
          · subst e
            refine Or.inr ⟨w2, n', ?_, n60, w3, ?_, fun i hi => ?_, ?_⟩
            · rcases Nat.eq_zero_or_pos n' with q | q
              · rw [q] at sd; exact absurd sd (by simp [dp])
              · exact q
            · rw [lr, if_pos rfl]; exact eM12
            · show StOk (r_lay B1 v n' mRow (aU v + 1 + i)) (r_lay B1 v n' mRow (aU v + 61 + i)) ∧ _ = tau (r_lay B1 v n' mRow (aU v + 1 + i)) (r_lay B1 v n' mRow (aU v + 61 + i))
              rw [lr, lr, if_neg (by omega), if_pos (by omega), if_neg (by omega), if_neg (by omega), if_pos (by omega), gA, gW, show aU v + 1 + i - (aU v + 1) = i by omega, show aU v + 61 + i - (aU v + 61) = i by omega, w4 i hi, gC]
              exact cd1 i hi
            · exact Vd_of (act0 := B mAct) (wit0 := B mWith) n60 (fun i hi => by rw [lr, if_neg (by omega), if_pos (by omega), gA, show aU v + 1 + i - (aU v + 1) = i by omega]) (fun i hi => by rw [lr, if_neg (by omega), if_neg (by omega), if_pos (by omega), gW, show aU v + 61 + i - (aU v + 61) = i by omega]) (fun i hi => (cd1 i hi).1) cd2 sd n' 0 (by omega)
          · have far : ∀ k, aU v ≤ k → k < aU v + 121 → r_lay B1 u n' mRow k = ρ mRow k := by
              intro k k1 k2
              have : aU v + 121 ≤ aU u ∨ aU u + 121 ≤ aU v := by unfold aU; omega
              rw [lr, if_neg (by omega), if_neg (by omega), if_neg (by omega)]
              exact fr k (by unfold aU at k1; omega)
            have q1 : q_write A1 0 u idRc (nI n') (idL 0 v) = α (idL 0 v) := by
              rw [w1 _ (by unfold idL; omega) (by unfold idL idLc; omega)]
              exact fa _ (by unfold idL idR; omega) (by unfold idL idRc; omega) (by unfold idL idRb; omega) (by unfold idL idD; omega)
            have q2 : q_write A1 0 u idRc (nI n') (idLc 0 v) = α (idLc 0 v) := by
              rw [w1 _ (by unfold idL idLc; omega) (by unfold idLc; omega)]
              exact fa _ (by unfold idLc idR; omega) (by unfold idLc idRc; omega) (by unfold idLc idRb; omega) (by unfold idLc idD; omega)
            exact (hq.2.1.2.2.2.1 v hv).congr (by rw [q1]) (by rw [q1]) (fun i _ => by rw [q2]) (far _ (by omega) (by omega)) (fun i hi => far _ (by omega) (by omega)) (fun i hi => far _ (by omega) (by omega))
        · obtain ⟨i1, i2, i3, i4⟩ := hi0
          refine ⟨fun e he v hv => ?_, fun e he v hv => by rw [w1 _ (by unfold idS idL; omega) (by unfold idS idLc; omega), fa _ (by unfold idS idR; omega) (by unfold idS idRc; omega) (by unfold idS idRb; omega) (by unfold idS idD; omega)]; exact i2 e he v hv, fun j hj => by rw [w1 _ (by unfold idRb idL; omega) (by unfold idRb idLc; omega)]; exact fb j hj, fun e he j hj => by rw [w1 _ (by unfold idTp idL; omega) (by unfold idTp idLc; omega), fa _ (by unfold idTp idR; omega) (by unfold idTp idRc; omega) (by unfold idTp idRb; omega) (by unfold idTp idD; omega)]; exact i4 e he j hj⟩
          by_cases q : idL e v = idL 0 u
          · rw [q, w2, w3]
            exact ⟨⟨n', n60, rfl⟩, Or.inr rfl⟩
          · rw [w1 _ q (by unfold idL idLc; omega), fa _ (by unfold idL idR; omega) (by unfold idL idRc; omega) (by unfold idL idRb; omega) (by unfold idL idD; omega)]
            exact i1 e he v hv
      · have n1 : ¬ nI h' = nI t := fun q => c2 ((nI_eq (a := h') (b := t) (by omega) (by omega)).mp q)
        have n2 : ¬ nI t ≤ nI h' := fun q => by have := (nI_leI (a := t) (b := h') (by omega) (by omega)).mp q; omega
        rw [if_neg n1]
        dsimp only
        rw [if_neg (show ¬ false = true by decide), if_neg n2, up_ne (show idM ≠ mRow by decide), up_eq, if_neg (show ¬ (1 : Int32) = 0 by decide), if_neg (show ¬ (1 : Int32) = 0 by decide), up_ne2 (by decide), eB13]
        refine ⟨?_, bad f⟩
        rw [up_ne (by decide), eR2]
    · unfold r_t2
      rw [if_neg (show ¬ r.1 = true by rw [s1]; decide)]
      dsimp only
      rw [if_neg (show ¬ false = true by decide), if_neg e15, up_ne (show idM ≠ mRow by decide), up_eq, if_neg (show ¬ (1 : Int32) = 0 by decide), if_neg (show ¬ (1 : Int32) = 0 by decide), up_ne2 (by decide), p3]
      refine ⟨?_, bad f⟩
      rw [up_ne (by decide), p2]
  · rw [if_neg c1, if_neg c1, if_neg (show ¬ q_isUse use = true from c1)]
    exact ⟨rfl, (h.err (j := 1) (by decide)).2⟩
