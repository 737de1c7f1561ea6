/-! # the class and the reference, side by side -/
def SpOk (g : Nat → Int32) : Prop := (∃ k, k ≤ 6 ∧ g 0 = nI k) ∧ (∃ m, m ≤ 9 ∧ g 1 = nI m) ∧ (∃ a, a < 8 ∧ g 2 = nI a) ∧ (∃ b, b < 8 ∧ g 3 = nI b) ∧ (∃ y, y ≤ 99 ∧ g 4 = nI y) ∧ (∃ x, x ≤ 9 ∧ g 5 = nI x) ∧ (g 6 = 0 ∨ g 6 = 1)
def tau (x v : Int32) : Int32 := if x = 1 then v else if x = 2 then -1 - v else if x = 3 then -33 else -x
def Sg (x : Int32) : Prop := x = 37 ∨ x = 38 ∨ x = 42 ∨ x = 43 ∨ x = 45 ∨ x = 47 ∨ x = 60 ∨ x = 61 ∨ x = 62 ∨ x = 124
def StOk (x v : Int32) : Prop := (x = 1 ∧ ∃ n, n ≤ 9999 ∧ v = nI n) ∨ (x = 2 ∧ ∃ q, q < 3 ∧ v = nI q) ∨ x = 3 ∨ Sg x
/-- a law on both sides -/
def LwR (w : Nat → Int32) (code : Nat → Int32) (len : Int32) (act wit : Nat → Int32) : Prop :=
  (w 0 = 0 ∧ len = 0) ∨ (w 0 = 1 ∧ ∃ n, 1 ≤ n ∧ n ≤ 60 ∧ w 1 = nI n ∧ len = nI n ∧ (∀ i, i < n → StOk (act i) (wit i) ∧ code i = tau (act i) (wit i)) ∧ Vd act wit n 0 0)
theorem held_eq {v lo hi : Int32} (h : lo ≤ hi) : q_held v lo hi = r_held v lo hi := by
  unfold q_held r_held
  have h' := Int32.le_iff_toInt_le.mp h
  by_cases c1 : v < hi
  · rw [if_pos c1]
    have k1 := Int32.lt_iff_toInt_lt.mp c1
    by_cases c2 : lo < v
    · rw [if_pos c2, if_pos (Int32.le_of_lt c2), if_pos (Int32.le_of_lt c1)]
    · rw [if_neg c2]
      have k2 := mt Int32.lt_iff_toInt_lt.mpr c2
      by_cases c3 : lo ≤ v
      · have k3 := Int32.le_iff_toInt_le.mp c3
        rw [if_pos c3, if_pos (Int32.le_of_lt c1)]
        exact Int32.toInt_inj.mp (by omega)
      · rw [if_neg c3]
  · rw [if_neg c1]
    have k1 := mt Int32.lt_iff_toInt_lt.mpr c1
    have c3 : lo ≤ v := Int32.le_iff_toInt_le.mpr (by omega)
    rw [if_pos c3]
    by_cases c4 : v ≤ hi
    · have k4 := Int32.le_iff_toInt_le.mp c4
      have e : v = hi := Int32.toInt_inj.mp (by omega)
      rw [if_pos c4, e]
      by_cases c2 : lo < hi
      · rw [if_pos c2]
      · rw [if_neg c2]
        have k2 := mt Int32.lt_iff_toInt_lt.mpr c2
        exact Int32.toInt_inj.mp (by omega)
    · rw [if_neg c4]
      by_cases c2 : lo < hi
      · rw [if_pos c2]
      · rw [if_neg c2]
        have k2 := mt Int32.lt_iff_toInt_lt.mpr c2
        exact Int32.toInt_inj.mp (by omega)
theorem loaf_eq : ∀ y, y ≤ 99 → ∀ x, x ≤ 9 → (if (0 : Int32) < 20 - 2 * nI y - 3 * nI x then 20 - 2 * nI y - 3 * nI x else 0) = r_held (20 - 2 * nI y - 3 * nI x) 0 20 ∧ ∃ p, p ≤ 20 ∧ r_held (20 - 2 * nI y - 3 * nI x) 0 20 = nI p := by decide +kernel
theorem bri_eq : ∀ p, p ≤ 29 → (if (0 : Int32) < nI p - 8 then nI p - 8 else 0) = r_bri (nI p) := by decide +kernel
theorem ste_eq : ∀ y, y ≤ 99 → (if (8 : Int32) + 2 * nI y < 40 then 8 + 2 * nI y else 40) = r_held (8 + 2 * nI y) 0 40 := by decide +kernel
theorem loaf_p {m y x : Nat} (hm : m ≤ 9) (hy : y ≤ 99) (hx : x ≤ 9) : q_loafB (nI m) (nI y) (nI x) = r_loaf (nI m) (nI y) (nI x) ∧ ∃ p, p ≤ 29 ∧ r_loaf (nI m) (nI y) (nI x) = nI p := by
  obtain ⟨h1, p, h2, h3⟩ := loaf_eq y hy x hx
  unfold q_loafB r_loaf
  refine ⟨by rw [h1], p + m, by omega, by rw [h3, nI_add]⟩
theorem bears_eq {g : Nat → Int32} (h : SpOk g) (day : Int32) : q_bears (g 0) (g 1) (g 4) (g 5) (g 6) day = r_bearsOf (g 0) (g 1) (g 4) (g 5) (g 6) day := by
  obtain ⟨⟨k, hk, e0⟩, ⟨m, hm, e1⟩, -, -, ⟨y, hy, e4⟩, ⟨x, hx, e5⟩, h6⟩ := h
  unfold q_bears r_bearsOf
  rcases h6 with e6 | e6
  · rw [e6, if_pos rfl, if_neg (show ¬ (0 : Int32) = 1 by decide)]
    unfold r_bearsBy q_ryeB q_briB
    rw [e0, e1, e4, e5]
    obtain ⟨l1, p, l2, l3⟩ := loaf_p hm hy hx
    rw [l1, l3, bri_eq p l2, ste_eq y hy]
  · rw [e6, if_neg (show ¬ (1 : Int32) = 0 by decide), if_pos rfl]
theorem takes_eq {g : Nat → Int32} (h : SpOk g) : q_takes (g 0) (g 1) (g 4) = (if g 0 = 1 then 8 + g 1 else if g 0 = 2 then 10 + 2 * g 1 else if g 0 = 3 then 5 + g 1 else if g 0 = 4 then 4 + g 1 else if g 0 = 5 then 10 + 2 * g 1 + jrem (g 4) 3 else if g 0 = 6 then 0 else 5 + g 1) := by
  obtain ⟨-, ⟨m, hm, e1⟩, -⟩ := h
  have key : ∀ m, m ≤ 9 → (5 : Int32) + nI m + 3 = 8 + nI m ∧ 2 * (5 + nI m) = 10 + 2 * nI m ∧ (8 : Int32) + nI m - 4 = 4 + nI m := by decide
  obtain ⟨k1, k2, k3⟩ := key m hm
  unfold q_takes
  rw [e1, k1, k2, k3]
/-! ## the laws at work -/
theorem join_two {x l r : Int32} (h : Sg x) : q_join x l r = r_two x l r := by
  rcases h with rfl | rfl | rfl | rfl | rfl | rfl | rfl | rfl | rfl | rfl <;> unfold q_join r_two q_truth <;> simp (decide := true) only [↓reduceIte]
theorem Sg.neg {x : Int32} (h : Sg x) : -x < -3 ∧ ¬ -x = -33 ∧ - -x = x ∧ ¬ x = 1 ∧ ¬ x = 2 ∧ ¬ x = 3 := by
  rcases h with rfl | rfl | rfl | rfl | rfl | rfl | rfl | rfl | rfl | rfl <;> decide
theorem wk_eq {a b c x v : Int32} {t : Nat} {f : Nat → Int32} (hs : StOk x v) (h1 : x = 1 ∨ x = 2 → t < 60) (h3 : x = 3 → 1 ≤ t) (h2 : ¬ x = 1 → ¬ x = 2 → ¬ x = 3 → 2 ≤ t) : q_wk a b c (tau x v) (t, f) = r_wk (fac a b c) x v (t, f) := by
  rcases hs with ⟨rfl, n, hn, rfl⟩ | ⟨rfl, q, hq, rfl⟩ | rfl | hs
  · have ht := h1 (Or.inl rfl)
    have e1 : tau 1 (nI n) = nI n := if_pos rfl
    have e2 : r_wk (fac a b c) 1 (nI n) (t, f) = (t + 1, upd f t (nI n)) := if_pos rfl
    have n0 : ¬ nI n < 0 := fun h => absurd (nI_pos' (n := n) (by omega)) (fun q => by have k1 := Int32.lt_iff_toInt_lt.mp h; have k2 := Int32.le_iff_toInt_le.mp q; omega)
    have n3 : ¬ nI n < -3 := fun h => n0 (Int32.lt_of_lt_of_le h (by decide))
    rw [e1, e2]
    unfold q_wk
    rw [if_neg n3, if_neg (show ¬ 60 ≤ t by omega), if_neg n0]
  · have ht := h1 (Or.inr rfl)
    have e2 : r_wk (fac a b c) 2 (nI q) (t, f) = (t + 1, upd f t (fac a b c (nI q).toNatClampNeg)) := by unfold r_wk; rw [if_neg (show ¬ (2 : Int32) = 1 by decide), if_pos rfl]
    rw [e2]
    rcases (show q = 0 ∨ q = 1 ∨ q = 2 by omega) with rfl | rfl | rfl
    · rw [show tau 2 (nI 0) = -1 from by decide]
      unfold q_wk
      rw [if_neg (show ¬ (-1 : Int32) < -3 by decide), if_neg (show ¬ 60 ≤ t by omega), if_pos (show (-1 : Int32) < 0 by decide), if_pos rfl]; rfl
    · rw [show tau 2 (nI 1) = -2 from by decide]
      unfold q_wk
      rw [if_neg (show ¬ (-2 : Int32) < -3 by decide), if_neg (show ¬ 60 ≤ t by omega), if_pos (show (-2 : Int32) < 0 by decide), if_neg (show ¬ (-2 : Int32) = -1 by decide), if_pos rfl]; rfl
    · rw [show tau 2 (nI 2) = -3 from by decide]
      unfold q_wk
      rw [if_neg (show ¬ (-3 : Int32) < -3 by decide), if_neg (show ¬ 60 ≤ t by omega), if_pos (show (-3 : Int32) < 0 by decide), if_neg (show ¬ (-3 : Int32) = -1 by decide), if_neg (show ¬ (-3 : Int32) = -2 by decide)]; rfl
  · have ht := h3 rfl
    have e2 : r_wk (fac a b c) 3 v (t, f) = (t, upd f (t - 1) (if f (t - 1) = 0 then 1 else 0)) := by unfold r_wk; rw [if_neg (show ¬ (3 : Int32) = 1 by decide), if_neg (show ¬ (3 : Int32) = 2 by decide), if_pos rfl]
    have e1 : tau 3 v = -33 := by unfold tau; rw [if_neg (show ¬ (3 : Int32) = 1 by decide), if_neg (show ¬ (3 : Int32) = 2 by decide), if_pos rfl]
    rw [e1, e2]
    unfold q_wk
    rw [if_pos (show (-33 : Int32) < -3 by decide), if_pos rfl, if_neg (show ¬ t = 0 by omega)]
    unfold q_truth
    by_cases c : f (t - 1) = 0
    · simp (decide := true) only [c, ↓reduceIte]
    · simp (decide := true) only [c, ↓reduceIte]
  · obtain ⟨k1, k2, k3, k4, k5, k6⟩ := hs.neg
    have ht := h2 k4 k5 k6
    have e1 : tau x v = -x := by unfold tau; rw [if_neg k4, if_neg k5, if_neg k6]
    have e2 : r_wk (fac a b c) x v (t, f) = (t - 1, upd f (t - 2) (r_two x (f (t - 2)) (f (t - 1)))) := by unfold r_wk; rw [if_neg k4, if_neg k5, if_neg k6]
    rw [e1, e2]
    unfold q_wk
    rw [if_pos k1, if_neg k2, if_neg (show ¬ t ≤ 1 by omega), k3, join_two hs]
theorem run_eq {a b c : Int32} {code act wit : Nat → Int32} {n : Nat} (hs : ∀ i, i < n → StOk (act i) (wit i) ∧ code i = tau (act i) (wit i)) : ∀ (j i t : Nat) (f : Nat → Int32), i + j = n → Vd act wit j i t → q_run code a b c j i (t, f) = r_run (fac a b c) act wit j i (t, f)
  | 0, _, _, _, _, _ => rfl
  | j + 1, i, t, f, hi, hv => by
    obtain ⟨s1, s2⟩ := hs i (by omega)
    have hv2 := Vd.step (F := fac a b c) (f := f) hv
    simp only [q_run, r_run]
    rw [s2, wk_eq s1 ?_ hv2.1 hv2.2.1]
    · exact run_eq hs j (i + 1) _ _ (by omega) hv2.2.2
    · intro h
      simp only [Vd] at hv
      rcases h with h | h
      · rw [if_pos h] at hv; exact hv.1
      · have h' : ¬ act i = 1 := by rw [h]; decide
        rw [if_neg h', if_pos h] at hv; exact hv.2.1
theorem work_eq {a b c : Int32} {code act wit : Nat → Int32} {n : Nat} (hs : ∀ i, i < n → StOk (act i) (wit i) ∧ code i = tau (act i) (wit i)) (hv : Vd act wit n 0 0) : q_work code n a b c = (r_run (fac a b c) act wit n 0 (0, fun _ => 0)).2 0 := by
  unfold q_work
  rw [run_eq hs n 0 0 _ (by omega) hv]
  have e := (r_run_agr (F := fac a b c) n 0 0 (fun _ => 0) (fun _ => 0) hv (fun _ _ => rfl)).1
  unfold q_fin
  rw [e]
  rfl
theorem gives_eq {α ρ : Af} {e u : Nat} {a b c : Int32} (hu : u < 2) (h : LwR (α (idL e u)) (α (idLc e u)) (ρ mRow (aU u)) (rAct ρ u) (rWit ρ u)) : q_gives α e (nI u) a b c = r_gives ρ u a b c := by
  have key : (if α (idL e u) 0 = 0 then (if nI u = 1 then a / 10 + 1 else if a ≤ 0 then -1 else 1) else q_work (α (idLc e u)) (α (idL e u) 1).toNatClampNeg a b c) = r_giveV ρ u a b c := by
    unfold r_giveV
    rcases h with ⟨h1, h2⟩ | ⟨h1, n, n1, n60, h2, h3, h4, h5⟩
    · rw [if_pos h1, h2, if_pos (show (0 : Int32) ≤ 0 by decide)]
    · rw [if_neg (by rw [h1]; decide), h2, h3, if_neg (nI_nle n1 (by omega)), nI_clamp (by omega)]
      unfold r_work
      exact work_eq h4 h5
  unfold q_gives r_gives
  rw [← key]
  rcases (show u = 0 ∨ u = 1 by omega) with rfl | rfl
  · rw [if_pos (show nI 0 = 0 from rfl), if_pos (show nI 0 = 0 from rfl)]
    unfold q_soaks
    rw [held_eq (by decide)]
    rfl
  · rw [if_neg (show ¬ nI 1 = 0 by decide), if_neg (show ¬ nI 1 = 0 by decide)]
    unfold q_crumbs
    rw [held_eq (by decide)]
    rfl

/-! ## who gets where: sets of places and of spans -/
theorem bitL {x : Int32} {j : Nat} (hj : j < 9) : (jshr x (nI j) &&& 1 = 1) ↔ x.toBitVec.getLsbD j = true := by
  have key : ∀ j, j < 9 → ((nI j &&& 31 : Int32).toBitVec.smod 32).toNat = j := by decide
  have e1 : (jshr x (nI j)).toBitVec = x.toBitVec.sshiftRight j := by
    unfold jshr
    rw [Int32.toBitVec_shiftRight]
    show x.toBitVec.sshiftRight ((nI j &&& 31 : Int32).toBitVec.smod 32).toNat = _
    rw [key j hj]
  have e2 : (jshr x (nI j) &&& 1 = 1) ↔ (jshr x (nI j)).toBitVec &&& 1#32 = 1#32 := by
    rw [← Int32.toBitVec_inj]
    rfl
  rw [e2, e1]
  constructor
  · intro h
    have h2 := congrArg (fun v => v.getLsbD 0) h
    have h3 : (x.toBitVec.sshiftRight j).getLsbD 0 = true := by
      have h4 : ((x.toBitVec.sshiftRight j) &&& 1#32).getLsbD 0 = (1#32).getLsbD 0 := h2
      rw [BitVec.getLsbD_and] at h4
      have h5 : (1#32).getLsbD 0 = true := by decide
      rw [h5, Bool.and_true] at h4
      exact h4
    rw [BitVec.getLsbD_sshiftRight] at h3
    simpa [show j < 32 by omega] using h3
  · intro h
    apply BitVec.eq_of_getLsbD_eq
    intro i hi
    rw [BitVec.getLsbD_and, BitVec.getLsbD_one]
    by_cases e : i = 0
    · subst e
      simp [BitVec.getLsbD_sshiftRight, show j < 32 by omega, h]
    · simp [e]

theorem bit_or {x y : Int32} {j : Nat} : (x ||| y).toBitVec.getLsbD j = (x.toBitVec.getLsbD j || y.toBitVec.getLsbD j) := by
  rw [Int32.toBitVec_or, BitVec.getLsbD_or]
theorem bit_and {x y : Int32} {j : Nat} : (x &&& y).toBitVec.getLsbD j = (x.toBitVec.getLsbD j && y.toBitVec.getLsbD j) := by
  rw [Int32.toBitVec_and, BitVec.getLsbD_and]
theorem bit_not {x : Int32} {j : Nat} (hj : j < 9) : (x ^^^ (-1)).toBitVec.getLsbD j = !(x.toBitVec.getLsbD j) := by
  have key : ∀ j, j < 9 → (-1 : Int32).toBitVec.getLsbD j = true := by decide
  rw [Int32.toBitVec_xor, BitVec.getLsbD_xor, key j hj]
  cases x.toBitVec.getLsbD j <;> rfl
theorem bit_shl {i j : Nat} (hi : i < 9) (hj : j < 9) : (jshl 1 (nI i)).toBitVec.getLsbD j = decide (i = j) := by
  have key : ∀ i, i < 9 → ∀ j, j < 9 → (jshl 1 (nI i)).toBitVec.getLsbD j = decide (i = j) := by decide
  exact key i hi j hj
/-- the bit of a span in a set -/
def bt (x : Int32) (j : Nat) : Bool := x.toBitVec.getLsbD j
theorem q_bset_bit {α : Af} {e : Nat} {load : Int32} {j : Nat} : ∀ n, n ≤ 9 → j < 9 → bt (q_bset α e load n) j = (decide (j < n) && !decide (q_bearsU α e j < load))
  | 0, _, hj => by
    have key : ∀ j, j < 9 → (0 : Int32).toBitVec.getLsbD j = false := by decide
    show (0 : Int32).toBitVec.getLsbD j = _
    rw [key j hj, decide_eq_false (by omega)]; rfl
  | n + 1, hn, hj => by
    have ih := q_bset_bit (α := α) (e := e) (load := load) (j := j) n (by omega) hj
    simp only [q_bset]
    by_cases c : q_bearsU α e n < load
    · rw [if_pos c, ih]
      by_cases q : j = n
      · subst q; rw [decide_eq_true c, decide_eq_false (show ¬ j < j by omega)]; simp
      · rw [show decide (j < n + 1) = decide (j < n) from by rw [decide_eq_decide]; omega]
    · rw [if_neg c]
      show (q_bset α e load n ||| jshl 1 (nI n)).toBitVec.getLsbD j = _
      rw [bit_or, bit_shl (by omega) hj, show (q_bset α e load n).toBitVec.getLsbD j = _ from ih]
      by_cases q : j = n
      · subst q; rw [decide_eq_false c, decide_eq_true (show j < j + 1 by omega)]; simp
      · rw [show decide (j < n + 1) = decide (j < n) from by rw [decide_eq_decide]; omega, decide_eq_false (show ¬ n = j by omega), Bool.or_false]
theorem pass_eq {E E' bear : Nat → Int32} {set load : Int32} {r : Int32} : ∀ n, n ≤ 9 → (∀ i, i < n → E i = E' i) → (∀ i, i < n → bt set i = !decide (bear i < load)) → q_pass E set r n = r_pass E' bear load r n
  | 0, _, _, _ => rfl
  | n + 1, hn, hE, hb => by
    have ih := pass_eq (r := r) n (by omega) (fun i hi => hE i (by omega)) (fun i hi => hb i (by omega))
    have h1 := hb n (by omega)
    have z : ∀ y : Int32, y ||| 0 = y := fun y => by
      refine Int32.toBitVec_inj.mp ?_
      rw [Int32.toBitVec_or]
      exact BitVec.or_zero
    simp only [q_pass, r_pass]
    rw [ih, hE n (by omega)]
    by_cases c : bear n < load
    · rw [if_pos c, z, if_neg]
      rw [bitL (by omega)]
      rw [decide_eq_true c] at h1
      rw [show set.toBitVec.getLsbD n = false from h1]; decide
    · rw [if_neg c, if_pos]
      · by_cases c2 : r_pass E' bear load r n &&& E' n = 0
        · rw [if_pos c2, if_pos c2, z]
        · rw [if_neg c2, if_neg c2]
      · rw [bitL (by omega)]
        rw [decide_eq_false c] at h1
        exact h1
theorem reach_eq {E E' bear : Nat → Int32} {set load : Int32} {n : Nat} (hn : n ≤ 9) (hE : ∀ i, i < n → E i = E' i) (hb : ∀ i, i < n → bt set i = !decide (bear i < load)) : ∀ m r, q_reach E set n m r = r_reach E' bear load n m r
  | 0, _ => rfl
  | m + 1, r => by
    simp only [q_reach, r_reach]
    rw [pass_eq n hn hE hb, reach_eq hn hE hb m]
theorem joins_eq {E E' bear : Nat → Int32} {set load : Int32} {n : Nat} {a b : Int32} (hn : n ≤ 9) (hE : ∀ i, i < n → E i = E' i) (hb : ∀ i, i < n → bt set i = !decide (bear i < load)) : q_joins E set n a b = r_joins E' bear load n a b := by
  unfold q_joins r_joins
  rw [reach_eq hn hE hb]
theorem r_fb_at {ρ : Af} : ∀ {n i : Nat}, i < n → r_fb ρ n mBear i = r_bearsU ρ i
  | 0, _, h => absurd h (Nat.not_lt_zero _)
  | n + 1, i, h => by
    simp only [r_fb]
    rw [up_at]
    by_cases e : i = n
    · rw [if_pos e, e, r_bearsU_of (r_fb_ne (by decide) n)]
    · rw [if_neg e, r_fb_at (by omega)]
theorem r_fill_at {B : Nat → Int32} {ρ : Af} : ∀ {n i : Nat}, i < n → r_fill B ρ n mBear i = B i
  | 0, _, h => absurd h (Nat.not_lt_zero _)
  | n + 1, i, h => by
    simp only [r_fill]
    rw [up_at]
    by_cases e : i = n
    · rw [if_pos e, e]
    · rw [if_neg e, r_fill_at (by omega)]
