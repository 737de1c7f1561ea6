/-! ## the two readers in lock-step -/
/-- how deep the pile is behind so many steps -/
def dp (act : Nat → Int32) : Nat → Nat
  | 0 => 0
  | i + 1 => if act i = 1 ∨ act i = 2 then dp act i + 1 else if act i = 3 then dp act i else dp act i - 1
def Fn (act : Nat → Int32) (n : Nat) : Prop := ∀ i, i < n → (act i = 3 → 1 ≤ dp act i) ∧ (¬ act i = 1 → ¬ act i = 2 → ¬ act i = 3 → 2 ≤ dp act i)
theorem dp_congr {act act' : Nat → Int32} : ∀ n, (∀ i, i < n → act' i = act i) → dp act' n = dp act n
  | 0, _ => rfl
  | n + 1, h => by
    simp only [dp]
    rw [h n (Nat.lt_succ_self n), dp_congr n (fun i hi => h i (Nat.lt_succ_of_lt hi))]
theorem dp_le {act : Nat → Int32} : ∀ n, dp act n ≤ n
  | 0 => Nat.le_refl 0
  | n + 1 => by
    have := dp_le (act := act) n
    simp only [dp]
    split
    · omega
    · split <;> omega
theorem Fn.congr {act act' : Nat → Int32} {n : Nat} (h : Fn act n) (e : ∀ i, i < n → act' i = act i) : Fn act' n := fun i hi => by
  rw [e i hi, dp_congr i (fun j hj => e j (by omega))]
  exact h i hi
theorem Vd_of {act wit act0 wit0 : Nat → Int32} {n : Nat} (h60 : n ≤ 60) (ha : ∀ i, i < n → act i = act0 i) (hw : ∀ i, i < n → wit i = wit0 i) (hs : ∀ i, i < n → StOk (act0 i) (wit0 i)) (hf : Fn act0 n) (hd : dp act0 n = 1) : ∀ j i, i + j = n → Vd act wit j i (dp act0 i)
  | 0, i, hi => by
    have e : i = n := by omega
    subst e
    exact hd
  | j + 1, i, hi => by
    have ih := Vd_of h60 ha hw hs hf hd j (i + 1) (by omega)
    have hl := dp_le (act := act0) i
    obtain ⟨f3, f2⟩ := hf i (by omega)
    simp only [Vd]
    rw [ha i (by omega), hw i (by omega)]
    simp only [dp] at ih
    rcases hs i (by omega) with ⟨e, -⟩ | ⟨e, q, hq, eq⟩ | e | hg
    · rw [if_pos (Or.inl e)] at ih
      rw [if_pos e]; exact ⟨by omega, ih⟩
    · rw [if_pos (Or.inr e)] at ih
      rw [if_neg (by rw [e]; decide), if_pos e]; exact ⟨⟨q, hq, eq⟩, by omega, ih⟩
    · rw [if_neg (by rw [e]; decide), if_pos e] at ih
      rw [if_neg (by rw [e]; decide), if_neg (by rw [e]; decide), if_pos e]; exact ⟨f3 e, by omega, ih⟩
    · obtain ⟨-, -, -, n1, n2, n3⟩ := hg.neg
      rw [if_neg (by intro q; rcases q with q | q; exact n1 q; exact n2 q), if_neg n3] at ih
      rw [if_neg n1, if_neg n2, if_neg n3]; exact ⟨f2 n1 n2 n3, by omega, ih⟩
/-- what both begin with -/
def Bs (α₀ ρ₀ : Af) (t u : Nat) : Prop := t ≤ 60 ∧ u < 2 ∧ α₀ idR 4 = nI t ∧ ρ₀ mRow 7 = nI t ∧ (∀ j, j < t → α₀ idRb j = ρ₀ mRow (72 + j) ∧ ∃ b, b < 256 ∧ ρ₀ mRow (72 + j) = nI b) ∧ α₀ idR 5 = (if nI u = 0 then 0 else 1) ∧ ρ₀ idM 16 = nI u
/-- what the reading leaves -/
def Fr (α₀ ρ₀ α ρ : Af) : Prop := (∀ i, i ≠ idR → i ≠ idRc → α i = α₀ i) ∧ α idR 4 = α₀ idR 4 ∧ α idR 5 = α₀ idR 5 ∧ (∀ i, i ≠ idM → i ≠ mAct → i ≠ mWith → ρ i = ρ₀ i) ∧ (∀ j, j < 12 ∨ 16 ≤ j → ρ idM j = ρ₀ idM j)
def Cd (α ρ : Af) (n : Nat) : Prop := (∀ i, i < n → StOk (ρ mAct i) (ρ mWith i) ∧ α idRc i = tau (ρ mAct i) (ρ mWith i)) ∧ Fn (ρ mAct) n
def Ts (α₀ ρ₀ : Af) (t m h n : Nat) (α ρ : Af) : Prop := Fr α₀ ρ₀ α ρ ∧ (h ≤ t ∧ α idR 2 = nI h ∧ ρ idM 13 = nI h) ∧ (n ≤ h ∧ α idR 1 = nI n ∧ ρ idM 12 = nI n ∧ Cd α ρ n) ∧ ρ idM 14 = nI (5 - m) ∧ ρ idM 15 = 0
def Fl (α₀ ρ₀ : Af) (t : Nat) (α ρ : Af) : Prop := Fr α₀ ρ₀ α ρ ∧ (∃ h, h ≤ t ∧ α idR 2 = nI h ∧ ρ idM 13 = nI h) ∧ ¬ ρ idM 15 = 0
def Okk (α₀ ρ₀ : Af) (t m h n d : Nat) (r : Bool × Af) (ρ' : Af) : Prop := (r.1 = true ∧ ∃ h' n', Ts α₀ ρ₀ t m h' n' r.2 ρ' ∧ h < h' ∧ n' + h ≤ n + h' ∧ dp (ρ' mAct) n' = d + 1) ∨ (r.1 = false ∧ Fl α₀ ρ₀ t r.2 ρ')
def Sb (α₀ ρ₀ : Af) (t m : Nat) (sub : Pr) (sub' : Pm) : Prop := ∀ α ρ h n, Ts α₀ ρ₀ t m h n α ρ → Okk α₀ ρ₀ t m h n (dp (ρ mAct) n) (sub α) (sub' ρ)
section
variable {α₀ ρ₀ α ρ : Af} {t u m h n : Nat}
theorem Fr.M {k : Nat} {v : Int32} (f : Fr α₀ ρ₀ α ρ) (hk : 12 ≤ k ∧ k < 16) : Fr α₀ ρ₀ α (up ρ idM k v) := ⟨f.1, f.2.1, f.2.2.1, fun i a b c => by rw [up_ne a]; exact f.2.2.2.1 i a b c, fun j hj => by rw [up_ne2 (by omega)]; exact f.2.2.2.2 j hj⟩
theorem Fr.stp {x v : Int32} (f : Fr α₀ ρ₀ α ρ) : Fr α₀ ρ₀ α (r_stp ρ x v) := ⟨f.1, f.2.1, f.2.2.1, fun i a b c => by rw [r_stp_ne b c a]; exact f.2.2.2.1 i a b c, fun j hj => by rw [r_stp_M (by omega)]; exact f.2.2.2.2 j hj⟩
theorem Fr.R {k : Nat} {v : Int32} (f : Fr α₀ ρ₀ α ρ) (hk : k ≠ 4 ∧ k ≠ 5) : Fr α₀ ρ₀ (up α idR k v) ρ := ⟨fun i a b => by rw [up_ne a]; exact f.1 i a b, by rw [up_ne2 hk.1.symm]; exact f.2.1, by rw [up_ne2 hk.2.symm]; exact f.2.2.1, f.2.2.2⟩
theorem Fr.Rc {k : Nat} {v : Int32} (f : Fr α₀ ρ₀ α ρ) : Fr α₀ ρ₀ (up α idRc k v) ρ := ⟨fun i a b => by rw [up_ne b]; exact f.1 i a b, by rw [up_ne (by decide)]; exact f.2.1, by rw [up_ne (by decide)]; exact f.2.2.1, f.2.2.2⟩
theorem nn {k : Nat} (hk : k < 2 ^ 31) : ¬ nI k < 0 := fun q => Int32.lt_irrefl (Int32.lt_of_lt_of_le q (nI_pos' hk))
theorem Fr.look (hb : Bs α₀ ρ₀ t u) (f : Fr α₀ ρ₀ α ρ) (h1 : h ≤ t) (h2 : α idR 2 = nI h) (h3 : ρ idM 13 = nI h) : (h < t ∧ ∃ b, b < 256 ∧ q_ahead α = nI b ∧ r_look ρ = nI b) ∨ (h = t ∧ q_ahead α = 0 ∧ r_look ρ = -1) := by
  obtain ⟨t60, -, b4, b7, bt, -⟩ := hb
  unfold q_ahead r_look hv
  rw [h2, h3, f.2.1, b4, f.2.2.2.1 mRow (by decide) (by decide) (by decide), b7, if_neg (nn (by omega)), nI_clamp (by omega), f.1 idRb (by decide) (by decide)]
  by_cases c : h < t
  · have nle : ¬ nI t ≤ nI h := fun q => by have := (nI_leI (a := t) (b := h) (by omega) (by omega)).mp q; omega
    rw [if_neg nle, if_neg nle]
    obtain ⟨e1, b, hb, e2⟩ := bt h c
    exact Or.inl ⟨c, b, hb, e1.trans e2, e2⟩
  · have e : h = t := by omega
    subst e
    have le : nI h ≤ nI h := Int32.le_refl _
    rw [if_pos le, if_pos le]
    exact Or.inr ⟨rfl, rfl, rfl⟩
theorem Ts.look (hb : Bs α₀ ρ₀ t u) (T : Ts α₀ ρ₀ t m h n α ρ) : (h < t ∧ ∃ b, b < 256 ∧ q_ahead α = nI b ∧ r_look ρ = nI b) ∨ (h = t ∧ q_ahead α = 0 ∧ r_look ρ = -1) := T.1.look hb T.2.1.1 T.2.1.2.1 T.2.1.2.2
theorem Ts.adv (T : Ts α₀ ρ₀ t m h n α ρ) (hlt : h < t) : Ts α₀ ρ₀ t m (h + 1) n (q_step α) (r_adv ρ) := by
  obtain ⟨f, ⟨h1, h2, h3⟩, ⟨n1, n2, n3, c1, c2⟩, e14, e15⟩ := T
  unfold q_step r_adv
  rw [h2, h3, nI_1]
  refine ⟨(f.R (by decide)).M (by decide), ⟨by omega, up_eq, up_eq⟩, ⟨by omega, by rw [up_ne2 (by decide)]; exact n2, by rw [up_ne2 (by decide)]; exact n3, ?_, ?_⟩, by rw [up_ne2 (by decide)]; exact e14, by rw [up_ne2 (by decide)]; exact e15⟩
  · rw [up_ne (by decide), up_ne (by decide), up_ne (by decide)]; exact c1
  · rw [up_ne (by decide)]; exact c2
theorem Ts.m14 {m' : Nat} (T : Ts α₀ ρ₀ t m h n α ρ) : Ts α₀ ρ₀ t m' h n α (up ρ idM 14 (nI (5 - m'))) := by
  obtain ⟨f, ⟨h1, h2, h3⟩, ⟨n1, n2, n3, c1, c2⟩, e14, e15⟩ := T
  refine ⟨f.M (by decide), ⟨h1, h2, by rw [up_ne2 (by decide)]; exact h3⟩, ⟨n1, n2, by rw [up_ne2 (by decide)]; exact n3, ?_, ?_⟩, up_eq, by rw [up_ne2 (by decide)]; exact e15⟩
  · rw [up_ne (by decide), up_ne (by decide)]; exact c1
  · rw [up_ne (by decide)]; exact c2
theorem Ts.make {x v c : Int32} (T : Ts α₀ ρ₀ t m h n α ρ) (t60 : t ≤ 60) (hn : n < h) (hs : StOk x v) (hc : c = tau x v) (h3 : x = 3 → 1 ≤ dp (ρ mAct) n) (h2 : ¬ x = 1 → ¬ x = 2 → ¬ x = 3 → 2 ≤ dp (ρ mAct) n) : Ts α₀ ρ₀ t m h (n + 1) (q_make α c) (r_stp ρ x v) ∧ dp (r_stp ρ x v mAct) (n + 1) = (if x = 1 ∨ x = 2 then dp (ρ mAct) n + 1 else if x = 3 then dp (ρ mAct) n else dp (ρ mAct) n - 1) := by
  obtain ⟨f, ⟨p1, p2, p3⟩, ⟨n1, n2, n3, c1, c2⟩, e14, e15⟩ := T
  have fs := (f.stp (x := x) (v := v))
  have m13 : r_stp ρ x v idM 13 = nI h := by rw [r_stp_M (by decide)]; exact p3
  have m14 : r_stp ρ x v idM 14 = nI (5 - m) := by rw [r_stp_M (by decide)]; exact e14
  have m15 : r_stp ρ x v idM 15 = 0 := by rw [r_stp_M (by decide)]; exact e15
  have nle : ¬ (60 : Int32) ≤ nI n := fun q => by have := (nI_leI (a := 60) (b := n) (by decide) (by omega)).mp q; omega
  have e1 : q_make α c = up (up α idRc n c) idR 1 (nI (n + 1)) := by
    unfold q_make
    rw [n2, if_neg nle, nI_clamp (by omega), up_ne (by decide), n2, nI_1]
  have e2 : r_stp ρ x v = up (up (up ρ mAct n x) mWith n v) idM 12 (nI (n + 1)) := by
    unfold r_stp
    rw [n3, if_neg nle, r_stA_ne (by decide) (by decide), n3, nI_1]
    unfold r_stA
    rw [n3, nI_clamp (by omega)]
  have g1 : ∀ i, r_stp ρ x v mAct i = if i = n then x else ρ mAct i := fun i => by rw [e2, up_ne (by decide), up_ne (by decide), up_at]
  have g2 : ∀ i, r_stp ρ x v mWith i = if i = n then v else ρ mWith i := fun i => by rw [e2, up_ne (by decide), up_at, up_ne (by decide)]
  have g3 : ∀ i, q_make α c idRc i = if i = n then c else α idRc i := fun i => by rw [e1, up_ne (by decide), up_at]
  have gd : ∀ i, i ≤ n → dp (r_stp ρ x v mAct) i = dp (ρ mAct) i := fun i hi => dp_congr i (fun j hj => by rw [g1, if_neg (by omega)])
  refine ⟨⟨?_, ⟨p1, ?_, m13⟩, ⟨by omega, ?_, ?_, ?_, ?_⟩, m14, m15⟩, ?_⟩
  · rw [e1]; exact fs.Rc.R (by decide)
  · rw [e1, up_ne2 (by decide), up_ne (by decide)]; exact p2
  · rw [e1, up_eq]
  · rw [e2, up_eq]
  · intro i hi
    rw [g1, g2, g3]
    by_cases e : i = n
    · rw [if_pos e, if_pos e, if_pos e]; exact ⟨hs, hc⟩
    · rw [if_neg e, if_neg e, if_neg e]; exact c1 i (by omega)
  · intro i hi
    rw [g1, gd i (by omega)]
    by_cases e : i = n
    · rw [if_pos e, e]; exact ⟨h3, h2⟩
    · rw [if_neg e]; exact c2 i (by omega)
  · simp only [dp]
    rw [g1, if_pos rfl, gd n (Nat.le_refl n)]
theorem Fl.stp {x v : Int32} (F : Fl α₀ ρ₀ t α ρ) : Fl α₀ ρ₀ t α (r_stp ρ x v) := by
  obtain ⟨f, ⟨h, h1, h2, h3⟩, e⟩ := F
  exact ⟨f.stp, ⟨h, h1, h2, by rw [r_stp_M (by decide)]; exact h3⟩, by rw [r_stp_M (by decide)]; exact e⟩
theorem Fl.m14 {v : Int32} (F : Fl α₀ ρ₀ t α ρ) : Fl α₀ ρ₀ t α (up ρ idM 14 v) := by
  obtain ⟨f, ⟨h, h1, h2, h3⟩, e⟩ := F
  exact ⟨f.M (by decide), ⟨h, h1, h2, by rw [up_ne2 (by decide)]; exact h3⟩, by rw [up_ne2 (by decide)]; exact e⟩
theorem Ts.fail {v : Int32} (T : Ts α₀ ρ₀ t m h n α ρ) (hv : ¬ v = 0) : Fl α₀ ρ₀ t α (up ρ idM 15 v) :=
  ⟨T.1.M (by decide), ⟨h, T.2.1.1, T.2.1.2.1, by rw [up_ne2 (by decide)]; exact T.2.1.2.2⟩, by rw [up_eq]; exact hv⟩
theorem binL_stop {sub' : Pm} {isS : Int32 → Bool} (j : Nat) (e : ¬ ρ idM 15 = 0) : r_binL sub' isS j ρ = ρ := by
  cases j with
  | zero => rfl
  | succ j => simp only [r_binL]; rw [if_neg e]
theorem tau_sg {x v : Int32} (hx : Sg x) : -x = tau x v := by
  obtain ⟨-, -, -, n1, n2, n3⟩ := hx.neg
  unfold tau
  rw [if_neg n1, if_neg n2, if_neg n3]
theorem binL_ok {sub : Pr} {sub' : Pm} {isS : Int32 → Bool} (hb : Bs α₀ ρ₀ t u) (hs : Sb α₀ ρ₀ t m sub sub') (hS0 : isS 0 = false) (hS1 : isS (-1) = false) (hSg : ∀ x, isS x = true → Sg x) : ∀ (j : Nat) (α ρ : Af) (h n d h0 n0 : Nat), Ts α₀ ρ₀ t m h n α ρ → h0 < h → n + h0 ≤ n0 + h → dp (ρ mAct) n = d + 1 → Okk α₀ ρ₀ t m h0 n0 d (q_binL sub isS j α) (r_binL sub' isS j ρ)
  | 0, α, ρ, h, n, d, h0, n0, T, q1, q2, q3 => Or.inl ⟨rfl, h, n, T, q1, q2, q3⟩
  | j + 1, α, ρ, h, n, d, h0, n0, T, q1, q2, q3 => by
    simp only [q_binL, r_binL]
    rw [if_pos T.2.2.2.2]
    rcases T.look hb with ⟨hlt, b, -, e1, e2⟩ | ⟨-, e1, e2⟩
    · rw [e1, e2]
      by_cases c : isS (nI b) = true
      · rw [if_pos c, if_pos c]
        have sg := hSg _ c
        have T1 := T.adv hlt
        rcases hs _ _ _ _ T1 with ⟨s1, h', n', T2, s2, s3, s4⟩ | ⟨s1, F⟩
        · rw [if_pos s1]
          have d4 : dp (r_adv ρ mAct) n = d + 1 := by rw [show r_adv ρ mAct = ρ mAct from up_ne (by decide)]; exact q3
          have k1 := T.2.2.1.1
          have k2 := T.2.2.1.2
          rw [d4] at s4
          obtain ⟨-, -, -, n1, n2, n3⟩ := sg.neg
          obtain ⟨T3, e3⟩ := T2.make (x := nI b) (v := 0) (c := -(nI b)) hb.1 (by omega) (Or.inr (Or.inr (Or.inr sg))) (tau_sg sg) (fun _ => by omega) (fun _ _ _ => by omega)
          rw [if_neg (by intro q; rcases q with q | q; exact n1 q; exact n2 q), if_neg n3, s4] at e3
          exact binL_ok hb hs hS0 hS1 hSg j _ _ h' (n' + 1) d h0 n0 T3 (by omega) (by omega) (by omega)
        · rw [if_neg (by rw [s1]; decide)]
          have F2 := F.stp (x := nI b) (v := 0)
          rw [binL_stop j F2.2.2]
          exact Or.inr ⟨rfl, F2⟩
      · rw [if_neg c, if_neg c]
        exact Or.inl ⟨rfl, h, n, T, q1, q2, q3⟩
    · rw [e1, e2, hS0, hS1, if_neg (by decide), if_neg (by decide)]
      exact Or.inl ⟨rfl, h, n, T, q1, q2, q3⟩
theorem Sb.bin {sub : Pr} {sub' : Pm} {isS : Int32 → Bool} (hb : Bs α₀ ρ₀ t u) (hs : Sb α₀ ρ₀ t m sub sub') (hS0 : isS 0 = false) (hS1 : isS (-1) = false) (hSg : ∀ x, isS x = true → Sg x) : Sb α₀ ρ₀ t m (q_bin sub isS) (r_bin sub' isS) := by
  intro α ρ h n T
  unfold q_bin r_bin
  rcases hs _ _ _ _ T with ⟨s1, h', n', T2, s2, s3, s4⟩ | ⟨s1, F⟩
  · rw [if_pos s1]
    exact binL_ok hb hs hS0 hS1 hSg 60 _ _ h' n' _ h n T2 s2 s3 s4
  · rw [if_neg (by rw [s1]; decide), binL_stop 60 F.2.2]
    exact Or.inr ⟨rfl, F⟩
theorem cmp_sg {x : Int32} (c : q_isCmp x = true) : Sg x := by
  unfold q_isCmp at c
  unfold Sg
  split at c
  · rename_i q; rw [q]; decide
  · split at c
    · rename_i q; rw [q]; decide
    · split at c
      · rename_i q; rw [q]; decide
      · cases c
theorem prod_sg {x : Int32} (c : q_isProd x = true) : Sg x := by
  unfold q_isProd at c
  unfold Sg
  split at c
  · rename_i q; rw [q]; decide
  · split at c
    · rename_i q; rw [q]; decide
    · split at c
      · rename_i q; rw [q]; decide
      · cases c
theorem sum_sg {x : Int32} (c : q_isSum x = true) : Sg x := by
  unfold q_isSum at c
  unfold Sg
  split at c
  · rename_i q; rw [q]; decide
  · split at c
    · rename_i q; rw [q]; decide
    · cases c
theorem all_sg {x : Int32} (c : q_isAll x = true) : Sg x := by
  unfold q_isAll at c
  unfold Sg
  split at c
  · rename_i q; rw [q]; decide
  · cases c
theorem any_sg {x : Int32} (c : q_isAny x = true) : Sg x := by
  unfold q_isAny at c
  unfold Sg
  split at c
  · rename_i q; rw [q]; decide
  · cases c
theorem Sb.cmp {sub : Pr} {sub' : Pm} (hb : Bs α₀ ρ₀ t u) (hs : Sb α₀ ρ₀ t m sub sub') : Sb α₀ ρ₀ t m (q_cmp sub) (r_cmp sub') := by
  intro α ρ h n T
  unfold q_cmp r_cmp
  rcases hs _ _ _ _ T with ⟨s1, h', n', T2, s2, s3, s4⟩ | ⟨s1, F⟩
  · rw [if_pos s1, if_pos T2.2.2.2.2]
    rcases T2.look hb with ⟨hlt, b, -, e1, e2⟩ | ⟨-, e1, e2⟩
    · rw [e1, e2]
      by_cases c : q_isCmp (nI b) = true
      · rw [if_pos c, if_pos c]
        have sg := cmp_sg c
        have T3 := T2.adv hlt
        rcases hs _ _ _ _ T3 with ⟨z1, h'', n'', T4, z2, z3, z4⟩ | ⟨z1, F⟩
        · rw [if_pos z1]
          rw [show r_adv (sub' ρ) mAct = sub' ρ mAct from up_ne (by decide), s4] at z4
          have k1 := T2.2.2.1.1
          obtain ⟨-, -, -, n1, n2, n3⟩ := sg.neg
          obtain ⟨T5, e3⟩ := T4.make (x := nI b) (v := 0) (c := -(nI b)) hb.1 (by omega) (Or.inr (Or.inr (Or.inr sg))) (tau_sg sg) (fun _ => by omega) (fun _ _ _ => by omega)
          rw [if_neg (by intro q; rcases q with q | q; exact n1 q; exact n2 q), if_neg n3, z4] at e3
          exact Or.inl ⟨rfl, h'', n'' + 1, T5, by omega, by omega, by omega⟩
        · rw [if_neg (by rw [z1]; decide)]
          exact Or.inr ⟨rfl, F.stp⟩
      · rw [if_neg c, if_neg c]
        exact Or.inl ⟨rfl, h', n', T2, s2, s3, s4⟩
    · rw [e1, e2, if_neg (by decide), if_neg (by decide)]
      exact Or.inl ⟨rfl, h', n', T2, s2, s3, s4⟩
  · rw [if_neg (by rw [s1]; decide), if_neg F.2.2]
    exact Or.inr ⟨rfl, F⟩
theorem Sb.any {one : Pr} {one' : Pm} (hb : Bs α₀ ρ₀ t u) (hs : Sb α₀ ρ₀ t m one one') : Sb α₀ ρ₀ t m (q_anyP one) (r_anyP one') :=
  ((((hs.bin hb rfl rfl (fun _ c => prod_sg c)).bin hb rfl rfl (fun _ c => sum_sg c)).cmp hb).bin hb rfl rfl (fun _ c => all_sg c)).bin hb rfl rfl (fun _ c => any_sg c)
end
