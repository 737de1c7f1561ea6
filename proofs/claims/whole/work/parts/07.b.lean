def aU (u : Nat) : Nat := 156 + 121 * u
/-- the steps of a law are such as can be worked: never too few on the pile -/
def Vd (act wit : Nat → Int32) : Nat → Nat → Nat → Prop
  | 0, _, t => t = 1
  | j + 1, i, t => if act i = 1 then t < 60 ∧ Vd act wit j (i + 1) (t + 1) else if act i = 2 then (∃ q, q < 3 ∧ wit i = nI q) ∧ t < 60 ∧ Vd act wit j (i + 1) (t + 1) else if act i = 3 then 1 ≤ t ∧ t ≤ 60 ∧ Vd act wit j (i + 1) t else 2 ≤ t ∧ t ≤ 60 ∧ Vd act wit j (i + 1) (t - 1)
def r_two (s l r : Int32) : Int32 := if s = 37 then (if r = 0 then 0 else jrem l r) else if s = 38 then (if l = 0 then 0 else if r = 0 then 0 else 1) else if s = 42 then l * r else if s = 43 then l + r else if s = 45 then l - r else if s = 47 then (if r = 0 then 0 else l / r) else if s = 60 then (if r ≤ l then 0 else 1) else if s = 61 then (if l = r then 1 else 0) else if s = 62 then (if l ≤ r then 0 else 1) else (if l = 0 then (if r = 0 then 0 else 1) else 1)
def r_wk (F : Nat → Int32) (what v : Int32) (s : Nat × (Nat → Int32)) : Nat × (Nat → Int32) :=
  if what = 1 then (s.1 + 1, upd s.2 s.1 v) else if what = 2 then (s.1 + 1, upd s.2 s.1 (F v.toNatClampNeg)) else if what = 3 then (s.1, upd s.2 (s.1 - 1) (if s.2 (s.1 - 1) = 0 then 1 else 0)) else (s.1 - 1, upd s.2 (s.1 - 2) (r_two what (s.2 (s.1 - 2)) (s.2 (s.1 - 1))))
def r_run (F act wit : Nat → Int32) : Nat → Nat → Nat × (Nat → Int32) → Nat × (Nat → Int32)
  | 0, _, s => s
  | j + 1, i, s => r_run F act wit j (i + 1) (r_wk F (act i) (wit i) s)
/-- what the rows of a law are: its steps and what goes with them -/
def rAct (ρ : Af) (u : Nat) : Nat → Int32 := fun i => ρ mRow (aU u + 1 + i)
def rWit (ρ : Af) (u : Nat) : Nat → Int32 := fun i => ρ mRow (aU u + 61 + i)
/-- a law in the reference: its length, and that it can be worked -/
def Ml (ρ : Af) (u : Nat) : Prop := ∃ n, n ≤ 60 ∧ ρ mRow (aU u) = nI n ∧ (0 < n → Vd (rAct ρ u) (rWit ρ u) n 0 0)
theorem r_wk_agr {F : Nat → Int32} {what v : Int32} {t : Nat} {f g : Nat → Int32} (h : Agr t f g) (h3 : what = 3 → 1 ≤ t) (h2 : ¬ what = 1 → ¬ what = 2 → ¬ what = 3 → 2 ≤ t) : (r_wk F what v (t, f)).1 = (r_wk F what v (t, g)).1 ∧ Agr (r_wk F what v (t, f)).1 (r_wk F what v (t, f)).2 (r_wk F what v (t, g)).2 := by
  unfold r_wk
  by_cases c1 : what = 1
  · simp only [if_pos c1]
    refine ⟨trivial, fun j hj => ?_⟩
    by_cases e : j = t
    · simp only [upd, if_pos e]
    · simp only [upd, if_neg e]; exact h j (by omega)
  by_cases c2 : what = 2
  · simp only [if_neg c1, if_pos c2]
    refine ⟨trivial, fun j hj => ?_⟩
    by_cases e : j = t
    · simp only [upd, if_pos e]
    · simp only [upd, if_neg e]; exact h j (by omega)
  by_cases c3 : what = 3
  · simp only [if_neg c1, if_neg c2, if_pos c3]
    have := h3 c3
    refine ⟨trivial, fun j hj => ?_⟩
    by_cases e : j = t - 1
    · simp only [upd, if_pos e, h (t - 1) (by omega)]
    · simp only [upd, if_neg e]; exact h j hj
  · simp only [if_neg c1, if_neg c2, if_neg c3]
    have := h2 c1 c2 c3
    refine ⟨trivial, fun j hj => ?_⟩
    by_cases e : j = t - 2
    · simp only [upd, if_pos e, h (t - 1) (by omega), h (t - 2) (by omega)]
    · simp only [upd, if_neg e]; exact h j (by omega)
theorem Vd.step {act wit F : Nat → Int32} {j i t : Nat} {f : Nat → Int32} (h : Vd act wit (j + 1) i t) : (act i = 3 → 1 ≤ t) ∧ (¬ act i = 1 → ¬ act i = 2 → ¬ act i = 3 → 2 ≤ t) ∧ Vd act wit j (i + 1) (r_wk F (act i) (wit i) (t, f)).1 := by
  simp only [Vd] at h
  unfold r_wk
  by_cases c1 : act i = 1
  · rw [if_pos c1] at h
    exact ⟨fun e => absurd (c1.symm.trans e) (by decide), fun q => absurd c1 q, by rw [if_pos c1]; exact h.2⟩
  by_cases c2 : act i = 2
  · rw [if_neg c1, if_pos c2] at h
    exact ⟨fun e => absurd (c2.symm.trans e) (by decide), fun _ q => absurd c2 q, by rw [if_neg c1, if_pos c2]; exact h.2.2⟩
  by_cases c3 : act i = 3
  · rw [if_neg c1, if_neg c2, if_pos c3] at h
    exact ⟨fun _ => h.1, fun _ _ q => absurd c3 q, by rw [if_neg c1, if_neg c2, if_pos c3]; exact h.2.2⟩
  · rw [if_neg c1, if_neg c2, if_neg c3] at h
    exact ⟨fun e => absurd e c3, fun _ _ _ => h.1, by rw [if_neg c1, if_neg c2, if_neg c3]; exact h.2.2⟩
theorem r_run_agr {F act wit : Nat → Int32} : ∀ (j i t : Nat) (f g : Nat → Int32), Vd act wit j i t → Agr t f g → (r_run F act wit j i (t, f)).1 = 1 ∧ (r_run F act wit j i (t, f)).2 0 = (r_run F act wit j i (t, g)).2 0
  | 0, i, t, f, g, h, ha => by
    simp only [Vd] at h
    subst h
    exact ⟨rfl, ha 0 (by decide)⟩
  | j + 1, i, t, f, g, h, ha => by
    obtain ⟨h3, h2, hv⟩ := Vd.step (F := F) (f := f) h
    obtain ⟨q1, q2⟩ := r_wk_agr (F := F) (v := wit i) ha h3 h2
    simp only [r_run]
    have e : r_wk F (act i) (wit i) (t, g) = ((r_wk F (act i) (wit i) (t, f)).1, (r_wk F (act i) (wit i) (t, g)).2) := by rw [q1]
    rw [e]
    exact r_run_agr j (i + 1) _ _ _ hv q2
def fac (a b c : Int32) : Nat → Int32 := fun j => if j = 2 then c else if j = 1 then b else a
def r_work (ρ : Af) (u n : Nat) (a b c : Int32) : Int32 := (r_run (fac a b c) (rAct ρ u) (rWit ρ u) n 0 (0, fun _ => 0)).2 0
def r_giveV (ρ : Af) (u : Nat) (a b c : Int32) : Int32 := if ρ mRow (aU u) ≤ 0 then (if nI u = 1 then a / 10 + 1 else if a ≤ 0 then -1 else 1) else r_work ρ u (ρ mRow (aU u)).toNatClampNeg a b c
def r_gives (ρ : Af) (u : Nat) (a b c : Int32) : Int32 := if nI u = 0 then r_held (r_giveV ρ u a b c) (-9) 9 else r_held (r_giveV ρ u a b c) 0 99
theorem scr1_F : scr 1 mFacts = true := rfl
theorem scr1_P : scr 1 mPile = true := rfl

set_option maxRecDepth 100000 in
set_option maxHeartbeats 4000000 in
theorem c_yX7_twoOf {k : Nat} {l : Launch} {G : Gm} {α ρ : Af} {s a b : Int32}  : CI k l G yX7_twoOf (Cond.code yX7_twoOf cX7_twoOf 3 (some .int)) 1 [.int s, .int a, .int b] α ρ (PI (r_two s a b) α ρ) := by
  refine CI.of [some (.int s), some (.int a), some (.int b)] (by decide) (Nat.le_of_ble_eq_true rfl) rfl rfl (fun C K => ?_)
  have K : Ok l _ G C RX7 cX7_twoOf (some .int) 3 := K
  refine x_iload_n (pc := 0) (i := 0) K dX7_twoOf_0 rfl rfl ?_
  by_cases s_1_37 : s = 37
  · refine x_tableIn (pc := 1) (off := 143) (tgt := 144) K dX7_twoOf_1 (by rw [s_1_37]; decide) (by decide) ?_
    refine x_iload_n (pc := 144) (i := 2) K dX7_twoOf_144 rfl rfl ?_
    refine x_if_ne (pc := 145) (tgt := 152) K dX7_twoOf_145 (by decide) (fun c_145 => ?_) (fun c_145 => ?_)
    · refine x_iload_n (pc := 152) (i := 1) K dX7_twoOf_152 rfl rfl ?_
      refine x_iload_n (pc := 153) (i := 2) K dX7_twoOf_153 rfl rfl ?_
      refine x_irem (pc := 154) K dX7_twoOf_154 c_145 ?_
      exact x_iretI (pc := 155) K dX7_twoOf_155 ⟨by unfold r_two; rw [if_pos s_1_37, if_neg c_145], rfl, rfl⟩
    · refine x_iconst (pc := 148) (v := 0) K dX7_twoOf_148 (by decide) ?_
      refine x_goto (pc := 149) (tgt := 155) K dX7_twoOf_149 (by decide) ?_
      exact x_iretI (pc := 155) K dX7_twoOf_155 ⟨by unfold r_two; rw [if_pos s_1_37, if_pos c_145], rfl, rfl⟩
  by_cases s_1_38 : s = 38
  · refine x_tableIn (pc := 1) (off := 188) (tgt := 189) K dX7_twoOf_1 (by rw [s_1_38]; decide) (by decide) ?_
    refine x_iload_n (pc := 189) (i := 1) K dX7_twoOf_189 rfl rfl ?_
    refine x_if_eq (pc := 190) (tgt := 201) K dX7_twoOf_190 (by decide) (fun c_190 => ?_) (fun c_190 => ?_)
    · refine x_iconst (pc := 201) (v := 0) K dX7_twoOf_201 (by decide) ?_
      exact x_iretI (pc := 202) K dX7_twoOf_202 ⟨by unfold r_two; rw [if_neg s_1_37, if_pos s_1_38, if_pos c_190], rfl, rfl⟩
    · refine x_iload_n (pc := 193) (i := 2) K dX7_twoOf_193 rfl rfl ?_
      refine x_if_eq (pc := 194) (tgt := 201) K dX7_twoOf_194 (by decide) (fun c_194 => ?_) (fun c_194 => ?_)
      · refine x_iconst (pc := 201) (v := 0) K dX7_twoOf_201 (by decide) ?_
        exact x_iretI (pc := 202) K dX7_twoOf_202 ⟨by unfold r_two; rw [if_neg s_1_37, if_pos s_1_38, if_neg c_190, if_pos c_194], rfl, rfl⟩
      · refine x_iconst (pc := 197) (v := 1) K dX7_twoOf_197 (by decide) ?_
        refine x_goto (pc := 198) (tgt := 202) K dX7_twoOf_198 (by decide) ?_
        exact x_iretI (pc := 202) K dX7_twoOf_202 ⟨by unfold r_two; rw [if_neg s_1_37, if_pos s_1_38, if_neg c_190, if_neg c_194], rfl, rfl⟩
  by_cases s_1_39 : s = 39
  · refine x_tableIn (pc := 1) (off := 202) (tgt := 203) K dX7_twoOf_1 (by rw [s_1_39]; decide) (by decide) ?_
    refine x_iload_n (pc := 203) (i := 1) K dX7_twoOf_203 rfl rfl ?_
    refine x_if_ne (pc := 204) (tgt := 211) K dX7_twoOf_204 (by decide) (fun c_204 => ?_) (fun c_204 => ?_)
    · refine x_iconst (pc := 211) (v := 1) K dX7_twoOf_211 (by decide) ?_
      refine x_goto (pc := 212) (tgt := 216) K dX7_twoOf_212 (by decide) ?_
      exact x_iretI (pc := 216) K dX7_twoOf_216 ⟨by unfold r_two; rw [if_neg (show ¬ s = 37 from by rw [s_1_39]; decide), if_neg (show ¬ s = 38 from by rw [s_1_39]; decide), if_neg (show ¬ s = 42 from by rw [s_1_39]; decide), if_neg (show ¬ s = 43 from by rw [s_1_39]; decide), if_neg (show ¬ s = 45 from by rw [s_1_39]; decide), if_neg (show ¬ s = 47 from by rw [s_1_39]; decide), if_neg (show ¬ s = 60 from by rw [s_1_39]; decide), if_neg (show ¬ s = 61 from by rw [s_1_39]; decide), if_neg (show ¬ s = 62 from by rw [s_1_39]; decide), if_neg c_204], rfl, rfl⟩
    · refine x_iload_n (pc := 207) (i := 2) K dX7_twoOf_207 rfl rfl ?_
      refine x_if_eq (pc := 208) (tgt := 215) K dX7_twoOf_208 (by decide) (fun c_208 => ?_) (fun c_208 => ?_)
      · refine x_iconst (pc := 215) (v := 0) K dX7_twoOf_215 (by decide) ?_
        exact x_iretI (pc := 216) K dX7_twoOf_216 ⟨by unfold r_two; rw [if_neg (show ¬ s = 37 from by rw [s_1_39]; decide), if_neg (show ¬ s = 38 from by rw [s_1_39]; decide), if_neg (show ¬ s = 42 from by rw [s_1_39]; decide), if_neg (show ¬ s = 43 from by rw [s_1_39]; decide), if_neg (show ¬ s = 45 from by rw [s_1_39]; decide), if_neg (show ¬ s = 47 from by rw [s_1_39]; decide), if_neg (show ¬ s = 60 from by rw [s_1_39]; decide), if_neg (show ¬ s = 61 from by rw [s_1_39]; decide), if_neg (show ¬ s = 62 from by rw [s_1_39]; decide), if_pos c_204, if_pos c_208], rfl, rfl⟩
      · refine x_iconst (pc := 211) (v := 1) K dX7_twoOf_211 (by decide) ?_
        refine x_goto (pc := 212) (tgt := 216) K dX7_twoOf_212 (by decide) ?_
        exact x_iretI (pc := 216) K dX7_twoOf_216 ⟨by unfold r_two; rw [if_neg (show ¬ s = 37 from by rw [s_1_39]; decide), if_neg (show ¬ s = 38 from by rw [s_1_39]; decide), if_neg (show ¬ s = 42 from by rw [s_1_39]; decide), if_neg (show ¬ s = 43 from by rw [s_1_39]; decide), if_neg (show ¬ s = 45 from by rw [s_1_39]; decide), if_neg (show ¬ s = 47 from by rw [s_1_39]; decide), if_neg (show ¬ s = 60 from by rw [s_1_39]; decide), if_neg (show ¬ s = 61 from by rw [s_1_39]; decide), if_neg (show ¬ s = 62 from by rw [s_1_39]; decide), if_pos c_204, if_neg c_208], rfl, rfl⟩
  by_cases s_1_40 : s = 40
  · refine x_tableIn (pc := 1) (off := 202) (tgt := 203) K dX7_twoOf_1 (by rw [s_1_40]; decide) (by decide) ?_
    refine x_iload_n (pc := 203) (i := 1) K dX7_twoOf_203 rfl rfl ?_
    refine x_if_ne (pc := 204) (tgt := 211) K dX7_twoOf_204 (by decide) (fun c_204 => ?_) (fun c_204 => ?_)
    · refine x_iconst (pc := 211) (v := 1) K dX7_twoOf_211 (by decide) ?_
      refine x_goto (pc := 212) (tgt := 216) K dX7_twoOf_212 (by decide) ?_
      exact x_iretI (pc := 216) K dX7_twoOf_216 ⟨by unfold r_two; rw [if_neg (show ¬ s = 37 from by rw [s_1_40]; decide), if_neg (show ¬ s = 38 from by rw [s_1_40]; decide), if_neg (show ¬ s = 42 from by rw [s_1_40]; decide), if_neg (show ¬ s = 43 from by rw [s_1_40]; decide), if_neg (show ¬ s = 45 from by rw [s_1_40]; decide), if_neg (show ¬ s = 47 from by rw [s_1_40]; decide), if_neg (show ¬ s = 60 from by rw [s_1_40]; decide), if_neg (show ¬ s = 61 from by rw [s_1_40]; decide), if_neg (show ¬ s = 62 from by rw [s_1_40]; decide), if_neg c_204], rfl, rfl⟩
    · refine x_iload_n (pc := 207) (i := 2) K dX7_twoOf_207 rfl rfl ?_
      refine x_if_eq (pc := 208) (tgt := 215) K dX7_twoOf_208 (by decide) (fun c_208 => ?_) (fun c_208 => ?_)
      · refine x_iconst (pc := 215) (v := 0) K dX7_twoOf_215 (by decide) ?_
        exact x_iretI (pc := 216) K dX7_twoOf_216 ⟨by unfold r_two; rw [if_neg (show ¬ s = 37 from by rw [s_1_40]; decide), if_neg (show ¬ s = 38 from by rw [s_1_40]; decide), if_neg (show ¬ s = 42 from by rw [s_1_40]; decide), if_neg (show ¬ s = 43 from by rw [s_1_40]; decide), if_neg (show ¬ s = 45 from by rw [s_1_40]; decide), if_neg (show ¬ s = 47 from by rw [s_1_40]; decide), if_neg (show ¬ s = 60 from by rw [s_1_40]; decide), if_neg (show ¬ s = 61 from by rw [s_1_40]; decide), if_neg (show ¬ s = 62 from by rw [s_1_40]; decide), if_pos c_204, if_pos c_208], rfl, rfl⟩
      · refine x_iconst (pc := 211) (v := 1) K dX7_twoOf_211 (by decide) ?_
        refine x_goto (pc := 212) (tgt := 216) K dX7_twoOf_212 (by decide) ?_
        exact x_iretI (pc := 216) K dX7_twoOf_216 ⟨by unfold r_two; rw [if_neg (show ¬ s = 37 from by rw [s_1_40]; decide), if_neg (show ¬ s = 38 from by rw [s_1_40]; decide), if_neg (show ¬ s = 42 from by rw [s_1_40]; decide), if_neg (show ¬ s = 43 from by rw [s_1_40]; decide), if_neg (show ¬ s = 45 from by rw [s_1_40]; decide), if_neg (show ¬ s = 47 from by rw [s_1_40]; decide), if_neg (show ¬ s = 60 from by rw [s_1_40]; decide), if_neg (show ¬ s = 61 from by rw [s_1_40]; decide), if_neg (show ¬ s = 62 from by rw [s_1_40]; decide), if_pos c_204, if_neg c_208], rfl, rfl⟩
  by_cases s_1_41 : s = 41
  · refine x_tableIn (pc := 1) (off := 202) (tgt := 203) K dX7_twoOf_1 (by rw [s_1_41]; decide) (by decide) ?_
    refine x_iload_n (pc := 203) (i := 1) K dX7_twoOf_203 rfl rfl ?_
    refine x_if_ne (pc := 204) (tgt := 211) K dX7_twoOf_204 (by decide) (fun c_204 => ?_) (fun c_204 => ?_)
    · refine x_iconst (pc := 211) (v := 1) K dX7_twoOf_211 (by decide) ?_
      refine x_goto (pc := 212) (tgt := 216) K dX7_twoOf_212 (by decide) ?_
      exact x_iretI (pc := 216) K dX7_twoOf_216 ⟨by unfold r_two; rw [if_neg (show ¬ s = 37 from by rw [s_1_41]; decide), if_neg (show ¬ s = 38 from by rw [s_1_41]; decide), if_neg (show ¬ s = 42 from by rw [s_1_41]; decide), if_neg (show ¬ s = 43 from by rw [s_1_41]; decide), if_neg (show ¬ s = 45 from by rw [s_1_41]; decide), if_neg (show ¬ s = 47 from by rw [s_1_41]; decide), if_neg (show ¬ s = 60 from by rw [s_1_41]; decide), if_neg (show ¬ s = 61 from by rw [s_1_41]; decide), if_neg (show ¬ s = 62 from by rw [s_1_41]; decide), if_neg c_204], rfl, rfl⟩
    · refine x_iload_n (pc := 207) (i := 2) K dX7_twoOf_207 rfl rfl ?_
      refine x_if_eq (pc := 208) (tgt := 215) K dX7_twoOf_208 (by decide) (fun c_208 => ?_) (fun c_208 => ?_)
      · refine x_iconst (pc := 215) (v := 0) K dX7_twoOf_215 (by decide) ?_
        exact x_iretI (pc := 216) K dX7_twoOf_216 ⟨by unfold r_two; rw [if_neg (show ¬ s = 37 from by rw [s_1_41]; decide), if_neg (show ¬ s = 38 from by rw [s_1_41]; decide), if_neg (show ¬ s = 42 from by rw [s_1_41]; decide), if_neg (show ¬ s = 43 from by rw [s_1_41]; decide), if_neg (show ¬ s = 45 from by rw [s_1_41]; decide), if_neg (show ¬ s = 47 from by rw [s_1_41]; decide), if_neg (show ¬ s = 60 from by rw [s_1_41]; decide), if_neg (show ¬ s = 61 from by rw [s_1_41]; decide), if_neg (show ¬ s = 62 from by rw [s_1_41]; decide), if_pos c_204, if_pos c_208], rfl, rfl⟩
      · refine x_iconst (pc := 211) (v := 1) K dX7_twoOf_211 (by decide) ?_
        refine x_goto (pc := 212) (tgt := 216) K dX7_twoOf_212 (by decide) ?_
        exact x_iretI (pc := 216) K dX7_twoOf_216 ⟨by unfold r_two; rw [if_neg (show ¬ s = 37 from by rw [s_1_41]; decide), if_neg (show ¬ s = 38 from by rw [s_1_41]; decide), if_neg (show ¬ s = 42 from by rw [s_1_41]; decide), if_neg (show ¬ s = 43 from by rw [s_1_41]; decide), if_neg (show ¬ s = 45 from by rw [s_1_41]; decide), if_neg (show ¬ s = 47 from by rw [s_1_41]; decide), if_neg (show ¬ s = 60 from by rw [s_1_41]; decide), if_neg (show ¬ s = 61 from by rw [s_1_41]; decide), if_neg (show ¬ s = 62 from by rw [s_1_41]; decide), if_pos c_204, if_neg c_208], rfl, rfl⟩
  by_cases s_1_42 : s = 42
  · refine x_tableIn (pc := 1) (off := 127) (tgt := 128) K dX7_twoOf_1 (by rw [s_1_42]; decide) (by decide) ?_
    refine x_iload_n (pc := 128) (i := 1) K dX7_twoOf_128 rfl rfl ?_
    refine x_iload_n (pc := 129) (i := 2) K dX7_twoOf_129 rfl rfl ?_
    refine x_imul (pc := 130) K dX7_twoOf_130 ?_
    exact x_iretI (pc := 131) K dX7_twoOf_131 ⟨by unfold r_two; rw [if_neg s_1_37, if_neg s_1_38, if_pos s_1_42], rfl, rfl⟩
  by_cases s_1_43 : s = 43
  · refine x_tableIn (pc := 1) (off := 119) (tgt := 120) K dX7_twoOf_1 (by rw [s_1_43]; decide) (by decide) ?_
    refine x_iload_n (pc := 120) (i := 1) K dX7_twoOf_120 rfl rfl ?_
    refine x_iload_n (pc := 121) (i := 2) K dX7_twoOf_121 rfl rfl ?_
    refine x_iadd (pc := 122) K dX7_twoOf_122 ?_
    exact x_iretI (pc := 123) K dX7_twoOf_123 ⟨by unfold r_two; rw [if_neg s_1_37, if_neg s_1_38, if_neg s_1_42, if_pos s_1_43], rfl, rfl⟩
  by_cases s_1_44 : s = 44
  · refine x_tableIn (pc := 1) (off := 202) (tgt := 203) K dX7_twoOf_1 (by rw [s_1_44]; decide) (by decide) ?_
    refine x_iload_n (pc := 203) (i := 1) K dX7_twoOf_203 rfl rfl ?_
    refine x_if_ne (pc := 204) (tgt := 211) K dX7_twoOf_204 (by decide) (fun c_204 => ?_) (fun c_204 => ?_)
    · refine x_iconst (pc := 211) (v := 1) K dX7_twoOf_211 (by decide) ?_
      refine x_goto (pc := 212) (tgt := 216) K dX7_twoOf_212 (by decide) ?_
      exact x_iretI (pc := 216) K dX7_twoOf_216 ⟨by unfold r_two; rw [if_neg (show ¬ s = 37 from by rw [s_1_44]; decide), if_neg (show ¬ s = 38 from by rw [s_1_44]; decide), if_neg (show ¬ s = 42 from by rw [s_1_44]; decide), if_neg (show ¬ s = 43 from by rw [s_1_44]; decide), if_neg (show ¬ s = 45 from by rw [s_1_44]; decide), if_neg (show ¬ s = 47 from by rw [s_1_44]; decide), if_neg (show ¬ s = 60 from by rw [s_1_44]; decide), if_neg (show ¬ s = 61 from by rw [s_1_44]; decide), if_neg (show ¬ s = 62 from by rw [s_1_44]; decide), if_neg c_204], rfl, rfl⟩
    · refine x_iload_n (pc := 207) (i := 2) K dX7_twoOf_207 rfl rfl ?_
      refine x_if_eq (pc := 208) (tgt := 215) K dX7_twoOf_208 (by decide) (fun c_208 => ?_) (fun c_208 => ?_)
      · refine x_iconst (pc := 215) (v := 0) K dX7_twoOf_215 (by decide) ?_
        exact x_iretI (pc := 216) K dX7_twoOf_216 ⟨by unfold r_two; rw [if_neg (show ¬ s = 37 from by rw [s_1_44]; decide), if_neg (show ¬ s = 38 from by rw [s_1_44]; decide), if_neg (show ¬ s = 42 from by rw [s_1_44]; decide), if_neg (show ¬ s = 43 from by rw [s_1_44]; decide), if_neg (show ¬ s = 45 from by rw [s_1_44]; decide), if_neg (show ¬ s = 47 from by rw [s_1_44]; decide), if_neg (show ¬ s = 60 from by rw [s_1_44]; decide), if_neg (show ¬ s = 61 from by rw [s_1_44]; decide), if_neg (show ¬ s = 62 from by rw [s_1_44]; decide), if_pos c_204, if_pos c_208], rfl, rfl⟩
      · refine x_iconst (pc := 211) (v := 1) K dX7_twoOf_211 (by decide) ?_
        refine x_goto (pc := 212) (tgt := 216) K dX7_twoOf_212 (by decide) ?_
        exact x_iretI (pc := 216) K dX7_twoOf_216 ⟨by unfold r_two; rw [if_neg (show ¬ s = 37 from by rw [s_1_44]; decide), if_neg (show ¬ s = 38 from by rw [s_1_44]; decide), if_neg (show ¬ s = 42 from by rw [s_1_44]; decide), if_neg (show ¬ s = 43 from by rw [s_1_44]; decide), if_neg (show ¬ s = 45 from by rw [s_1_44]; decide), if_neg (show ¬ s = 47 from by rw [s_1_44]; decide), if_neg (show ¬ s = 60 from by rw [s_1_44]; decide), if_neg (show ¬ s = 61 from by rw [s_1_44]; decide), if_neg (show ¬ s = 62 from by rw [s_1_44]; decide), if_pos c_204, if_neg c_208], rfl, rfl⟩
  by_cases s_1_45 : s = 45
  · refine x_tableIn (pc := 1) (off := 123) (tgt := 124) K dX7_twoOf_1 (by rw [s_1_45]; decide) (by decide) ?_
    refine x_iload_n (pc := 124) (i := 1) K dX7_twoOf_124 rfl rfl ?_
    refine x_iload_n (pc := 125) (i := 2) K dX7_twoOf_125 rfl rfl ?_
    refine x_isub (pc := 126) K dX7_twoOf_126 ?_
    exact x_iretI (pc := 127) K dX7_twoOf_127 ⟨by unfold r_two; rw [if_neg s_1_37, if_neg s_1_38, if_neg s_1_42, if_neg s_1_43, if_pos s_1_45], rfl, rfl⟩
  by_cases s_1_46 : s = 46
  · refine x_tableIn (pc := 1) (off := 202) (tgt := 203) K dX7_twoOf_1 (by rw [s_1_46]; decide) (by decide) ?_
    refine x_iload_n (pc := 203) (i := 1) K dX7_twoOf_203 rfl rfl ?_
    refine x_if_ne (pc := 204) (tgt := 211) K dX7_twoOf_204 (by decide) (fun c_204 => ?_) (fun c_204 => ?_)
    · refine x_iconst (pc := 211) (v := 1) K dX7_twoOf_211 (by decide) ?_
      refine x_goto (pc := 212) (tgt := 216) K dX7_twoOf_212 (by decide) ?_
      exact x_iretI (pc := 216) K dX7_twoOf_216 ⟨by unfold r_two; rw [if_neg (show ¬ s = 37 from by rw [s_1_46]; decide), if_neg (show ¬ s = 38 from by rw [s_1_46]; decide), if_neg (show ¬ s = 42 from by rw [s_1_46]; decide), if_neg (show ¬ s = 43 from by rw [s_1_46]; decide), if_neg (show ¬ s = 45 from by rw [s_1_46]; decide), if_neg (show ¬ s = 47 from by rw [s_1_46]; decide), if_neg (show ¬ s = 60 from by rw [s_1_46]; decide), if_neg (show ¬ s = 61 from by rw [s_1_46]; decide), if_neg (show ¬ s = 62 from by rw [s_1_46]; decide), if_neg c_204], rfl, rfl⟩
    · refine x_iload_n (pc := 207) (i := 2) K dX7_twoOf_207 rfl rfl ?_
      refine x_if_eq (pc := 208) (tgt := 215) K dX7_twoOf_208 (by decide) (fun c_208 => ?_) (fun c_208 => ?_)
      · refine x_iconst (pc := 215) (v := 0) K dX7_twoOf_215 (by decide) ?_
        exact x_iretI (pc := 216) K dX7_twoOf_216 ⟨by unfold r_two; rw [if_neg (show ¬ s = 37 from by rw [s_1_46]; decide), if_neg (show ¬ s = 38 from by rw [s_1_46]; decide), if_neg (show ¬ s = 42 from by rw [s_1_46]; decide), if_neg (show ¬ s = 43 from by rw [s_1_46]; decide), if_neg (show ¬ s = 45 from by rw [s_1_46]; decide), if_neg (show ¬ s = 47 from by rw [s_1_46]; decide), if_neg (show ¬ s = 60 from by rw [s_1_46]; decide), if_neg (show ¬ s = 61 from by rw [s_1_46]; decide), if_neg (show ¬ s = 62 from by rw [s_1_46]; decide), if_pos c_204, if_pos c_208], rfl, rfl⟩
      · refine x_iconst (pc := 211) (v := 1) K dX7_twoOf_211 (by decide) ?_
        refine x_goto (pc := 212) (tgt := 216) K dX7_twoOf_212 (by decide) ?_
        exact x_iretI (pc := 216) K dX7_twoOf_216 ⟨by unfold r_two; rw [if_neg (show ¬ s = 37 from by rw [s_1_46]; decide), if_neg (show ¬ s = 38 from by rw [s_1_46]; decide), if_neg (show ¬ s = 42 from by rw [s_1_46]; decide), if_neg (show ¬ s = 43 from by rw [s_1_46]; decide), if_neg (show ¬ s = 45 from by rw [s_1_46]; decide), if_neg (show ¬ s = 47 from by rw [s_1_46]; decide), if_neg (show ¬ s = 60 from by rw [s_1_46]; decide), if_neg (show ¬ s = 61 from by rw [s_1_46]; decide), if_neg (show ¬ s = 62 from by rw [s_1_46]; decide), if_pos c_204, if_neg c_208], rfl, rfl⟩
  by_cases s_1_47 : s = 47
  · refine x_tableIn (pc := 1) (off := 131) (tgt := 132) K dX7_twoOf_1 (by rw [s_1_47]; decide) (by decide) ?_
    refine x_iload_n (pc := 132) (i := 2) K dX7_twoOf_132 rfl rfl ?_
    refine x_if_ne (pc := 133) (tgt := 140) K dX7_twoOf_133 (by decide) (fun c_133 => ?_) (fun c_133 => ?_)
    · refine x_iload_n (pc := 140) (i := 1) K dX7_twoOf_140 rfl rfl ?_
      refine x_iload_n (pc := 141) (i := 2) K dX7_twoOf_141 rfl rfl ?_
      refine x_idiv (pc := 142) K dX7_twoOf_142 c_133 ?_
      exact x_iretI (pc := 143) K dX7_twoOf_143 ⟨by unfold r_two; rw [if_neg s_1_37, if_neg s_1_38, if_neg s_1_42, if_neg s_1_43, if_neg s_1_45, if_pos s_1_47, if_neg c_133], rfl, rfl⟩
    · refine x_iconst (pc := 136) (v := 0) K dX7_twoOf_136 (by decide) ?_
      refine x_goto (pc := 137) (tgt := 143) K dX7_twoOf_137 (by decide) ?_
      exact x_iretI (pc := 143) K dX7_twoOf_143 ⟨by unfold r_two; rw [if_neg s_1_37, if_neg s_1_38, if_neg s_1_42, if_neg s_1_43, if_neg s_1_45, if_pos s_1_47, if_pos c_133], rfl, rfl⟩
  by_cases s_1_48 : s = 48
  · refine x_tableIn (pc := 1) (off := 202) (tgt := 203) K dX7_twoOf_1 (by rw [s_1_48]; decide) (by decide) ?_
    refine x_iload_n (pc := 203) (i := 1) K dX7_twoOf_203 rfl rfl ?_
    refine x_if_ne (pc := 204) (tgt := 211) K dX7_twoOf_204 (by decide) (fun c_204 => ?_) (fun c_204 => ?_)
    · refine x_iconst (pc := 211) (v := 1) K dX7_twoOf_211 (by decide) ?_
      refine x_goto (pc := 212) (tgt := 216) K dX7_twoOf_212 (by decide) ?_
      exact x_iretI (pc := 216) K dX7_twoOf_216 ⟨by unfold r_two; rw [if_neg (show ¬ s = 37 from by rw [s_1_48]; decide), if_neg (show ¬ s = 38 from by rw [s_1_48]; decide), if_neg (show ¬ s = 42 from by rw [s_1_48]; decide), if_neg (show ¬ s = 43 from by rw [s_1_48]; decide), if_neg (show ¬ s = 45 from by rw [s_1_48]; decide), if_neg (show ¬ s = 47 from by rw [s_1_48]; decide), if_neg (show ¬ s = 60 from by rw [s_1_48]; decide), if_neg (show ¬ s = 61 from by rw [s_1_48]; decide), if_neg (show ¬ s = 62 from by rw [s_1_48]; decide), if_neg c_204], rfl, rfl⟩
    · refine x_iload_n (pc := 207) (i := 2) K dX7_twoOf_207 rfl rfl ?_
      refine x_if_eq (pc := 208) (tgt := 215) K dX7_twoOf_208 (by decide) (fun c_208 => ?_) (fun c_208 => ?_)
      · refine x_iconst (pc := 215) (v := 0) K dX7_twoOf_215 (by decide) ?_
        exact x_iretI (pc := 216) K dX7_twoOf_216 ⟨by unfold r_two; rw [if_neg (show ¬ s = 37 from by rw [s_1_48]; decide), if_neg (show ¬ s = 38 from by rw [s_1_48]; decide), if_neg (show ¬ s = 42 from by rw [s_1_48]; decide), if_neg (show ¬ s = 43 from by rw [s_1_48]; decide), if_neg (show ¬ s = 45 from by rw [s_1_48]; decide), if_neg (show ¬ s = 47 from by rw [s_1_48]; decide), if_neg (show ¬ s = 60 from by rw [s_1_48]; decide), if_neg (show ¬ s = 61 from by rw [s_1_48]; decide), if_neg (show ¬ s = 62 from by rw [s_1_48]; decide), if_pos c_204, if_pos c_208], rfl, rfl⟩
      · refine x_iconst (pc := 211) (v := 1) K dX7_twoOf_211 (by decide) ?_
        refine x_goto (pc := 212) (tgt := 216) K dX7_twoOf_212 (by decide) ?_
        exact x_iretI (pc := 216) K dX7_twoOf_216 ⟨by unfold r_two; rw [if_neg (show ¬ s = 37 from by rw [s_1_48]; decide), if_neg (show ¬ s = 38 from by rw [s_1_48]; decide), if_neg (show ¬ s = 42 from by rw [s_1_48]; decide), if_neg (show ¬ s = 43 from by rw [s_1_48]; decide), if_neg (show ¬ s = 45 from by rw [s_1_48]; decide), if_neg (show ¬ s = 47 from by rw [s_1_48]; decide), if_neg (show ¬ s = 60 from by rw [s_1_48]; decide), if_neg (show ¬ s = 61 from by rw [s_1_48]; decide), if_neg (show ¬ s = 62 from by rw [s_1_48]; decide), if_pos c_204, if_neg c_208], rfl, rfl⟩
  by_cases s_1_49 : s = 49
  · refine x_tableIn (pc := 1) (off := 202) (tgt := 203) K dX7_twoOf_1 (by rw [s_1_49]; decide) (by decide) ?_
    refine x_iload_n (pc := 203) (i := 1) K dX7_twoOf_203 rfl rfl ?_
    refine x_if_ne (pc := 204) (tgt := 211) K dX7_twoOf_204 (by decide) (fun c_204 => ?_) (fun c_204 => ?_)
    · refine x_iconst (pc := 211) (v := 1) K dX7_twoOf_211 (by decide) ?_
      refine x_goto (pc := 212) (tgt := 216) K dX7_twoOf_212 (by decide) ?_
      exact x_iretI (pc := 216) K dX7_twoOf_216 ⟨by unfold r_two; rw [if_neg (show ¬ s = 37 from by rw [s_1_49]; decide), if_neg (show ¬ s = 38 from by rw [s_1_49]; decide), if_neg (show ¬ s = 42 from by rw [s_1_49]; decide), if_neg (show ¬ s = 43 from by rw [s_1_49]; decide), if_neg (show ¬ s = 45 from by rw [s_1_49]; decide), if_neg (show ¬ s = 47 from by rw [s_1_49]; decide), if_neg (show ¬ s = 60 from by rw [s_1_49]; decide), if_neg (show ¬ s = 61 from by rw [s_1_49]; decide), if_neg (show ¬ s = 62 from by rw [s_1_49]; decide), if_neg c_204], rfl, rfl⟩
    · refine x_iload_n (pc := 207) (i := 2) K dX7_twoOf_207 rfl rfl ?_
      refine x_if_eq (pc := 208) (tgt := 215) K dX7_twoOf_208 (by decide) (fun c_208 => ?_) (fun c_208 => ?_)
      · refine x_iconst (pc := 215) (v := 0) K dX7_twoOf_215 (by decide) ?_
        exact x_iretI (pc := 216) K dX7_twoOf_216 ⟨by unfold r_two; rw [if_neg (show ¬ s = 37 from by rw [s_1_49]; decide), if_neg (show ¬ s = 38 from by rw [s_1_49]; decide), if_neg (show ¬ s = 42 from by rw [s_1_49]; decide), if_neg (show ¬ s = 43 from by rw [s_1_49]; decide), if_neg (show ¬ s = 45 from by rw [s_1_49]; decide), if_neg (show ¬ s = 47 from by rw [s_1_49]; decide), if_neg (show ¬ s = 60 from by rw [s_1_49]; decide), if_neg (show ¬ s = 61 from by rw [s_1_49]; decide), if_neg (show ¬ s = 62 from by rw [s_1_49]; decide), if_pos c_204, if_pos c_208], rfl, rfl⟩
      · refine x_iconst (pc := 211) (v := 1) K dX7_twoOf_211 (by decide) ?_
        refine x_goto (pc := 212) (tgt := 216) K dX7_twoOf_212 (by decide) ?_
        exact x_iretI (pc := 216) K dX7_twoOf_216 ⟨by unfold r_two; rw [if_neg (show ¬ s = 37 from by rw [s_1_49]; decide), if_neg (show ¬ s = 38 from by rw [s_1_49]; decide), if_neg (show ¬ s = 42 from by rw [s_1_49]; decide), if_neg (show ¬ s = 43 from by rw [s_1_49]; decide), if_neg (show ¬ s = 45 from by rw [s_1_49]; decide), if_neg (show ¬ s = 47 from by rw [s_1_49]; decide), if_neg (show ¬ s = 60 from by rw [s_1_49]; decide), if_neg (show ¬ s = 61 from by rw [s_1_49]; decide), if_neg (show ¬ s = 62 from by rw [s_1_49]; decide), if_pos c_204, if_neg c_208], rfl, rfl⟩
  by_cases s_1_50 : s = 50
  · refine x_tableIn (pc := 1) (off := 202) (tgt := 203) K dX7_twoOf_1 (by rw [s_1_50]; decide) (by decide) ?_
    refine x_iload_n (pc := 203) (i := 1) K dX7_twoOf_203 rfl rfl ?_
    refine x_if_ne (pc := 204) (tgt := 211) K dX7_twoOf_204 (by decide) (fun c_204 => ?_) (fun c_204 => ?_)
    · refine x_iconst (pc := 211) (v := 1) K dX7_twoOf_211 (by decide) ?_
      refine x_goto (pc := 212) (tgt := 216) K dX7_twoOf_212 (by decide) ?_
      exact x_iretI (pc := 216) K dX7_twoOf_216 ⟨by unfold r_two; rw [if_neg (show ¬ s = 37 from by rw [s_1_50]; decide), if_neg (show ¬ s = 38 from by rw [s_1_50]; decide), if_neg (show ¬ s = 42 from by rw [s_1_50]; decide), if_neg (show ¬ s = 43 from by rw [s_1_50]; decide), if_neg (show ¬ s = 45 from by rw [s_1_50]; decide), if_neg (show ¬ s = 47 from by rw [s_1_50]; decide), if_neg (show ¬ s = 60 from by rw [s_1_50]; decide), if_neg (show ¬ s = 61 from by rw [s_1_50]; decide), if_neg (show ¬ s = 62 from by rw [s_1_50]; decide), if_neg c_204], rfl, rfl⟩
    · refine x_iload_n (pc := 207) (i := 2) K dX7_twoOf_207 rfl rfl ?_
      refine x_if_eq (pc := 208) (tgt := 215) K dX7_twoOf_208 (by decide) (fun c_208 => ?_) (fun c_208 => ?_)
      · refine x_iconst (pc := 215) (v := 0) K dX7_twoOf_215 (by decide) ?_
        exact x_iretI (pc := 216) K dX7_twoOf_216 ⟨by unfold r_two; rw [if_neg (show ¬ s = 37 from by rw [s_1_50]; decide), if_neg (show ¬ s = 38 from by rw [s_1_50]; decide), if_neg (show ¬ s = 42 from by rw [s_1_50]; decide), if_neg (show ¬ s = 43 from by rw [s_1_50]; decide), if_neg (show ¬ s = 45 from by rw [s_1_50]; decide), if_neg (show ¬ s = 47 from by rw [s_1_50]; decide), if_neg (show ¬ s = 60 from by rw [s_1_50]; decide), if_neg (show ¬ s = 61 from by rw [s_1_50]; decide), if_neg (show ¬ s = 62 from by rw [s_1_50]; decide), if_pos c_204, if_pos c_208], rfl, rfl⟩
      · refine x_iconst (pc := 211) (v := 1) K dX7_twoOf_211 (by decide) ?_
        refine x_goto (pc := 212) (tgt := 216) K dX7_twoOf_212 (by decide) ?_
        exact x_iretI (pc := 216) K dX7_twoOf_216 ⟨by unfold r_two; rw [if_neg (show ¬ s = 37 from by rw [s_1_50]; decide), if_neg (show ¬ s = 38 from by rw [s_1_50]; decide), if_neg (show ¬ s = 42 from by rw [s_1_50]; decide), if_neg (show ¬ s = 43 from by rw [s_1_50]; decide), if_neg (show ¬ s = 45 from by rw [s_1_50]; decide), if_neg (show ¬ s = 47 from by rw [s_1_50]; decide), if_neg (show ¬ s = 60 from by rw [s_1_50]; decide), if_neg (show ¬ s = 61 from by rw [s_1_50]; decide), if_neg (show ¬ s = 62 from by rw [s_1_50]; decide), if_pos c_204, if_neg c_208], rfl, rfl⟩
  by_cases s_1_51 : s = 51
  · refine x_tableIn (pc := 1) (off := 202) (tgt := 203) K dX7_twoOf_1 (by rw [s_1_51]; decide) (by decide) ?_
    refine x_iload_n (pc := 203) (i := 1) K dX7_twoOf_203 rfl rfl ?_
    refine x_if_ne (pc := 204) (tgt := 211) K dX7_twoOf_204 (by decide) (fun c_204 => ?_) (fun c_204 => ?_)
    · refine x_iconst (pc := 211) (v := 1) K dX7_twoOf_211 (by decide) ?_
      refine x_goto (pc := 212) (tgt := 216) K dX7_twoOf_212 (by decide) ?_
      exact x_iretI (pc := 216) K dX7_twoOf_216 ⟨by unfold r_two; rw [if_neg (show ¬ s = 37 from by rw [s_1_51]; decide), if_neg (show ¬ s = 38 from by rw [s_1_51]; decide), if_neg (show ¬ s = 42 from by rw [s_1_51]; decide), if_neg (show ¬ s = 43 from by rw [s_1_51]; decide), if_neg (show ¬ s = 45 from by rw [s_1_51]; decide), if_neg (show ¬ s = 47 from by rw [s_1_51]; decide), if_neg (show ¬ s = 60 from by rw [s_1_51]; decide), if_neg (show ¬ s = 61 from by rw [s_1_51]; decide), if_neg (show ¬ s = 62 from by rw [s_1_51]; decide), if_neg c_204], rfl, rfl⟩
    · refine x_iload_n (pc := 207) (i := 2) K dX7_twoOf_207 rfl rfl ?_
      refine x_if_eq (pc := 208) (tgt := 215) K dX7_twoOf_208 (by decide) (fun c_208 => ?_) (fun c_208 => ?_)
      · refine x_iconst (pc := 215) (v := 0) K dX7_twoOf_215 (by decide) ?_
        exact x_iretI (pc := 216) K dX7_twoOf_216 ⟨by unfold r_two; rw [if_neg (show ¬ s = 37 from by rw [s_1_51]; decide), if_neg (show ¬ s = 38 from by rw [s_1_51]; decide), if_neg (show ¬ s = 42 from by rw [s_1_51]; decide), if_neg (show ¬ s = 43 from by rw [s_1_51]; decide), if_neg (show ¬ s = 45 from by rw [s_1_51]; decide), if_neg (show ¬ s = 47 from by rw [s_1_51]; decide), if_neg (show ¬ s = 60 from by rw [s_1_51]; decide), if_neg (show ¬ s = 61 from by rw [s_1_51]; decide), if_neg (show ¬ s = 62 from by rw [s_1_51]; decide), if_pos c_204, if_pos c_208], rfl, rfl⟩
      · refine x_iconst (pc := 211) (v := 1) K dX7_twoOf_211 (by decide) ?_
        refine x_goto (pc := 212) (tgt := 216) K dX7_twoOf_212 (by decide) ?_
        exact x_iretI (pc := 216) K dX7_twoOf_216 ⟨by unfold r_two; rw [if_neg (show ¬ s = 37 from by rw [s_1_51]; decide), if_neg (show ¬ s = 38 from by rw [s_1_51]; decide), if_neg (show ¬ s = 42 from by rw [s_1_51]; decide), if_neg (show ¬ s = 43 from by rw [s_1_51]; decide), if_neg (show ¬ s = 45 from by rw [s_1_51]; decide), if_neg (show ¬ s = 47 from by rw [s_1_51]; decide), if_neg (show ¬ s = 60 from by rw [s_1_51]; decide), if_neg (show ¬ s = 61 from by rw [s_1_51]; decide), if_neg (show ¬ s = 62 from by rw [s_1_51]; decide), if_pos c_204, if_neg c_208], rfl, rfl⟩
  by_cases s_1_52 : s = 52
  · refine x_tableIn (pc := 1) (off := 202) (tgt := 203) K dX7_twoOf_1 (by rw [s_1_52]; decide) (by decide) ?_
    refine x_iload_n (pc := 203) (i := 1) K dX7_twoOf_203 rfl rfl ?_
    refine x_if_ne (pc := 204) (tgt := 211) K dX7_twoOf_204 (by decide) (fun c_204 => ?_) (fun c_204 => ?_)
    · refine x_iconst (pc := 211) (v := 1) K dX7_twoOf_211 (by decide) ?_
      refine x_goto (pc := 212) (tgt := 216) K dX7_twoOf_212 (by decide) ?_
      exact x_iretI (pc := 216) K dX7_twoOf_216 ⟨by unfold r_two; rw [if_neg (show ¬ s = 37 from by rw [s_1_52]; decide), if_neg (show ¬ s = 38 from by rw [s_1_52]; decide), if_neg (show ¬ s = 42 from by rw [s_1_52]; decide), if_neg (show ¬ s = 43 from by rw [s_1_52]; decide), if_neg (show ¬ s = 45 from by rw [s_1_52]; decide), if_neg (show ¬ s = 47 from by rw [s_1_52]; decide), if_neg (show ¬ s = 60 from by rw [s_1_52]; decide), if_neg (show ¬ s = 61 from by rw [s_1_52]; decide), if_neg (show ¬ s = 62 from by rw [s_1_52]; decide), if_neg c_204], rfl, rfl⟩
    · refine x_iload_n (pc := 207) (i := 2) K dX7_twoOf_207 rfl rfl ?_
      refine x_if_eq (pc := 208) (tgt := 215) K dX7_twoOf_208 (by decide) (fun c_208 => ?_) (fun c_208 => ?_)
      · refine x_iconst (pc := 215) (v := 0) K dX7_twoOf_215 (by decide) ?_
        exact x_iretI (pc := 216) K dX7_twoOf_216 ⟨by unfold r_two; rw [if_neg (show ¬ s = 37 from by rw [s_1_52]; decide), if_neg (show ¬ s = 38 from by rw [s_1_52]; decide), if_neg (show ¬ s = 42 from by rw [s_1_52]; decide), if_neg (show ¬ s = 43 from by rw [s_1_52]; decide), if_neg (show ¬ s = 45 from by rw [s_1_52]; decide), if_neg (show ¬ s = 47 from by rw [s_1_52]; decide), if_neg (show ¬ s = 60 from by rw [s_1_52]; decide), if_neg (show ¬ s = 61 from by rw [s_1_52]; decide), if_neg (show ¬ s = 62 from by rw [s_1_52]; decide), if_pos c_204, if_pos c_208], rfl, rfl⟩
      · refine x_iconst (pc := 211) (v := 1) K dX7_twoOf_211 (by decide) ?_
        refine x_goto (pc := 212) (tgt := 216) K dX7_twoOf_212 (by decide) ?_
        exact x_iretI (pc := 216) K dX7_twoOf_216 ⟨by unfold r_two; rw [if_neg (show ¬ s = 37 from by rw [s_1_52]; decide), if_neg (show ¬ s = 38 from by rw [s_1_52]; decide), if_neg (show ¬ s = 42 from by rw [s_1_52]; decide), if_neg (show ¬ s = 43 from by rw [s_1_52]; decide), if_neg (show ¬ s = 45 from by rw [s_1_52]; decide), if_neg (show ¬ s = 47 from by rw [s_1_52]; decide), if_neg (show ¬ s = 60 from by rw [s_1_52]; decide), if_neg (show ¬ s = 61 from by rw [s_1_52]; decide), if_neg (show ¬ s = 62 from by rw [s_1_52]; decide), if_pos c_204, if_neg c_208], rfl, rfl⟩
  by_cases s_1_53 : s = 53
  · refine x_tableIn (pc := 1) (off := 202) (tgt := 203) K dX7_twoOf_1 (by rw [s_1_53]; decide) (by decide) ?_
    refine x_iload_n (pc := 203) (i := 1) K dX7_twoOf_203 rfl rfl ?_
    refine x_if_ne (pc := 204) (tgt := 211) K dX7_twoOf_204 (by decide) (fun c_204 => ?_) (fun c_204 => ?_)
    · refine x_iconst (pc := 211) (v := 1) K dX7_twoOf_211 (by decide) ?_
      refine x_goto (pc := 212) (tgt := 216) K dX7_twoOf_212 (by decide) ?_
      exact x_iretI (pc := 216) K dX7_twoOf_216 ⟨by unfold r_two; rw [if_neg (show ¬ s = 37 from by rw [s_1_53]; decide), if_neg (show ¬ s = 38 from by rw [s_1_53]; decide), if_neg (show ¬ s = 42 from by rw [s_1_53]; decide), if_neg (show ¬ s = 43 from by rw [s_1_53]; decide), if_neg (show ¬ s = 45 from by rw [s_1_53]; decide), if_neg (show ¬ s = 47 from by rw [s_1_53]; decide), if_neg (show ¬ s = 60 from by rw [s_1_53]; decide), if_neg (show ¬ s = 61 from by rw [s_1_53]; decide), if_neg (show ¬ s = 62 from by rw [s_1_53]; decide), if_neg c_204], rfl, rfl⟩
    · refine x_iload_n (pc := 207) (i := 2) K dX7_twoOf_207 rfl rfl ?_
      refine x_if_eq (pc := 208) (tgt := 215) K dX7_twoOf_208 (by decide) (fun c_208 => ?_) (fun c_208 => ?_)
      · refine x_iconst (pc := 215) (v := 0) K dX7_twoOf_215 (by decide) ?_
        exact x_iretI (pc := 216) K dX7_twoOf_216 ⟨by unfold r_two; rw [if_neg (show ¬ s = 37 from by rw [s_1_53]; decide), if_neg (show ¬ s = 38 from by rw [s_1_53]; decide), if_neg (show ¬ s = 42 from by rw [s_1_53]; decide), if_neg (show ¬ s = 43 from by rw [s_1_53]; decide), if_neg (show ¬ s = 45 from by rw [s_1_53]; decide), if_neg (show ¬ s = 47 from by rw [s_1_53]; decide), if_neg (show ¬ s = 60 from by rw [s_1_53]; decide), if_neg (show ¬ s = 61 from by rw [s_1_53]; decide), if_neg (show ¬ s = 62 from by rw [s_1_53]; decide), if_pos c_204, if_pos c_208], rfl, rfl⟩
      · refine x_iconst (pc := 211) (v := 1) K dX7_twoOf_211 (by decide) ?_
        refine x_goto (pc := 212) (tgt := 216) K dX7_twoOf_212 (by decide) ?_
        exact x_iretI (pc := 216) K dX7_twoOf_216 ⟨by unfold r_two; rw [if_neg (show ¬ s = 37 from by rw [s_1_53]; decide), if_neg (show ¬ s = 38 from by rw [s_1_53]; decide), if_neg (show ¬ s = 42 from by rw [s_1_53]; decide), if_neg (show ¬ s = 43 from by rw [s_1_53]; decide), if_neg (show ¬ s = 45 from by rw [s_1_53]; decide), if_neg (show ¬ s = 47 from by rw [s_1_53]; decide), if_neg (show ¬ s = 60 from by rw [s_1_53]; decide), if_neg (show ¬ s = 61 from by rw [s_1_53]; decide), if_neg (show ¬ s = 62 from by rw [s_1_53]; decide), if_pos c_204, if_neg c_208], rfl, rfl⟩
  by_cases s_1_54 : s = 54
  · refine x_tableIn (pc := 1) (off := 202) (tgt := 203) K dX7_twoOf_1 (by rw [s_1_54]; decide) (by decide) ?_
    refine x_iload_n (pc := 203) (i := 1) K dX7_twoOf_203 rfl rfl ?_
    refine x_if_ne (pc := 204) (tgt := 211) K dX7_twoOf_204 (by decide) (fun c_204 => ?_) (fun c_204 => ?_)
    · refine x_iconst (pc := 211) (v := 1) K dX7_twoOf_211 (by decide) ?_
      refine x_goto (pc := 212) (tgt := 216) K dX7_twoOf_212 (by decide) ?_
      exact x_iretI (pc := 216) K dX7_twoOf_216 ⟨by unfold r_two; rw [if_neg (show ¬ s = 37 from by rw [s_1_54]; decide), if_neg (show ¬ s = 38 from by rw [s_1_54]; decide), if_neg (show ¬ s = 42 from by rw [s_1_54]; decide), if_neg (show ¬ s = 43 from by rw [s_1_54]; decide), if_neg (show ¬ s = 45 from by rw [s_1_54]; decide), if_neg (show ¬ s = 47 from by rw [s_1_54]; decide), if_neg (show ¬ s = 60 from by rw [s_1_54]; decide), if_neg (show ¬ s = 61 from by rw [s_1_54]; decide), if_neg (show ¬ s = 62 from by rw [s_1_54]; decide), if_neg c_204], rfl, rfl⟩
    · refine x_iload_n (pc := 207) (i := 2) K dX7_twoOf_207 rfl rfl ?_
      refine x_if_eq (pc := 208) (tgt := 215) K dX7_twoOf_208 (by decide) (fun c_208 => ?_) (fun c_208 => ?_)
      · refine x_iconst (pc := 215) (v := 0) K dX7_twoOf_215 (by decide) ?_
        exact x_iretI (pc := 216) K dX7_twoOf_216 ⟨by unfold r_two; rw [if_neg (show ¬ s = 37 from by rw [s_1_54]; decide), if_neg (show ¬ s = 38 from by rw [s_1_54]; decide), if_neg (show ¬ s = 42 from by rw [s_1_54]; decide), if_neg (show ¬ s = 43 from by rw [s_1_54]; decide), if_neg (show ¬ s = 45 from by rw [s_1_54]; decide), if_neg (show ¬ s = 47 from by rw [s_1_54]; decide), if_neg (show ¬ s = 60 from by rw [s_1_54]; decide), if_neg (show ¬ s = 61 from by rw [s_1_54]; decide), if_neg (show ¬ s = 62 from by rw [s_1_54]; decide), if_pos c_204, if_pos c_208], rfl, rfl⟩
      · refine x_iconst (pc := 211) (v := 1) K dX7_twoOf_211 (by decide) ?_
        refine x_goto (pc := 212) (tgt := 216) K dX7_twoOf_212 (by decide) ?_
        exact x_iretI (pc := 216) K dX7_twoOf_216 ⟨by unfold r_two; rw [if_neg (show ¬ s = 37 from by rw [s_1_54]; decide), if_neg (show ¬ s = 38 from by rw [s_1_54]; decide), if_neg (show ¬ s = 42 from by rw [s_1_54]; decide), if_neg (show ¬ s = 43 from by rw [s_1_54]; decide), if_neg (show ¬ s = 45 from by rw [s_1_54]; decide), if_neg (show ¬ s = 47 from by rw [s_1_54]; decide), if_neg (show ¬ s = 60 from by rw [s_1_54]; decide), if_neg (show ¬ s = 61 from by rw [s_1_54]; decide), if_neg (show ¬ s = 62 from by rw [s_1_54]; decide), if_pos c_204, if_neg c_208], rfl, rfl⟩
  by_cases s_1_55 : s = 55
  · refine x_tableIn (pc := 1) (off := 202) (tgt := 203) K dX7_twoOf_1 (by rw [s_1_55]; decide) (by decide) ?_
    refine x_iload_n (pc := 203) (i := 1) K dX7_twoOf_203 rfl rfl ?_
    refine x_if_ne (pc := 204) (tgt := 211) K dX7_twoOf_204 (by decide) (fun c_204 => ?_) (fun c_204 => ?_)
    · refine x_iconst (pc := 211) (v := 1) K dX7_twoOf_211 (by decide) ?_
      refine x_goto (pc := 212) (tgt := 216) K dX7_twoOf_212 (by decide) ?_
      exact x_iretI (pc := 216) K dX7_twoOf_216 ⟨by unfold r_two; rw [if_neg (show ¬ s = 37 from by rw [s_1_55]; decide), if_neg (show ¬ s = 38 from by rw [s_1_55]; decide), if_neg (show ¬ s = 42 from by rw [s_1_55]; decide), if_neg (show ¬ s = 43 from by rw [s_1_55]; decide), if_neg (show ¬ s = 45 from by rw [s_1_55]; decide), if_neg (show ¬ s = 47 from by rw [s_1_55]; decide), if_neg (show ¬ s = 60 from by rw [s_1_55]; decide), if_neg (show ¬ s = 61 from by rw [s_1_55]; decide), if_neg (show ¬ s = 62 from by rw [s_1_55]; decide), if_neg c_204], rfl, rfl⟩
    · refine x_iload_n (pc := 207) (i := 2) K dX7_twoOf_207 rfl rfl ?_
      refine x_if_eq (pc := 208) (tgt := 215) K dX7_twoOf_208 (by decide) (fun c_208 => ?_) (fun c_208 => ?_)
      · refine x_iconst (pc := 215) (v := 0) K dX7_twoOf_215 (by decide) ?_
        exact x_iretI (pc := 216) K dX7_twoOf_216 ⟨by unfold r_two; rw [if_neg (show ¬ s = 37 from by rw [s_1_55]; decide), if_neg (show ¬ s = 38 from by rw [s_1_55]; decide), if_neg (show ¬ s = 42 from by rw [s_1_55]; decide), if_neg (show ¬ s = 43 from by rw [s_1_55]; decide), if_neg (show ¬ s = 45 from by rw [s_1_55]; decide), if_neg (show ¬ s = 47 from by rw [s_1_55]; decide), if_neg (show ¬ s = 60 from by rw [s_1_55]; decide), if_neg (show ¬ s = 61 from by rw [s_1_55]; decide), if_neg (show ¬ s = 62 from by rw [s_1_55]; decide), if_pos c_204, if_pos c_208], rfl, rfl⟩
      · refine x_iconst (pc := 211) (v := 1) K dX7_twoOf_211 (by decide) ?_
        refine x_goto (pc := 212) (tgt := 216) K dX7_twoOf_212 (by decide) ?_
        exact x_iretI (pc := 216) K dX7_twoOf_216 ⟨by unfold r_two; rw [if_neg (show ¬ s = 37 from by rw [s_1_55]; decide), if_neg (show ¬ s = 38 from by rw [s_1_55]; decide), if_neg (show ¬ s = 42 from by rw [s_1_55]; decide), if_neg (show ¬ s = 43 from by rw [s_1_55]; decide), if_neg (show ¬ s = 45 from by rw [s_1_55]; decide), if_neg (show ¬ s = 47 from by rw [s_1_55]; decide), if_neg (show ¬ s = 60 from by rw [s_1_55]; decide), if_neg (show ¬ s = 61 from by rw [s_1_55]; decide), if_neg (show ¬ s = 62 from by rw [s_1_55]; decide), if_pos c_204, if_neg c_208], rfl, rfl⟩
  by_cases s_1_56 : s = 56
  · refine x_tableIn (pc := 1) (off := 202) (tgt := 203) K dX7_twoOf_1 (by rw [s_1_56]; decide) (by decide) ?_
    refine x_iload_n (pc := 203) (i := 1) K dX7_twoOf_203 rfl rfl ?_
    refine x_if_ne (pc := 204) (tgt := 211) K dX7_twoOf_204 (by decide) (fun c_204 => ?_) (fun c_204 => ?_)
    · refine x_iconst (pc := 211) (v := 1) K dX7_twoOf_211 (by decide) ?_
      refine x_goto (pc := 212) (tgt := 216) K dX7_twoOf_212 (by decide) ?_
      exact x_iretI (pc := 216) K dX7_twoOf_216 ⟨by unfold r_two; rw [if_neg (show ¬ s = 37 from by rw [s_1_56]; decide), if_neg (show ¬ s = 38 from by rw [s_1_56]; decide), if_neg (show ¬ s = 42 from by rw [s_1_56]; decide), if_neg (show ¬ s = 43 from by rw [s_1_56]; decide), if_neg (show ¬ s = 45 from by rw [s_1_56]; decide), if_neg (show ¬ s = 47 from by rw [s_1_56]; decide), if_neg (show ¬ s = 60 from by rw [s_1_56]; decide), if_neg (show ¬ s = 61 from by rw [s_1_56]; decide), if_neg (show ¬ s = 62 from by rw [s_1_56]; decide), if_neg c_204], rfl, rfl⟩
    · refine x_iload_n (pc := 207) (i := 2) K dX7_twoOf_207 rfl rfl ?_
      refine x_if_eq (pc := 208) (tgt := 215) K dX7_twoOf_208 (by decide) (fun c_208 => ?_) (fun c_208 => ?_)
      · refine x_iconst (pc := 215) (v := 0) K dX7_twoOf_215 (by decide) ?_
        exact x_iretI (pc := 216) K dX7_twoOf_216 ⟨by unfold r_two; rw [if_neg (show ¬ s = 37 from by rw [s_1_56]; decide), if_neg (show ¬ s = 38 from by rw [s_1_56]; decide), if_neg (show ¬ s = 42 from by rw [s_1_56]; decide), if_neg (show ¬ s = 43 from by rw [s_1_56]; decide), if_neg (show ¬ s = 45 from by rw [s_1_56]; decide), if_neg (show ¬ s = 47 from by rw [s_1_56]; decide), if_neg (show ¬ s = 60 from by rw [s_1_56]; decide), if_neg (show ¬ s = 61 from by rw [s_1_56]; decide), if_neg (show ¬ s = 62 from by rw [s_1_56]; decide), if_pos c_204, if_pos c_208], rfl, rfl⟩
      · refine x_iconst (pc := 211) (v := 1) K dX7_twoOf_211 (by decide) ?_
        refine x_goto (pc := 212) (tgt := 216) K dX7_twoOf_212 (by decide) ?_
        exact x_iretI (pc := 216) K dX7_twoOf_216 ⟨by unfold r_two; rw [if_neg (show ¬ s = 37 from by rw [s_1_56]; decide), if_neg (show ¬ s = 38 from by rw [s_1_56]; decide), if_neg (show ¬ s = 42 from by rw [s_1_56]; decide), if_neg (show ¬ s = 43 from by rw [s_1_56]; decide), if_neg (show ¬ s = 45 from by rw [s_1_56]; decide), if_neg (show ¬ s = 47 from by rw [s_1_56]; decide), if_neg (show ¬ s = 60 from by rw [s_1_56]; decide), if_neg (show ¬ s = 61 from by rw [s_1_56]; decide), if_neg (show ¬ s = 62 from by rw [s_1_56]; decide), if_pos c_204, if_neg c_208], rfl, rfl⟩
  by_cases s_1_57 : s = 57
  · refine x_tableIn (pc := 1) (off := 202) (tgt := 203) K dX7_twoOf_1 (by rw [s_1_57]; decide) (by decide) ?_
    refine x_iload_n (pc := 203) (i := 1) K dX7_twoOf_203 rfl rfl ?_
    refine x_if_ne (pc := 204) (tgt := 211) K dX7_twoOf_204 (by decide) (fun c_204 => ?_) (fun c_204 => ?_)
    · refine x_iconst (pc := 211) (v := 1) K dX7_twoOf_211 (by decide) ?_
      refine x_goto (pc := 212) (tgt := 216) K dX7_twoOf_212 (by decide) ?_
      exact x_iretI (pc := 216) K dX7_twoOf_216 ⟨by unfold r_two; rw [if_neg (show ¬ s = 37 from by rw [s_1_57]; decide), if_neg (show ¬ s = 38 from by rw [s_1_57]; decide), if_neg (show ¬ s = 42 from by rw [s_1_57]; decide), if_neg (show ¬ s = 43 from by rw [s_1_57]; decide), if_neg (show ¬ s = 45 from by rw [s_1_57]; decide), if_neg (show ¬ s = 47 from by rw [s_1_57]; decide), if_neg (show ¬ s = 60 from by rw [s_1_57]; decide), if_neg (show ¬ s = 61 from by rw [s_1_57]; decide), if_neg (show ¬ s = 62 from by rw [s_1_57]; decide), if_neg c_204], rfl, rfl⟩
    · refine x_iload_n (pc := 207) (i := 2) K dX7_twoOf_207 rfl rfl ?_
      refine x_if_eq (pc := 208) (tgt := 215) K dX7_twoOf_208 (by decide) (fun c_208 => ?_) (fun c_208 => ?_)
      · refine x_iconst (pc := 215) (v := 0) K dX7_twoOf_215 (by decide) ?_
        exact x_iretI (pc := 216) K dX7_twoOf_216 ⟨by unfold r_two; rw [if_neg (show ¬ s = 37 from by rw [s_1_57]; decide), if_neg (show ¬ s = 38 from by rw [s_1_57]; decide), if_neg (show ¬ s = 42 from by rw [s_1_57]; decide), if_neg (show ¬ s = 43 from by rw [s_1_57]; decide), if_neg (show ¬ s = 45 from by rw [s_1_57]; decide), if_neg (show ¬ s = 47 from by rw [s_1_57]; decide), if_neg (show ¬ s = 60 from by rw [s_1_57]; decide), if_neg (show ¬ s = 61 from by rw [s_1_57]; decide), if_neg (show ¬ s = 62 from by rw [s_1_57]; decide), if_pos c_204, if_pos c_208], rfl, rfl⟩
      · refine x_iconst (pc := 211) (v := 1) K dX7_twoOf_211 (by decide) ?_
        refine x_goto (pc := 212) (tgt := 216) K dX7_twoOf_212 (by decide) ?_
        exact x_iretI (pc := 216) K dX7_twoOf_216 ⟨by unfold r_two; rw [if_neg (show ¬ s = 37 from by rw [s_1_57]; decide), if_neg (show ¬ s = 38 from by rw [s_1_57]; decide), if_neg (show ¬ s = 42 from by rw [s_1_57]; decide), if_neg (show ¬ s = 43 from by rw [s_1_57]; decide), if_neg (show ¬ s = 45 from by rw [s_1_57]; decide), if_neg (show ¬ s = 47 from by rw [s_1_57]; decide), if_neg (show ¬ s = 60 from by rw [s_1_57]; decide), if_neg (show ¬ s = 61 from by rw [s_1_57]; decide), if_neg (show ¬ s = 62 from by rw [s_1_57]; decide), if_pos c_204, if_neg c_208], rfl, rfl⟩
  by_cases s_1_58 : s = 58
  · refine x_tableIn (pc := 1) (off := 202) (tgt := 203) K dX7_twoOf_1 (by rw [s_1_58]; decide) (by decide) ?_
    refine x_iload_n (pc := 203) (i := 1) K dX7_twoOf_203 rfl rfl ?_
    refine x_if_ne (pc := 204) (tgt := 211) K dX7_twoOf_204 (by decide) (fun c_204 => ?_) (fun c_204 => ?_)
    · refine x_iconst (pc := 211) (v := 1) K dX7_twoOf_211 (by decide) ?_
      refine x_goto (pc := 212) (tgt := 216) K dX7_twoOf_212 (by decide) ?_
      exact x_iretI (pc := 216) K dX7_twoOf_216 ⟨by unfold r_two; rw [if_neg (show ¬ s = 37 from by rw [s_1_58]; decide), if_neg (show ¬ s = 38 from by rw [s_1_58]; decide), if_neg (show ¬ s = 42 from by rw [s_1_58]; decide), if_neg (show ¬ s = 43 from by rw [s_1_58]; decide), if_neg (show ¬ s = 45 from by rw [s_1_58]; decide), if_neg (show ¬ s = 47 from by rw [s_1_58]; decide), if_neg (show ¬ s = 60 from by rw [s_1_58]; decide), if_neg (show ¬ s = 61 from by rw [s_1_58]; decide), if_neg (show ¬ s = 62 from by rw [s_1_58]; decide), if_neg c_204], rfl, rfl⟩
    · refine x_iload_n (pc := 207) (i := 2) K dX7_twoOf_207 rfl rfl ?_
      refine x_if_eq (pc := 208) (tgt := 215) K dX7_twoOf_208 (by decide) (fun c_208 => ?_) (fun c_208 => ?_)
      · refine x_iconst (pc := 215) (v := 0) K dX7_twoOf_215 (by decide) ?_
        exact x_iretI (pc := 216) K dX7_twoOf_216 ⟨by unfold r_two; rw [if_neg (show ¬ s = 37 from by rw [s_1_58]; decide), if_neg (show ¬ s = 38 from by rw [s_1_58]; decide), if_neg (show ¬ s = 42 from by rw [s_1_58]; decide), if_neg (show ¬ s = 43 from by rw [s_1_58]; decide), if_neg (show ¬ s = 45 from by rw [s_1_58]; decide), if_neg (show ¬ s = 47 from by rw [s_1_58]; decide), if_neg (show ¬ s = 60 from by rw [s_1_58]; decide), if_neg (show ¬ s = 61 from by rw [s_1_58]; decide), if_neg (show ¬ s = 62 from by rw [s_1_58]; decide), if_pos c_204, if_pos c_208], rfl, rfl⟩
      · refine x_iconst (pc := 211) (v := 1) K dX7_twoOf_211 (by decide) ?_
        refine x_goto (pc := 212) (tgt := 216) K dX7_twoOf_212 (by decide) ?_
        exact x_iretI (pc := 216) K dX7_twoOf_216 ⟨by unfold r_two; rw [if_neg (show ¬ s = 37 from by rw [s_1_58]; decide), if_neg (show ¬ s = 38 from by rw [s_1_58]; decide), if_neg (show ¬ s = 42 from by rw [s_1_58]; decide), if_neg (show ¬ s = 43 from by rw [s_1_58]; decide), if_neg (show ¬ s = 45 from by rw [s_1_58]; decide), if_neg (show ¬ s = 47 from by rw [s_1_58]; decide), if_neg (show ¬ s = 60 from by rw [s_1_58]; decide), if_neg (show ¬ s = 61 from by rw [s_1_58]; decide), if_neg (show ¬ s = 62 from by rw [s_1_58]; decide), if_pos c_204, if_neg c_208], rfl, rfl⟩
  by_cases s_1_59 : s = 59
  · refine x_tableIn (pc := 1) (off := 202) (tgt := 203) K dX7_twoOf_1 (by rw [s_1_59]; decide) (by decide) ?_
    refine x_iload_n (pc := 203) (i := 1) K dX7_twoOf_203 rfl rfl ?_
    refine x_if_ne (pc := 204) (tgt := 211) K dX7_twoOf_204 (by decide) (fun c_204 => ?_) (fun c_204 => ?_)
    · refine x_iconst (pc := 211) (v := 1) K dX7_twoOf_211 (by decide) ?_
      refine x_goto (pc := 212) (tgt := 216) K dX7_twoOf_212 (by decide) ?_
      exact x_iretI (pc := 216) K dX7_twoOf_216 ⟨by unfold r_two; rw [if_neg (show ¬ s = 37 from by rw [s_1_59]; decide), if_neg (show ¬ s = 38 from by rw [s_1_59]; decide), if_neg (show ¬ s = 42 from by rw [s_1_59]; decide), if_neg (show ¬ s = 43 from by rw [s_1_59]; decide), if_neg (show ¬ s = 45 from by rw [s_1_59]; decide), if_neg (show ¬ s = 47 from by rw [s_1_59]; decide), if_neg (show ¬ s = 60 from by rw [s_1_59]; decide), if_neg (show ¬ s = 61 from by rw [s_1_59]; decide), if_neg (show ¬ s = 62 from by rw [s_1_59]; decide), if_neg c_204], rfl, rfl⟩
    · refine x_iload_n (pc := 207) (i := 2) K dX7_twoOf_207 rfl rfl ?_
      refine x_if_eq (pc := 208) (tgt := 215) K dX7_twoOf_208 (by decide) (fun c_208 => ?_) (fun c_208 => ?_)
      · refine x_iconst (pc := 215) (v := 0) K dX7_twoOf_215 (by decide) ?_
        exact x_iretI (pc := 216) K dX7_twoOf_216 ⟨by unfold r_two; rw [if_neg (show ¬ s = 37 from by rw [s_1_59]; decide), if_neg (show ¬ s = 38 from by rw [s_1_59]; decide), if_neg (show ¬ s = 42 from by rw [s_1_59]; decide), if_neg (show ¬ s = 43 from by rw [s_1_59]; decide), if_neg (show ¬ s = 45 from by rw [s_1_59]; decide), if_neg (show ¬ s = 47 from by rw [s_1_59]; decide), if_neg (show ¬ s = 60 from by rw [s_1_59]; decide), if_neg (show ¬ s = 61 from by rw [s_1_59]; decide), if_neg (show ¬ s = 62 from by rw [s_1_59]; decide), if_pos c_204, if_pos c_208], rfl, rfl⟩
      · refine x_iconst (pc := 211) (v := 1) K dX7_twoOf_211 (by decide) ?_
        refine x_goto (pc := 212) (tgt := 216) K dX7_twoOf_212 (by decide) ?_
        exact x_iretI (pc := 216) K dX7_twoOf_216 ⟨by unfold r_two; rw [if_neg (show ¬ s = 37 from by rw [s_1_59]; decide), if_neg (show ¬ s = 38 from by rw [s_1_59]; decide), if_neg (show ¬ s = 42 from by rw [s_1_59]; decide), if_neg (show ¬ s = 43 from by rw [s_1_59]; decide), if_neg (show ¬ s = 45 from by rw [s_1_59]; decide), if_neg (show ¬ s = 47 from by rw [s_1_59]; decide), if_neg (show ¬ s = 60 from by rw [s_1_59]; decide), if_neg (show ¬ s = 61 from by rw [s_1_59]; decide), if_neg (show ¬ s = 62 from by rw [s_1_59]; decide), if_pos c_204, if_neg c_208], rfl, rfl⟩
  by_cases s_1_60 : s = 60
  · refine x_tableIn (pc := 1) (off := 155) (tgt := 156) K dX7_twoOf_1 (by rw [s_1_60]; decide) (by decide) ?_
    refine x_iload_n (pc := 156) (i := 1) K dX7_twoOf_156 rfl rfl ?_
    refine x_iload_n (pc := 157) (i := 2) K dX7_twoOf_157 rfl rfl ?_
    refine x_icmp_ge (pc := 158) (tgt := 165) K dX7_twoOf_158 (by decide) (fun c_158 => ?_) (fun c_158 => ?_)
    · refine x_iconst (pc := 165) (v := 0) K dX7_twoOf_165 (by decide) ?_
      exact x_iretI (pc := 166) K dX7_twoOf_166 ⟨by unfold r_two; rw [if_neg s_1_37, if_neg s_1_38, if_neg s_1_42, if_neg s_1_43, if_neg s_1_45, if_neg s_1_47, if_pos s_1_60, if_pos c_158], rfl, rfl⟩
    · refine x_iconst (pc := 161) (v := 1) K dX7_twoOf_161 (by decide) ?_
      refine x_goto (pc := 162) (tgt := 166) K dX7_twoOf_162 (by decide) ?_
      exact x_iretI (pc := 166) K dX7_twoOf_166 ⟨by unfold r_two; rw [if_neg s_1_37, if_neg s_1_38, if_neg s_1_42, if_neg s_1_43, if_neg s_1_45, if_neg s_1_47, if_pos s_1_60, if_neg c_158], rfl, rfl⟩
  by_cases s_1_61 : s = 61
  · refine x_tableIn (pc := 1) (off := 166) (tgt := 167) K dX7_twoOf_1 (by rw [s_1_61]; decide) (by decide) ?_
    refine x_iload_n (pc := 167) (i := 1) K dX7_twoOf_167 rfl rfl ?_
    refine x_iload_n (pc := 168) (i := 2) K dX7_twoOf_168 rfl rfl ?_
    refine x_icmp_ne (pc := 169) (tgt := 176) K dX7_twoOf_169 (by decide) (fun c_169 => ?_) (fun c_169 => ?_)
    · refine x_iconst (pc := 176) (v := 0) K dX7_twoOf_176 (by decide) ?_
      exact x_iretI (pc := 177) K dX7_twoOf_177 ⟨by unfold r_two; rw [if_neg s_1_37, if_neg s_1_38, if_neg s_1_42, if_neg s_1_43, if_neg s_1_45, if_neg s_1_47, if_neg s_1_60, if_pos s_1_61, if_neg c_169], rfl, rfl⟩
    · refine x_iconst (pc := 172) (v := 1) K dX7_twoOf_172 (by decide) ?_
      refine x_goto (pc := 173) (tgt := 177) K dX7_twoOf_173 (by decide) ?_
      exact x_iretI (pc := 177) K dX7_twoOf_177 ⟨by unfold r_two; rw [if_neg s_1_37, if_neg s_1_38, if_neg s_1_42, if_neg s_1_43, if_neg s_1_45, if_neg s_1_47, if_neg s_1_60, if_pos s_1_61, if_pos c_169], rfl, rfl⟩
  by_cases s_1_62 : s = 62
  · refine x_tableIn (pc := 1) (off := 177) (tgt := 178) K dX7_twoOf_1 (by rw [s_1_62]; decide) (by decide) ?_
    refine x_iload_n (pc := 178) (i := 1) K dX7_twoOf_178 rfl rfl ?_
    refine x_iload_n (pc := 179) (i := 2) K dX7_twoOf_179 rfl rfl ?_
    refine x_icmp_le (pc := 180) (tgt := 187) K dX7_twoOf_180 (by decide) (fun c_180 => ?_) (fun c_180 => ?_)
    · refine x_iconst (pc := 187) (v := 0) K dX7_twoOf_187 (by decide) ?_
      exact x_iretI (pc := 188) K dX7_twoOf_188 ⟨by unfold r_two; rw [if_neg s_1_37, if_neg s_1_38, if_neg s_1_42, if_neg s_1_43, if_neg s_1_45, if_neg s_1_47, if_neg s_1_60, if_neg s_1_61, if_pos s_1_62, if_pos c_180], rfl, rfl⟩
    · refine x_iconst (pc := 183) (v := 1) K dX7_twoOf_183 (by decide) ?_
      refine x_goto (pc := 184) (tgt := 188) K dX7_twoOf_184 (by decide) ?_
      exact x_iretI (pc := 188) K dX7_twoOf_188 ⟨by unfold r_two; rw [if_neg s_1_37, if_neg s_1_38, if_neg s_1_42, if_neg s_1_43, if_neg s_1_45, if_neg s_1_47, if_neg s_1_60, if_neg s_1_61, if_pos s_1_62, if_neg c_180], rfl, rfl⟩
  refine x_tableOut (pc := 1) (tgt := 203) K dX7_twoOf_1 (by have t0 : ¬ (s).toInt = 37 := fun h => s_1_37 (Int32.toInt_inj.mp h); have t1 : ¬ (s).toInt = 38 := fun h => s_1_38 (Int32.toInt_inj.mp h); have t2 : ¬ (s).toInt = 39 := fun h => s_1_39 (Int32.toInt_inj.mp h); have t3 : ¬ (s).toInt = 40 := fun h => s_1_40 (Int32.toInt_inj.mp h); have t4 : ¬ (s).toInt = 41 := fun h => s_1_41 (Int32.toInt_inj.mp h); have t5 : ¬ (s).toInt = 42 := fun h => s_1_42 (Int32.toInt_inj.mp h); have t6 : ¬ (s).toInt = 43 := fun h => s_1_43 (Int32.toInt_inj.mp h); have t7 : ¬ (s).toInt = 44 := fun h => s_1_44 (Int32.toInt_inj.mp h); have t8 : ¬ (s).toInt = 45 := fun h => s_1_45 (Int32.toInt_inj.mp h); have t9 : ¬ (s).toInt = 46 := fun h => s_1_46 (Int32.toInt_inj.mp h); have t10 : ¬ (s).toInt = 47 := fun h => s_1_47 (Int32.toInt_inj.mp h); have t11 : ¬ (s).toInt = 48 := fun h => s_1_48 (Int32.toInt_inj.mp h); have t12 : ¬ (s).toInt = 49 := fun h => s_1_49 (Int32.toInt_inj.mp h); have t13 : ¬ (s).toInt = 50 := fun h => s_1_50 (Int32.toInt_inj.mp h); have t14 : ¬ (s).toInt = 51 := fun h => s_1_51 (Int32.toInt_inj.mp h); have t15 : ¬ (s).toInt = 52 := fun h => s_1_52 (Int32.toInt_inj.mp h); have t16 : ¬ (s).toInt = 53 := fun h => s_1_53 (Int32.toInt_inj.mp h); have t17 : ¬ (s).toInt = 54 := fun h => s_1_54 (Int32.toInt_inj.mp h); have t18 : ¬ (s).toInt = 55 := fun h => s_1_55 (Int32.toInt_inj.mp h); have t19 : ¬ (s).toInt = 56 := fun h => s_1_56 (Int32.toInt_inj.mp h); have t20 : ¬ (s).toInt = 57 := fun h => s_1_57 (Int32.toInt_inj.mp h); have t21 : ¬ (s).toInt = 58 := fun h => s_1_58 (Int32.toInt_inj.mp h); have t22 : ¬ (s).toInt = 59 := fun h => s_1_59 (Int32.toInt_inj.mp h); have t23 : ¬ (s).toInt = 60 := fun h => s_1_60 (Int32.toInt_inj.mp h); have t24 : ¬ (s).toInt = 61 := fun h => s_1_61 (Int32.toInt_inj.mp h); have t25 : ¬ (s).toInt = 62 := fun h => s_1_62 (Int32.toInt_inj.mp h); omega) (by decide) ?_
  refine x_iload_n (pc := 203) (i := 1) K dX7_twoOf_203 rfl rfl ?_
  refine x_if_ne (pc := 204) (tgt := 211) K dX7_twoOf_204 (by decide) (fun c_204 => ?_) (fun c_204 => ?_)
  · refine x_iconst (pc := 211) (v := 1) K dX7_twoOf_211 (by decide) ?_
    refine x_goto (pc := 212) (tgt := 216) K dX7_twoOf_212 (by decide) ?_
    exact x_iretI (pc := 216) K dX7_twoOf_216 ⟨by unfold r_two; rw [if_neg s_1_37, if_neg s_1_38, if_neg s_1_42, if_neg s_1_43, if_neg s_1_45, if_neg s_1_47, if_neg s_1_60, if_neg s_1_61, if_neg s_1_62, if_neg c_204], rfl, rfl⟩
  · refine x_iload_n (pc := 207) (i := 2) K dX7_twoOf_207 rfl rfl ?_
    refine x_if_eq (pc := 208) (tgt := 215) K dX7_twoOf_208 (by decide) (fun c_208 => ?_) (fun c_208 => ?_)
    · refine x_iconst (pc := 215) (v := 0) K dX7_twoOf_215 (by decide) ?_
      exact x_iretI (pc := 216) K dX7_twoOf_216 ⟨by unfold r_two; rw [if_neg s_1_37, if_neg s_1_38, if_neg s_1_42, if_neg s_1_43, if_neg s_1_45, if_neg s_1_47, if_neg s_1_60, if_neg s_1_61, if_neg s_1_62, if_pos c_204, if_pos c_208], rfl, rfl⟩
    · refine x_iconst (pc := 211) (v := 1) K dX7_twoOf_211 (by decide) ?_
      refine x_goto (pc := 212) (tgt := 216) K dX7_twoOf_212 (by decide) ?_
      exact x_iretI (pc := 216) K dX7_twoOf_216 ⟨by unfold r_two; rw [if_neg s_1_37, if_neg s_1_38, if_neg s_1_42, if_neg s_1_43, if_neg s_1_45, if_neg s_1_47, if_neg s_1_60, if_neg s_1_61, if_neg s_1_62, if_pos c_204, if_neg c_208], rfl, rfl⟩

set_option maxRecDepth 100000 in
set_option maxHeartbeats 4000000 in
theorem l_works {l : Launch} {G : Gm} {C : Cx} {u n : Nat} {α ρ : Af} (K : Ok l 2 G C RX7 cX7_works (some .int) 5) (hu : u < 2) (hn : ρ mRow (aU u) = nI n) (h60 : n ≤ 60) : ∀ (j i t : Nat) (g : Nat → Int32) (y : Option Value), i + j = n → Vd (rAct ρ u) (rWit ρ u) j i t → ∀ S, r_run (ρ mFacts) (rAct ρ u) (rWit ρ u) j i (t, g) = S → X 0 l 2 G C (PI (S.2 0) α (upR ρ mPile S.2)) 5 4 [some (.ref (gA G idM)), some (.int (nI (aU u))), some (.int (nI t)), some (.int (nI i)), y] [] α (upR ρ mPile g) := by
  intro j
  induction j with
  | zero =>
    intro i t g y hi hv S hS
    refine x_iload_n (pc := 4) (i := 3) K dX7_works_4 rfl rfl ?_
    refine x_aload_n (pc := 5) (i := 0) K dX7_works_5 rfl rfl ?_
    refine gf_X7_9 (pc := 6)  K dX7_works_6 ?_
    refine x_iload_n (pc := 9) (i := 1) K dX7_works_9 rfl rfl ?_
    refine ib_mRow (pc := 10) (aU u) (by unfold aU; omega) rfl K dX7_works_10 ?_
    refine x_topi K (show _ = nI n from by rw [upR_ne (by decide)]; exact hn) ?_
    refine x_icmp_ge (pc := 11) (tgt := 155) K dX7_works_11 (by decide) (fun c_11 => ?_) (fun c_11 => ?_)
    · simp only [Vd] at hv
      subst hv
      refine x_aload_n (pc := 155) (i := 0) K dX7_works_155 rfl rfl ?_
      refine gf_X7_40 (pc := 156)  K dX7_works_156 ?_
      refine x_iconst (pc := 159) (v := 0) K dX7_works_159 (by decide) ?_
      refine ib_mPile (pc := 160) 0 (by decide) rfl K dX7_works_160 ?_
      exact x_iretI (pc := 161) K dX7_works_161 ⟨by rw [← hS]; show upR ρ mPile g mPile 0 = g 0; rw [upR_eq], by rfl, by rw [← hS]; rfl⟩
    · exact absurd (nI_le (by omega) (by omega)) c_11
  | succ j ih =>
    intro i t g y hi hv S hS
    refine x_iload_n (pc := 4) (i := 3) K dX7_works_4 rfl rfl ?_
    refine x_aload_n (pc := 5) (i := 0) K dX7_works_5 rfl rfl ?_
    refine gf_X7_9 (pc := 6)  K dX7_works_6 ?_
    refine x_iload_n (pc := 9) (i := 1) K dX7_works_9 rfl rfl ?_
    refine ib_mRow (pc := 10) (aU u) (by unfold aU; omega) rfl K dX7_works_10 ?_
    refine x_topi K (show _ = nI n from by rw [upR_ne (by decide)]; exact hn) ?_
    refine x_icmp_ge (pc := 11) (tgt := 155) K dX7_works_11 (by decide) (fun c_11 => ?_) (fun c_11 => ?_)
    · exact (nI_ge (a := i) (b := n) (by omega) (by omega) c_11).elim
    · refine x_aload_n (pc := 14) (i := 0) K dX7_works_14 rfl rfl ?_
      refine gf_X7_9 (pc := 15)  K dX7_works_15 ?_
      refine x_iload_n (pc := 18) (i := 1) K dX7_works_18 rfl rfl ?_
      refine x_iconst (pc := 19) (v := 1) K dX7_works_19 (by decide) ?_
      refine x_iadd (pc := 20) K dX7_works_20 ?_
      refine x_iload_n (pc := 21) (i := 3) K dX7_works_21 rfl rfl ?_
      refine x_iadd (pc := 22) K dX7_works_22 ?_
      refine ib_mRow (pc := 23) (aU u + 1 + i) (by unfold aU; omega) (by rw [nI_1, nI_add]) K dX7_works_23 ?_
      refine x_topi K (show _ = rAct ρ u i from by rw [upR_ne (by decide)]; rfl) ?_
      refine x_istore (pc := 24) (i := 4) K dX7_works_24 rfl (by decide) ?_
      refine x_iload (pc := 26) (i := 4) K dX7_works_26 rfl ?_
      refine x_iconst (pc := 28) (v := 1) K dX7_works_28 (by decide) ?_
      refine x_icmp_eq (pc := 29) (tgt := 38) K dX7_works_29 (by decide) (fun c_29 => ?_) (fun c_29 => ?_)
      · refine x_aload_n (pc := 38) (i := 0) K dX7_works_38 rfl rfl ?_
        refine gf_X7_40 (pc := 39)  K dX7_works_39 ?_
        refine x_iload_n (pc := 42) (i := 2) K dX7_works_42 rfl rfl ?_
        refine x_iload (pc := 43) (i := 4) K dX7_works_43 rfl ?_
        refine x_iconst (pc := 45) (v := 1) K dX7_works_45 (by decide) ?_
        refine x_icmp_ne (pc := 46) (tgt := 63) K dX7_works_46 (by decide) (fun c_46 => ?_) (fun c_46 => ?_)
        · exact absurd c_29 c_46
        · refine x_aload_n (pc := 49) (i := 0) K dX7_works_49 rfl rfl ?_
          refine gf_X7_9 (pc := 50)  K dX7_works_50 ?_
          refine x_iload_n (pc := 53) (i := 1) K dX7_works_53 rfl rfl ?_
          refine x_bipush (pc := 54) (v := 61) K dX7_works_54 (by decide) ?_
          refine x_iadd (pc := 56) K dX7_works_56 ?_
          refine x_iload_n (pc := 57) (i := 3) K dX7_works_57 rfl rfl ?_
          refine x_iadd (pc := 58) K dX7_works_58 ?_
          refine ib_mRow (pc := 59) (aU u + 61 + i) (by unfold aU; omega) (by rw [show (61 : Int32) = nI 61 from rfl, nI_add, nI_add]) K dX7_works_59 ?_
          refine x_topi K (show _ = rWit ρ u i from by rw [upR_ne (by decide)]; rfl) ?_
          refine x_goto (pc := 60) (tgt := 79) K dX7_works_60 (by decide) ?_
          have ht60 : t < 60 := by simp only [Vd] at hv; rw [if_pos c_29] at hv; exact hv.1
          refine js_mPile (pc := 79) t ht60 rfl K dX7_works_79 ?_
          refine x_st (r := upR ρ mPile (upd g t (rWit ρ u i))) rfl up_upR ?_
          refine x_iinc (pc := 80) (i := 2) (v := nI (t + 1)) K dX7_works_80 rfl (nI_1 _) rfl ?_
          refine x_goto (pc := 83) (tgt := 149) K dX7_works_83 (by decide) ?_
          refine x_iinc (pc := 149) (i := 3) (v := nI (i + 1)) K dX7_works_149 rfl (nI_1 _) rfl ?_
          refine x_goto (pc := 152) (tgt := 4) K dX7_works_152 (by decide) ?_
          have e1 : r_wk (ρ mFacts) (rAct ρ u i) (rWit ρ u i) (t, g) = (t + 1, upd g t (rWit ρ u i)) := by unfold r_wk; rw [if_pos c_29]
          have hv2 := (Vd.step (F := ρ mFacts) (f := g) hv).2.2
          rw [e1] at hv2
          exact ih (i + 1) _ _ _ (by omega) hv2 S (by rw [← hS]; simp only [r_run]; rw [e1])
      · refine x_iload (pc := 32) (i := 4) K dX7_works_32 rfl ?_
        refine x_iconst (pc := 34) (v := 2) K dX7_works_34 (by decide) ?_
        refine x_icmp_ne (pc := 35) (tgt := 86) K dX7_works_35 (by decide) (fun c_35 => ?_) (fun c_35 => ?_)
        · refine x_iload (pc := 86) (i := 4) K dX7_works_86 rfl ?_
          refine x_iconst (pc := 88) (v := 3) K dX7_works_88 (by decide) ?_
          refine x_icmp_ne (pc := 89) (tgt := 119) K dX7_works_89 (by decide) (fun c_89 => ?_) (fun c_89 => ?_)
          · have ht : 2 ≤ t ∧ t ≤ 60 := by simp only [Vd] at hv; rw [if_neg c_29, if_neg c_35, if_neg c_89] at hv; exact ⟨hv.1, hv.2.1⟩
            refine x_iinc (pc := 119) (i := 2) (v := nI (t - 1)) K dX7_works_119 rfl (by have h := pk_m1 (t - 1); rw [show t - 1 + 1 = t by omega] at h; exact h) rfl ?_
            refine x_aload_n (pc := 122) (i := 0) K dX7_works_122 rfl rfl ?_
            refine gf_X7_40 (pc := 123)  K dX7_works_123 ?_
            refine x_iload_n (pc := 126) (i := 2) K dX7_works_126 rfl rfl ?_
            refine x_iconst (pc := 127) (v := 1) K dX7_works_127 (by decide) ?_
            refine x_isub (pc := 128) K dX7_works_128 ?_
            refine x_topi K (show _ = nI (t - 2) from (pk_sub (a := t - 1) (b := 1) (by omega)).trans (by rw [show t - 1 - 1 = t - 2 by omega])) ?_
            refine x_iload (pc := 129) (i := 4) K dX7_works_129 rfl ?_
            refine x_aload_n (pc := 131) (i := 0) K dX7_works_131 rfl rfl ?_
            refine gf_X7_40 (pc := 132)  K dX7_works_132 ?_
            refine x_iload_n (pc := 135) (i := 2) K dX7_works_135 rfl rfl ?_
            refine x_iconst (pc := 136) (v := 1) K dX7_works_136 (by decide) ?_
            refine x_isub (pc := 137) K dX7_works_137 ?_
            refine x_topi K (show _ = nI (t - 2) from (pk_sub (a := t - 1) (b := 1) (by omega)).trans (by rw [show t - 1 - 1 = t - 2 by omega])) ?_
            refine ib_mPile (pc := 138) (t - 2) (by omega) rfl K dX7_works_138 ?_
            refine x_topi K (show _ = g (t - 2) from by rw [upR_eq]) ?_
            refine x_aload_n (pc := 139) (i := 0) K dX7_works_139 rfl rfl ?_
            refine gf_X7_40 (pc := 140)  K dX7_works_140 ?_
            refine x_iload_n (pc := 143) (i := 2) K dX7_works_143 rfl rfl ?_
            refine ib_mPile (pc := 144) (t - 1) (by omega) rfl K dX7_works_144 ?_
            refine x_topi K (show _ = g (t - 1) from by rw [upR_eq]) ?_
            refine x_S3i (pc := 145) K (c_yX7_twoOf) mw_yX7_twoOf st_yX7_twoOf mk_X7_170 ⟨Nat.le_of_ble_eq_true rfl, Nat.le_of_ble_eq_true rfl, Nat.le_of_ble_eq_true rfl⟩ dX7_works_145 ?_
            refine js_mPile (pc := 148) (t - 2) (by omega) rfl K dX7_works_148 ?_
            refine x_st (r := upR ρ mPile (upd g (t - 2) (r_two (rAct ρ u i) (g (t - 2)) (g (t - 1))))) rfl up_upR ?_
            refine x_iinc (pc := 149) (i := 3) (v := nI (i + 1)) K dX7_works_149 rfl (nI_1 _) rfl ?_
            refine x_goto (pc := 152) (tgt := 4) K dX7_works_152 (by decide) ?_
            have e1 : r_wk (ρ mFacts) (rAct ρ u i) (rWit ρ u i) (t, g) = (t - 1, upd g (t - 2) (r_two (rAct ρ u i) (g (t - 2)) (g (t - 1)))) := by unfold r_wk; rw [if_neg c_29, if_neg c_35, if_neg c_89]
            have hv2 := (Vd.step (F := ρ mFacts) (f := g) hv).2.2
            rw [e1] at hv2
            exact ih (i + 1) _ _ _ (by omega) hv2 S (by rw [← hS]; simp only [r_run]; rw [e1])
          · have ht : 1 ≤ t ∧ t ≤ 60 := by simp only [Vd] at hv; rw [if_neg c_29, if_neg c_35, if_pos c_89] at hv; exact ⟨hv.1, hv.2.1⟩
            refine x_aload_n (pc := 92) (i := 0) K dX7_works_92 rfl rfl ?_
            refine gf_X7_40 (pc := 93)  K dX7_works_93 ?_
            refine x_iload_n (pc := 96) (i := 2) K dX7_works_96 rfl rfl ?_
            refine x_iconst (pc := 97) (v := 1) K dX7_works_97 (by decide) ?_
            refine x_isub (pc := 98) K dX7_works_98 ?_
            refine x_topi K (show _ = nI (t - 1) from pk_sub (a := t) (b := 1) (by omega)) ?_
            refine x_aload_n (pc := 99) (i := 0) K dX7_works_99 rfl rfl ?_
            refine gf_X7_40 (pc := 100)  K dX7_works_100 ?_
            refine x_iload_n (pc := 103) (i := 2) K dX7_works_103 rfl rfl ?_
            refine x_iconst (pc := 104) (v := 1) K dX7_works_104 (by decide) ?_
            refine x_isub (pc := 105) K dX7_works_105 ?_
            refine x_topi K (show _ = nI (t - 1) from pk_sub (a := t) (b := 1) (by omega)) ?_
            refine ib_mPile (pc := 106) (t - 1) (by omega) rfl K dX7_works_106 ?_
            refine x_topi K (show _ = g (t - 1) from by rw [upR_eq]) ?_
            refine x_if_ne (pc := 107) (tgt := 114) K dX7_works_107 (by decide) (fun c_107 => ?_) (fun c_107 => ?_)
            · refine x_iconst (pc := 114) (v := 0) K dX7_works_114 (by decide) ?_
              refine x_topi K (show _ = (if g (t - 1) = 0 then 1 else 0) from by simp (decide := true) only [if_neg c_107, ↓reduceIte]) ?_
              refine js_mPile (pc := 115) (t - 1) (by omega) rfl K dX7_works_115 ?_
              refine x_goto (pc := 116) (tgt := 149) K dX7_works_116 (by decide) ?_
              refine x_st (r := upR ρ mPile (upd g (t - 1) (if g (t - 1) = 0 then 1 else 0))) rfl up_upR ?_
              refine x_iinc (pc := 149) (i := 3) (v := nI (i + 1)) K dX7_works_149 rfl (nI_1 _) rfl ?_
              refine x_goto (pc := 152) (tgt := 4) K dX7_works_152 (by decide) ?_
              have e1 : r_wk (ρ mFacts) (rAct ρ u i) (rWit ρ u i) (t, g) = (t, upd g (t - 1) (if g (t - 1) = 0 then 1 else 0)) := by unfold r_wk; rw [if_neg c_29, if_neg c_35, if_pos c_89]
              have hv2 := (Vd.step (F := ρ mFacts) (f := g) hv).2.2
              rw [e1] at hv2
              exact ih (i + 1) _ _ _ (by omega) hv2 S (by rw [← hS]; simp only [r_run]; rw [e1])
            · refine x_iconst (pc := 110) (v := 1) K dX7_works_110 (by decide) ?_
              refine x_goto (pc := 111) (tgt := 115) K dX7_works_111 (by decide) ?_
              refine x_topi K (show _ = (if g (t - 1) = 0 then 1 else 0) from by simp (decide := true) only [if_pos c_107, ↓reduceIte]) ?_
              refine js_mPile (pc := 115) (t - 1) (by omega) rfl K dX7_works_115 ?_
              refine x_goto (pc := 116) (tgt := 149) K dX7_works_116 (by decide) ?_
              refine x_st (r := upR ρ mPile (upd g (t - 1) (if g (t - 1) = 0 then 1 else 0))) rfl up_upR ?_
              refine x_iinc (pc := 149) (i := 3) (v := nI (i + 1)) K dX7_works_149 rfl (nI_1 _) rfl ?_
              refine x_goto (pc := 152) (tgt := 4) K dX7_works_152 (by decide) ?_
              have e1 : r_wk (ρ mFacts) (rAct ρ u i) (rWit ρ u i) (t, g) = (t, upd g (t - 1) (if g (t - 1) = 0 then 1 else 0)) := by unfold r_wk; rw [if_neg c_29, if_neg c_35, if_pos c_89]
              have hv2 := (Vd.step (F := ρ mFacts) (f := g) hv).2.2
              rw [e1] at hv2
              exact ih (i + 1) _ _ _ (by omega) hv2 S (by rw [← hS]; simp only [r_run]; rw [e1])
        · refine x_aload_n (pc := 38) (i := 0) K dX7_works_38 rfl rfl ?_
          refine gf_X7_40 (pc := 39)  K dX7_works_39 ?_
          refine x_iload_n (pc := 42) (i := 2) K dX7_works_42 rfl rfl ?_
          refine x_iload (pc := 43) (i := 4) K dX7_works_43 rfl ?_
          refine x_iconst (pc := 45) (v := 1) K dX7_works_45 (by decide) ?_
          refine x_icmp_ne (pc := 46) (tgt := 63) K dX7_works_46 (by decide) (fun c_46 => ?_) (fun c_46 => ?_)
          · refine x_aload_n (pc := 63) (i := 0) K dX7_works_63 rfl rfl ?_
            refine gf_X7_37 (pc := 64)  K dX7_works_64 ?_
            refine x_aload_n (pc := 67) (i := 0) K dX7_works_67 rfl rfl ?_
            refine gf_X7_9 (pc := 68)  K dX7_works_68 ?_
            refine x_iload_n (pc := 71) (i := 1) K dX7_works_71 rfl rfl ?_
            refine x_bipush (pc := 72) (v := 61) K dX7_works_72 (by decide) ?_
            refine x_iadd (pc := 74) K dX7_works_74 ?_
            refine x_iload_n (pc := 75) (i := 3) K dX7_works_75 rfl rfl ?_
            refine x_iadd (pc := 76) K dX7_works_76 ?_
            refine ib_mRow (pc := 77) (aU u + 61 + i) (by unfold aU; omega) (by rw [show (61 : Int32) = nI 61 from rfl, nI_add, nI_add]) K dX7_works_77 ?_
            have hq3 : ∃ q, q < 3 ∧ rWit ρ u i = nI q := by simp only [Vd] at hv; rw [if_neg c_29, if_pos c_35] at hv; exact hv.1
            obtain ⟨q, hq, hqe⟩ := hq3
            refine x_topi K (show _ = nI q from by rw [upR_ne (by decide)]; exact hqe) ?_
            refine ib_mFacts (pc := 78) (q) hq rfl K dX7_works_78 ?_
            refine x_topi K (show _ = (ρ mFacts) (rWit ρ u i).toNatClampNeg from by rw [upR_ne (by decide), hqe, nI_clamp (by omega)]) ?_
            have ht60 : t < 60 := by simp only [Vd] at hv; rw [if_neg c_29, if_pos c_35] at hv; exact hv.2.1
            refine js_mPile (pc := 79) t ht60 rfl K dX7_works_79 ?_
            refine x_st (r := upR ρ mPile (upd g t ((ρ mFacts) (rWit ρ u i).toNatClampNeg))) rfl up_upR ?_
            refine x_iinc (pc := 80) (i := 2) (v := nI (t + 1)) K dX7_works_80 rfl (nI_1 _) rfl ?_
            refine x_goto (pc := 83) (tgt := 149) K dX7_works_83 (by decide) ?_
            refine x_iinc (pc := 149) (i := 3) (v := nI (i + 1)) K dX7_works_149 rfl (nI_1 _) rfl ?_
            refine x_goto (pc := 152) (tgt := 4) K dX7_works_152 (by decide) ?_
            have e1 : r_wk (ρ mFacts) (rAct ρ u i) (rWit ρ u i) (t, g) = (t + 1, upd g t ((ρ mFacts) (rWit ρ u i).toNatClampNeg)) := by unfold r_wk; rw [if_neg c_29, if_pos c_35]
            have hv2 := (Vd.step (F := ρ mFacts) (f := g) hv).2.2
            rw [e1] at hv2
            exact ih (i + 1) _ _ _ (by omega) hv2 S (by rw [← hS]; simp only [r_run]; rw [e1])
          · exact absurd c_46 c_29

set_option maxRecDepth 100000 in
set_option maxHeartbeats 4000000 in
theorem c_yX7_works {l : Launch} {G : Gm} {α ρ : Af} {u n : Nat} (hu : u < 2) (hn : ρ mRow (aU u) = nI n) (h60 : n ≤ 60) (hv : Vd (rAct ρ u) (rWit ρ u) n 0 0) : CI 0 l G yX7_works (Cond.code yX7_works cX7_works 5 (some .int)) 2 [.ref (gA G idM), .int (nI (aU u))] α ρ (PI ((r_run (ρ mFacts) (rAct ρ u) (rWit ρ u) n 0 (0, ρ mPile)).2 0) α (upR ρ mPile (r_run (ρ mFacts) (rAct ρ u) (rWit ρ u) n 0 (0, ρ mPile)).2)) := by
  refine CI.of [some (.ref (gA G idM)), some (.int (nI (aU u))), none, none, none] (by decide) (Nat.le_of_ble_eq_true rfl) rfl rfl (fun C K => ?_)
  have K : Ok l _ G C RX7 cX7_works (some .int) 5 := K
  refine x_iconst (pc := 0) (v := 0) K dX7_works_0 (by decide) ?_
  refine x_istore_n (pc := 1) (i := 2) K dX7_works_1 rfl rfl (by decide) ?_
  refine x_iconst (pc := 2) (v := 0) K dX7_works_2 (by decide) ?_
  refine x_istore_n (pc := 3) (i := 3) K dX7_works_3 rfl rfl (by decide) ?_
  refine x_st (r := upR ρ mPile (ρ mPile)) rfl upR_self.symm ?_
  exact l_works K hu hn h60 n 0 0 _ none (by omega) hv _ rfl
