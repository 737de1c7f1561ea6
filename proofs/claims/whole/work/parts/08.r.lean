/-! ## baking -/
/-- what a span bears when it is baked anew -/
theorem q_bakes_S {T : Af} {e u w : Nat} : ∀ n, u < n → n ≤ 9 → q_bakes T e n (idS e u) w = if w = 6 then 0 else if w = 5 then 0 else if w = 4 then 0 else T (idS e u) w
  | 0, h, _ => absurd h (Nat.not_lt_zero _)
  | n + 1, h, h9 => by
    simp only [q_bakes]
    by_cases e1 : u = n
    · subst e1
      unfold q_bake
      rw [up_at, up_at, up_at, q_bakes_ne (fun v hv => by unfold idS; omega)]
    · rw [q_bake_ne (by unfold idS; omega), q_bakes_S n (by omega) (by omega)]
theorem bkB_eq {α ρ : Af} {n d u : Nat} (hq : Qq α ρ n d) (hu : u < n) : q_bearsU (q_bkT α n) 2 u = r_bearsBy (ρ mRow (mS u 0)) (ρ mRow (mS u 1)) 0 0 (ρ mRow 0) := by
  have h9 := hq.2.1.1.1
  have hr := hq.rn
  have k : ∀ w, w < 7 → w ≠ 4 → w ≠ 5 → w ≠ 6 → q_bkT α n (idS 2 u) w = ρ mRow (mS u w) := fun w hw h4 h5 h6 => by
    unfold q_bkT
    rw [q_bakes_S n hu h9, if_neg h6, if_neg h5, if_neg h4, q_take_S (by decide) (by decide) (by decide) (by omega) hw]
    exact hr.sp hu hw
  have z : ∀ w, w = 4 ∨ w = 5 ∨ w = 6 → q_bkT α n (idS 2 u) w = 0 := fun w hw => by
    unfold q_bkT
    rw [q_bakes_S n hu h9]
    rcases hw with rfl | rfl | rfl <;> rfl
  have day : q_bkT α n (idD 2) 4 = ρ mRow 0 := by
    unfold q_bkT
    rw [q_bakes_ne (fun v hv => nS_D (by decide)), q_take_D (by decide) (by decide) (by decide) (Or.inr (Or.inr (Or.inr (Or.inl rfl))))]
    exact hq.2.1.2.1.2.2.2.1
  obtain ⟨o0, o1, o2, o3, -, -, -⟩ := hr.ok hu
  have ok : SpOk (fun w => if w = 4 then 0 else if w = 5 then 0 else if w = 6 then 0 else ρ mRow (mS u w)) := ⟨o0, o1, o2, o3, ⟨0, by decide, rfl⟩, ⟨0, by decide, rfl⟩, Or.inl rfl⟩
  unfold q_bearsU
  rw [k 0 (by decide) (by decide) (by decide) (by decide), k 1 (by decide) (by decide) (by decide) (by decide), z 4 (by decide), z 5 (by decide), z 6 (by decide), day]
  have e := bears_eq ok (ρ mRow 0)
  exact e.trans (if_neg (show ¬ (0 : Int32) = 1 by decide))
theorem bkT_flour {α ρ : Af} {n d : Nat} {set : Int32} (hq : Qq α ρ n d) : ∀ i, i ≤ n → q_flour α 0 set i = r_flour ρ set i
  | 0, _ => rfl
  | i + 1, hi => by
    simp only [q_flour, r_flour]
    rw [bkT_flour hq i (by omega), hq.2.1.takes (by omega)]
    by_cases c : jshr set (nI i) &&& 1 = 1
    · rw [if_pos c, if_pos c]
    · rw [if_neg c, if_neg c, Int32.add_zero]
