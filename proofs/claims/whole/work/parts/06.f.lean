/-! voices -/
def Vk (α : Af) : Prop := ∃ t, t ≤ 30 ∧ α idV 1 = nI t
def q_push (α : Af) (b : Int32) : Af := if 30 ≤ α idV 1 then α else up (up α idVt (α idV 1).toNatClampNeg b) idV 1 (up α idVt (α idV 1).toNatClampNeg b idV 1 + 1)
def q_part (α : Af) (x b : Int32) : Int32 × Af := if b = 0 then (0, up α idV 2 1) else (x / b, α)
def q_begin (S : Af → Int32 → Int32 → Int32 → Int32 × Af) (α : Af) (body ab x : Int32) : Int32 × Af :=
  if α idV 2 = 0 then
    if body = 10 then (x + q_push α body idV 5, q_push α body)
    else if body = 11 then ((S (q_push α body) (q_push α body idV 3) 0 x).1 * 2, (S (q_push α body) (q_push α body idV 3) 0 x).2)
    else if body = 12 then ((S (q_push α body) (q_push α body idV 3) 1 x).1 - (S (q_push α body) (q_push α body idV 3) 1 x).2 idV 4, (S (q_push α body) (q_push α body idV 3) 1 x).2)
    else if body = 13 then q_part (q_push α body) x (q_push α body idV 4 - q_push α body idV 5)
    else if body = 20 then ((S (q_push α body) ab 0 x).1 - 4, (S (q_push α body) ab 0 x).2)
    else if body = 21 then ((S (q_push α body) ab 3 x).1 + (S (S (q_push α body) ab 3 x).2 ((S (q_push α body) ab 3 x).2 idV 3) 1 1).1, (S (S (q_push α body) ab 3 x).2 ((S (q_push α body) ab 3 x).2 idV 3) 1 1).2)
    else if body = 30 then (0 - (S (q_push α body) ab 1 x).1, (S (q_push α body) ab 1 x).2)
    else if body = 40 then S (q_push α body) ab 2 (x / 2)
    else if body = 50 then ((S (q_push α body) ab 0 x).1 * 3, (S (q_push α body) ab 0 x).2)
    else if body = 51 then ((S (q_push α body) ab 2 x).1 ^^^ (S (q_push α body) ab 2 x).2 idV 5, (S (q_push α body) ab 2 x).2)
    else if body = 60 then S (q_push α body) ab 1 (x + 1)
    else if body = 70 then (9, q_push α body)
    else ((S (q_push α body) ab 1 x).1 + (S (q_push α body) ab 1 x).2 idV 4, (S (q_push α body) ab 1 x).2)
  else (0, α)
/-- the body that is meant, and the kind above it -/
def q_body (vo : Int32) : Nat → Int32 → Int32 × Int32
  | 0, _ => (0, 0)
  | s + 1, k => if q_within k 0 6 = true then (if fBo (4 * k + vo).toNatClampNeg = 0 then q_body vo s (q_above k) else (fBo (4 * k + vo).toNatClampNeg, q_above k)) else (0, 0)
def q_say : Nat → Af → Int32 → Int32 → Int32 → Int32 × Af
  | 0, α, _, _, _ => (0, α)
  | m + 1, α, k, vo, x => if q_within vo 0 3 = true then (if (q_body vo 7 k).1 = 0 then (0, α) else q_begin (q_say m) α (q_body vo 7 k).1 (q_body vo 7 k).2 x) else (0, α)
theorem Vk.push {α : Af} {b : Int32} (h : Vk α) : Vk (q_push α b) := by
  obtain ⟨t, h1, h2⟩ := h
  unfold q_push
  rw [h2]
  by_cases c : (30 : Int32) ≤ nI t
  · rw [if_pos c]; exact ⟨t, h1, h2⟩
  · rw [if_neg c]
    refine ⟨t + 1, ?_, ?_⟩
    · have := mt (nI_leI (a := 30) (b := t) (by decide) (by omega)).mpr c
      omega
    · rw [up_eq, up_ne (by decide), h2]; exact nI_1 t
theorem Vk.begin {S : Af → Int32 → Int32 → Int32 → Int32 × Af} (hS : ∀ α k v x, Vk α → Vk (S α k v x).2) {α : Af} {b a x : Int32} (h : Vk α) : Vk (q_begin S α b a x).2 := by
  have hp : Vk (q_push α b) := h.push
  unfold q_begin
  by_cases h0 : α idV 2 = 0
  · rw [if_pos h0]
    by_cases h10 : b = 10
    · rw [if_pos h10]
      exact hp
    rw [if_neg h10]
    by_cases h11 : b = 11
    · rw [if_pos h11]
      exact hS _ _ _ _ hp
    rw [if_neg h11]
    by_cases h12 : b = 12
    · rw [if_pos h12]
      exact hS _ _ _ _ hp
    rw [if_neg h12]
    by_cases h13 : b = 13
    · rw [if_pos h13]
      unfold q_part
      split
      · obtain ⟨t, h1, h2⟩ := hp
        exact ⟨t, h1, by show up (q_push α b) idV 2 1 idV 1 = nI t; rw [up_ne2 (by decide)]; exact h2⟩
      · exact hp
    rw [if_neg h13]
    by_cases h20 : b = 20
    · rw [if_pos h20]
      exact hS _ _ _ _ hp
    rw [if_neg h20]
    by_cases h21 : b = 21
    · rw [if_pos h21]
      exact hS _ _ _ _ (hS _ _ _ _ hp)
    rw [if_neg h21]
    by_cases h30 : b = 30
    · rw [if_pos h30]
      exact hS _ _ _ _ hp
    rw [if_neg h30]
    by_cases h40 : b = 40
    · rw [if_pos h40]
      exact hS _ _ _ _ hp
    rw [if_neg h40]
    by_cases h50 : b = 50
    · rw [if_pos h50]
      exact hS _ _ _ _ hp
    rw [if_neg h50]
    by_cases h51 : b = 51
    · rw [if_pos h51]
      exact hS _ _ _ _ hp
    rw [if_neg h51]
    by_cases h60 : b = 60
    · rw [if_pos h60]
      exact hS _ _ _ _ hp
    rw [if_neg h60]
    by_cases h70 : b = 70
    · rw [if_pos h70]
      exact hp
    rw [if_neg h70]
    exact hS _ _ _ _ hp
  · rw [if_neg h0]; exact h
theorem Vk.say : ∀ (m : Nat) (α : Af) (k v x : Int32), Vk α → Vk (q_say m α k v x).2
  | 0, _, _, _, _, h => h
  | m + 1, α, k, v, x, h => by
    simp only [q_say]
    split
    · split
      · exact h
      · exact Vk.begin (Vk.say m) h
    · exact h
/-! the reader -/
def Rk (α : Af) : Prop := (∃ n, n ≤ 60 ∧ α idR 4 = nI n) ∧ (∃ m, m ≤ 60 ∧ α idR 1 = nI m) ∧ ∀ j, j < 60 → narrow .char (.int (α idRb j)) = .int (α idRb j)
def q_ahead (α : Af) : Int32 := if α idR 2 < 0 then 0 else if α idR 4 ≤ α idR 2 then 0 else α idRb (α idR 2).toNatClampNeg
def q_make (α : Af) (x : Int32) : Af := if 60 ≤ α idR 1 then α else up (up α idRc (α idR 1).toNatClampNeg x) idR 1 (up α idRc (α idR 1).toNatClampNeg x idR 1 + 1)
def q_step (α : Af) : Af := up α idR 2 (α idR 2 + 1)
def q_isDigit (c : Int32) : Bool := if c < 48 then false else if 57 < c then false else true
def q_isProd (c : Int32) : Bool := if c = 42 then true else if c = 47 then true else if c = 37 then true else false
def q_isSum (c : Int32) : Bool := if c = 43 then true else if c = 45 then true else false
def q_isCmp (c : Int32) : Bool := if c = 60 then true else if c = 61 then true else if c = 62 then true else false
def q_isAll (c : Int32) : Bool := if c = 38 then true else false
def q_isAny (c : Int32) : Bool := if c = 124 then true else false
def q_num : Nat → Int32 → Af → Int32 × Af
  | 0, v, α => (v, α)
  | j + 1, v, α => if q_isDigit (q_ahead α) = true then q_num j (v * 10 + (q_ahead α - 48)) (q_step α) else (v, α)
def q_number (α : Af) : Af := q_make (q_num 4 0 α).2 (q_num 4 0 α).1
abbrev Pr : Type := Af → Bool × Af
/-- sign and part, again and again -/
def q_binL (sub : Pr) (isS : Int32 → Bool) : Nat → Pr
  | 0, α => (true, α)
  | j + 1, α => if isS (q_ahead α) = true then (if (sub (q_step α)).1 = true then q_binL sub isS j (q_make (sub (q_step α)).2 (-(q_ahead α))) else (false, (sub (q_step α)).2)) else (true, α)
def q_bin (sub : Pr) (isS : Int32 → Bool) : Pr := fun α => if (sub α).1 = true then q_binL sub isS 60 (sub α).2 else (false, (sub α).2)
def q_cmp (sub : Pr) : Pr := fun α => if (sub α).1 = true then (if q_isCmp (q_ahead (sub α).2) = true then (if (sub (q_step (sub α).2)).1 = true then (true, q_make (sub (q_step (sub α).2)).2 (-(q_ahead (sub α).2))) else (false, (sub (q_step (sub α).2)).2)) else (true, (sub α).2)) else (false, (sub α).2)
def q_prodP (one : Pr) : Pr := q_bin one q_isProd
def q_sumP (one : Pr) : Pr := q_bin (q_prodP one) q_isSum
def q_cmpP (one : Pr) : Pr := q_cmp (q_sumP one)
def q_allP (one : Pr) : Pr := q_bin (q_cmpP one) q_isAll
def q_anyP (one : Pr) : Pr := q_bin (q_allP one) q_isAny
def q_within_ (one : Pr) : Pr := fun α => if (q_anyP one α).1 = true then (if q_ahead (q_anyP one α).2 = 41 then (true, q_step (q_anyP one α).2) else (false, (q_anyP one α).2)) else (false, (q_anyP one α).2)
def q_not_ (one : Pr) : Pr := fun α => if (one α).1 = true then (true, q_make (one α).2 (-33)) else (false, (one α).2)
def q_isOpen (c : Int32) : Bool := if c = 33 then true else if c = 40 then true else false
def q_nm (α : Af) : Nat := if α idR 5 = 0 then 0 else 1
/-- a part, where no bracket is open any more: what stands behind the brackets -/
def q_plain (α : Af) : Bool × Af := if q_isDigit (q_ahead α) = true then (true, q_number α) else if 0 ≤ q_ix (q_nm α) (q_ahead α) then (true, q_make (q_step α) (-1 - q_ix (q_nm α) (q_ahead α))) else (false, α)
def q_one : Nat → Pr
  | 0, α => if q_isOpen (q_ahead α) = true then (false, α) else q_plain α
  | m + 1, α => if q_isOpen (q_ahead α) = true then (if q_ahead α = 33 then q_not_ (q_one m) (q_step α) else q_within_ (q_one m) (q_step α)) else q_plain α
theorem Rk.step {α : Af} (h : Rk α) : Rk (q_step α) := by
  unfold q_step
  refine ⟨?_, ?_, ?_⟩
  · rw [up_ne2 (by decide)]; exact h.1
  · rw [up_ne2 (by decide)]; exact h.2.1
  · rw [up_ne (by decide)]; exact h.2.2
theorem Rk.make {α : Af} {x : Int32} (h : Rk α) : Rk (q_make α x) := by
  unfold q_make
  obtain ⟨h1, ⟨m, h2, h3⟩, h4⟩ := h
  rw [h3]
  by_cases c : (60 : Int32) ≤ nI m
  · rw [if_pos c]; exact ⟨h1, ⟨m, h2, h3⟩, h4⟩
  · rw [if_neg c]
    have hm := mt (nI_leI (a := 60) (b := m) (by decide) (by omega)).mpr c
    refine ⟨?_, ⟨m + 1, by omega, ?_⟩, ?_⟩
    · rw [up_ne2 (by decide), up_ne (by decide)]; exact h1
    · rw [up_eq, up_ne (by decide), h3]; exact nI_1 m
    · rw [up_ne (by decide), up_ne (by decide)]; exact h4
theorem Rk.num : ∀ (j : Nat) (v : Int32) (α : Af), Rk α → Rk (q_num j v α).2
  | 0, _, _, h => h
  | j + 1, v, α, h => by
    simp only [q_num]
    split
    · exact Rk.num j _ _ h.step
    · exact h
theorem Rk.number {α : Af} (h : Rk α) : Rk (q_number α) := (Rk.num 4 0 α h).make
def PrK (sub : Pr) : Prop := ∀ α, Rk α → Rk (sub α).2
theorem PrK.binL {sub : Pr} {isS : Int32 → Bool} (hs : PrK sub) : ∀ (j : Nat), PrK (q_binL sub isS j)
  | 0, _, h => h
  | j + 1, α, h => by
    simp only [q_binL]
    split
    · split
      · exact PrK.binL hs j _ (hs _ h.step).make
      · exact hs _ h.step
    · exact h
theorem PrK.bin {sub : Pr} {isS : Int32 → Bool} (hs : PrK sub) : PrK (q_bin sub isS) := by
  intro α h
  simp only [q_bin]
  split
  · exact PrK.binL hs 60 _ (hs _ h)
  · exact hs _ h
theorem PrK.cmp {sub : Pr} (hs : PrK sub) : PrK (q_cmp sub) := by
  intro α h
  simp only [q_cmp]
  split
  · split
    · split
      · exact (hs _ (hs _ h).step).make
      · exact hs _ (hs _ h).step
    · exact hs _ h
  · exact hs _ h
theorem PrK.anyP {one : Pr} (hs : PrK one) : PrK (q_anyP one) := (hs.bin.bin.cmp.bin).bin
theorem PrK.within_ {one : Pr} (hs : PrK one) : PrK (q_within_ one) := by
  intro α h
  simp only [q_within_]
  split
  · split
    · exact (hs.anyP _ h).step
    · exact hs.anyP _ h
  · exact hs.anyP _ h
theorem PrK.not_ {one : Pr} (hs : PrK one) : PrK (q_not_ one) := by
  intro α h
  simp only [q_not_]
  split
  · exact (hs _ h).make
  · exact hs _ h
theorem Rk.plain {α : Af} (h : Rk α) : Rk (q_plain α).2 := by
  unfold q_plain
  split
  · exact h.number
  · split
    · exact h.step.make
    · exact h
theorem PrK.one : ∀ m, PrK (q_one m)
  | 0, α, h => by
    simp only [q_one]
    split
    · exact h
    · exact h.plain
  | m + 1, α, h => by
    simp only [q_one]
    split
    · split
      · exact (PrK.one m).not_ _ h.step
      · exact (PrK.one m).within_ _ h.step
    · exact h.plain
theorem nI_30 {t : Nat} (h : t ≤ 30) : (30 : Int32) ≤ nI t ↔ 30 ≤ t := nI_leI (a := 30) (b := t) (by decide) (by omega)

set_option maxRecDepth 100000 in
set_option maxHeartbeats 4000000 in
theorem c_yX5_part {k : Nat} {l : Launch} {G : Gm} {α ρ : Af} {x b : Int32}  : CI k l G yX5_part (Cond.code yX5_part cX5_part 3 (some .int)) 1 [.ref (gA G idV), .int x, .int b] α ρ (PI (q_part α x b).1 (q_part α x b).2 ρ) := by
  refine CI.of [some (.ref (gA G idV)), some (.int x), some (.int b)] (by decide) (Nat.le_of_ble_eq_true rfl) rfl rfl (fun C K => ?_)
  have K : Ok l _ G C RX5 cX5_part (some .int) 3 := K
  refine x_iload_n (pc := 0) (i := 2) K dX5_part_0 rfl rfl ?_
  refine x_if_ne (pc := 1) (tgt := 11) K dX5_part_1 (by decide) (fun c_1 => ?_) (fun c_1 => ?_)
  · refine x_iload_n (pc := 11) (i := 1) K dX5_part_11 rfl rfl ?_
    refine x_iload_n (pc := 12) (i := 2) K dX5_part_12 rfl rfl ?_
    refine x_idiv (pc := 13) K dX5_part_13 c_1 ?_
    exact x_iretI (pc := 14) K dX5_part_14 ⟨by simp (decide := true) only [q_part, if_neg c_1, ↓reduceIte, Bool.false_eq_true, bI_t, bI_f], by simp (decide := true) only [q_part, if_neg c_1, ↓reduceIte, Bool.false_eq_true, bI_t, bI_f], rfl⟩
  · refine x_aload_n (pc := 4) (i := 0) K dX5_part_4 rfl rfl ?_
    refine x_iconst (pc := 5) (v := 1) K dX5_part_5 (by decide) ?_
    refine pf_X5_19 (pc := 6)  K ⟨rfl, rfl⟩ dX5_part_6 ?_
    refine x_iconst (pc := 9) (v := 0) K dX5_part_9 (by decide) ?_
    exact x_iretI (pc := 10) K dX5_part_10 ⟨by simp (decide := true) only [q_part, if_pos c_1, ↓reduceIte, Bool.false_eq_true, bI_t, bI_f], by simp (decide := true) only [q_part, if_pos c_1, ↓reduceIte, Bool.false_eq_true, bI_t, bI_f], rfl⟩

set_option maxRecDepth 100000 in
set_option maxHeartbeats 4000000 in
theorem c_yX5_begin {k : Nat} {l : Launch} {G : Gm} {α ρ : Af} {S : Af → Int32 → Int32 → Int32 → Int32 × Af} {ds : Nat} {body ab x op : Int32} (hS : ∀ (α ρ : Af) (fr vo x : Int32), Vk α → CI k l G yX5_say (Cond.code yX5_say cX5_say 8 (some .int)) ds [.ref (gA G idV), .int fr, .int vo, .int x, .int op] α ρ (PI (S α fr vo x).1 (S α fr vo x).2 ρ)) (hSv : ∀ α fr vo x, Vk α → Vk (S α fr vo x).2) (hds : 1 ≤ ds) (hv : Vk α) : CI k l G yX5_begin (Cond.code yX5_begin cX5_begin 6 (some .int)) (ds + 1) [.ref (gA G idV), .int body, .int ab, .int x, .int op] α ρ (PI (q_begin S α body ab x).1 (q_begin S α body ab x).2 ρ) := by
  refine CI.of [some (.ref (gA G idV)), some (.int body), some (.int ab), some (.int x), some (.int op), none] (by decide) (Nat.le_of_ble_eq_true rfl) rfl rfl (fun C K => ?_)
  have K : Ok l _ G C RX5 cX5_begin (some .int) 6 := K
  refine x_aload_n (pc := 0) (i := 0) K dX5_begin_0 rfl rfl ?_
  refine gf_X5_19 (pc := 1)  K dX5_begin_1 ?_
  refine x_if_eq (pc := 4) (tgt := 9) K dX5_begin_4 (by decide) (fun c_4 => ?_) (fun c_4 => ?_)
  · refine x_aload_n (pc := 9) (i := 0) K dX5_begin_9 rfl rfl ?_
    refine gf_X5_15 (pc := 10)  K dX5_begin_10 ?_
    refine x_bipush (pc := 13) (v := 30) K dX5_begin_13 (by decide) ?_
    refine x_icmp_ge (pc := 15) (tgt := 38) K dX5_begin_15 (by decide) (fun c_15 => ?_) (fun c_15 => ?_)
    · refine x_st (a := q_push α body) (by unfold q_push; rw [if_pos c_15]) rfl ?_
      refine x_iload_n (pc := 38) (i := 1) K dX5_begin_38 rfl rfl ?_
      by_cases s_39_10 : body = 10
      · refine x_lookup (pc := 39) (off := 105) (tgt := 144) K dX5_begin_39 (by decide) (by rw [s_39_10]; decide) (by decide) ?_
        refine x_iload_n (pc := 144) (i := 3) K dX5_begin_144 rfl rfl ?_
        refine x_aload_n (pc := 145) (i := 0) K dX5_begin_145 rfl rfl ?_
        refine gf_X5_29 (pc := 146)  K dX5_begin_146 ?_
        refine x_iadd (pc := 149) K dX5_begin_149 ?_
        exact x_iretI (pc := 150) K dX5_begin_150 ⟨by unfold q_begin; rw [if_pos c_4, if_pos s_39_10], by unfold q_begin; rw [if_pos c_4, if_pos s_39_10], rfl⟩
      by_cases s_39_11 : body = 11
      · refine x_lookup (pc := 39) (off := 112) (tgt := 151) K dX5_begin_39 (by decide) (by rw [s_39_11]; decide) (by decide) ?_
        refine x_aload_n (pc := 151) (i := 0) K dX5_begin_151 rfl rfl ?_
        refine x_aload_n (pc := 152) (i := 0) K dX5_begin_152 rfl rfl ?_
        refine gf_X5_23 (pc := 153)  K dX5_begin_153 ?_
        refine x_iconst (pc := 156) (v := 0) K dX5_begin_156 (by decide) ?_
        refine x_iload_n (pc := 157) (i := 3) K dX5_begin_157 rfl rfl ?_
        refine x_iload (pc := 158) (i := 4) K dX5_begin_158 rfl ?_
        refine x_V4i (pc := 160) K (hS _ _ _ _ _ hv.push) mw_yX5_say ⟨im_yX5_say, se_yX5_say⟩ mk_X5_36 rc_V rfl ⟨(by omega), Nat.le_of_ble_eq_true rfl, Nat.le_of_ble_eq_true rfl⟩ dX5_begin_160 ?_
        refine x_iconst (pc := 163) (v := 2) K dX5_begin_163 (by decide) ?_
        refine x_imul (pc := 164) K dX5_begin_164 ?_
        exact x_iretI (pc := 165) K dX5_begin_165 ⟨by unfold q_begin; rw [if_pos c_4, if_neg s_39_10, if_pos s_39_11], by unfold q_begin; rw [if_pos c_4, if_neg s_39_10, if_pos s_39_11], rfl⟩
      by_cases s_39_12 : body = 12
      · refine x_lookup (pc := 39) (off := 127) (tgt := 166) K dX5_begin_39 (by decide) (by rw [s_39_12]; decide) (by decide) ?_
        refine x_aload_n (pc := 166) (i := 0) K dX5_begin_166 rfl rfl ?_
        refine x_aload_n (pc := 167) (i := 0) K dX5_begin_167 rfl rfl ?_
        refine gf_X5_23 (pc := 168)  K dX5_begin_168 ?_
        refine x_iconst (pc := 171) (v := 1) K dX5_begin_171 (by decide) ?_
        refine x_iload_n (pc := 172) (i := 3) K dX5_begin_172 rfl rfl ?_
        refine x_iload (pc := 173) (i := 4) K dX5_begin_173 rfl ?_
        refine x_V4i (pc := 175) K (hS _ _ _ _ _ hv.push) mw_yX5_say ⟨im_yX5_say, se_yX5_say⟩ mk_X5_36 rc_V rfl ⟨(by omega), Nat.le_of_ble_eq_true rfl, Nat.le_of_ble_eq_true rfl⟩ dX5_begin_175 ?_
        refine x_aload_n (pc := 178) (i := 0) K dX5_begin_178 rfl rfl ?_
        refine gf_X5_26 (pc := 179)  K dX5_begin_179 ?_
        refine x_isub (pc := 182) K dX5_begin_182 ?_
        exact x_iretI (pc := 183) K dX5_begin_183 ⟨by unfold q_begin; rw [if_pos c_4, if_neg s_39_10, if_neg s_39_11, if_pos s_39_12], by unfold q_begin; rw [if_pos c_4, if_neg s_39_10, if_neg s_39_11, if_pos s_39_12], rfl⟩
      by_cases s_39_13 : body = 13
      · refine x_lookup (pc := 39) (off := 145) (tgt := 184) K dX5_begin_39 (by decide) (by rw [s_39_13]; decide) (by decide) ?_
        refine x_aload_n (pc := 184) (i := 0) K dX5_begin_184 rfl rfl ?_
        refine x_iload_n (pc := 185) (i := 3) K dX5_begin_185 rfl rfl ?_
        refine x_aload_n (pc := 186) (i := 0) K dX5_begin_186 rfl rfl ?_
        refine gf_X5_26 (pc := 187)  K dX5_begin_187 ?_
        refine x_aload_n (pc := 190) (i := 0) K dX5_begin_190 rfl rfl ?_
        refine gf_X5_29 (pc := 191)  K dX5_begin_191 ?_
        refine x_isub (pc := 194) K dX5_begin_194 ?_
        refine x_V2i (pc := 195) K (c_yX5_part) mw_yX5_part ⟨im_yX5_part, se_yX5_part⟩ mk_X5_54 rc_V rfl ⟨(by omega), Nat.le_of_ble_eq_true rfl, Nat.le_of_ble_eq_true rfl⟩ dX5_begin_195 ?_
        exact x_iretI (pc := 198) K dX5_begin_198 ⟨by unfold q_begin; rw [if_pos c_4, if_neg s_39_10, if_neg s_39_11, if_neg s_39_12, if_pos s_39_13], by unfold q_begin; rw [if_pos c_4, if_neg s_39_10, if_neg s_39_11, if_neg s_39_12, if_pos s_39_13], rfl⟩
      by_cases s_39_20 : body = 20
      · refine x_lookup (pc := 39) (off := 160) (tgt := 199) K dX5_begin_39 (by decide) (by rw [s_39_20]; decide) (by decide) ?_
        refine x_aload_n (pc := 199) (i := 0) K dX5_begin_199 rfl rfl ?_
        refine x_iload_n (pc := 200) (i := 2) K dX5_begin_200 rfl rfl ?_
        refine x_iconst (pc := 201) (v := 0) K dX5_begin_201 (by decide) ?_
        refine x_iload_n (pc := 202) (i := 3) K dX5_begin_202 rfl rfl ?_
        refine x_iload (pc := 203) (i := 4) K dX5_begin_203 rfl ?_
        refine x_V4i (pc := 205) K (hS _ _ _ _ _ hv.push) mw_yX5_say ⟨im_yX5_say, se_yX5_say⟩ mk_X5_36 rc_V rfl ⟨(by omega), Nat.le_of_ble_eq_true rfl, Nat.le_of_ble_eq_true rfl⟩ dX5_begin_205 ?_
        refine x_iconst (pc := 208) (v := 4) K dX5_begin_208 (by decide) ?_
        refine x_isub (pc := 209) K dX5_begin_209 ?_
        exact x_iretI (pc := 210) K dX5_begin_210 ⟨by unfold q_begin; rw [if_pos c_4, if_neg s_39_10, if_neg s_39_11, if_neg s_39_12, if_neg s_39_13, if_pos s_39_20], by unfold q_begin; rw [if_pos c_4, if_neg s_39_10, if_neg s_39_11, if_neg s_39_12, if_neg s_39_13, if_pos s_39_20], rfl⟩
      by_cases s_39_21 : body = 21
      · refine x_lookup (pc := 39) (off := 172) (tgt := 211) K dX5_begin_39 (by decide) (by rw [s_39_21]; decide) (by decide) ?_
        refine x_aload_n (pc := 211) (i := 0) K dX5_begin_211 rfl rfl ?_
        refine x_iload_n (pc := 212) (i := 2) K dX5_begin_212 rfl rfl ?_
        refine x_iconst (pc := 213) (v := 3) K dX5_begin_213 (by decide) ?_
        refine x_iload_n (pc := 214) (i := 3) K dX5_begin_214 rfl rfl ?_
        refine x_iload (pc := 215) (i := 4) K dX5_begin_215 rfl ?_
        refine x_V4i (pc := 217) K (hS _ _ _ _ _ hv.push) mw_yX5_say ⟨im_yX5_say, se_yX5_say⟩ mk_X5_36 rc_V rfl ⟨(by omega), Nat.le_of_ble_eq_true rfl, Nat.le_of_ble_eq_true rfl⟩ dX5_begin_217 ?_
        refine x_istore (pc := 220) (i := 5) K dX5_begin_220 rfl (by decide) ?_
        refine x_iload (pc := 222) (i := 5) K dX5_begin_222 rfl ?_
        refine x_aload_n (pc := 224) (i := 0) K dX5_begin_224 rfl rfl ?_
        refine x_aload_n (pc := 225) (i := 0) K dX5_begin_225 rfl rfl ?_
        refine gf_X5_23 (pc := 226)  K dX5_begin_226 ?_
        refine x_iconst (pc := 229) (v := 1) K dX5_begin_229 (by decide) ?_
        refine x_iconst (pc := 230) (v := 1) K dX5_begin_230 (by decide) ?_
        refine x_iload (pc := 231) (i := 4) K dX5_begin_231 rfl ?_
        refine x_V4i (pc := 233) K (hS _ _ _ _ _ (hSv _ _ _ _ hv.push)) mw_yX5_say ⟨im_yX5_say, se_yX5_say⟩ mk_X5_36 rc_V rfl ⟨(by omega), Nat.le_of_ble_eq_true rfl, Nat.le_of_ble_eq_true rfl⟩ dX5_begin_233 ?_
        refine x_iadd (pc := 236) K dX5_begin_236 ?_
        exact x_iretI (pc := 237) K dX5_begin_237 ⟨by unfold q_begin; rw [if_pos c_4, if_neg s_39_10, if_neg s_39_11, if_neg s_39_12, if_neg s_39_13, if_neg s_39_20, if_pos s_39_21], by unfold q_begin; rw [if_pos c_4, if_neg s_39_10, if_neg s_39_11, if_neg s_39_12, if_neg s_39_13, if_neg s_39_20, if_pos s_39_21], rfl⟩
      by_cases s_39_30 : body = 30
      · refine x_lookup (pc := 39) (off := 199) (tgt := 238) K dX5_begin_39 (by decide) (by rw [s_39_30]; decide) (by decide) ?_
        refine x_iconst (pc := 238) (v := 0) K dX5_begin_238 (by decide) ?_
        refine x_aload_n (pc := 239) (i := 0) K dX5_begin_239 rfl rfl ?_
        refine x_iload_n (pc := 240) (i := 2) K dX5_begin_240 rfl rfl ?_
        refine x_iconst (pc := 241) (v := 1) K dX5_begin_241 (by decide) ?_
        refine x_iload_n (pc := 242) (i := 3) K dX5_begin_242 rfl rfl ?_
        refine x_iload (pc := 243) (i := 4) K dX5_begin_243 rfl ?_
        refine x_V4i (pc := 245) K (hS _ _ _ _ _ hv.push) mw_yX5_say ⟨im_yX5_say, se_yX5_say⟩ mk_X5_36 rc_V rfl ⟨(by omega), Nat.le_of_ble_eq_true rfl, Nat.le_of_ble_eq_true rfl⟩ dX5_begin_245 ?_
        refine x_isub (pc := 248) K dX5_begin_248 ?_
        exact x_iretI (pc := 249) K dX5_begin_249 ⟨by unfold q_begin; rw [if_pos c_4, if_neg s_39_10, if_neg s_39_11, if_neg s_39_12, if_neg s_39_13, if_neg s_39_20, if_neg s_39_21, if_pos s_39_30], by unfold q_begin; rw [if_pos c_4, if_neg s_39_10, if_neg s_39_11, if_neg s_39_12, if_neg s_39_13, if_neg s_39_20, if_neg s_39_21, if_pos s_39_30], rfl⟩
      by_cases s_39_40 : body = 40
      · refine x_lookup (pc := 39) (off := 211) (tgt := 250) K dX5_begin_39 (by decide) (by rw [s_39_40]; decide) (by decide) ?_
        refine x_aload_n (pc := 250) (i := 0) K dX5_begin_250 rfl rfl ?_
        refine x_iload_n (pc := 251) (i := 2) K dX5_begin_251 rfl rfl ?_
        refine x_iconst (pc := 252) (v := 2) K dX5_begin_252 (by decide) ?_
        refine x_iload_n (pc := 253) (i := 3) K dX5_begin_253 rfl rfl ?_
        refine x_iconst (pc := 254) (v := 2) K dX5_begin_254 (by decide) ?_
        refine x_idiv (pc := 255) K dX5_begin_255 (by decide) ?_
        refine x_iload (pc := 256) (i := 4) K dX5_begin_256 rfl ?_
        refine x_V4i (pc := 258) K (hS _ _ _ _ _ hv.push) mw_yX5_say ⟨im_yX5_say, se_yX5_say⟩ mk_X5_36 rc_V rfl ⟨(by omega), Nat.le_of_ble_eq_true rfl, Nat.le_of_ble_eq_true rfl⟩ dX5_begin_258 ?_
        exact x_iretI (pc := 261) K dX5_begin_261 ⟨by unfold q_begin; rw [if_pos c_4, if_neg s_39_10, if_neg s_39_11, if_neg s_39_12, if_neg s_39_13, if_neg s_39_20, if_neg s_39_21, if_neg s_39_30, if_pos s_39_40], by unfold q_begin; rw [if_pos c_4, if_neg s_39_10, if_neg s_39_11, if_neg s_39_12, if_neg s_39_13, if_neg s_39_20, if_neg s_39_21, if_neg s_39_30, if_pos s_39_40], rfl⟩
      by_cases s_39_50 : body = 50
      · refine x_lookup (pc := 39) (off := 223) (tgt := 262) K dX5_begin_39 (by decide) (by rw [s_39_50]; decide) (by decide) ?_
        refine x_aload_n (pc := 262) (i := 0) K dX5_begin_262 rfl rfl ?_
        refine x_iload_n (pc := 263) (i := 2) K dX5_begin_263 rfl rfl ?_
        refine x_iconst (pc := 264) (v := 0) K dX5_begin_264 (by decide) ?_
        refine x_iload_n (pc := 265) (i := 3) K dX5_begin_265 rfl rfl ?_
        refine x_iload (pc := 266) (i := 4) K dX5_begin_266 rfl ?_
        refine x_V4i (pc := 268) K (hS _ _ _ _ _ hv.push) mw_yX5_say ⟨im_yX5_say, se_yX5_say⟩ mk_X5_36 rc_V rfl ⟨(by omega), Nat.le_of_ble_eq_true rfl, Nat.le_of_ble_eq_true rfl⟩ dX5_begin_268 ?_
        refine x_iconst (pc := 271) (v := 3) K dX5_begin_271 (by decide) ?_
        refine x_imul (pc := 272) K dX5_begin_272 ?_
        exact x_iretI (pc := 273) K dX5_begin_273 ⟨by unfold q_begin; rw [if_pos c_4, if_neg s_39_10, if_neg s_39_11, if_neg s_39_12, if_neg s_39_13, if_neg s_39_20, if_neg s_39_21, if_neg s_39_30, if_neg s_39_40, if_pos s_39_50], by unfold q_begin; rw [if_pos c_4, if_neg s_39_10, if_neg s_39_11, if_neg s_39_12, if_neg s_39_13, if_neg s_39_20, if_neg s_39_21, if_neg s_39_30, if_neg s_39_40, if_pos s_39_50], rfl⟩
      by_cases s_39_51 : body = 51
      · refine x_lookup (pc := 39) (off := 235) (tgt := 274) K dX5_begin_39 (by decide) (by rw [s_39_51]; decide) (by decide) ?_
        refine x_aload_n (pc := 274) (i := 0) K dX5_begin_274 rfl rfl ?_
        refine x_iload_n (pc := 275) (i := 2) K dX5_begin_275 rfl rfl ?_
        refine x_iconst (pc := 276) (v := 2) K dX5_begin_276 (by decide) ?_
        refine x_iload_n (pc := 277) (i := 3) K dX5_begin_277 rfl rfl ?_
        refine x_iload (pc := 278) (i := 4) K dX5_begin_278 rfl ?_
        refine x_V4i (pc := 280) K (hS _ _ _ _ _ hv.push) mw_yX5_say ⟨im_yX5_say, se_yX5_say⟩ mk_X5_36 rc_V rfl ⟨(by omega), Nat.le_of_ble_eq_true rfl, Nat.le_of_ble_eq_true rfl⟩ dX5_begin_280 ?_
        refine x_aload_n (pc := 283) (i := 0) K dX5_begin_283 rfl rfl ?_
        refine gf_X5_29 (pc := 284)  K dX5_begin_284 ?_
        refine x_ixor (pc := 287) K dX5_begin_287 ?_
        exact x_iretI (pc := 288) K dX5_begin_288 ⟨by unfold q_begin; rw [if_pos c_4, if_neg s_39_10, if_neg s_39_11, if_neg s_39_12, if_neg s_39_13, if_neg s_39_20, if_neg s_39_21, if_neg s_39_30, if_neg s_39_40, if_neg s_39_50, if_pos s_39_51], by unfold q_begin; rw [if_pos c_4, if_neg s_39_10, if_neg s_39_11, if_neg s_39_12, if_neg s_39_13, if_neg s_39_20, if_neg s_39_21, if_neg s_39_30, if_neg s_39_40, if_neg s_39_50, if_pos s_39_51], rfl⟩
      by_cases s_39_60 : body = 60
      · refine x_lookup (pc := 39) (off := 250) (tgt := 289) K dX5_begin_39 (by decide) (by rw [s_39_60]; decide) (by decide) ?_
        refine x_aload_n (pc := 289) (i := 0) K dX5_begin_289 rfl rfl ?_
        refine x_iload_n (pc := 290) (i := 2) K dX5_begin_290 rfl rfl ?_
        refine x_iconst (pc := 291) (v := 1) K dX5_begin_291 (by decide) ?_
        refine x_iload_n (pc := 292) (i := 3) K dX5_begin_292 rfl rfl ?_
        refine x_iconst (pc := 293) (v := 1) K dX5_begin_293 (by decide) ?_
        refine x_iadd (pc := 294) K dX5_begin_294 ?_
        refine x_iload (pc := 295) (i := 4) K dX5_begin_295 rfl ?_
        refine x_V4i (pc := 297) K (hS _ _ _ _ _ hv.push) mw_yX5_say ⟨im_yX5_say, se_yX5_say⟩ mk_X5_36 rc_V rfl ⟨(by omega), Nat.le_of_ble_eq_true rfl, Nat.le_of_ble_eq_true rfl⟩ dX5_begin_297 ?_
        exact x_iretI (pc := 300) K dX5_begin_300 ⟨by unfold q_begin; rw [if_pos c_4, if_neg s_39_10, if_neg s_39_11, if_neg s_39_12, if_neg s_39_13, if_neg s_39_20, if_neg s_39_21, if_neg s_39_30, if_neg s_39_40, if_neg s_39_50, if_neg s_39_51, if_pos s_39_60], by unfold q_begin; rw [if_pos c_4, if_neg s_39_10, if_neg s_39_11, if_neg s_39_12, if_neg s_39_13, if_neg s_39_20, if_neg s_39_21, if_neg s_39_30, if_neg s_39_40, if_neg s_39_50, if_neg s_39_51, if_pos s_39_60], rfl⟩
      by_cases s_39_70 : body = 70
      · refine x_lookup (pc := 39) (off := 262) (tgt := 301) K dX5_begin_39 (by decide) (by rw [s_39_70]; decide) (by decide) ?_
        refine x_bipush (pc := 301) (v := 9) K dX5_begin_301 (by decide) ?_
        exact x_iretI (pc := 303) K dX5_begin_303 ⟨by unfold q_begin; rw [if_pos c_4, if_neg s_39_10, if_neg s_39_11, if_neg s_39_12, if_neg s_39_13, if_neg s_39_20, if_neg s_39_21, if_neg s_39_30, if_neg s_39_40, if_neg s_39_50, if_neg s_39_51, if_neg s_39_60, if_pos s_39_70], by unfold q_begin; rw [if_pos c_4, if_neg s_39_10, if_neg s_39_11, if_neg s_39_12, if_neg s_39_13, if_neg s_39_20, if_neg s_39_21, if_neg s_39_30, if_neg s_39_40, if_neg s_39_50, if_neg s_39_51, if_neg s_39_60, if_pos s_39_70], rfl⟩
      refine x_lookup (pc := 39) (off := 265) (tgt := 304) K dX5_begin_39 (by decide) (by simp [Op.lookupswitch.offset, show ¬ 10 = (body).toInt from fun h => s_39_10 (Int32.toInt_inj.mp h.symm), show ¬ 11 = (body).toInt from fun h => s_39_11 (Int32.toInt_inj.mp h.symm), show ¬ 12 = (body).toInt from fun h => s_39_12 (Int32.toInt_inj.mp h.symm), show ¬ 13 = (body).toInt from fun h => s_39_13 (Int32.toInt_inj.mp h.symm), show ¬ 20 = (body).toInt from fun h => s_39_20 (Int32.toInt_inj.mp h.symm), show ¬ 21 = (body).toInt from fun h => s_39_21 (Int32.toInt_inj.mp h.symm), show ¬ 30 = (body).toInt from fun h => s_39_30 (Int32.toInt_inj.mp h.symm), show ¬ 40 = (body).toInt from fun h => s_39_40 (Int32.toInt_inj.mp h.symm), show ¬ 50 = (body).toInt from fun h => s_39_50 (Int32.toInt_inj.mp h.symm), show ¬ 51 = (body).toInt from fun h => s_39_51 (Int32.toInt_inj.mp h.symm), show ¬ 60 = (body).toInt from fun h => s_39_60 (Int32.toInt_inj.mp h.symm), show ¬ 70 = (body).toInt from fun h => s_39_70 (Int32.toInt_inj.mp h.symm)]) (by decide) ?_
      refine x_aload_n (pc := 304) (i := 0) K dX5_begin_304 rfl rfl ?_
      refine x_iload_n (pc := 305) (i := 2) K dX5_begin_305 rfl rfl ?_
      refine x_iconst (pc := 306) (v := 1) K dX5_begin_306 (by decide) ?_
      refine x_iload_n (pc := 307) (i := 3) K dX5_begin_307 rfl rfl ?_
      refine x_iload (pc := 308) (i := 4) K dX5_begin_308 rfl ?_
      refine x_V4i (pc := 310) K (hS _ _ _ _ _ hv.push) mw_yX5_say ⟨im_yX5_say, se_yX5_say⟩ mk_X5_36 rc_V rfl ⟨(by omega), Nat.le_of_ble_eq_true rfl, Nat.le_of_ble_eq_true rfl⟩ dX5_begin_310 ?_
      refine x_aload_n (pc := 313) (i := 0) K dX5_begin_313 rfl rfl ?_
      refine gf_X5_26 (pc := 314)  K dX5_begin_314 ?_
      refine x_iadd (pc := 317) K dX5_begin_317 ?_
      exact x_iretI (pc := 318) K dX5_begin_318 ⟨by unfold q_begin; rw [if_pos c_4, if_neg s_39_10, if_neg s_39_11, if_neg s_39_12, if_neg s_39_13, if_neg s_39_20, if_neg s_39_21, if_neg s_39_30, if_neg s_39_40, if_neg s_39_50, if_neg s_39_51, if_neg s_39_60, if_neg s_39_70], by unfold q_begin; rw [if_pos c_4, if_neg s_39_10, if_neg s_39_11, if_neg s_39_12, if_neg s_39_13, if_neg s_39_20, if_neg s_39_21, if_neg s_39_30, if_neg s_39_40, if_neg s_39_50, if_neg s_39_51, if_neg s_39_60, if_neg s_39_70], rfl⟩
    · refine x_aload_n (pc := 18) (i := 0) K dX5_begin_18 rfl rfl ?_
      refine gf_X5_9 (pc := 19)  K dX5_begin_19 ?_
      refine x_aload_n (pc := 22) (i := 0) K dX5_begin_22 rfl rfl ?_
      refine gf_X5_15 (pc := 23)  K dX5_begin_23 ?_
      refine x_iload_n (pc := 26) (i := 1) K dX5_begin_26 rfl rfl ?_
      refine is_Vt (pc := 27)  K (by obtain ⟨t, h1, h2⟩ := hv; rw [h2] at c_15 ⊢; exact vp_in_nI (by have := mt (nI_30 h1).mpr c_15; omega) (by decide)) dX5_begin_27 ?_
      refine x_aload_n (pc := 28) (i := 0) K dX5_begin_28 rfl rfl ?_
      refine x_dup (pc := 29) K dX5_begin_29 rfl ?_
      refine gf_X5_15 (pc := 30)  K dX5_begin_30 ?_
      refine x_iconst (pc := 33) (v := 1) K dX5_begin_33 (by decide) ?_
      refine x_iadd (pc := 34) K dX5_begin_34 ?_
      refine pf_X5_15 (pc := 35)  K dX5_begin_35 ?_
      refine x_st (a := q_push α body) (by unfold q_push; rw [if_neg c_15]) rfl ?_
      refine x_iload_n (pc := 38) (i := 1) K dX5_begin_38 rfl rfl ?_
      by_cases s_39_10 : body = 10
      · refine x_lookup (pc := 39) (off := 105) (tgt := 144) K dX5_begin_39 (by decide) (by rw [s_39_10]; decide) (by decide) ?_
        refine x_iload_n (pc := 144) (i := 3) K dX5_begin_144 rfl rfl ?_
        refine x_aload_n (pc := 145) (i := 0) K dX5_begin_145 rfl rfl ?_
        refine gf_X5_29 (pc := 146)  K dX5_begin_146 ?_
        refine x_iadd (pc := 149) K dX5_begin_149 ?_
        exact x_iretI (pc := 150) K dX5_begin_150 ⟨by unfold q_begin; rw [if_pos c_4, if_pos s_39_10], by unfold q_begin; rw [if_pos c_4, if_pos s_39_10], rfl⟩
      by_cases s_39_11 : body = 11
      · refine x_lookup (pc := 39) (off := 112) (tgt := 151) K dX5_begin_39 (by decide) (by rw [s_39_11]; decide) (by decide) ?_
        refine x_aload_n (pc := 151) (i := 0) K dX5_begin_151 rfl rfl ?_
        refine x_aload_n (pc := 152) (i := 0) K dX5_begin_152 rfl rfl ?_
        refine gf_X5_23 (pc := 153)  K dX5_begin_153 ?_
        refine x_iconst (pc := 156) (v := 0) K dX5_begin_156 (by decide) ?_
        refine x_iload_n (pc := 157) (i := 3) K dX5_begin_157 rfl rfl ?_
        refine x_iload (pc := 158) (i := 4) K dX5_begin_158 rfl ?_
        refine x_V4i (pc := 160) K (hS _ _ _ _ _ hv.push) mw_yX5_say ⟨im_yX5_say, se_yX5_say⟩ mk_X5_36 rc_V rfl ⟨(by omega), Nat.le_of_ble_eq_true rfl, Nat.le_of_ble_eq_true rfl⟩ dX5_begin_160 ?_
        refine x_iconst (pc := 163) (v := 2) K dX5_begin_163 (by decide) ?_
        refine x_imul (pc := 164) K dX5_begin_164 ?_
        exact x_iretI (pc := 165) K dX5_begin_165 ⟨by unfold q_begin; rw [if_pos c_4, if_neg s_39_10, if_pos s_39_11], by unfold q_begin; rw [if_pos c_4, if_neg s_39_10, if_pos s_39_11], rfl⟩
      by_cases s_39_12 : body = 12
      · refine x_lookup (pc := 39) (off := 127) (tgt := 166) K dX5_begin_39 (by decide) (by rw [s_39_12]; decide) (by decide) ?_
        refine x_aload_n (pc := 166) (i := 0) K dX5_begin_166 rfl rfl ?_
        refine x_aload_n (pc := 167) (i := 0) K dX5_begin_167 rfl rfl ?_
        refine gf_X5_23 (pc := 168)  K dX5_begin_168 ?_
        refine x_iconst (pc := 171) (v := 1) K dX5_begin_171 (by decide) ?_
        refine x_iload_n (pc := 172) (i := 3) K dX5_begin_172 rfl rfl ?_
        refine x_iload (pc := 173) (i := 4) K dX5_begin_173 rfl ?_
        refine x_V4i (pc := 175) K (hS _ _ _ _ _ hv.push) mw_yX5_say ⟨im_yX5_say, se_yX5_say⟩ mk_X5_36 rc_V rfl ⟨(by omega), Nat.le_of_ble_eq_true rfl, Nat.le_of_ble_eq_true rfl⟩ dX5_begin_175 ?_
        refine x_aload_n (pc := 178) (i := 0) K dX5_begin_178 rfl rfl ?_
        refine gf_X5_26 (pc := 179)  K dX5_begin_179 ?_
        refine x_isub (pc := 182) K dX5_begin_182 ?_
        exact x_iretI (pc := 183) K dX5_begin_183 ⟨by unfold q_begin; rw [if_pos c_4, if_neg s_39_10, if_neg s_39_11, if_pos s_39_12], by unfold q_begin; rw [if_pos c_4, if_neg s_39_10, if_neg s_39_11, if_pos s_39_12], rfl⟩
      by_cases s_39_13 : body = 13
      · refine x_lookup (pc := 39) (off := 145) (tgt := 184) K dX5_begin_39 (by decide) (by rw [s_39_13]; decide) (by decide) ?_
        refine x_aload_n (pc := 184) (i := 0) K dX5_begin_184 rfl rfl ?_
        refine x_iload_n (pc := 185) (i := 3) K dX5_begin_185 rfl rfl ?_
        refine x_aload_n (pc := 186) (i := 0) K dX5_begin_186 rfl rfl ?_
        refine gf_X5_26 (pc := 187)  K dX5_begin_187 ?_
        refine x_aload_n (pc := 190) (i := 0) K dX5_begin_190 rfl rfl ?_
        refine gf_X5_29 (pc := 191)  K dX5_begin_191 ?_
        refine x_isub (pc := 194) K dX5_begin_194 ?_
        refine x_V2i (pc := 195) K (c_yX5_part) mw_yX5_part ⟨im_yX5_part, se_yX5_part⟩ mk_X5_54 rc_V rfl ⟨(by omega), Nat.le_of_ble_eq_true rfl, Nat.le_of_ble_eq_true rfl⟩ dX5_begin_195 ?_
        exact x_iretI (pc := 198) K dX5_begin_198 ⟨by unfold q_begin; rw [if_pos c_4, if_neg s_39_10, if_neg s_39_11, if_neg s_39_12, if_pos s_39_13], by unfold q_begin; rw [if_pos c_4, if_neg s_39_10, if_neg s_39_11, if_neg s_39_12, if_pos s_39_13], rfl⟩
      by_cases s_39_20 : body = 20
      · refine x_lookup (pc := 39) (off := 160) (tgt := 199) K dX5_begin_39 (by decide) (by rw [s_39_20]; decide) (by decide) ?_
        refine x_aload_n (pc := 199) (i := 0) K dX5_begin_199 rfl rfl ?_
        refine x_iload_n (pc := 200) (i := 2) K dX5_begin_200 rfl rfl ?_
        refine x_iconst (pc := 201) (v := 0) K dX5_begin_201 (by decide) ?_
        refine x_iload_n (pc := 202) (i := 3) K dX5_begin_202 rfl rfl ?_
        refine x_iload (pc := 203) (i := 4) K dX5_begin_203 rfl ?_
        refine x_V4i (pc := 205) K (hS _ _ _ _ _ hv.push) mw_yX5_say ⟨im_yX5_say, se_yX5_say⟩ mk_X5_36 rc_V rfl ⟨(by omega), Nat.le_of_ble_eq_true rfl, Nat.le_of_ble_eq_true rfl⟩ dX5_begin_205 ?_
        refine x_iconst (pc := 208) (v := 4) K dX5_begin_208 (by decide) ?_
        refine x_isub (pc := 209) K dX5_begin_209 ?_
        exact x_iretI (pc := 210) K dX5_begin_210 ⟨by unfold q_begin; rw [if_pos c_4, if_neg s_39_10, if_neg s_39_11, if_neg s_39_12, if_neg s_39_13, if_pos s_39_20], by unfold q_begin; rw [if_pos c_4, if_neg s_39_10, if_neg s_39_11, if_neg s_39_12, if_neg s_39_13, if_pos s_39_20], rfl⟩
      by_cases s_39_21 : body = 21
      · refine x_lookup (pc := 39) (off := 172) (tgt := 211) K dX5_begin_39 (by decide) (by rw [s_39_21]; decide) (by decide) ?_
        refine x_aload_n (pc := 211) (i := 0) K dX5_begin_211 rfl rfl ?_
        refine x_iload_n (pc := 212) (i := 2) K dX5_begin_212 rfl rfl ?_
        refine x_iconst (pc := 213) (v := 3) K dX5_begin_213 (by decide) ?_
        refine x_iload_n (pc := 214) (i := 3) K dX5_begin_214 rfl rfl ?_
        refine x_iload (pc := 215) (i := 4) K dX5_begin_215 rfl ?_
        refine x_V4i (pc := 217) K (hS _ _ _ _ _ hv.push) mw_yX5_say ⟨im_yX5_say, se_yX5_say⟩ mk_X5_36 rc_V rfl ⟨(by omega), Nat.le_of_ble_eq_true rfl, Nat.le_of_ble_eq_true rfl⟩ dX5_begin_217 ?_
        refine x_istore (pc := 220) (i := 5) K dX5_begin_220 rfl (by decide) ?_
        refine x_iload (pc := 222) (i := 5) K dX5_begin_222 rfl ?_
        refine x_aload_n (pc := 224) (i := 0) K dX5_begin_224 rfl rfl ?_
        refine x_aload_n (pc := 225) (i := 0) K dX5_begin_225 rfl rfl ?_
        refine gf_X5_23 (pc := 226)  K dX5_begin_226 ?_
        refine x_iconst (pc := 229) (v := 1) K dX5_begin_229 (by decide) ?_
        refine x_iconst (pc := 230) (v := 1) K dX5_begin_230 (by decide) ?_
        refine x_iload (pc := 231) (i := 4) K dX5_begin_231 rfl ?_
        refine x_V4i (pc := 233) K (hS _ _ _ _ _ (hSv _ _ _ _ hv.push)) mw_yX5_say ⟨im_yX5_say, se_yX5_say⟩ mk_X5_36 rc_V rfl ⟨(by omega), Nat.le_of_ble_eq_true rfl, Nat.le_of_ble_eq_true rfl⟩ dX5_begin_233 ?_
        refine x_iadd (pc := 236) K dX5_begin_236 ?_
        exact x_iretI (pc := 237) K dX5_begin_237 ⟨by unfold q_begin; rw [if_pos c_4, if_neg s_39_10, if_neg s_39_11, if_neg s_39_12, if_neg s_39_13, if_neg s_39_20, if_pos s_39_21], by unfold q_begin; rw [if_pos c_4, if_neg s_39_10, if_neg s_39_11, if_neg s_39_12, if_neg s_39_13, if_neg s_39_20, if_pos s_39_21], rfl⟩
      by_cases s_39_30 : body = 30
      · refine x_lookup (pc := 39) (off := 199) (tgt := 238) K dX5_begin_39 (by decide) (by rw [s_39_30]; decide) (by decide) ?_
        refine x_iconst (pc := 238) (v := 0) K dX5_begin_238 (by decide) ?_
        refine x_aload_n (pc := 239) (i := 0) K dX5_begin_239 rfl rfl ?_
        refine x_iload_n (pc := 240) (i := 2) K dX5_begin_240 rfl rfl ?_
        refine x_iconst (pc := 241) (v := 1) K dX5_begin_241 (by decide) ?_
        refine x_iload_n (pc := 242) (i := 3) K dX5_begin_242 rfl rfl ?_
        refine x_iload (pc := 243) (i := 4) K dX5_begin_243 rfl ?_
        refine x_V4i (pc := 245) K (hS _ _ _ _ _ hv.push) mw_yX5_say ⟨im_yX5_say, se_yX5_say⟩ mk_X5_36 rc_V rfl ⟨(by omega), Nat.le_of_ble_eq_true rfl, Nat.le_of_ble_eq_true rfl⟩ dX5_begin_245 ?_
        refine x_isub (pc := 248) K dX5_begin_248 ?_
        exact x_iretI (pc := 249) K dX5_begin_249 ⟨by unfold q_begin; rw [if_pos c_4, if_neg s_39_10, if_neg s_39_11, if_neg s_39_12, if_neg s_39_13, if_neg s_39_20, if_neg s_39_21, if_pos s_39_30], by unfold q_begin; rw [if_pos c_4, if_neg s_39_10, if_neg s_39_11, if_neg s_39_12, if_neg s_39_13, if_neg s_39_20, if_neg s_39_21, if_pos s_39_30], rfl⟩
      by_cases s_39_40 : body = 40
      · refine x_lookup (pc := 39) (off := 211) (tgt := 250) K dX5_begin_39 (by decide) (by rw [s_39_40]; decide) (by decide) ?_
        refine x_aload_n (pc := 250) (i := 0) K dX5_begin_250 rfl rfl ?_
        refine x_iload_n (pc := 251) (i := 2) K dX5_begin_251 rfl rfl ?_
        refine x_iconst (pc := 252) (v := 2) K dX5_begin_252 (by decide) ?_
        refine x_iload_n (pc := 253) (i := 3) K dX5_begin_253 rfl rfl ?_
        refine x_iconst (pc := 254) (v := 2) K dX5_begin_254 (by decide) ?_
        refine x_idiv (pc := 255) K dX5_begin_255 (by decide) ?_
        refine x_iload (pc := 256) (i := 4) K dX5_begin_256 rfl ?_
        refine x_V4i (pc := 258) K (hS _ _ _ _ _ hv.push) mw_yX5_say ⟨im_yX5_say, se_yX5_say⟩ mk_X5_36 rc_V rfl ⟨(by omega), Nat.le_of_ble_eq_true rfl, Nat.le_of_ble_eq_true rfl⟩ dX5_begin_258 ?_
        exact x_iretI (pc := 261) K dX5_begin_261 ⟨by unfold q_begin; rw [if_pos c_4, if_neg s_39_10, if_neg s_39_11, if_neg s_39_12, if_neg s_39_13, if_neg s_39_20, if_neg s_39_21, if_neg s_39_30, if_pos s_39_40], by unfold q_begin; rw [if_pos c_4, if_neg s_39_10, if_neg s_39_11, if_neg s_39_12, if_neg s_39_13, if_neg s_39_20, if_neg s_39_21, if_neg s_39_30, if_pos s_39_40], rfl⟩
      by_cases s_39_50 : body = 50
      · refine x_lookup (pc := 39) (off := 223) (tgt := 262) K dX5_begin_39 (by decide) (by rw [s_39_50]; decide) (by decide) ?_
        refine x_aload_n (pc := 262) (i := 0) K dX5_begin_262 rfl rfl ?_
        refine x_iload_n (pc := 263) (i := 2) K dX5_begin_263 rfl rfl ?_
        refine x_iconst (pc := 264) (v := 0) K dX5_begin_264 (by decide) ?_
        refine x_iload_n (pc := 265) (i := 3) K dX5_begin_265 rfl rfl ?_
        refine x_iload (pc := 266) (i := 4) K dX5_begin_266 rfl ?_
        refine x_V4i (pc := 268) K (hS _ _ _ _ _ hv.push) mw_yX5_say ⟨im_yX5_say, se_yX5_say⟩ mk_X5_36 rc_V rfl ⟨(by omega), Nat.le_of_ble_eq_true rfl, Nat.le_of_ble_eq_true rfl⟩ dX5_begin_268 ?_
        refine x_iconst (pc := 271) (v := 3) K dX5_begin_271 (by decide) ?_
        refine x_imul (pc := 272) K dX5_begin_272 ?_
        exact x_iretI (pc := 273) K dX5_begin_273 ⟨by unfold q_begin; rw [if_pos c_4, if_neg s_39_10, if_neg s_39_11, if_neg s_39_12, if_neg s_39_13, if_neg s_39_20, if_neg s_39_21, if_neg s_39_30, if_neg s_39_40, if_pos s_39_50], by unfold q_begin; rw [if_pos c_4, if_neg s_39_10, if_neg s_39_11, if_neg s_39_12, if_neg s_39_13, if_neg s_39_20, if_neg s_39_21, if_neg s_39_30, if_neg s_39_40, if_pos s_39_50], rfl⟩
      by_cases s_39_51 : body = 51
      · refine x_lookup (pc := 39) (off := 235) (tgt := 274) K dX5_begin_39 (by decide) (by rw [s_39_51]; decide) (by decide) ?_
        refine x_aload_n (pc := 274) (i := 0) K dX5_begin_274 rfl rfl ?_
        refine x_iload_n (pc := 275) (i := 2) K dX5_begin_275 rfl rfl ?_
        refine x_iconst (pc := 276) (v := 2) K dX5_begin_276 (by decide) ?_
        refine x_iload_n (pc := 277) (i := 3) K dX5_begin_277 rfl rfl ?_
        refine x_iload (pc := 278) (i := 4) K dX5_begin_278 rfl ?_
        refine x_V4i (pc := 280) K (hS _ _ _ _ _ hv.push) mw_yX5_say ⟨im_yX5_say, se_yX5_say⟩ mk_X5_36 rc_V rfl ⟨(by omega), Nat.le_of_ble_eq_true rfl, Nat.le_of_ble_eq_true rfl⟩ dX5_begin_280 ?_
        refine x_aload_n (pc := 283) (i := 0) K dX5_begin_283 rfl rfl ?_
        refine gf_X5_29 (pc := 284)  K dX5_begin_284 ?_
        refine x_ixor (pc := 287) K dX5_begin_287 ?_
        exact x_iretI (pc := 288) K dX5_begin_288 ⟨by unfold q_begin; rw [if_pos c_4, if_neg s_39_10, if_neg s_39_11, if_neg s_39_12, if_neg s_39_13, if_neg s_39_20, if_neg s_39_21, if_neg s_39_30, if_neg s_39_40, if_neg s_39_50, if_pos s_39_51], by unfold q_begin; rw [if_pos c_4, if_neg s_39_10, if_neg s_39_11, if_neg s_39_12, if_neg s_39_13, if_neg s_39_20, if_neg s_39_21, if_neg s_39_30, if_neg s_39_40, if_neg s_39_50, if_pos s_39_51], rfl⟩
      by_cases s_39_60 : body = 60
      · refine x_lookup (pc := 39) (off := 250) (tgt := 289) K dX5_begin_39 (by decide) (by rw [s_39_60]; decide) (by decide) ?_
        refine x_aload_n (pc := 289) (i := 0) K dX5_begin_289 rfl rfl ?_
        refine x_iload_n (pc := 290) (i := 2) K dX5_begin_290 rfl rfl ?_
        refine x_iconst (pc := 291) (v := 1) K dX5_begin_291 (by decide) ?_
        refine x_iload_n (pc := 292) (i := 3) K dX5_begin_292 rfl rfl ?_
        refine x_iconst (pc := 293) (v := 1) K dX5_begin_293 (by decide) ?_
        refine x_iadd (pc := 294) K dX5_begin_294 ?_
        refine x_iload (pc := 295) (i := 4) K dX5_begin_295 rfl ?_
        refine x_V4i (pc := 297) K (hS _ _ _ _ _ hv.push) mw_yX5_say ⟨im_yX5_say, se_yX5_say⟩ mk_X5_36 rc_V rfl ⟨(by omega), Nat.le_of_ble_eq_true rfl, Nat.le_of_ble_eq_true rfl⟩ dX5_begin_297 ?_
        exact x_iretI (pc := 300) K dX5_begin_300 ⟨by unfold q_begin; rw [if_pos c_4, if_neg s_39_10, if_neg s_39_11, if_neg s_39_12, if_neg s_39_13, if_neg s_39_20, if_neg s_39_21, if_neg s_39_30, if_neg s_39_40, if_neg s_39_50, if_neg s_39_51, if_pos s_39_60], by unfold q_begin; rw [if_pos c_4, if_neg s_39_10, if_neg s_39_11, if_neg s_39_12, if_neg s_39_13, if_neg s_39_20, if_neg s_39_21, if_neg s_39_30, if_neg s_39_40, if_neg s_39_50, if_neg s_39_51, if_pos s_39_60], rfl⟩
      by_cases s_39_70 : body = 70
      · refine x_lookup (pc := 39) (off := 262) (tgt := 301) K dX5_begin_39 (by decide) (by rw [s_39_70]; decide) (by decide) ?_
        refine x_bipush (pc := 301) (v := 9) K dX5_begin_301 (by decide) ?_
        exact x_iretI (pc := 303) K dX5_begin_303 ⟨by unfold q_begin; rw [if_pos c_4, if_neg s_39_10, if_neg s_39_11, if_neg s_39_12, if_neg s_39_13, if_neg s_39_20, if_neg s_39_21, if_neg s_39_30, if_neg s_39_40, if_neg s_39_50, if_neg s_39_51, if_neg s_39_60, if_pos s_39_70], by unfold q_begin; rw [if_pos c_4, if_neg s_39_10, if_neg s_39_11, if_neg s_39_12, if_neg s_39_13, if_neg s_39_20, if_neg s_39_21, if_neg s_39_30, if_neg s_39_40, if_neg s_39_50, if_neg s_39_51, if_neg s_39_60, if_pos s_39_70], rfl⟩
      refine x_lookup (pc := 39) (off := 265) (tgt := 304) K dX5_begin_39 (by decide) (by simp [Op.lookupswitch.offset, show ¬ 10 = (body).toInt from fun h => s_39_10 (Int32.toInt_inj.mp h.symm), show ¬ 11 = (body).toInt from fun h => s_39_11 (Int32.toInt_inj.mp h.symm), show ¬ 12 = (body).toInt from fun h => s_39_12 (Int32.toInt_inj.mp h.symm), show ¬ 13 = (body).toInt from fun h => s_39_13 (Int32.toInt_inj.mp h.symm), show ¬ 20 = (body).toInt from fun h => s_39_20 (Int32.toInt_inj.mp h.symm), show ¬ 21 = (body).toInt from fun h => s_39_21 (Int32.toInt_inj.mp h.symm), show ¬ 30 = (body).toInt from fun h => s_39_30 (Int32.toInt_inj.mp h.symm), show ¬ 40 = (body).toInt from fun h => s_39_40 (Int32.toInt_inj.mp h.symm), show ¬ 50 = (body).toInt from fun h => s_39_50 (Int32.toInt_inj.mp h.symm), show ¬ 51 = (body).toInt from fun h => s_39_51 (Int32.toInt_inj.mp h.symm), show ¬ 60 = (body).toInt from fun h => s_39_60 (Int32.toInt_inj.mp h.symm), show ¬ 70 = (body).toInt from fun h => s_39_70 (Int32.toInt_inj.mp h.symm)]) (by decide) ?_
      refine x_aload_n (pc := 304) (i := 0) K dX5_begin_304 rfl rfl ?_
      refine x_iload_n (pc := 305) (i := 2) K dX5_begin_305 rfl rfl ?_
      refine x_iconst (pc := 306) (v := 1) K dX5_begin_306 (by decide) ?_
      refine x_iload_n (pc := 307) (i := 3) K dX5_begin_307 rfl rfl ?_
      refine x_iload (pc := 308) (i := 4) K dX5_begin_308 rfl ?_
      refine x_V4i (pc := 310) K (hS _ _ _ _ _ hv.push) mw_yX5_say ⟨im_yX5_say, se_yX5_say⟩ mk_X5_36 rc_V rfl ⟨(by omega), Nat.le_of_ble_eq_true rfl, Nat.le_of_ble_eq_true rfl⟩ dX5_begin_310 ?_
      refine x_aload_n (pc := 313) (i := 0) K dX5_begin_313 rfl rfl ?_
      refine gf_X5_26 (pc := 314)  K dX5_begin_314 ?_
      refine x_iadd (pc := 317) K dX5_begin_317 ?_
      exact x_iretI (pc := 318) K dX5_begin_318 ⟨by unfold q_begin; rw [if_pos c_4, if_neg s_39_10, if_neg s_39_11, if_neg s_39_12, if_neg s_39_13, if_neg s_39_20, if_neg s_39_21, if_neg s_39_30, if_neg s_39_40, if_neg s_39_50, if_neg s_39_51, if_neg s_39_60, if_neg s_39_70], by unfold q_begin; rw [if_pos c_4, if_neg s_39_10, if_neg s_39_11, if_neg s_39_12, if_neg s_39_13, if_neg s_39_20, if_neg s_39_21, if_neg s_39_30, if_neg s_39_40, if_neg s_39_50, if_neg s_39_51, if_neg s_39_60, if_neg s_39_70], rfl⟩
  · refine x_iconst (pc := 7) (v := 0) K dX5_begin_7 (by decide) ?_
    exact x_iretI (pc := 8) K dX5_begin_8 ⟨by unfold q_begin; rw [if_neg c_4], by unfold q_begin; rw [if_neg c_4], rfl⟩

set_option maxRecDepth 100000 in
set_option maxHeartbeats 4000000 in
theorem l_say {k : Nat} {l : Launch} {G : Gm} {C : Cx} {S : Af → Int32 → Int32 → Int32 → Int32 × Af} {ds : Nat} {fr vo x op : Int32} {α ρ : Af} (K : Ok l (ds + 2) G C RX5 cX5_say (some .int) 8) (hS : ∀ (α ρ : Af) (fr vo x : Int32), Vk α → CI k l G yX5_say (Cond.code yX5_say cX5_say 8 (some .int)) ds [.ref (gA G idV), .int fr, .int vo, .int x, .int (op + 1)] α ρ (PI (S α fr vo x).1 (S α fr vo x).2 ρ)) (hSv : ∀ α fr vo x, Vk α → Vk (S α fr vo x).2) (hds : 1 ≤ ds) (hv : Vk α) (hvo : q_within vo 0 3 = true) : ∀ (j i : Nat) (of : Int32) (y : Option Value), i + j = 7 → ∀ T, (if (q_body vo j of).1 = 0 then (0, α) else q_begin S α (q_body vo j of).1 (q_body vo j of).2 x) = T → X k l (ds + 2) G C (PI T.1 T.2 ρ) 8 24 [some (.ref (gA G idV)), some (.int fr), some (.int vo), some (.int x), some (.int op), some (.int of), some (.int (nI i)), y] [] α ρ := by
  intro j
  induction j with
  | zero =>
    intro i of y hi T hT
    refine x_iload (pc := 24) (i := 6) K dX5_say_24 rfl ?_
    refine x_bipush (pc := 26) (v := 6) K dX5_say_26 (by decide) ?_
    refine x_icmp_gt (pc := 28) (tgt := 89) K dX5_say_28 (by decide) (fun c_28 => ?_) (fun c_28 => ?_)
    · refine x_iconst (pc := 89) (v := 0) K dX5_say_89 (by decide) ?_
      exact x_iretI (pc := 90) K dX5_say_90 ⟨by rw [← hT]; rfl, by rw [← hT]; rfl, rfl⟩
    · exact absurd (by rw [show i = 7 by omega]; decide) c_28
  | succ j ih =>
    intro i of y hi T hT
    refine x_iload (pc := 24) (i := 6) K dX5_say_24 rfl ?_
    refine x_bipush (pc := 26) (v := 6) K dX5_say_26 (by decide) ?_
    refine x_icmp_gt (pc := 28) (tgt := 89) K dX5_say_28 (by decide) (fun c_28 => ?_) (fun c_28 => ?_)
    · exact absurd ((nI_ltI (a := 6) (b := i) (by decide) (by omega)).mp c_28) (by omega)
    · refine x_iload (pc := 31) (i := 5) K dX5_say_31 rfl ?_
      refine x_iconst (pc := 33) (v := 0) K dX5_say_33 (by decide) ?_
      refine x_bipush (pc := 34) (v := 6) K dX5_say_34 (by decide) ?_
      refine x_SN3i (pc := 36) K (c_yX6_within) mw_yX6_within st_yX6_within (by decide +kernel) ⟨(by omega), Nat.le_of_ble_eq_true rfl, Nat.le_of_ble_eq_true rfl⟩ dX5_say_36 ?_
      refine x_ifeq_b (pc := 39) (tgt := 89) K dX5_say_39 (by decide) (fun c_39 => ?_) (fun c_39 => ?_)
      · refine x_iconst (pc := 89) (v := 0) K dX5_say_89 (by decide) ?_
        exact x_iretI (pc := 90) K dX5_say_90 ⟨by rw [← hT]; simp only [q_body, c_39, ↓reduceIte, Bool.false_eq_true], by rw [← hT]; simp only [q_body, c_39, ↓reduceIte, Bool.false_eq_true], rfl⟩
      · refine x_gets_bo (pc := 42) K dX5_say_42 ?_
        refine x_iconst (pc := 45) (v := 4) K dX5_say_45 (by decide) ?_
        refine x_iload (pc := 46) (i := 5) K dX5_say_46 rfl ?_
        refine x_imul (pc := 48) K dX5_say_48 ?_
        refine x_iload_n (pc := 49) (i := 2) K dX5_say_49 rfl rfl ?_
        refine x_iadd (pc := 50) K dX5_say_50 ?_
        refine x_tab_bo (pc := 51)  K (by obtain ⟨a, ha, rfl⟩ := vp_in_of (q_within_in (n := 7) c_39 (by decide)) (by decide); obtain ⟨b, hb, rfl⟩ := vp_in_of (q_within_in (n := 4) hvo (by decide)) (by decide); have e : (4 : Int32) * nI a + nI b = nI (4 * a + b) := (by rw [show (4 : Int32) = nI 4 from rfl, pk_mul, nI_add]); show vp_in (4 * nI a + nI b) 28; rw [e]; exact vp_in_nI (by omega) (by decide)) dX5_say_51 ?_
        refine x_istore (pc := 52) (i := 7) K dX5_say_52 rfl (by decide) ?_
        refine x_iload (pc := 54) (i := 7) K dX5_say_54 rfl ?_
        refine x_if_eq (pc := 56) (tgt := 76) K dX5_say_56 (by decide) (fun c_56 => ?_) (fun c_56 => ?_)
        · refine x_iload (pc := 76) (i := 5) K dX5_say_76 rfl ?_
          refine x_SN1i (pc := 78) K (c_yX6_kindAbove) mw_yX6_kindAbove st_yX6_kindAbove (by decide +kernel) ⟨(by omega), Nat.le_of_ble_eq_true rfl, Nat.le_of_ble_eq_true rfl⟩ dX5_say_78 ?_
          refine x_istore (pc := 81) (i := 5) K dX5_say_81 rfl (by decide) ?_
          refine x_iinc (pc := 83) (i := 6) (v := nI (i + 1)) K dX5_say_83 rfl (nI_1 _) rfl ?_
          refine x_goto (pc := 86) (tgt := 24) K dX5_say_86 (by decide) ?_
          exact ih (i + 1) _ _ (by omega) T (by rw [← hT]; simp only [q_body, c_39, ↓reduceIte, if_pos c_56])
        · refine x_aload_n (pc := 59) (i := 0) K dX5_say_59 rfl rfl ?_
          refine x_iload (pc := 60) (i := 7) K dX5_say_60 rfl ?_
          refine x_iload (pc := 62) (i := 5) K dX5_say_62 rfl ?_
          refine x_SN1i (pc := 64) K (c_yX6_kindAbove) mw_yX6_kindAbove st_yX6_kindAbove (by decide +kernel) ⟨(by omega), Nat.le_of_ble_eq_true rfl, Nat.le_of_ble_eq_true rfl⟩ dX5_say_64 ?_
          refine x_iload_n (pc := 67) (i := 3) K dX5_say_67 rfl rfl ?_
          refine x_iload (pc := 68) (i := 4) K dX5_say_68 rfl ?_
          refine x_iconst (pc := 70) (v := 1) K dX5_say_70 (by decide) ?_
          refine x_iadd (pc := 71) K dX5_say_71 ?_
          refine x_V4i (pc := 72) K (c_yX5_begin hS hSv hds hv) mw_yX5_begin ⟨im_yX5_begin, se_yX5_begin⟩ mk_X5_51 rc_V rfl ⟨(by omega), Nat.le_of_ble_eq_true rfl, Nat.le_of_ble_eq_true rfl⟩ dX5_say_72 ?_
          exact x_iretI (pc := 75) K dX5_say_75 ⟨by rw [← hT]; simp only [q_body, c_39, ↓reduceIte, if_neg c_56], by rw [← hT]; simp only [q_body, c_39, ↓reduceIte, if_neg c_56], rfl⟩

set_option maxRecDepth 100000 in
set_option maxHeartbeats 4000000 in
theorem c_say {k : Nat} {l : Launch} {G : Gm} : ∀ (m : Nat) {α ρ : Af} {fr vo x : Int32}, m ≤ 41 → Vk α → CI k l G yX5_say (Cond.code yX5_say cX5_say 8 (some .int)) (2 * m + 3) [.ref (gA G idV), .int fr, .int vo, .int x, .int (nI (41 - m))] α ρ (PI (q_say m α fr vo x).1 (q_say m α fr vo x).2 ρ) := by
  intro m
  induction m with
  | zero =>
    intro α ρ fr vo x hm hv
    refine CI.of [some (.ref (gA G idV)), some (.int fr), some (.int vo), some (.int x), some (.int (nI (41 - 0))), none, none, none] (by decide) (Nat.le_of_ble_eq_true rfl) rfl rfl (fun C K => ?_)
    have K : Ok l _ G C RX5 cX5_say (some .int) 8 := K
    refine x_iload (pc := 0) (i := 4) K dX5_say_0 rfl ?_
    refine x_bipush (pc := 2) (v := 40) K dX5_say_2 (by decide) ?_
    refine x_icmp_gt (pc := 4) (tgt := 16) K dX5_say_4 (by decide) (fun c_4 => ?_) (fun c_4 => ?_)
    · refine x_iconst (pc := 16) (v := 0) K dX5_say_16 (by decide) ?_
      exact x_iretI (pc := 17) K dX5_say_17 ⟨rfl, rfl, rfl⟩
    · exact absurd (by decide) c_4
  | succ m ih =>
    intro α ρ fr vo x hm hv
    refine CI.of [some (.ref (gA G idV)), some (.int fr), some (.int vo), some (.int x), some (.int (nI (41 - (m + 1)))), none, none, none] (by decide) (Nat.le_of_ble_eq_true rfl) rfl rfl (fun C K => ?_)
    have K : Ok l _ G C RX5 cX5_say (some .int) 8 := K
    refine x_iload (pc := 0) (i := 4) K dX5_say_0 rfl ?_
    refine x_bipush (pc := 2) (v := 40) K dX5_say_2 (by decide) ?_
    refine x_icmp_gt (pc := 4) (tgt := 16) K dX5_say_4 (by decide) (fun c_4 => ?_) (fun c_4 => ?_)
    · exact absurd ((nI_ltI (a := 40) (b := 41 - (m + 1)) (by decide) (by omega)).mp c_4) (by omega)
    · refine x_iload_n (pc := 7) (i := 2) K dX5_say_7 rfl rfl ?_
      refine x_iconst (pc := 8) (v := 0) K dX5_say_8 (by decide) ?_
      refine x_iconst (pc := 9) (v := 3) K dX5_say_9 (by decide) ?_
      refine x_SN3i (pc := 10) K (c_yX6_within) mw_yX6_within st_yX6_within (by decide +kernel) ⟨(by omega), Nat.le_of_ble_eq_true rfl, Nat.le_of_ble_eq_true rfl⟩ dX5_say_10 ?_
      refine x_ifne_b (pc := 13) (tgt := 18) K dX5_say_13 (by decide) (fun c_13 => ?_) (fun c_13 => ?_)
      · refine x_iload_n (pc := 18) (i := 1) K dX5_say_18 rfl rfl ?_
        refine x_istore (pc := 19) (i := 5) K dX5_say_19 rfl (by decide) ?_
        refine x_iconst (pc := 21) (v := 0) K dX5_say_21 (by decide) ?_
        refine x_istore (pc := 22) (i := 6) K dX5_say_22 rfl (by decide) ?_
        refine l_say (S := q_say m) (ds := 2 * m + 3) K (fun α ρ fr vo x hv => ?_) (Vk.say m) (by omega) hv c_13 7 0 fr none (by omega) _ (by simp only [q_say, c_13, ↓reduceIte])
        rw [show nI (41 - (m + 1)) + 1 = nI (41 - m) from by rw [nI_1, show 41 - (m + 1) + 1 = 41 - m by omega]]
        exact ih (by omega) hv
      · refine x_iconst (pc := 16) (v := 0) K dX5_say_16 (by decide) ?_
        exact x_iretI (pc := 17) K dX5_say_17 ⟨by simp only [q_say, c_13, ↓reduceIte, Bool.false_eq_true], by simp only [q_say, c_13, ↓reduceIte, Bool.false_eq_true], rfl⟩

def q_speakA (α : Af) (i : Nat) (k : Int32) : Af :=
  let a1 := up α idV 3 (α i 0)
  let a2 := up a1 idV 4 (a1 i 1)
  up (up (up a2 idV 5 k) idV 1 0) idV 2 0
def q_speak (α : Af) (i : Nat) (k vo x : Int32) : Int32 × Af := q_say 41 (q_speakA α i k) (q_speakA α i k idV 3) vo x
theorem Vk.speakA {α : Af} {i : Nat} {k : Int32} : Vk (q_speakA α i k) := ⟨0, by decide, by simp only [q_speakA]; rw [up_ne2 (by decide), up_eq]; rfl⟩
set_option maxRecDepth 100000 in
set_option maxHeartbeats 4000000 in
theorem c_yX5_speak {k : Nat} {l : Launch} {G : Gm} {α ρ : Af} {e u : Nat} {n vo x : Int32} (he : e < 3) (hu : u < 9) : CI k l G yX5_speak (Cond.code yX5_speak cX5_speak 5 (some .int)) 86 [.ref (gA G idV), .ref (gA G (idS e u)), .int n, .int vo, .int x] α ρ (PI (q_speak α (idS e u) n vo x).1 (q_speak α (idS e u) n vo x).2 ρ) := by
  refine CI.of [some (.ref (gA G idV)), some (.ref (gA G (idS e u))), some (.int n), some (.int vo), some (.int x)] (by decide) (Nat.le_of_ble_eq_true rfl) rfl rfl (fun C K => ?_)
  have K : Ok l _ G C RX5 cX5_speak (some .int) 5 := K
  refine x_aload_n (pc := 0) (i := 0) K dX5_speak_0 rfl rfl ?_
  refine x_aload_n (pc := 1) (i := 1) K dX5_speak_1 rfl rfl ?_
  refine gf_X5_32 (pc := 2) he hu K dX5_speak_2 ?_
  refine pf_X5_23 (pc := 5)  K dX5_speak_5 ?_
  refine x_aload_n (pc := 8) (i := 0) K dX5_speak_8 rfl rfl ?_
  refine x_aload_n (pc := 9) (i := 1) K dX5_speak_9 rfl rfl ?_
  refine gf_X5_35 (pc := 10) he hu K dX5_speak_10 ?_
  refine pf_X5_26 (pc := 13)  K dX5_speak_13 ?_
  refine x_aload_n (pc := 16) (i := 0) K dX5_speak_16 rfl rfl ?_
  refine x_iload_n (pc := 17) (i := 2) K dX5_speak_17 rfl rfl ?_
  refine pf_X5_29 (pc := 18)  K dX5_speak_18 ?_
  refine x_aload_n (pc := 21) (i := 0) K dX5_speak_21 rfl rfl ?_
  refine x_iconst (pc := 22) (v := 0) K dX5_speak_22 (by decide) ?_
  refine pf_X5_15 (pc := 23)  K dX5_speak_23 ?_
  refine x_aload_n (pc := 26) (i := 0) K dX5_speak_26 rfl rfl ?_
  refine x_iconst (pc := 27) (v := 0) K dX5_speak_27 (by decide) ?_
  refine pf_X5_19 (pc := 28)  K ⟨rfl, rfl⟩ dX5_speak_28 ?_
  refine x_aload_n (pc := 31) (i := 0) K dX5_speak_31 rfl rfl ?_
  refine x_aload_n (pc := 32) (i := 0) K dX5_speak_32 rfl rfl ?_
  refine gf_X5_23 (pc := 33)  K dX5_speak_33 ?_
  refine x_iload_n (pc := 36) (i := 3) K dX5_speak_36 rfl rfl ?_
  refine x_iload (pc := 37) (i := 4) K dX5_speak_37 rfl ?_
  refine x_iconst (pc := 39) (v := 0) K dX5_speak_39 (by decide) ?_
  refine x_V4i (pc := 40) K (c_say (α := q_speakA α (idS e u) n) 41 (by decide) Vk.speakA) mw_yX5_say ⟨im_yX5_say, se_yX5_say⟩ mk_X5_36 rc_V rfl ⟨Nat.le_of_ble_eq_true rfl, Nat.le_of_ble_eq_true rfl, Nat.le_of_ble_eq_true rfl⟩ dX5_speak_40 ?_
  exact x_iretI (pc := 43) K dX5_speak_43 ⟨rfl, rfl, rfl⟩
