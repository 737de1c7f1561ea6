theorem Sim.eq0 {a b : Af} (h : Sim 0 a b) : a = b := funext fun i => h i rfl
/-- a contract that says all, turned to one that keeps the piles and facts to itself -/
theorem CI.hide {l : Launch} {G : Gm} {y : MethodName} {hd : Cond} {d : Nat} {av : List Value} {α ρ : Af} {P : Po} (P' : Af → Af → Po) (h : ∀ a r, Sim 1 a α → Sim 1 r ρ → CI 0 l G y hd d av a r (P' a r)) (hP : ∀ a r o a1 r1, Sim 1 a α → Sim 1 r ρ → P' a r o a1 r1 → ∃ α1 ρ1, P o α1 ρ1 ∧ Sim 1 a1 α1 ∧ Sim 1 r1 ρ1) : CI 1 l G y hd d av α ρ P := by
  intro p e ha hc hk s m args below hf happ hp ht
  obtain ⟨hv, a, r, ha', hr', hw⟩ := hp
  obtain ⟨kk, o, h1, h2, h3, ⟨⟨oo, a1, r1, e1, hq, a2, r2, s1, s2, hw2⟩, hF⟩, hL⟩ := h a r ha' hr' p e ha hc hk s m args below hf happ ⟨hv, a, r, Sim.rf, Sim.rf, hw⟩ ht
  obtain ⟨α1, ρ1, q1, q2, q3⟩ := hP a r oo a1 r1 ha' hr' hq
  have e2 := s1.eq0
  have e3 := s2.eq0
  subst e2; subst e3
  exact ⟨kk, o, h1, h2, h3, ⟨⟨oo, α1, ρ1, e1, q1, a2, r2, q2, q3, hw2⟩, hF⟩, hL⟩
def Agr (t : Nat) (f g : Nat → Int32) : Prop := ∀ j, j < t → f j = g j
theorem q_wk_agr {a b c x : Int32} {t : Nat} {f g : Nat → Int32} (h : Agr t f g) : (q_wk a b c x (t, f)).1 = (q_wk a b c x (t, g)).1 ∧ Agr (q_wk a b c x (t, f)).1 (q_wk a b c x (t, f)).2 (q_wk a b c x (t, g)).2 := by
  unfold q_wk
  by_cases h1 : x < -3
  · simp only [if_pos h1]
    by_cases h2 : x = -33
    · simp only [if_pos h2]
      by_cases h3 : t = 0
      · simp only [if_pos h3]; exact ⟨trivial, h⟩
      · simp only [if_neg h3]
        refine ⟨trivial, fun j hj => ?_⟩
        by_cases e : j = t - 1
        · simp only [upd, if_pos e, h (t - 1) (by omega)]
        · simp only [upd, if_neg e]; exact h j hj
    · simp only [if_neg h2]
      by_cases h3 : t ≤ 1
      · simp only [if_pos h3]; exact ⟨trivial, h⟩
      · simp only [if_neg h3]
        refine ⟨trivial, fun j hj => ?_⟩
        by_cases e : j = t - 2
        · simp only [upd, if_pos e, h (t - 1) (by omega), h (t - 2) (by omega)]
        · simp only [upd, if_neg e]; exact h j (by omega)
  · simp only [if_neg h1]
    by_cases h3 : 60 ≤ t
    · simp only [if_pos h3]; exact ⟨trivial, h⟩
    · simp only [if_neg h3]
      refine ⟨trivial, fun j hj => ?_⟩
      by_cases e : j = t
      · simp only [upd, if_pos e]
      · simp only [upd, if_neg e]; exact h j (by omega)
theorem q_run_agr {code : Nat → Int32} {a b c : Int32} : ∀ (n i t : Nat) (f g : Nat → Int32), Agr t f g → (q_run code a b c n i (t, f)).1 = (q_run code a b c n i (t, g)).1 ∧ Agr (q_run code a b c n i (t, f)).1 (q_run code a b c n i (t, f)).2 (q_run code a b c n i (t, g)).2
  | 0, _, _, _, _, h => ⟨rfl, h⟩
  | n + 1, i, t, f, g, h => by
    obtain ⟨h1, h2⟩ := q_wk_agr (a := a) (b := b) (c := c) (x := code i) h
    have h3 := q_run_agr (code := code) (a := a) (b := b) (c := c) n (i + 1) (q_wk a b c (code i) (t, f)).1 (q_wk a b c (code i) (t, f)).2 (q_wk a b c (code i) (t, g)).2 h2
    simp only [q_run]
    have e : q_wk a b c (code i) (t, g) = ((q_wk a b c (code i) (t, f)).1, (q_wk a b c (code i) (t, g)).2) := by rw [h1]
    rw [e]
    exact h3
def q_work (code : Nat → Int32) (n : Nat) (a b c : Int32) : Int32 := q_fin (q_run code a b c n 0 (0, fun _ => 0))
theorem q_work_any {code : Nat → Int32} {n : Nat} {a b c : Int32} (f : Nat → Int32) : q_fin (q_run code a b c n 0 (0, f)) = q_work code n a b c := by
  obtain ⟨h1, h2⟩ := q_run_agr (code := code) (a := a) (b := b) (c := c) n 0 0 f (fun _ => 0) (fun j hj => absurd hj (Nat.not_lt_zero j))
  unfold q_work q_fin
  rw [← h1]
  by_cases e : (q_run code a b c n 0 (0, f)).1 = 0
  · rw [if_pos e, if_pos e]
  · rw [if_neg e, if_neg e]
    exact h2 _ (by omega)
theorem scr1_Lo {e u : Nat} (he : e < 3) (hu : u < 2) : scr 1 (idLo e u) = true := by
  unfold scr idLo
  have h1 : decide (43 ≤ 31 + 2 * e + u + 12 ∧ 31 + 2 * e + u + 12 < 49) = true := decide_eq_true (by omega)
  rw [h1]; rfl
theorem c1_workOut {l : Launch} {G : Gm} {α ρ : Af} {e u n : Nat} {a b c : Int32} (he : e < 3) (hu : u < 2) (hn : α (idL e u) 1 = nI n) (h60 : n ≤ 60) : CI 1 l G yX1_workOut (Cond.code yX1_workOut cX1_workOut 7 (some .int)) 3 [.ref (gA G (idL e u)), .int a, .int b, .int c] α ρ (PI (q_work (α (idLc e u)) n a b c) α ρ) := by
  refine CI.hide _ (fun a' r ha hr => c_yX1_workOut (n := n) he hu (by rw [ha _ (sc_L he hu)]; exact hn) h60) ?_
  intro a' r o a1 r1 ha hr hq
  obtain ⟨h1, h2, h3⟩ := hq
  have e1 : a' (idLc e u) = α (idLc e u) := ha _ (scr_no (by unfold idLc; omega))
  refine ⟨α, ρ, ⟨?_, rfl, rfl⟩, ?_, by rw [h3]; exact hr⟩
  · rw [h1, q_work_any, e1]
  · rw [h2]
    intro i hi
    have : i ≠ idLo e u := fun h => by rw [h, scr1_Lo he hu] at hi; cases hi
    rw [upR_ne this]
    exact ha i hi
/-- within 0 .. n - 1 -/
theorem hs_iff {i n : Nat} (hi : i < 2 ^ 30) (hn : n < 2 ^ 30) : q_within (nI i) 0 (nI n - 1) = decide (i < n) := by
  unfold q_within
  rw [if_neg (nI_pos (by omega))]
  cases n with
  | zero =>
    rw [if_pos]
    · simp
    · show nI 0 - 1 < nI i
      have : (nI 0 - 1 : Int32) < 0 := by decide
      exact Int32.lt_of_lt_of_le this (nI_pos' (by omega))
  | succ n =>
    rw [nI_pred]
    by_cases h : i < n + 1
    · rw [if_neg (nI_nlt (by omega) (by omega))]; simp [h]
    · rw [if_pos (nI_lt (by omega) (by omega))]; simp [h]
theorem hs_of {v : Int32} {n : Nat} (hn : n < 2 ^ 30) (h : q_within v 0 (nI n - 1) = true) : ∃ j, j < n ∧ v = nI j := by
  by_cases c1 : v < 0
  · unfold q_within at h
    rw [if_pos c1] at h; cases h
  · obtain ⟨j, hj, rfl⟩ := nI_of c1
    by_cases hb : j < 2 ^ 30
    · rw [hs_iff hb hn] at h
      exact ⟨j, of_decide_eq_true h, rfl⟩
    · unfold q_within at h
      rw [if_neg c1, if_pos] at h
      · cases h
      · cases n with
        | zero =>
          have : (nI 0 - 1 : Int32) < 0 := by decide
          exact Int32.lt_of_lt_of_le this (nI_pos' hj)
        | succ n => rw [nI_pred]; exact nI_lt (by omega) hj
/-- the laws' lengths -/
def Lk (α : Af) (e : Nat) : Prop := ∀ u, u < 2 → ∃ n, n ≤ 60 ∧ α (idL e u) 1 = nI n
def q_soaks (α : Af) (e : Nat) (a b c : Int32) : Int32 := q_held (if α (idL e 0) 0 = 0 then (if a ≤ 0 then -1 else 1) else q_work (α (idLc e 0)) (α (idL e 0) 1).toNatClampNeg a b c) (-9) 9
def q_crumbs (α : Af) (e : Nat) (a b c : Int32) : Int32 := q_held (if α (idL e 1) 0 = 0 then a / 10 + 1 else q_work (α (idLc e 1)) (α (idL e 1) 1).toNatClampNeg a b c) 0 99
def q_gives (α : Af) (e : Nat) (use a b c : Int32) : Int32 := if use = 0 then q_soaks α e a b c else q_crumbs α e a b c
theorem c1_workOut' {l : Launch} {G : Gm} {α ρ : Af} {e u : Nat} {a b c : Int32} (he : e < 3) (hu : u < 2) (hk : Lk α e) : CI 1 l G yX1_workOut (Cond.code yX1_workOut cX1_workOut 7 (some .int)) 3 [.ref (gA G (idL e u)), .int a, .int b, .int c] α ρ (PI (q_work (α (idLc e u)) (α (idL e u) 1).toNatClampNeg a b c) α ρ) := by
  obtain ⟨n, h1, h2⟩ := hk u hu
  rw [h2, nI_clamp (by omega)]
  exact c1_workOut he hu h2 h1
def q_bearsU (α : Af) (e u : Nat) : Int32 := q_bears (α (idS e u) 0) (α (idS e u) 1) (α (idS e u) 4) (α (idS e u) 5) (α (idS e u) 6) (α (idD e) 4)
def q_takesU (α : Af) (e u : Nat) : Int32 := q_takes (α (idS e u) 0) (α (idS e u) 1) (α (idS e u) 4)
def q_carryV (α : Af) (e u : Nat) (load : Int32) : Int32 := if load ≤ q_bearsU α e u then q_gives α e 1 load (q_bearsU α e u) (α (idS e u) 1) else -1
def q_carryS (α : Af) (e u : Nat) (load : Int32) : Af :=
  if load ≤ q_bearsU α e u then up α (idD e) 6 (if α (idD e) 6 + q_gives α e 1 load (q_bearsU α e u) (α (idS e u) 1) < 99999 then α (idD e) 6 + q_gives α e 1 load (q_bearsU α e u) (α (idS e u) 1) else 99999)
  else up (up α (idS e u) 6 1) (idD e) 5 (if (up α (idS e u) 6 1) (idD e) 5 + load < 99999 then (up α (idS e u) 6 1) (idD e) 5 + load else 99999)
def q_dayS (α : Af) (e u : Nat) : Af :=
  up (up α (idS e u) 5 (q_held (α (idS e u) 5 + q_gives α e 0 (α (idD e) 2) (α (idS e u) 5) (α (idS e u) 0)) 0 9)) (idS e u) 4 (if (up α (idS e u) 5 (q_held (α (idS e u) 5 + q_gives α e 0 (α (idD e) 2) (α (idS e u) 5) (α (idS e u) 0)) 0 9)) (idS e u) 4 + 1 < 99 then (up α (idS e u) 5 (q_held (α (idS e u) 5 + q_gives α e 0 (α (idD e) 2) (α (idS e u) 5) (α (idS e u) 0)) 0 9)) (idS e u) 4 + 1 else 99)
def q_days (α : Af) (e : Nat) : Nat → Af
  | 0 => α
  | i + 1 => q_dayS (q_days α e i) e i
def q_day (α : Af) (e n : Nat) : Af := up (q_days α e n) (idD e) 4 (q_days α e n (idD e) 4 + 1)
theorem q_dayS_ne {α : Af} {e u i : Nat} (h : i ≠ idS e u) : q_dayS α e u i = α i := by
  unfold q_dayS
  rw [up_ne h, up_ne h]
theorem q_days_ne {α : Af} {e i : Nat} : ∀ {n : Nat}, (∀ u, u < n → i ≠ idS e u) → q_days α e n i = α i
  | 0, _ => rfl
  | n + 1, h => by
    simp only [q_days]
    rw [q_dayS_ne (h n (by omega)), q_days_ne (fun u hu => h u (by omega))]
theorem nS_D {e e' u : Nat} (he : e < 3) : idD e ≠ idS e' u := by unfold idD idS; omega
theorem nS_L {e u e' u' : Nat} (he : e < 3) (hu : u < 2) : idL e u ≠ idS e' u' := by unfold idL idS; omega
theorem nS_Lc {e u e' u' : Nat} (he : e < 3) (hu : u < 2) : idLc e u ≠ idS e' u' := by unfold idLc idS; omega
theorem nS_Sp {e e' u : Nat} (he : e < 3) : idSp e ≠ idS e' u := by unfold idSp idS; omega
theorem nD_S {e e' u : Nat} (he : e' < 3) : idS e u ≠ idD e' := by unfold idD idS; omega
theorem nD_L {e u e' : Nat} (he' : e' < 3) : idL e u ≠ idD e' := by unfold idL idD; omega
theorem Lk.of {α β : Af} {e : Nat} (h : Lk α e) (hb : ∀ u, u < 2 → β (idL e u) = α (idL e u)) : Lk β e := fun u hu => by rw [hb u hu]; exact h u hu
theorem Lk.days {α : Af} {e n : Nat} (he : e < 3) (h : Lk α e) : Lk (q_days α e n) e := h.of fun u hu => q_days_ne (fun _ _ => nS_L he hu)
def q_z (z : Int32) : Int32 := z * 1103515245 + 12345
def q_drawS (α : Af) (e : Nat) : Af := up α (idD e) 7 (q_z (α (idD e) 7))
def q_drawN (α : Af) (e : Nat) : Nat := (q_z (α (idD e) 7)).toBitVec.toNat / 2 ^ 8
theorem q_drawN_lt {α : Af} {e : Nat} : q_drawN α e < 2 ^ 24 := by
  have h : (q_z (α (idD e) 7)).toBitVec.toNat < 2 ^ 32 := (q_z (α (idD e) 7)).toBitVec.isLt
  unfold q_drawN
  omega
theorem jushr8 (x : Int32) : jushr x 8 = nI (x.toBitVec.toNat / 2 ^ 8) := by
  have h := pk_ushr x 8 8 (by decide)
  have h2 : x.toBitVec.toNat < 2 ^ 32 := x.toBitVec.isLt
  refine Int32.toBitVec_inj.mp (BitVec.eq_of_toNat_eq ?_)
  unfold jushr
  rw [h, pk_tn (by omega)]
def q_bset (α : Af) (e : Nat) (load : Int32) : Nat → Int32
  | 0 => 0
  | i + 1 => if q_bearsU α e i < load then q_bset α e load i else q_bset α e load i ||| jshl 1 (nI i)
def q_endsU (α : Af) (e u : Nat) : Int32 := q_ends (α (idS e u) 2) (α (idS e u) 3)
def q_pass (E : Nat → Int32) (set r : Int32) : Nat → Int32
  | 0 => r
  | i + 1 => if jshr set (nI i) &&& 1 = 1 then (if q_pass E set r i &&& E i = 0 then q_pass E set r i else q_pass E set r i ||| E i) else q_pass E set r i
def q_reach (E : Nat → Int32) (set : Int32) (n : Nat) : Nat → Int32 → Int32
  | 0, r => r
  | m + 1, r => if q_pass E set r n = r then q_pass E set r n else q_reach E set n m (q_pass E set r n)
def q_joins (E : Nat → Int32) (set : Int32) (n : Nat) (one other : Int32) : Bool := if jshr (q_reach E set n 8 (jshl 1 one)) other &&& 1 = 1 then true else false
def q_flour (α : Af) (e : Nat) (set : Int32) : Nat → Int32
  | 0 => 0
  | i + 1 => if jshr set (nI i) &&& 1 = 1 then q_flour α e set i + q_takesU α e i else q_flour α e set i
def q_bakes (α : Af) (e : Nat) : Nat → Af
  | 0 => α
  | i + 1 => q_bake (q_bakes α e i) (idS e i)
theorem q_bake_ne {α : Af} {i j : Nat} (h : i ≠ j) : q_bake α j i = α i := by
  unfold q_bake
  rw [up_ne h, up_ne h, up_ne h]
theorem q_bakes_ne {α : Af} {e i : Nat} : ∀ {n : Nat}, (∀ u, u < n → i ≠ idS e u) → q_bakes α e n i = α i
  | 0, _ => rfl
  | n + 1, h => by
    simp only [q_bakes]
    rw [q_bake_ne (h n (by omega)), q_bakes_ne (fun u hu => h u (by omega))]
/-- the first i from which on a sheet's number isn't what the span bears -/
def q_right (α : Af) (e s n : Nat) : Nat → Nat → Nat
  | 0, i => i
  | j + 1, i => if i < n then (if q_bearsU α e i = α (idSn s) i then q_right α e s n j (i + 1) else i) else i
theorem c1_bears {k : Nat} {l : Launch} {G : Gm} {α ρ : Af} {e u : Nat} (he : e < 3) (hu : u < 9) : CI k l G yX4_bearsOn (Cond.code yX4_bearsOn cX4_bearsOn 2 (some .int)) 4 [.ref (gA G (idS e u)), .int (α (idD e) 4)] α ρ (PI (q_bearsU α e u) α ρ) := c_yX4_bearsOn he hu
theorem c1_takes {k : Nat} {l : Launch} {G : Gm} {α ρ : Af} {e u : Nat} (he : e < 3) (hu : u < 9) : CI k l G yX4_takes (Cond.code yX4_takes cX4_takes 2 (some .int)) 1 [.ref (gA G (idS e u))] α ρ (PI (q_takesU α e u) α ρ) := c_yX4_takes he hu
theorem c1_ends {k : Nat} {l : Launch} {G : Gm} {α ρ : Af} {e u : Nat} (he : e < 3) (hu : u < 9) : CI k l G yX4_ends (Cond.code yX4_ends cX4_ends 1 (some .int)) 1 [.ref (gA G (idS e u))] α ρ (PI (q_endsU α e u) α ρ) := c_yX4_ends he hu

set_option maxRecDepth 100000 in
set_option maxHeartbeats 4000000 in
theorem c_yX0_hasSpan {k : Nat} {l : Launch} {G : Gm} {α ρ : Af} {e : Nat} {v : Int32} (he : e < 3) : CI k l G yX0_hasSpan (Cond.code yX0_hasSpan cX0_hasSpan 2 (some .boolean)) 2 [.ref (gA G (idD e)), .int v] α ρ (PI (bI (q_within v 0 (α (idD e) 1 - 1))) α ρ) := by
  refine CI.of [some (.ref (gA G (idD e))), some (.int v)] (by decide) (Nat.le_of_ble_eq_true rfl) rfl rfl (fun C K => ?_)
  have K : Ok l _ G C RX0 cX0_hasSpan (some .boolean) 2 := K
  refine x_iload_n (pc := 0) (i := 1) K dX0_hasSpan_0 rfl rfl ?_
  refine x_iconst (pc := 1) (v := 0) K dX0_hasSpan_1 (by decide) ?_
  refine x_aload_n (pc := 2) (i := 0) K dX0_hasSpan_2 rfl rfl ?_
  refine gf_X0_17 (pc := 3) he K dX0_hasSpan_3 ?_
  refine x_iconst (pc := 6) (v := 1) K dX0_hasSpan_6 (by decide) ?_
  refine x_isub (pc := 7) K dX0_hasSpan_7 ?_
  refine x_SN3i (pc := 8) K (c_yX6_within) mw_yX6_within st_yX6_within (by decide +kernel) ⟨Nat.le_of_ble_eq_true rfl, Nat.le_of_ble_eq_true rfl, Nat.le_of_ble_eq_true rfl⟩ dX0_hasSpan_8 ?_
  exact x_zretI (pc := 11) K dX0_hasSpan_11 ⟨rfl, rfl, rfl⟩

set_option maxRecDepth 100000 in
set_option maxHeartbeats 4000000 in
theorem c_yX0_draw {k : Nat} {l : Launch} {G : Gm} {α ρ : Af} {e : Nat} (he : e < 3) : CI k l G yX0_draw (Cond.code yX0_draw cX0_draw 1 (some .int)) 1 [.ref (gA G (idD e))] α ρ (PI (nI (q_drawN α e)) (q_drawS α e) ρ) := by
  refine CI.of [some (.ref (gA G (idD e)))] (by decide) (Nat.le_of_ble_eq_true rfl) rfl rfl (fun C K => ?_)
  have K : Ok l _ G C RX0 cX0_draw (some .int) 1 := K
  refine x_aload_n (pc := 0) (i := 0) K dX0_draw_0 rfl rfl ?_
  refine x_aload_n (pc := 1) (i := 0) K dX0_draw_1 rfl rfl ?_
  refine gf_X0_36 (pc := 2) he K dX0_draw_2 ?_
  refine x_ldc (pc := 5) K kn_X0_144 dX0_draw_5 ?_
  refine x_imul (pc := 7) K dX0_draw_7 ?_
  refine x_sipush (pc := 8) (v := 12345) K dX0_draw_8 (by decide) ?_
  refine x_iadd (pc := 11) K dX0_draw_11 ?_
  refine pf_X0_36 (pc := 12) he K dX0_draw_12 ?_
  refine x_aload_n (pc := 15) (i := 0) K dX0_draw_15 rfl rfl ?_
  refine gf_X0_36 (pc := 16) he K dX0_draw_16 ?_
  refine x_bipush (pc := 19) (v := 8) K dX0_draw_19 (by decide) ?_
  refine x_iushr (pc := 21) K dX0_draw_21 ?_
  exact x_iretI (pc := 22) K dX0_draw_22 ⟨by rw [up_eq]; exact jushr8 _, rfl, rfl⟩

set_option maxRecDepth 100000 in
set_option maxHeartbeats 4000000 in
theorem c_yX0_gives {l : Launch} {G : Gm} {α ρ : Af} {e : Nat} {use a b c : Int32} (he : e < 3) (hk : Lk α e) : CI 1 l G yX0_gives (Cond.code yX0_gives cX0_gives 6 (some .int)) 4 [.ref (gA G (idD e)), .int use, .int a, .int b, .int c] α ρ (PI (q_gives α e use a b c) α ρ) := by
  refine CI.of [some (.ref (gA G (idD e))), some (.int use), some (.int a), some (.int b), some (.int c), none] (by decide) (Nat.le_of_ble_eq_true rfl) rfl rfl (fun C K => ?_)
  have K : Ok l _ G C RX0 cX0_gives (some .int) 6 := K
  refine x_iload_n (pc := 0) (i := 1) K dX0_gives_0 rfl rfl ?_
  refine x_if_ne (pc := 1) (tgt := 53) K dX0_gives_1 (by decide) (fun c_1 => ?_) (fun c_1 => ?_)
  · refine x_aload_n (pc := 53) (i := 0) K dX0_gives_53 rfl rfl ?_
    refine gf_X0_41 (pc := 54) he K dX0_gives_54 ?_
    refine x_iconst (pc := 57) (v := 1) K dX0_gives_57 (by decide) ?_
    refine ab_Lw (pc := 58) he 1 (by decide) K dX0_gives_58 ?_
    refine gf_X0_95 (pc := 59) he (by decide) K dX0_gives_59 ?_
    refine x_if_eq (pc := 62) (tgt := 81) K dX0_gives_62 (by decide) (fun c_62 => ?_) (fun c_62 => ?_)
    · refine x_iload_n (pc := 81) (i := 2) K dX0_gives_81 rfl rfl ?_
      refine x_bipush (pc := 82) (v := 10) K dX0_gives_82 (by decide) ?_
      refine x_idiv (pc := 84) K dX0_gives_84 (by decide) ?_
      refine x_iconst (pc := 85) (v := 1) K dX0_gives_85 (by decide) ?_
      refine x_iadd (pc := 86) K dX0_gives_86 ?_
      refine x_istore (pc := 87) (i := 5) K dX0_gives_87 rfl (by decide) ?_
      refine x_iload (pc := 89) (i := 5) K dX0_gives_89 rfl ?_
      refine x_iconst (pc := 91) (v := 0) K dX0_gives_91 (by decide) ?_
      refine x_bipush (pc := 92) (v := 99) K dX0_gives_92 (by decide) ?_
      refine x_SN3i (pc := 94) K (c_yX6_held) mw_yX6_held st_yX6_held (by decide +kernel) ⟨Nat.le_of_ble_eq_true rfl, Nat.le_of_ble_eq_true rfl, Nat.le_of_ble_eq_true rfl⟩ dX0_gives_94 ?_
      exact x_iretI (pc := 97) K dX0_gives_97 ⟨by simp (decide := true) only [q_gives, q_soaks, q_crumbs, if_neg c_1, if_pos c_62, ↓reduceIte], rfl, rfl⟩
    · refine x_aload_n (pc := 65) (i := 0) K dX0_gives_65 rfl rfl ?_
      refine gf_X0_41 (pc := 66) he K dX0_gives_66 ?_
      refine x_iconst (pc := 69) (v := 1) K dX0_gives_69 (by decide) ?_
      refine ab_Lw (pc := 70) he 1 (by decide) K dX0_gives_70 ?_
      refine x_iload_n (pc := 71) (i := 2) K dX0_gives_71 rfl rfl ?_
      refine x_iload_n (pc := 72) (i := 3) K dX0_gives_72 rfl rfl ?_
      refine x_iload (pc := 73) (i := 4) K dX0_gives_73 rfl ?_
      refine x_V3i (pc := 75) K (c1_workOut' he (u := 1) (by decide) hk) mw_yX1_workOut ⟨im_yX1_workOut, se_yX1_workOut⟩ mk_X0_99 (rc_L he (by decide)) rfl ⟨Nat.le_of_ble_eq_true rfl, Nat.le_of_ble_eq_true rfl, Nat.le_of_ble_eq_true rfl⟩ dX0_gives_75 ?_
      refine x_goto (pc := 78) (tgt := 87) K dX0_gives_78 (by decide) ?_
      refine x_istore (pc := 87) (i := 5) K dX0_gives_87 rfl (by decide) ?_
      refine x_iload (pc := 89) (i := 5) K dX0_gives_89 rfl ?_
      refine x_iconst (pc := 91) (v := 0) K dX0_gives_91 (by decide) ?_
      refine x_bipush (pc := 92) (v := 99) K dX0_gives_92 (by decide) ?_
      refine x_SN3i (pc := 94) K (c_yX6_held) mw_yX6_held st_yX6_held (by decide +kernel) ⟨Nat.le_of_ble_eq_true rfl, Nat.le_of_ble_eq_true rfl, Nat.le_of_ble_eq_true rfl⟩ dX0_gives_94 ?_
      exact x_iretI (pc := 97) K dX0_gives_97 ⟨by simp (decide := true) only [q_gives, q_soaks, q_crumbs, if_neg c_1, if_neg c_62, ↓reduceIte], rfl, rfl⟩
  · refine x_aload_n (pc := 4) (i := 0) K dX0_gives_4 rfl rfl ?_
    refine gf_X0_41 (pc := 5) he K dX0_gives_5 ?_
    refine x_iconst (pc := 8) (v := 0) K dX0_gives_8 (by decide) ?_
    refine ab_Lw (pc := 9) he 0 (by decide) K dX0_gives_9 ?_
    refine gf_X0_95 (pc := 10) he (by decide) K dX0_gives_10 ?_
    refine x_if_eq (pc := 13) (tgt := 32) K dX0_gives_13 (by decide) (fun c_13 => ?_) (fun c_13 => ?_)
    · refine x_iload_n (pc := 32) (i := 2) K dX0_gives_32 rfl rfl ?_
      refine x_if_le (pc := 33) (tgt := 40) K dX0_gives_33 (by decide) (fun c_33 => ?_) (fun c_33 => ?_)
      · refine x_iconst (pc := 40) (v := (-1)) K dX0_gives_40 (by decide) ?_
        refine x_istore (pc := 41) (i := 5) K dX0_gives_41 rfl (by decide) ?_
        refine x_iload (pc := 43) (i := 5) K dX0_gives_43 rfl ?_
        refine x_bipush (pc := 45) (v := (-9)) K dX0_gives_45 (by decide) ?_
        refine x_bipush (pc := 47) (v := 9) K dX0_gives_47 (by decide) ?_
        refine x_SN3i (pc := 49) K (c_yX6_held) mw_yX6_held st_yX6_held (by decide +kernel) ⟨Nat.le_of_ble_eq_true rfl, Nat.le_of_ble_eq_true rfl, Nat.le_of_ble_eq_true rfl⟩ dX0_gives_49 ?_
        exact x_iretI (pc := 52) K dX0_gives_52 ⟨by simp (decide := true) only [q_gives, q_soaks, q_crumbs, if_pos c_1, if_pos c_13, if_pos c_33, ↓reduceIte], rfl, rfl⟩
      · refine x_iconst (pc := 36) (v := 1) K dX0_gives_36 (by decide) ?_
        refine x_goto (pc := 37) (tgt := 41) K dX0_gives_37 (by decide) ?_
        refine x_istore (pc := 41) (i := 5) K dX0_gives_41 rfl (by decide) ?_
        refine x_iload (pc := 43) (i := 5) K dX0_gives_43 rfl ?_
        refine x_bipush (pc := 45) (v := (-9)) K dX0_gives_45 (by decide) ?_
        refine x_bipush (pc := 47) (v := 9) K dX0_gives_47 (by decide) ?_
        refine x_SN3i (pc := 49) K (c_yX6_held) mw_yX6_held st_yX6_held (by decide +kernel) ⟨Nat.le_of_ble_eq_true rfl, Nat.le_of_ble_eq_true rfl, Nat.le_of_ble_eq_true rfl⟩ dX0_gives_49 ?_
        exact x_iretI (pc := 52) K dX0_gives_52 ⟨by simp (decide := true) only [q_gives, q_soaks, q_crumbs, if_pos c_1, if_pos c_13, if_neg c_33, ↓reduceIte], rfl, rfl⟩
    · refine x_aload_n (pc := 16) (i := 0) K dX0_gives_16 rfl rfl ?_
      refine gf_X0_41 (pc := 17) he K dX0_gives_17 ?_
      refine x_iconst (pc := 20) (v := 0) K dX0_gives_20 (by decide) ?_
      refine ab_Lw (pc := 21) he 0 (by decide) K dX0_gives_21 ?_
      refine x_iload_n (pc := 22) (i := 2) K dX0_gives_22 rfl rfl ?_
      refine x_iload_n (pc := 23) (i := 3) K dX0_gives_23 rfl rfl ?_
      refine x_iload (pc := 24) (i := 4) K dX0_gives_24 rfl ?_
      refine x_V3i (pc := 26) K (c1_workOut' he (u := 0) (by decide) hk) mw_yX1_workOut ⟨im_yX1_workOut, se_yX1_workOut⟩ mk_X0_99 (rc_L he (by decide)) rfl ⟨Nat.le_of_ble_eq_true rfl, Nat.le_of_ble_eq_true rfl, Nat.le_of_ble_eq_true rfl⟩ dX0_gives_26 ?_
      refine x_goto (pc := 29) (tgt := 41) K dX0_gives_29 (by decide) ?_
      refine x_istore (pc := 41) (i := 5) K dX0_gives_41 rfl (by decide) ?_
      refine x_iload (pc := 43) (i := 5) K dX0_gives_43 rfl ?_
      refine x_bipush (pc := 45) (v := (-9)) K dX0_gives_45 (by decide) ?_
      refine x_bipush (pc := 47) (v := 9) K dX0_gives_47 (by decide) ?_
      refine x_SN3i (pc := 49) K (c_yX6_held) mw_yX6_held st_yX6_held (by decide +kernel) ⟨Nat.le_of_ble_eq_true rfl, Nat.le_of_ble_eq_true rfl, Nat.le_of_ble_eq_true rfl⟩ dX0_gives_49 ?_
      exact x_iretI (pc := 52) K dX0_gives_52 ⟨by simp (decide := true) only [q_gives, q_soaks, q_crumbs, if_pos c_1, if_neg c_13, ↓reduceIte], rfl, rfl⟩

set_option maxRecDepth 100000 in
set_option maxHeartbeats 4000000 in
theorem c_yX0_carryOver {l : Launch} {G : Gm} {α ρ : Af} {e u : Nat} {load : Int32} (he : e < 3) (hu : u < 9) (hk : Lk α e) : CI 1 l G yX0_carryOver (Cond.code yX0_carryOver cX0_carryOver 5 (some .int)) 5 [.ref (gA G (idD e)), .ref (gA G (idS e u)), .int load] α ρ (PI (q_carryV α e u load) (q_carryS α e u load) ρ) := by
  refine CI.of [some (.ref (gA G (idD e))), some (.ref (gA G (idS e u))), some (.int load), none, none] (by decide) (Nat.le_of_ble_eq_true rfl) rfl rfl (fun C K => ?_)
  have K : Ok l _ G C RX0 cX0_carryOver (some .int) 5 := K
  refine x_aload_n (pc := 0) (i := 1) K dX0_carryOver_0 rfl rfl ?_
  refine x_aload_n (pc := 1) (i := 0) K dX0_carryOver_1 rfl rfl ?_
  refine gf_X0_27 (pc := 2) he K dX0_carryOver_2 ?_
  refine x_V1i (pc := 5) K (c1_bears he hu) mw_yX4_bearsOn ⟨im_yX4_bearsOn, se_yX4_bearsOn⟩ mk_X0_106 (rc_S he hu) rfl ⟨Nat.le_of_ble_eq_true rfl, Nat.le_of_ble_eq_true rfl, Nat.le_of_ble_eq_true rfl⟩ dX0_carryOver_5 ?_
  refine x_istore_n (pc := 8) (i := 3) K dX0_carryOver_8 rfl rfl (by decide) ?_
  refine x_iload_n (pc := 9) (i := 3) K dX0_carryOver_9 rfl rfl ?_
  refine x_iload_n (pc := 10) (i := 2) K dX0_carryOver_10 rfl rfl ?_
  refine x_icmp_ge (pc := 11) (tgt := 36) K dX0_carryOver_11 (by decide) (fun c_11 => ?_) (fun c_11 => ?_)
  · refine x_aload_n (pc := 36) (i := 0) K dX0_carryOver_36 rfl rfl ?_
    refine x_iconst (pc := 37) (v := 1) K dX0_carryOver_37 (by decide) ?_
    refine x_iload_n (pc := 38) (i := 2) K dX0_carryOver_38 rfl rfl ?_
    refine x_iload_n (pc := 39) (i := 3) K dX0_carryOver_39 rfl rfl ?_
    refine x_aload_n (pc := 40) (i := 1) K dX0_carryOver_40 rfl rfl ?_
    refine gf_X0_84 (pc := 41) he hu K dX0_carryOver_41 ?_
    refine x_V4i (pc := 44) K (c_yX0_gives he hk) mw_yX0_gives ⟨im_yX0_gives, se_yX0_gives⟩ mk_X0_120 (rc_D he) rfl ⟨Nat.le_of_ble_eq_true rfl, Nat.le_of_ble_eq_true rfl, Nat.le_of_ble_eq_true rfl⟩ dX0_carryOver_44 ?_
    refine x_istore (pc := 47) (i := 4) K dX0_carryOver_47 rfl (by decide) ?_
    refine x_aload_n (pc := 49) (i := 0) K dX0_carryOver_49 rfl rfl ?_
    refine x_ldc (pc := 50) K kn_X0_113 dX0_carryOver_50 ?_
    refine x_aload_n (pc := 52) (i := 0) K dX0_carryOver_52 rfl rfl ?_
    refine gf_X0_33 (pc := 53) he K dX0_carryOver_53 ?_
    refine x_iload (pc := 56) (i := 4) K dX0_carryOver_56 rfl ?_
    refine x_iadd (pc := 58) K dX0_carryOver_58 ?_
    refine x_mmin (pc := 59) K mk_X0_114 ⟨Nat.le_of_ble_eq_true rfl, Nat.le_of_ble_eq_true rfl⟩ dX0_carryOver_59 ?_
    refine pf_X0_33 (pc := 62) he K dX0_carryOver_62 ?_
    refine x_iload (pc := 65) (i := 4) K dX0_carryOver_65 rfl ?_
    exact x_iretI (pc := 67) K dX0_carryOver_67 ⟨by simp (decide := true) only [q_carryV, if_pos c_11, ↓reduceIte], by simp (decide := true) only [q_carryS, if_pos c_11, ↓reduceIte], rfl⟩
  · refine x_aload_n (pc := 14) (i := 1) K dX0_carryOver_14 rfl rfl ?_
    refine x_iconst (pc := 15) (v := 1) K dX0_carryOver_15 (by decide) ?_
    refine pf_X0_110 (pc := 16) he hu K ⟨rfl, rfl⟩ dX0_carryOver_16 ?_
    refine x_aload_n (pc := 19) (i := 0) K dX0_carryOver_19 rfl rfl ?_
    refine x_ldc (pc := 20) K kn_X0_113 dX0_carryOver_20 ?_
    refine x_aload_n (pc := 22) (i := 0) K dX0_carryOver_22 rfl rfl ?_
    refine gf_X0_30 (pc := 23) he K dX0_carryOver_23 ?_
    refine x_iload_n (pc := 26) (i := 2) K dX0_carryOver_26 rfl rfl ?_
    refine x_iadd (pc := 27) K dX0_carryOver_27 ?_
    refine x_mmin (pc := 28) K mk_X0_114 ⟨Nat.le_of_ble_eq_true rfl, Nat.le_of_ble_eq_true rfl⟩ dX0_carryOver_28 ?_
    refine pf_X0_30 (pc := 31) he K dX0_carryOver_31 ?_
    refine x_iconst (pc := 34) (v := (-1)) K dX0_carryOver_34 (by decide) ?_
    exact x_iretI (pc := 35) K dX0_carryOver_35 ⟨by simp (decide := true) only [q_carryV, if_neg c_11, ↓reduceIte], by simp (decide := true) only [q_carryS, if_neg c_11, ↓reduceIte], rfl⟩

set_option maxRecDepth 100000 in
set_option maxHeartbeats 4000000 in
theorem l_passDay {l : Launch} {G : Gm} {C : Cx} {P : Po} {e n : Nat} {α ρ : Af} (K : Ok l 5 G C RX0 cX0_passDay none 3) (he : e < 3) (hn : α (idD e) 1 = nI n) (h9 : n ≤ 9) (hk : Lk α e) : ∀ (j i : Nat) (y : Option Value), i + j = n → (∀ y, X 1 l 5 G C (P) 3 70 [some (.ref (gA G (idD e))), some (.int (nI n)), y] [] (q_days α e n) ρ) → X 1 l 5 G C (P) 3 2 [some (.ref (gA G (idD e))), some (.int (nI i)), y] [] (q_days α e i) ρ := by
  intro j
  induction j with
  | zero =>
    intro i y hi hx
    have hm : q_days α e i (idD e) 1 = nI n := by rw [q_days_ne (fun _ _ => nS_D he)]; exact hn
    replace hx := hx y
    refine x_iload_n (pc := 2) (i := 1) K dX0_passDay_2 rfl rfl ?_
    refine x_aload_n (pc := 3) (i := 0) K dX0_passDay_3 rfl rfl ?_
    refine gf_X0_17 (pc := 4) he K dX0_passDay_4 ?_
    refine x_icmp_ge (pc := 7) (tgt := 70) K dX0_passDay_7 (by decide) (fun c_7 => ?_) (fun c_7 => ?_)
    · obtain rfl : i = n := by omega
      exact hx
    · exact absurd (by rw [hm]; exact nI_le (by omega) (by omega)) c_7
  | succ j ih =>
    intro i y hi hx
    have hm : q_days α e i (idD e) 1 = nI n := by rw [q_days_ne (fun _ _ => nS_D he)]; exact hn
    refine x_iload_n (pc := 2) (i := 1) K dX0_passDay_2 rfl rfl ?_
    refine x_aload_n (pc := 3) (i := 0) K dX0_passDay_3 rfl rfl ?_
    refine gf_X0_17 (pc := 4) he K dX0_passDay_4 ?_
    refine x_icmp_ge (pc := 7) (tgt := 70) K dX0_passDay_7 (by decide) (fun c_7 => ?_) (fun c_7 => ?_)
    · exact (nI_ge (a := i) (b := n) (by omega) (by omega) (by rw [hm] at c_7; exact c_7)).elim
    · refine x_aload_n (pc := 10) (i := 0) K dX0_passDay_10 rfl rfl ?_
      refine gf_X0_11 (pc := 11) he K dX0_passDay_11 ?_
      refine x_iload_n (pc := 14) (i := 1) K dX0_passDay_14 rfl rfl ?_
      refine ab_Sp (pc := 15) he i (by omega) K dX0_passDay_15 ?_
      refine x_astore_n (pc := 16) (i := 2) K dX0_passDay_16 rfl rfl (by decide) ?_
      refine x_aload_n (pc := 17) (i := 2) K dX0_passDay_17 rfl rfl ?_
      refine x_aload_n (pc := 18) (i := 2) K dX0_passDay_18 rfl rfl ?_
      refine gf_X0_124 (pc := 19) he (by omega) K dX0_passDay_19 ?_
      refine x_aload_n (pc := 22) (i := 0) K dX0_passDay_22 rfl rfl ?_
      refine x_iconst (pc := 23) (v := 0) K dX0_passDay_23 (by decide) ?_
      refine x_aload_n (pc := 24) (i := 0) K dX0_passDay_24 rfl rfl ?_
      refine gf_X0_21 (pc := 25) he K dX0_passDay_25 ?_
      refine x_aload_n (pc := 28) (i := 2) K dX0_passDay_28 rfl rfl ?_
      refine gf_X0_124 (pc := 29) he (by omega) K dX0_passDay_29 ?_
      refine x_aload_n (pc := 32) (i := 2) K dX0_passDay_32 rfl rfl ?_
      refine gf_X0_81 (pc := 33) he (by omega) K dX0_passDay_33 ?_
      refine x_V4i (pc := 36) K (c_yX0_gives (α := q_days α e i) he (hk.days he)) mw_yX0_gives ⟨im_yX0_gives, se_yX0_gives⟩ mk_X0_120 (rc_D he) rfl ⟨Nat.le_of_ble_eq_true rfl, Nat.le_of_ble_eq_true rfl, Nat.le_of_ble_eq_true rfl⟩ dX0_passDay_36 ?_
      refine x_iadd (pc := 39) K dX0_passDay_39 ?_
      refine x_iconst (pc := 40) (v := 0) K dX0_passDay_40 (by decide) ?_
      refine x_bipush (pc := 41) (v := 9) K dX0_passDay_41 (by decide) ?_
      refine x_SN3i (pc := 43) K (c_yX6_held) mw_yX6_held st_yX6_held (by decide +kernel) ⟨Nat.le_of_ble_eq_true rfl, Nat.le_of_ble_eq_true rfl, Nat.le_of_ble_eq_true rfl⟩ dX0_passDay_43 ?_
      refine pf_X0_124 (pc := 46) he (by omega) K dX0_passDay_46 ?_
      refine x_aload_n (pc := 49) (i := 2) K dX0_passDay_49 rfl rfl ?_
      refine x_bipush (pc := 50) (v := 99) K dX0_passDay_50 (by decide) ?_
      refine x_aload_n (pc := 52) (i := 2) K dX0_passDay_52 rfl rfl ?_
      refine gf_X0_127 (pc := 53) he (by omega) K dX0_passDay_53 ?_
      refine x_iconst (pc := 56) (v := 1) K dX0_passDay_56 (by decide) ?_
      refine x_iadd (pc := 57) K dX0_passDay_57 ?_
      refine x_mmin (pc := 58) K mk_X0_114 ⟨Nat.le_of_ble_eq_true rfl, Nat.le_of_ble_eq_true rfl⟩ dX0_passDay_58 ?_
      refine pf_X0_127 (pc := 61) he (by omega) K dX0_passDay_61 ?_
      refine x_iinc (pc := 64) (i := 1) (v := nI (i + 1)) K dX0_passDay_64 rfl (nI_1 _) rfl ?_
      refine x_goto (pc := 67) (tgt := 2) K dX0_passDay_67 (by decide) ?_
      exact ih (i + 1) _ (by omega) hx

set_option maxRecDepth 100000 in
set_option maxHeartbeats 4000000 in
theorem c_yX0_passDay {l : Launch} {G : Gm} {α ρ : Af} {e n : Nat} (he : e < 3) (hn : α (idD e) 1 = nI n) (h9 : n ≤ 9) (hk : Lk α e) : CI 1 l G yX0_passDay (Cond.code yX0_passDay cX0_passDay 3 none) 5 [.ref (gA G (idD e))] α ρ (PV (q_day α e n) ρ) := by
  refine CI.of [some (.ref (gA G (idD e))), none, none] (by decide) (Nat.le_of_ble_eq_true rfl) rfl rfl (fun C K => ?_)
  have K : Ok l _ G C RX0 cX0_passDay none 3 := K
  refine x_iconst (pc := 0) (v := 0) K dX0_passDay_0 (by decide) ?_
  refine x_istore_n (pc := 1) (i := 1) K dX0_passDay_1 rfl rfl (by decide) ?_
  refine l_passDay K he hn h9 hk n 0 none (by omega) (fun y => ?_)
  refine x_aload_n (pc := 70) (i := 0) K dX0_passDay_70 rfl rfl ?_
  refine x_dup (pc := 71) K dX0_passDay_71 rfl ?_
  refine gf_X0_27 (pc := 72) he K dX0_passDay_72 ?_
  refine x_iconst (pc := 75) (v := 1) K dX0_passDay_75 (by decide) ?_
  refine x_iadd (pc := 76) K dX0_passDay_76 ?_
  refine pf_X0_27 (pc := 77) he K dX0_passDay_77 ?_
  exact x_vretI (pc := 80) K dX0_passDay_80 ⟨rfl, rfl⟩

set_option maxRecDepth 100000 in
set_option maxHeartbeats 4000000 in
theorem l_bearing {k : Nat} {l : Launch} {G : Gm} {C : Cx} {P : Po} {e n : Nat} {load : Int32} {α ρ : Af} (K : Ok l 5 G C RX0 cX0_bearing (some .int) 4) (he : e < 3) (hn : α (idD e) 1 = nI n) (h9 : n ≤ 9) : ∀ (j i : Nat), i + j = n → X k l 5 G C (P) 4 41 [some (.ref (gA G (idD e))), some (.int load), some (.int (q_bset α e load n)), some (.int (nI n))] [] α ρ → X k l 5 G C (P) 4 4 [some (.ref (gA G (idD e))), some (.int load), some (.int (q_bset α e load i)), some (.int (nI i))] [] α ρ := by
  intro j
  induction j with
  | zero =>
    intro i hi hx
    refine x_iload_n (pc := 4) (i := 3) K dX0_bearing_4 rfl rfl ?_
    refine x_aload_n (pc := 5) (i := 0) K dX0_bearing_5 rfl rfl ?_
    refine gf_X0_17 (pc := 6) he K dX0_bearing_6 ?_
    refine x_icmp_ge (pc := 9) (tgt := 41) K dX0_bearing_9 (by decide) (fun c_9 => ?_) (fun c_9 => ?_)
    · obtain rfl : i = n := by omega
      exact hx
    · exact absurd (by rw [hn]; exact nI_le (by omega) (by omega)) c_9
  | succ j ih =>
    intro i hi hx
    refine x_iload_n (pc := 4) (i := 3) K dX0_bearing_4 rfl rfl ?_
    refine x_aload_n (pc := 5) (i := 0) K dX0_bearing_5 rfl rfl ?_
    refine gf_X0_17 (pc := 6) he K dX0_bearing_6 ?_
    refine x_icmp_ge (pc := 9) (tgt := 41) K dX0_bearing_9 (by decide) (fun c_9 => ?_) (fun c_9 => ?_)
    · exact (nI_ge (a := i) (b := n) (by omega) (by omega) (by rw [hn] at c_9; exact c_9)).elim
    · refine x_aload_n (pc := 12) (i := 0) K dX0_bearing_12 rfl rfl ?_
      refine gf_X0_11 (pc := 13) he K dX0_bearing_13 ?_
      refine x_iload_n (pc := 16) (i := 3) K dX0_bearing_16 rfl rfl ?_
      refine ab_Sp (pc := 17) he i (by omega) K dX0_bearing_17 ?_
      refine x_aload_n (pc := 18) (i := 0) K dX0_bearing_18 rfl rfl ?_
      refine gf_X0_27 (pc := 19) he K dX0_bearing_19 ?_
      refine x_V1i (pc := 22) K (c1_bears (u := i) he (by omega)) mw_yX4_bearsOn ⟨im_yX4_bearsOn, se_yX4_bearsOn⟩ mk_X0_106 (rc_S he (by omega)) rfl ⟨Nat.le_of_ble_eq_true rfl, Nat.le_of_ble_eq_true rfl, Nat.le_of_ble_eq_true rfl⟩ dX0_bearing_22 ?_
      refine x_iload_n (pc := 25) (i := 1) K dX0_bearing_25 rfl rfl ?_
      refine x_icmp_lt (pc := 26) (tgt := 35) K dX0_bearing_26 (by decide) (fun c_26 => ?_) (fun c_26 => ?_)
      · refine x_iinc (pc := 35) (i := 3) (v := nI (i + 1)) K dX0_bearing_35 rfl (nI_1 _) rfl ?_
        refine x_goto (pc := 38) (tgt := 4) K dX0_bearing_38 (by decide) ?_
        have e1 : q_bset α e load (i + 1) = q_bset α e load i := by simp only [q_bset]; rw [if_pos c_26]
        have h2 := ih (i + 1) (by omega) hx
        rw [e1] at h2
        exact h2
      · refine x_iload_n (pc := 29) (i := 2) K dX0_bearing_29 rfl rfl ?_
        refine x_iconst (pc := 30) (v := 1) K dX0_bearing_30 (by decide) ?_
        refine x_iload_n (pc := 31) (i := 3) K dX0_bearing_31 rfl rfl ?_
        refine x_ishl (pc := 32) K dX0_bearing_32 ?_
        refine x_ior (pc := 33) K dX0_bearing_33 ?_
        refine x_istore_n (pc := 34) (i := 2) K dX0_bearing_34 rfl rfl (by decide) ?_
        refine x_iinc (pc := 35) (i := 3) (v := nI (i + 1)) K dX0_bearing_35 rfl (nI_1 _) rfl ?_
        refine x_goto (pc := 38) (tgt := 4) K dX0_bearing_38 (by decide) ?_
        have e1 : q_bset α e load (i + 1) = q_bset α e load i ||| jshl 1 (nI i) := by simp only [q_bset]; rw [if_neg c_26]
        have h2 := ih (i + 1) (by omega) hx
        rw [e1] at h2
        exact h2

set_option maxRecDepth 100000 in
set_option maxHeartbeats 4000000 in
theorem c_yX0_bearing {k : Nat} {l : Launch} {G : Gm} {α ρ : Af} {e n : Nat} {load : Int32} (he : e < 3) (hn : α (idD e) 1 = nI n) (h9 : n ≤ 9) : CI k l G yX0_bearing (Cond.code yX0_bearing cX0_bearing 4 (some .int)) 5 [.ref (gA G (idD e)), .int load] α ρ (PI (q_bset α e load n) α ρ) := by
  refine CI.of [some (.ref (gA G (idD e))), some (.int load), none, none] (by decide) (Nat.le_of_ble_eq_true rfl) rfl rfl (fun C K => ?_)
  have K : Ok l _ G C RX0 cX0_bearing (some .int) 4 := K
  refine x_iconst (pc := 0) (v := 0) K dX0_bearing_0 (by decide) ?_
  refine x_istore_n (pc := 1) (i := 2) K dX0_bearing_1 rfl rfl (by decide) ?_
  refine x_iconst (pc := 2) (v := 0) K dX0_bearing_2 (by decide) ?_
  refine x_istore_n (pc := 3) (i := 3) K dX0_bearing_3 rfl rfl (by decide) ?_
  refine l_bearing K he hn h9 n 0 (by omega) ?_
  refine x_iload_n (pc := 41) (i := 2) K dX0_bearing_41 rfl rfl ?_
  exact x_iretI (pc := 42) K dX0_bearing_42 ⟨rfl, rfl, rfl⟩

set_option maxRecDepth 100000 in
set_option maxHeartbeats 4000000 in
theorem l_pass {k : Nat} {l : Launch} {G : Gm} {C : Cx} {P : Po} {e n : Nat} {p set r x4 x5 : Int32} {α ρ : Af} (K : Ok l 2 G C RX0 cX0_reachOver (some .int) 8) (he : e < 3) (hn : α (idD e) 1 = nI n) (h9 : n ≤ 9) : ∀ (j i : Nat) (y : Option Value), i + j = n → (∀ y, X k l 2 G C (P) 8 69 [some (.ref (gA G (idD e))), some (.int p), some (.int set), some (.int (q_pass (q_endsU α e) set r n)), some (.int x4), some (.int x5), some (.int (nI n)), y] [] α ρ) → X k l 2 G C (P) 8 20 [some (.ref (gA G (idD e))), some (.int p), some (.int set), some (.int (q_pass (q_endsU α e) set r i)), some (.int x4), some (.int x5), some (.int (nI i)), y] [] α ρ := by
  intro j
  induction j with
  | zero =>
    intro i y hi hx
    refine x_iload (pc := 20) (i := 6) K dX0_reachOver_20 rfl ?_
    refine x_aload_n (pc := 22) (i := 0) K dX0_reachOver_22 rfl rfl ?_
    refine gf_X0_17 (pc := 23) he K dX0_reachOver_23 ?_
    refine x_icmp_ge (pc := 26) (tgt := 69) K dX0_reachOver_26 (by decide) (fun c_26 => ?_) (fun c_26 => ?_)
    · obtain rfl : i = n := by omega
      exact hx y
    · exact absurd (by rw [hn]; exact nI_le (by omega) (by omega)) c_26
  | succ j ih =>
    intro i y hi hx
    refine x_iload (pc := 20) (i := 6) K dX0_reachOver_20 rfl ?_
    refine x_aload_n (pc := 22) (i := 0) K dX0_reachOver_22 rfl rfl ?_
    refine gf_X0_17 (pc := 23) he K dX0_reachOver_23 ?_
    refine x_icmp_ge (pc := 26) (tgt := 69) K dX0_reachOver_26 (by decide) (fun c_26 => ?_) (fun c_26 => ?_)
    · exact (nI_ge (a := i) (b := n) (by omega) (by omega) (by rw [hn] at c_26; exact c_26)).elim
    · refine x_aload_n (pc := 29) (i := 0) K dX0_reachOver_29 rfl rfl ?_
      refine gf_X0_11 (pc := 30) he K dX0_reachOver_30 ?_
      refine x_iload (pc := 33) (i := 6) K dX0_reachOver_33 rfl ?_
      refine ab_Sp (pc := 35) he i (by omega) K dX0_reachOver_35 ?_
      refine x_V0i (pc := 36) K (c1_ends (u := i) he (by omega)) mw_yX4_ends ⟨im_yX4_ends, se_yX4_ends⟩ mk_X0_145 (rc_S he (by omega)) rfl ⟨Nat.le_of_ble_eq_true rfl, Nat.le_of_ble_eq_true rfl, Nat.le_of_ble_eq_true rfl⟩ dX0_reachOver_36 ?_
      refine x_istore (pc := 39) (i := 7) K dX0_reachOver_39 rfl (by decide) ?_
      refine x_iload_n (pc := 41) (i := 2) K dX0_reachOver_41 rfl rfl ?_
      refine x_iload (pc := 42) (i := 6) K dX0_reachOver_42 rfl ?_
      refine x_ishr (pc := 44) K dX0_reachOver_44 ?_
      refine x_iconst (pc := 45) (v := 1) K dX0_reachOver_45 (by decide) ?_
      refine x_iand (pc := 46) K dX0_reachOver_46 ?_
      refine x_iconst (pc := 47) (v := 1) K dX0_reachOver_47 (by decide) ?_
      refine x_icmp_ne (pc := 48) (tgt := 63) K dX0_reachOver_48 (by decide) (fun c_48 => ?_) (fun c_48 => ?_)
      · refine x_iinc (pc := 63) (i := 6) (v := nI (i + 1)) K dX0_reachOver_63 rfl (nI_1 _) rfl ?_
        refine x_goto (pc := 66) (tgt := 20) K dX0_reachOver_66 (by decide) ?_
        have e1 : q_pass (q_endsU α e) set r (i + 1) = q_pass (q_endsU α e) set r i := by simp only [q_pass]; rw [if_neg c_48]
        have h2 := ih (i + 1) (some (.int (q_endsU α e i))) (by omega) hx
        rw [e1] at h2
        exact h2
      · refine x_iload_n (pc := 51) (i := 3) K dX0_reachOver_51 rfl rfl ?_
        refine x_iload (pc := 52) (i := 7) K dX0_reachOver_52 rfl ?_
        refine x_iand (pc := 54) K dX0_reachOver_54 ?_
        refine x_if_eq (pc := 55) (tgt := 63) K dX0_reachOver_55 (by decide) (fun c_55 => ?_) (fun c_55 => ?_)
        · refine x_iinc (pc := 63) (i := 6) (v := nI (i + 1)) K dX0_reachOver_63 rfl (nI_1 _) rfl ?_
          refine x_goto (pc := 66) (tgt := 20) K dX0_reachOver_66 (by decide) ?_
          have e1 : q_pass (q_endsU α e) set r (i + 1) = q_pass (q_endsU α e) set r i := by simp only [q_pass]; rw [if_pos c_48, if_pos c_55]
          have h2 := ih (i + 1) (some (.int (q_endsU α e i))) (by omega) hx
          rw [e1] at h2
          exact h2
        · refine x_iload_n (pc := 58) (i := 3) K dX0_reachOver_58 rfl rfl ?_
          refine x_iload (pc := 59) (i := 7) K dX0_reachOver_59 rfl ?_
          refine x_ior (pc := 61) K dX0_reachOver_61 ?_
          refine x_istore_n (pc := 62) (i := 3) K dX0_reachOver_62 rfl rfl (by decide) ?_
          refine x_iinc (pc := 63) (i := 6) (v := nI (i + 1)) K dX0_reachOver_63 rfl (nI_1 _) rfl ?_
          refine x_goto (pc := 66) (tgt := 20) K dX0_reachOver_66 (by decide) ?_
          have e1 : q_pass (q_endsU α e) set r (i + 1) = q_pass (q_endsU α e) set r i ||| q_endsU α e i := by simp only [q_pass]; rw [if_pos c_48, if_neg c_55]
          have h2 := ih (i + 1) (some (.int (q_endsU α e i))) (by omega) hx
          rw [e1] at h2
          exact h2

set_option maxRecDepth 100000 in
set_option maxHeartbeats 4000000 in
theorem l_reach {k : Nat} {l : Launch} {G : Gm} {C : Cx} {e n : Nat} {p set : Int32} {α ρ : Af} (K : Ok l 2 G C RX0 cX0_reachOver (some .int) 8) (he : e < 3) (hn : α (idD e) 1 = nI n) (h9 : n ≤ 9) : ∀ (j i : Nat) (r : Int32) (y5 y6 y7 : Option Value), i + j = 8 → ∀ T, q_reach (q_endsU α e) set n j r = T → X k l 2 G C (PI T α ρ) 8 7 [some (.ref (gA G (idD e))), some (.int p), some (.int set), some (.int r), some (.int (nI i)), y5, y6, y7] [] α ρ := by
  intro j
  induction j with
  | zero =>
    intro i r y5 y6 y7 hi T hT
    refine x_iload (pc := 7) (i := 4) K dX0_reachOver_7 rfl ?_
    refine x_bipush (pc := 9) (v := 8) K dX0_reachOver_9 (by decide) ?_
    refine x_icmp_ge (pc := 11) (tgt := 84) K dX0_reachOver_11 (by decide) (fun c_11 => ?_) (fun c_11 => ?_)
    · refine x_iload_n (pc := 84) (i := 3) K dX0_reachOver_84 rfl rfl ?_
      exact x_iretI (pc := 85) K dX0_reachOver_85 ⟨by rw [← hT]; rfl, rfl, rfl⟩
    · exact absurd (by rw [show i = 8 by omega]; decide) c_11
  | succ j ih =>
    intro i r y5 y6 y7 hi T hT
    refine x_iload (pc := 7) (i := 4) K dX0_reachOver_7 rfl ?_
    refine x_bipush (pc := 9) (v := 8) K dX0_reachOver_9 (by decide) ?_
    refine x_icmp_ge (pc := 11) (tgt := 84) K dX0_reachOver_11 (by decide) (fun c_11 => ?_) (fun c_11 => ?_)
    · exact absurd ((nI_leI (a := 8) (b := i) (by decide) (by omega)).mp c_11) (by omega)
    · refine x_iload_n (pc := 14) (i := 3) K dX0_reachOver_14 rfl rfl ?_
      refine x_istore (pc := 15) (i := 5) K dX0_reachOver_15 rfl (by decide) ?_
      refine x_iconst (pc := 17) (v := 0) K dX0_reachOver_17 (by decide) ?_
      refine x_istore (pc := 18) (i := 6) K dX0_reachOver_18 rfl (by decide) ?_
      refine l_pass K he hn h9 n 0 _ (by omega) (fun y => ?_)
      refine x_iload_n (pc := 69) (i := 3) K dX0_reachOver_69 rfl rfl ?_
      refine x_iload (pc := 70) (i := 5) K dX0_reachOver_70 rfl ?_
      refine x_icmp_ne (pc := 72) (tgt := 78) K dX0_reachOver_72 (by decide) (fun c_72 => ?_) (fun c_72 => ?_)
      · refine x_iinc (pc := 78) (i := 4) (v := nI (i + 1)) K dX0_reachOver_78 rfl (nI_1 _) rfl ?_
        refine x_goto (pc := 81) (tgt := 7) K dX0_reachOver_81 (by decide) ?_
        exact ih (i + 1) _ _ _ _ (by omega) T (by rw [← hT]; simp only [q_reach]; rw [if_neg c_72])
      · refine x_goto (pc := 75) (tgt := 84) K dX0_reachOver_75 (by decide) ?_
        refine x_iload_n (pc := 84) (i := 3) K dX0_reachOver_84 rfl rfl ?_
        exact x_iretI (pc := 85) K dX0_reachOver_85 ⟨by rw [← hT]; simp only [q_reach]; rw [if_pos c_72], rfl, rfl⟩

set_option maxRecDepth 100000 in
set_option maxHeartbeats 4000000 in
theorem c_yX0_reachOver {k : Nat} {l : Launch} {G : Gm} {α ρ : Af} {e n : Nat} {p set : Int32} (he : e < 3) (hn : α (idD e) 1 = nI n) (h9 : n ≤ 9) : CI k l G yX0_reachOver (Cond.code yX0_reachOver cX0_reachOver 8 (some .int)) 2 [.ref (gA G (idD e)), .int p, .int set] α ρ (PI (q_reach (q_endsU α e) set n 8 (jshl 1 p)) α ρ) := by
  refine CI.of [some (.ref (gA G (idD e))), some (.int p), some (.int set), none, none, none, none, none] (by decide) (Nat.le_of_ble_eq_true rfl) rfl rfl (fun C K => ?_)
  have K : Ok l _ G C RX0 cX0_reachOver (some .int) 8 := K
  refine x_iconst (pc := 0) (v := 1) K dX0_reachOver_0 (by decide) ?_
  refine x_iload_n (pc := 1) (i := 1) K dX0_reachOver_1 rfl rfl ?_
  refine x_ishl (pc := 2) K dX0_reachOver_2 ?_
  refine x_istore_n (pc := 3) (i := 3) K dX0_reachOver_3 rfl rfl (by decide) ?_
  refine x_iconst (pc := 4) (v := 0) K dX0_reachOver_4 (by decide) ?_
  refine x_istore (pc := 5) (i := 4) K dX0_reachOver_5 rfl (by decide) ?_
  exact l_reach K he hn h9 8 0 _ none none none (by omega) _ rfl

set_option maxRecDepth 100000 in
set_option maxHeartbeats 4000000 in
theorem c_yX0_joins {k : Nat} {l : Launch} {G : Gm} {α ρ : Af} {e n : Nat} {a b set : Int32} (he : e < 3) (hn : α (idD e) 1 = nI n) (h9 : n ≤ 9) : CI k l G yX0_joins (Cond.code yX0_joins cX0_joins 4 (some .boolean)) 3 [.ref (gA G (idD e)), .int a, .int b, .int set] α ρ (PI (bI (q_joins (q_endsU α e) set n a b)) α ρ) := by
  refine CI.of [some (.ref (gA G (idD e))), some (.int a), some (.int b), some (.int set)] (by decide) (Nat.le_of_ble_eq_true rfl) rfl rfl (fun C K => ?_)
  have K : Ok l _ G C RX0 cX0_joins (some .boolean) 4 := K
  refine x_aload_n (pc := 0) (i := 0) K dX0_joins_0 rfl rfl ?_
  refine x_iload_n (pc := 1) (i := 1) K dX0_joins_1 rfl rfl ?_
  refine x_iload_n (pc := 2) (i := 3) K dX0_joins_2 rfl rfl ?_
  refine x_V2i (pc := 3) K (c_yX0_reachOver he hn h9) mw_yX0_reachOver ⟨im_yX0_reachOver, se_yX0_reachOver⟩ mk_X0_148 (rc_D he) rfl ⟨Nat.le_of_ble_eq_true rfl, Nat.le_of_ble_eq_true rfl, Nat.le_of_ble_eq_true rfl⟩ dX0_joins_3 ?_
  refine x_iload_n (pc := 6) (i := 2) K dX0_joins_6 rfl rfl ?_
  refine x_ishr (pc := 7) K dX0_joins_7 ?_
  refine x_iconst (pc := 8) (v := 1) K dX0_joins_8 (by decide) ?_
  refine x_iand (pc := 9) K dX0_joins_9 ?_
  refine x_iconst (pc := 10) (v := 1) K dX0_joins_10 (by decide) ?_
  refine x_icmp_ne (pc := 11) (tgt := 18) K dX0_joins_11 (by decide) (fun c_11 => ?_) (fun c_11 => ?_)
  · refine x_iconst (pc := 18) (v := 0) K dX0_joins_18 (by decide) ?_
    exact x_nretI (pc := 19) K dX0_joins_19 rfl ⟨by simp (decide := true) only [q_joins, if_neg c_11, ↓reduceIte, Bool.false_eq_true, bI_t, bI_f], rfl, rfl⟩
  · refine x_iconst (pc := 14) (v := 1) K dX0_joins_14 (by decide) ?_
    refine x_goto (pc := 15) (tgt := 19) K dX0_joins_15 (by decide) ?_
    exact x_nretI (pc := 19) K dX0_joins_19 rfl ⟨by simp (decide := true) only [q_joins, if_pos c_11, ↓reduceIte, Bool.false_eq_true, bI_t, bI_f], rfl, rfl⟩

set_option maxRecDepth 100000 in
set_option maxHeartbeats 4000000 in
theorem l_flourFor {k : Nat} {l : Launch} {G : Gm} {C : Cx} {P : Po} {e n : Nat} {set : Int32} {α ρ : Af} (K : Ok l 2 G C RX0 cX0_flourFor (some .int) 4) (he : e < 3) (hn : α (idD e) 1 = nI n) (h9 : n ≤ 9) : ∀ (j i : Nat), i + j = n → X k l 2 G C (P) 4 39 [some (.ref (gA G (idD e))), some (.int set), some (.int (q_flour α e set n)), some (.int (nI n))] [] α ρ → X k l 2 G C (P) 4 4 [some (.ref (gA G (idD e))), some (.int set), some (.int (q_flour α e set i)), some (.int (nI i))] [] α ρ := by
  intro j
  induction j with
  | zero =>
    intro i hi hx
    refine x_iload_n (pc := 4) (i := 3) K dX0_flourFor_4 rfl rfl ?_
    refine x_aload_n (pc := 5) (i := 0) K dX0_flourFor_5 rfl rfl ?_
    refine gf_X0_17 (pc := 6) he K dX0_flourFor_6 ?_
    refine x_icmp_ge (pc := 9) (tgt := 39) K dX0_flourFor_9 (by decide) (fun c_9 => ?_) (fun c_9 => ?_)
    · obtain rfl : i = n := by omega
      exact hx
    · exact absurd (by rw [hn]; exact nI_le (by omega) (by omega)) c_9
  | succ j ih =>
    intro i hi hx
    refine x_iload_n (pc := 4) (i := 3) K dX0_flourFor_4 rfl rfl ?_
    refine x_aload_n (pc := 5) (i := 0) K dX0_flourFor_5 rfl rfl ?_
    refine gf_X0_17 (pc := 6) he K dX0_flourFor_6 ?_
    refine x_icmp_ge (pc := 9) (tgt := 39) K dX0_flourFor_9 (by decide) (fun c_9 => ?_) (fun c_9 => ?_)
    · exact (nI_ge (a := i) (b := n) (by omega) (by omega) (by rw [hn] at c_9; exact c_9)).elim
    · refine x_iload_n (pc := 12) (i := 1) K dX0_flourFor_12 rfl rfl ?_
      refine x_iload_n (pc := 13) (i := 3) K dX0_flourFor_13 rfl rfl ?_
      refine x_ishr (pc := 14) K dX0_flourFor_14 ?_
      refine x_iconst (pc := 15) (v := 1) K dX0_flourFor_15 (by decide) ?_
      refine x_iand (pc := 16) K dX0_flourFor_16 ?_
      refine x_iconst (pc := 17) (v := 1) K dX0_flourFor_17 (by decide) ?_
      refine x_icmp_ne (pc := 18) (tgt := 33) K dX0_flourFor_18 (by decide) (fun c_18 => ?_) (fun c_18 => ?_)
      · refine x_iinc (pc := 33) (i := 3) (v := nI (i + 1)) K dX0_flourFor_33 rfl (nI_1 _) rfl ?_
        refine x_goto (pc := 36) (tgt := 4) K dX0_flourFor_36 (by decide) ?_
        have e1 : q_flour α e set (i + 1) = q_flour α e set i := by simp only [q_flour]; rw [if_neg c_18]
        have h2 := ih (i + 1) (by omega) hx
        rw [e1] at h2
        exact h2
      · refine x_iload_n (pc := 21) (i := 2) K dX0_flourFor_21 rfl rfl ?_
        refine x_aload_n (pc := 22) (i := 0) K dX0_flourFor_22 rfl rfl ?_
        refine gf_X0_11 (pc := 23) he K dX0_flourFor_23 ?_
        refine x_iload_n (pc := 26) (i := 3) K dX0_flourFor_26 rfl rfl ?_
        refine ab_Sp (pc := 27) he i (by omega) K dX0_flourFor_27 ?_
        refine x_V0i (pc := 28) K (c1_takes (u := i) he (by omega)) mw_yX4_takes ⟨im_yX4_takes, se_yX4_takes⟩ mk_X0_151 (rc_S he (by omega)) rfl ⟨Nat.le_of_ble_eq_true rfl, Nat.le_of_ble_eq_true rfl, Nat.le_of_ble_eq_true rfl⟩ dX0_flourFor_28 ?_
        refine x_iadd (pc := 31) K dX0_flourFor_31 ?_
        refine x_istore_n (pc := 32) (i := 2) K dX0_flourFor_32 rfl rfl (by decide) ?_
        refine x_iinc (pc := 33) (i := 3) (v := nI (i + 1)) K dX0_flourFor_33 rfl (nI_1 _) rfl ?_
        refine x_goto (pc := 36) (tgt := 4) K dX0_flourFor_36 (by decide) ?_
        have e1 : q_flour α e set (i + 1) = q_flour α e set i + q_takesU α e i := by simp only [q_flour]; rw [if_pos c_18]
        have h2 := ih (i + 1) (by omega) hx
        rw [e1] at h2
        exact h2

set_option maxRecDepth 100000 in
set_option maxHeartbeats 4000000 in
theorem c_yX0_flourFor {k : Nat} {l : Launch} {G : Gm} {α ρ : Af} {e n : Nat} {set : Int32} (he : e < 3) (hn : α (idD e) 1 = nI n) (h9 : n ≤ 9) : CI k l G yX0_flourFor (Cond.code yX0_flourFor cX0_flourFor 4 (some .int)) 2 [.ref (gA G (idD e)), .int set] α ρ (PI (q_flour α e set n) α ρ) := by
  refine CI.of [some (.ref (gA G (idD e))), some (.int set), none, none] (by decide) (Nat.le_of_ble_eq_true rfl) rfl rfl (fun C K => ?_)
  have K : Ok l _ G C RX0 cX0_flourFor (some .int) 4 := K
  refine x_iconst (pc := 0) (v := 0) K dX0_flourFor_0 (by decide) ?_
  refine x_istore_n (pc := 1) (i := 2) K dX0_flourFor_1 rfl rfl (by decide) ?_
  refine x_iconst (pc := 2) (v := 0) K dX0_flourFor_2 (by decide) ?_
  refine x_istore_n (pc := 3) (i := 3) K dX0_flourFor_3 rfl rfl (by decide) ?_
  refine l_flourFor K he hn h9 n 0 (by omega) ?_
  refine x_iload_n (pc := 39) (i := 2) K dX0_flourFor_39 rfl rfl ?_
  exact x_iretI (pc := 40) K dX0_flourFor_40 ⟨rfl, rfl, rfl⟩

set_option maxRecDepth 100000 in
set_option maxHeartbeats 4000000 in
theorem l_bakes {k : Nat} {l : Launch} {G : Gm} {C : Cx} {P : Po} {e n : Nat} {α ρ : Af} (K : Ok l 2 G C RX0 cX0_bakeAllAnew none 2) (he : e < 3) (hn : α (idD e) 1 = nI n) (h9 : n ≤ 9) : ∀ (j i : Nat), i + j = n → X k l 2 G C (P) 2 25 [some (.ref (gA G (idD e))), some (.int (nI n))] [] (q_bakes α e n) ρ → X k l 2 G C (P) 2 2 [some (.ref (gA G (idD e))), some (.int (nI i))] [] (q_bakes α e i) ρ := by
  intro j
  induction j with
  | zero =>
    intro i hi hx
    have hm : q_bakes α e i (idD e) 1 = nI n := by rw [q_bakes_ne (fun _ _ => nS_D he)]; exact hn
    refine x_iload_n (pc := 2) (i := 1) K dX0_bakeAllAnew_2 rfl rfl ?_
    refine x_aload_n (pc := 3) (i := 0) K dX0_bakeAllAnew_3 rfl rfl ?_
    refine gf_X0_17 (pc := 4) he K dX0_bakeAllAnew_4 ?_
    refine x_icmp_ge (pc := 7) (tgt := 25) K dX0_bakeAllAnew_7 (by decide) (fun c_7 => ?_) (fun c_7 => ?_)
    · obtain rfl : i = n := by omega
      exact hx
    · exact absurd (by rw [hm]; exact nI_le (by omega) (by omega)) c_7
  | succ j ih =>
    intro i hi hx
    have hm : q_bakes α e i (idD e) 1 = nI n := by rw [q_bakes_ne (fun _ _ => nS_D he)]; exact hn
    refine x_iload_n (pc := 2) (i := 1) K dX0_bakeAllAnew_2 rfl rfl ?_
    refine x_aload_n (pc := 3) (i := 0) K dX0_bakeAllAnew_3 rfl rfl ?_
    refine gf_X0_17 (pc := 4) he K dX0_bakeAllAnew_4 ?_
    refine x_icmp_ge (pc := 7) (tgt := 25) K dX0_bakeAllAnew_7 (by decide) (fun c_7 => ?_) (fun c_7 => ?_)
    · exact (nI_ge (a := i) (b := n) (by omega) (by omega) (by rw [hm] at c_7; exact c_7)).elim
    · refine x_aload_n (pc := 10) (i := 0) K dX0_bakeAllAnew_10 rfl rfl ?_
      refine gf_X0_11 (pc := 11) he K dX0_bakeAllAnew_11 ?_
      refine x_iload_n (pc := 14) (i := 1) K dX0_bakeAllAnew_14 rfl rfl ?_
      refine ab_Sp (pc := 15) he i (by omega) K dX0_bakeAllAnew_15 ?_
      refine x_V0v (pc := 16) K (c_yX4_bakeAnew (u := i) he (by omega)) mw_yX4_bakeAnew ⟨im_yX4_bakeAnew, se_yX4_bakeAnew⟩ mk_X0_78 (rc_S he (by omega)) rfl ⟨Nat.le_of_ble_eq_true rfl, Nat.le_of_ble_eq_true rfl, Nat.le_of_ble_eq_true rfl⟩ dX0_bakeAllAnew_16 ?_
      refine x_iinc (pc := 19) (i := 1) (v := nI (i + 1)) K dX0_bakeAllAnew_19 rfl (nI_1 _) rfl ?_
      refine x_goto (pc := 22) (tgt := 2) K dX0_bakeAllAnew_22 (by decide) ?_
      exact ih (i + 1) (by omega) hx

set_option maxRecDepth 100000 in
set_option maxHeartbeats 4000000 in
theorem c_yX0_bakeAllAnew {k : Nat} {l : Launch} {G : Gm} {α ρ : Af} {e n : Nat} (he : e < 3) (hn : α (idD e) 1 = nI n) (h9 : n ≤ 9) : CI k l G yX0_bakeAllAnew (Cond.code yX0_bakeAllAnew cX0_bakeAllAnew 2 none) 2 [.ref (gA G (idD e))] α ρ (PV (q_bakes α e n) ρ) := by
  refine CI.of [some (.ref (gA G (idD e))), none] (by decide) (Nat.le_of_ble_eq_true rfl) rfl rfl (fun C K => ?_)
  have K : Ok l _ G C RX0 cX0_bakeAllAnew none 2 := K
  refine x_iconst (pc := 0) (v := 0) K dX0_bakeAllAnew_0 (by decide) ?_
  refine x_istore_n (pc := 1) (i := 1) K dX0_bakeAllAnew_1 rfl rfl (by decide) ?_
  refine l_bakes K he hn h9 n 0 (by omega) ?_
  exact x_vretI (pc := 25) K dX0_bakeAllAnew_25 ⟨rfl, rfl⟩

set_option maxRecDepth 100000 in
set_option maxHeartbeats 4000000 in
theorem l_right {k : Nat} {l : Launch} {G : Gm} {C : Cx} {e s n m : Nat} {α ρ : Af} (K : Ok l 5 G C RX0 cX0_rightOnes (some .int) 3) (he : e < 3) (hn : α (idD e) 1 = nI n) (h9 : n ≤ 9) (hs : s < 4) (hsn : α (idSh s) 1 = nI m) (h24 : m ≤ 24) : ∀ (j i : Nat), i + j = m → ∀ T, q_right α e s n j i = T → X k l 5 G C (PI (nI T) α ρ) 3 2 [some (.ref (gA G (idD e))), some (.ref (gA G (idSh s))), some (.int (nI i))] [] α ρ := by
  intro j
  induction j with
  | zero =>
    intro i hi T hT
    refine x_iload_n (pc := 2) (i := 2) K dX0_rightOnes_2 rfl rfl ?_
    refine x_aload_n (pc := 3) (i := 1) K dX0_rightOnes_3 rfl rfl ?_
    refine gf_X0_154 (pc := 4) hs K dX0_rightOnes_4 ?_
    refine x_icmp_ge (pc := 7) (tgt := 48) K dX0_rightOnes_7 (by decide) (fun c_7 => ?_) (fun c_7 => ?_)
    · refine x_aload_n (pc := 48) (i := 1) K dX0_rightOnes_48 rfl rfl ?_
      refine gf_X0_154 (pc := 49) hs K dX0_rightOnes_49 ?_
      exact x_iretI (pc := 52) K dX0_rightOnes_52 ⟨by rw [← hT, hsn]; exact congrArg nI (show m = i by omega), rfl, rfl⟩
    · exact absurd (by rw [hsn]; exact nI_le (by omega) (by omega)) c_7
  | succ j ih =>
    intro i hi T hT
    refine x_iload_n (pc := 2) (i := 2) K dX0_rightOnes_2 rfl rfl ?_
    refine x_aload_n (pc := 3) (i := 1) K dX0_rightOnes_3 rfl rfl ?_
    refine gf_X0_154 (pc := 4) hs K dX0_rightOnes_4 ?_
    refine x_icmp_ge (pc := 7) (tgt := 48) K dX0_rightOnes_7 (by decide) (fun c_7 => ?_) (fun c_7 => ?_)
    · exact (nI_ge (a := i) (b := m) (by omega) (by omega) (by rw [hsn] at c_7; exact c_7)).elim
    · refine x_aload_n (pc := 10) (i := 0) K dX0_rightOnes_10 rfl rfl ?_
      refine x_iload_n (pc := 11) (i := 2) K dX0_rightOnes_11 rfl rfl ?_
      refine x_V1i (pc := 12) K (c_yX0_hasSpan he) mw_yX0_hasSpan ⟨im_yX0_hasSpan, se_yX0_hasSpan⟩ mk_X0_159 (rc_D he) rfl ⟨Nat.le_of_ble_eq_true rfl, Nat.le_of_ble_eq_true rfl, Nat.le_of_ble_eq_true rfl⟩ dX0_rightOnes_12 ?_
      refine x_top (v' := .int (bI (decide (i < n)))) (by rw [hn, hs_iff (by omega) (by omega)]) ?_
      refine x_ifeq_b (pc := 15) (tgt := 40) K dX0_rightOnes_15 (by decide) (fun c_15 => ?_) (fun c_15 => ?_)
      · refine x_iload_n (pc := 40) (i := 2) K dX0_rightOnes_40 rfl rfl ?_
        exact x_iretI (pc := 41) K dX0_rightOnes_41 ⟨by rw [← hT]; simp only [q_right]; rw [if_neg (of_decide_eq_false c_15)], rfl, rfl⟩
      · have hin : i < n := of_decide_eq_true c_15
        refine x_aload_n (pc := 18) (i := 0) K dX0_rightOnes_18 rfl rfl ?_
        refine gf_X0_11 (pc := 19) he K dX0_rightOnes_19 ?_
        refine x_iload_n (pc := 22) (i := 2) K dX0_rightOnes_22 rfl rfl ?_
        refine ab_Sp (pc := 23) he i (by omega) K dX0_rightOnes_23 ?_
        refine x_aload_n (pc := 24) (i := 0) K dX0_rightOnes_24 rfl rfl ?_
        refine gf_X0_27 (pc := 25) he K dX0_rightOnes_25 ?_
        refine x_V1i (pc := 28) K (c1_bears (u := i) he (by omega)) mw_yX4_bearsOn ⟨im_yX4_bearsOn, se_yX4_bearsOn⟩ mk_X0_106 (rc_S he (by omega)) rfl ⟨Nat.le_of_ble_eq_true rfl, Nat.le_of_ble_eq_true rfl, Nat.le_of_ble_eq_true rfl⟩ dX0_rightOnes_28 ?_
        refine x_aload_n (pc := 31) (i := 1) K dX0_rightOnes_31 rfl rfl ?_
        refine gf_X0_163 (pc := 32) hs K dX0_rightOnes_32 ?_
        refine x_iload_n (pc := 35) (i := 2) K dX0_rightOnes_35 rfl rfl ?_
        refine ia_Sn (pc := 36) hs K (vp_in_nI (show i < 24 by omega) (by decide)) dX0_rightOnes_36 ?_
        refine x_topi K (show _ = α (idSn s) i from by rw [nI_clamp (by omega)]) ?_
        refine x_icmp_eq (pc := 37) (tgt := 42) K dX0_rightOnes_37 (by decide) (fun c_37 => ?_) (fun c_37 => ?_)
        · refine x_iinc (pc := 42) (i := 2) (v := nI (i + 1)) K dX0_rightOnes_42 rfl (nI_1 _) rfl ?_
          refine x_goto (pc := 45) (tgt := 2) K dX0_rightOnes_45 (by decide) ?_
          exact ih (i + 1) (by omega) T (by rw [← hT]; simp only [q_right]; rw [if_pos hin]; exact (if_pos c_37).symm)
        · refine x_iload_n (pc := 40) (i := 2) K dX0_rightOnes_40 rfl rfl ?_
          exact x_iretI (pc := 41) K dX0_rightOnes_41 ⟨by rw [← hT]; simp only [q_right]; rw [if_pos hin, if_neg c_37], rfl, rfl⟩

set_option maxRecDepth 100000 in
set_option maxHeartbeats 4000000 in
theorem c_yX0_rightOnes {k : Nat} {l : Launch} {G : Gm} {α ρ : Af} {e s n m : Nat} (he : e < 3) (hn : α (idD e) 1 = nI n) (h9 : n ≤ 9) (hs : s < 4) (hsn : α (idSh s) 1 = nI m) (h24 : m ≤ 24) : CI k l G yX0_rightOnes (Cond.code yX0_rightOnes cX0_rightOnes 3 (some .int)) 5 [.ref (gA G (idD e)), .ref (gA G (idSh s))] α ρ (PI (nI (q_right α e s n m 0)) α ρ) := by
  refine CI.of [some (.ref (gA G (idD e))), some (.ref (gA G (idSh s))), none] (by decide) (Nat.le_of_ble_eq_true rfl) rfl rfl (fun C K => ?_)
  have K : Ok l _ G C RX0 cX0_rightOnes (some .int) 3 := K
  refine x_iconst (pc := 0) (v := 0) K dX0_rightOnes_0 (by decide) ?_
  refine x_istore_n (pc := 1) (i := 2) K dX0_rightOnes_1 rfl rfl (by decide) ?_
  exact l_right K he hn h9 hs hsn h24 m 0 (by omega) _ rfl
