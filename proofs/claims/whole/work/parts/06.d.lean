section HG
variable {k : Nat} {l : Launch} {d : Nat} {G : Gm} {C : Cx} {P : Po} {own : String} {cc : ByteArray} {ret : Option FieldType} {nL pc : Nat} {ls : List (Option Value)} {st : List Value} {α ρ : Af}
theorem x_cpyN (K : Ok l d G C own cc ret nL) {i1 i2 n1 n2 t index : Nat} {ty : FieldType} (h1 : i1 < 76 ∧ scr k i1 = false) (h2 : i2 < 76 ∧ scr k i2 = false) (he1 : ∀ f, ent G i1 f = .inl (gC G t, n1, .inl f)) (he2 : ∀ f, ent G i2 f = .inl (gC G t, n2, .inl f)) (ht : (tysG G)[t]? = some (gC G t, ty)) (hprim : refKind ty = false) {sp dp n : Int32} (s0 d0 c0 : Nat) (hz : sp = nI s0 ∧ dp = nI d0 ∧ n = nI c0) (hc : s0 + c0 ≤ n1 ∧ d0 + c0 ≤ n2 ∧ n1 < 1000 ∧ n2 < 1000) (hfit : ∀ j, j < c0 → fits ty (.int (α i1 (s0 + j))) = true) (hl : Cond.methodLink own index arraycopyName ∈ WS) (hd : 2 ≤ d ∧ (st.map fun v => v.category).sum ≤ 8) (hdg : decode cc pc = .ok (.invokestatic index, 3)) (kk : X k l d G C P nL (pc + 3) ls st (upR α i2 (va_cpy (α i1) (α i2) s0 d0 c0)) ρ) : X k l d G C P nL pc ls (.int n :: .int dp :: .ref (gA G i2) :: .int sp :: .ref (gA G i1) :: st) α ρ := by
  obtain ⟨rfl, rfl, rfl⟩ := hz
  have e1 : (nI s0).toNatClampNeg = s0 := nI_clamp (by omega)
  have e2 : (nI d0).toNatClampNeg = d0 := nI_clamp (by omega)
  have e3 : (nI c0).toNatClampNeg = c0 := nI_clamp (by omega)
  refine x_cpy K h1 h2 he1 he2 ht hprim ⟨nI_pos (by omega), nI_pos (by omega), nI_pos (by omega), by rw [e1, e3]; exact hc.1, by rw [e2, e3]; exact hc.2.1⟩ (fun j hj => by rw [e3] at hj; rw [e1]; exact hfit j hj) hl hd hdg ?_
  rw [e1, e2, e3]
  exact kk
end HG
def q_spanLit (α : Af) (i i' : Nat) : Af :=
  let a0 := up α i 0 (α i' 0)
  let a1 := up a0 i 1 (a0 i' 1)
  let a2 := up a1 i 2 (a1 i' 2)
  let a3 := up a2 i 3 (a2 i' 3)
  let a4 := up a3 i 4 (a3 i' 4)
  let a5 := up a4 i 5 (a4 i' 5)
  up a5 i 6 (a5 i' 6)
def q_copyS (α : Af) (i i' : Nat) : Af := upR α i (fun j => if j < 7 then α i' j else α i j)
theorem q_spanLit_eq {α : Af} {i i' : Nat} (h : i' ≠ i) : q_spanLit α i i' = q_copyS α i i' := by
  unfold q_spanLit q_copyS
  simp only [up_ne h]
  funext a b
  by_cases ha : a = i
  · subst ha
    rw [upR_eq]
    simp only [up_at]
    by_cases h6 : b = 6
    · subst h6; simp
    by_cases h5 : b = 5
    · subst h5; simp
    by_cases h4 : b = 4
    · subst h4; simp
    by_cases h3 : b = 3
    · subst h3; simp
    by_cases h2 : b = 2
    · subst h2; simp
    by_cases h1 : b = 1
    · subst h1; simp
    by_cases h0 : b = 0
    · subst h0; simp
    · rw [if_neg h6, if_neg h5, if_neg h4, if_neg h3, if_neg h2, if_neg h1, if_neg h0, if_neg (by omega)]
  · rw [up_ne ha, up_ne ha, up_ne ha, up_ne ha, up_ne ha, up_ne ha, up_ne ha, upR_ne ha]
def q_cs (α : Af) (e e' : Nat) : Nat → Af
  | 0 => α
  | i + 1 => q_copyS (q_cs α e e' i) (idS e i) (idS e' i)
theorem q_cs_ne {α : Af} {e e' i : Nat} : ∀ {n : Nat}, (∀ u, u < n → i ≠ idS e u) → q_cs α e e' n i = α i
  | 0, _ => rfl
  | n + 1, h => by
    simp only [q_cs, q_copyS]
    rw [upR_ne (h n (by omega)), q_cs_ne (fun u hu => h u (by omega))]
theorem nSS {e e' u u' : Nat} (he : e ≠ e') (hu : u < 9) (hu' : u' < 9) : idS e u ≠ idS e' u' := by unfold idS; omega
def q_take1 (α : Af) (e e' : Nat) : Af := q_cs (up α (idD e) 1 (α (idD e') 1)) e e' 9
def q_take2 (α : Af) (e e' : Nat) : Af :=
  let a2 := up α (idD e) 2 (α (idD e') 2)
  let a3 := up a2 (idD e) 3 (a2 (idD e') 3)
  let a4 := up a3 (idD e) 4 (a3 (idD e') 4)
  let a5 := up a4 (idD e) 5 (a4 (idD e') 5)
  let a6 := up a5 (idD e) 6 (a5 (idD e') 6)
  up a6 (idD e) 7 (a6 (idD e') 7)
def q_take3 (α : Af) (e e' : Nat) : Af := q_lawTake (q_lawTake α e 0 e' 0) e 1 e' 1
def q_take4 (α : Af) (e e' : Nat) : Af :=
  let b1 := upR α (idTp e) (va_cpy (α (idTp e')) (α (idTp e)) 0 0 60)
  let b2 := up b1 (idD e) 10 (b1 (idD e') 10)
  let b3 := upR b2 (idWt e) (va_cpy (b2 (idWt e')) (b2 (idWt e)) 0 0 24)
  up b3 (idD e) 12 (b3 (idD e') 12)
def q_take (α : Af) (e e' : Nat) : Af := q_take4 (q_take3 (q_take2 (q_take1 α e e') e e') e e') e e'
theorem q_take2_ne {α : Af} {e e' i : Nat} (h : i ≠ idD e) : q_take2 α e e' i = α i := by
  simp only [q_take2]
  rw [up_ne h, up_ne h, up_ne h, up_ne h, up_ne h, up_ne h]
theorem q_write_ne {α : Af} {e u i1 i : Nat} {n : Int32} (h : i ≠ idL e u) (h2 : i ≠ idLc e u) : q_write α e u i1 n i = α i := by
  simp only [q_write]
  rw [up_ne h, upR_ne h2, up_ne h]
theorem q_lawTake_ne {α : Af} {e u e' u' i : Nat} (h : i ≠ idL e u) (h2 : i ≠ idLc e u) : q_lawTake α e u e' u' i = α i := by
  unfold q_lawTake
  rw [up_ne h, q_write_ne h h2]
/-- what a copy needs of the one that is copied -/
def Bk (α : Af) (e : Nat) : Prop := (∀ u, u < 9 → α (idS e u) 6 = 0 ∨ α (idS e u) 6 = 1) ∧ (∀ u, u < 2 → α (idL e u) 0 = 0 ∨ α (idL e u) 0 = 1) ∧ ∀ j, j < 60 → fits .char (.int (α (idTp e) j)) = true
def q_addA (α : Af) (e n : Nat) (km one other : Int32) : Af := up (up (up (up (q_bake α (idS e n)) (idS e n) 0 (km / 10)) (idS e n) 1 (jrem km 10)) (idS e n) 2 one) (idS e n) 3 other
def q_addSpan (α : Af) (e n : Nat) (km one other : Int32) : Af := up (q_addA α e n km one other) (idD e) 1 (q_addA α e n km one other (idD e) 1 + 1)
theorem q_addA_ne {α : Af} {e n i : Nat} {km one other : Int32} (h : i ≠ idS e n) : q_addA α e n km one other i = α i := by
  unfold q_addA
  rw [up_ne h, up_ne h, up_ne h, up_ne h, q_bake_ne h]
/-- i bytes of a word to the tape -/
def q_byte (w : Int64) (i : Nat) : Int32 := vp_nar .char (ji2c ((jlushr w (8 * nI i)) &&& 255).toInt32)
def q_tape (α : Af) (e : Nat) (w : Int64) : Nat → Af
  | 0 => α
  | i + 1 => up (up (q_tape α e w i) (idTp e) (q_tape α e w i (idD e) 10).toNatClampNeg (q_byte w i)) (idD e) 10 (up (q_tape α e w i) (idTp e) (q_tape α e w i (idD e) 10).toNatClampNeg (q_byte w i) (idD e) 10 + 1)
theorem nD_Tp {e e' : Nat} (he : e < 3) : idD e ≠ idTp e' := by unfold idD idTp; omega
theorem q_tape_10 {α : Af} {e t : Nat} {w : Int64} (he : e < 3) (ht : α (idD e) 10 = nI t) : ∀ i, q_tape α e w i (idD e) 10 = nI (t + i)
  | 0 => ht
  | i + 1 => by
    simp only [q_tape]
    rw [up_eq, up_ne (nD_Tp he), q_tape_10 he ht i]
    exact nI_1 _
/-- a day by draws -/
def q_rained (α : Af) (e : Nat) : Af := up (q_drawS α e) (idD e) 2 (if (0 : Int32) < jrem (nI (q_drawN α e)) 16 - 6 then jrem (nI (q_drawN α e)) 16 - 6 else 0)
def q_dl1 (α : Af) (e : Nat) : Af := q_drawS (q_rained α e) e
def q_dl2 (α : Af) (e : Nat) : Af := q_drawS (q_dl1 α e) e
def q_dlU (α : Af) (e n : Nat) : Nat := q_drawN (q_rained α e) e % n
def q_dlX (α : Af) (e : Nat) : Int32 := jrem (nI (q_drawN (q_dl1 α e) e)) 30
def q_ddB (α : Af) (e n : Nat) : Int32 := if n = 0 then 0 else if q_dl2 α e (idS e (q_dlU α e n)) 6 = 0 then (if 0 ≤ q_carryV (q_dl2 α e) e (q_dlU α e n) (q_dlX α e) then 0 else 1) else 0
def q_ddS (α : Af) (e n : Nat) : Af := if n = 0 then q_rained α e else if q_dl2 α e (idS e (q_dlU α e n)) 6 = 0 then q_carryS (q_dl2 α e) e (q_dlU α e n) (q_dlX α e) else q_dl2 α e
def q_dd (α : Af) (e n : Nat) : Af := q_day (q_ddS α e n) e n
theorem q_drawS_1 {α : Af} {e j : Nat} (h : j ≠ 7) : q_drawS α e (idD e) j = α (idD e) j := up_ne2 h
theorem q_drawS_ne {α : Af} {e i : Nat} (h : i ≠ idD e) : q_drawS α e i = α i := up_ne h
theorem q_rained_ne {α : Af} {e i : Nat} (h : i ≠ idD e) : q_rained α e i = α i := by unfold q_rained; rw [up_ne h, q_drawS_ne h]
theorem q_dl2_ne {α : Af} {e i : Nat} (h : i ≠ idD e) : q_dl2 α e i = α i := by unfold q_dl2 q_dl1; rw [q_drawS_ne h, q_drawS_ne h, q_rained_ne h]
theorem q_rained_1 {α : Af} {e : Nat} : q_rained α e (idD e) 1 = α (idD e) 1 := by unfold q_rained; rw [up_ne2 (by decide), q_drawS_1 (by decide)]
theorem q_dl1_1 {α : Af} {e : Nat} : q_dl1 α e (idD e) 1 = α (idD e) 1 := by unfold q_dl1; rw [q_drawS_1 (by decide), q_rained_1]
theorem q_dl2_1 {α : Af} {e : Nat} : q_dl2 α e (idD e) 1 = α (idD e) 1 := by unfold q_dl2; rw [q_drawS_1 (by decide), q_dl1_1]
theorem q_carryS_ne {α : Af} {e u i : Nat} {x : Int32} (h : i ≠ idD e) (h2 : i ≠ idS e u) : q_carryS α e u x i = α i := by
  unfold q_carryS
  split
  · rw [up_ne h]
  · rw [up_ne h, up_ne h2]
theorem q_carryS_1 {α : Af} {e u : Nat} {x : Int32} (he : e < 3) : q_carryS α e u x (idD e) 1 = α (idD e) 1 := by
  unfold q_carryS
  split
  · rw [up_ne2 (by decide)]
  · rw [up_ne2 (by decide), up_ne (nS_D he)]
theorem q_ddS_1 {α : Af} {e n : Nat} (he : e < 3) : q_ddS α e n (idD e) 1 = α (idD e) 1 := by
  unfold q_ddS
  split
  · exact q_rained_1
  · split
    · rw [q_carryS_1 he, q_dl2_1]
    · exact q_dl2_1
theorem q_ddS_ne {α : Af} {e n i : Nat} (h : i ≠ idD e) (h2 : ∀ u, i ≠ idS e u) : q_ddS α e n i = α i := by
  unfold q_ddS
  split
  · exact q_rained_ne h
  · split
    · rw [q_carryS_ne h (h2 _), q_dl2_ne h]
    · exact q_dl2_ne h
theorem Lk.ddS {α : Af} {e n : Nat} (he : e < 3) (h : Lk α e) : Lk (q_ddS α e n) e := h.of fun u hu => q_ddS_ne (nD_L he) (fun _ => nS_L he hu)
theorem Lk.dl2 {α : Af} {e : Nat} (he : e < 3) (h : Lk α e) : Lk (q_dl2 α e) e := h.of fun u hu => q_dl2_ne (nD_L he)
theorem jrem_nI {a n : Nat} (ha : a < 2 ^ 31) (h0 : 0 < n) (hn : n < 2 ^ 31) : jrem (nI a) (nI n) = nI (a % n) := pk_rem ha h0 hn

set_option maxRecDepth 100000 in
set_option maxHeartbeats 4000000 in
theorem c_yX4_takeFrom {k : Nat} {l : Launch} {G : Gm} {α ρ : Af} {e u e' u' : Nat} (he : e < 3) (hu : u < 9) (he' : e' < 3) (hu' : u' < 9) (hne : idS e' u' ≠ idS e u) (hb : α (idS e' u') 6 = 0 ∨ α (idS e' u') 6 = 1) : CI k l G yX4_takeFrom (Cond.code yX4_takeFrom cX4_takeFrom 2 none) 1 [.ref (gA G (idS e u)), .ref (gA G (idS e' u'))] α ρ (PV (q_copyS α (idS e u) (idS e' u')) ρ) := by
  refine CI.of [some (.ref (gA G (idS e u))), some (.ref (gA G (idS e' u')))] (by decide) (Nat.le_of_ble_eq_true rfl) rfl rfl (fun C K => ?_)
  have K : Ok l _ G C RX4 cX4_takeFrom none 2 := K
  refine x_aload_n (pc := 0) (i := 0) K dX4_takeFrom_0 rfl rfl ?_
  refine x_aload_n (pc := 1) (i := 1) K dX4_takeFrom_1 rfl rfl ?_
  refine gf_X4_9 (pc := 2) he' hu' K dX4_takeFrom_2 ?_
  refine pf_X4_9 (pc := 5) he hu K dX4_takeFrom_5 ?_
  refine x_aload_n (pc := 8) (i := 0) K dX4_takeFrom_8 rfl rfl ?_
  refine x_aload_n (pc := 9) (i := 1) K dX4_takeFrom_9 rfl rfl ?_
  refine gf_X4_15 (pc := 10) he' hu' K dX4_takeFrom_10 ?_
  refine pf_X4_15 (pc := 13) he hu K dX4_takeFrom_13 ?_
  refine x_aload_n (pc := 16) (i := 0) K dX4_takeFrom_16 rfl rfl ?_
  refine x_aload_n (pc := 17) (i := 1) K dX4_takeFrom_17 rfl rfl ?_
  refine gf_X4_18 (pc := 18) he' hu' K dX4_takeFrom_18 ?_
  refine pf_X4_18 (pc := 21) he hu K dX4_takeFrom_21 ?_
  refine x_aload_n (pc := 24) (i := 0) K dX4_takeFrom_24 rfl rfl ?_
  refine x_aload_n (pc := 25) (i := 1) K dX4_takeFrom_25 rfl rfl ?_
  refine gf_X4_21 (pc := 26) he' hu' K dX4_takeFrom_26 ?_
  refine pf_X4_21 (pc := 29) he hu K dX4_takeFrom_29 ?_
  refine x_aload_n (pc := 32) (i := 0) K dX4_takeFrom_32 rfl rfl ?_
  refine x_aload_n (pc := 33) (i := 1) K dX4_takeFrom_33 rfl rfl ?_
  refine gf_X4_24 (pc := 34) he' hu' K dX4_takeFrom_34 ?_
  refine pf_X4_24 (pc := 37) he hu K dX4_takeFrom_37 ?_
  refine x_aload_n (pc := 40) (i := 0) K dX4_takeFrom_40 rfl rfl ?_
  refine x_aload_n (pc := 41) (i := 1) K dX4_takeFrom_41 rfl rfl ?_
  refine gf_X4_27 (pc := 42) he' hu' K dX4_takeFrom_42 ?_
  refine pf_X4_27 (pc := 45) he hu K dX4_takeFrom_45 ?_
  refine x_aload_n (pc := 48) (i := 0) K dX4_takeFrom_48 rfl rfl ?_
  refine x_aload_n (pc := 49) (i := 1) K dX4_takeFrom_49 rfl rfl ?_
  refine gf_X4_30 (pc := 50) he' hu' K dX4_takeFrom_50 ?_
  refine pf_X4_30 (pc := 53) he hu K (z01 (by rw [up_ne hne, up_ne hne, up_ne hne, up_ne hne, up_ne hne, up_ne hne]; exact hb)) dX4_takeFrom_53 ?_
  exact x_vretI (pc := 56) K dX4_takeFrom_56 ⟨q_spanLit_eq hne, rfl⟩

set_option maxRecDepth 100000 in
set_option maxHeartbeats 4000000 in
theorem l_take {k : Nat} {l : Launch} {G : Gm} {C : Cx} {P : Po} {e e' : Nat} {α ρ : Af} (K : Ok l 6 G C RX0 cX0_takeFrom none 3) (he : e < 3) (he' : e' < 3) (hne : e ≠ e') (hb : ∀ u, u < 9 → α (idS e' u) 6 = 0 ∨ α (idS e' u) 6 = 1) : ∀ (j i : Nat), i + j = 9 → X k l 6 G C (P) 3 37 [some (.ref (gA G (idD e))), some (.ref (gA G (idD e'))), some (.int (nI 9))] [] (q_cs α e e' 9) ρ → X k l 6 G C (P) 3 10 [some (.ref (gA G (idD e))), some (.ref (gA G (idD e'))), some (.int (nI i))] [] (q_cs α e e' i) ρ := by
  intro j
  induction j with
  | zero =>
    intro i hi hx
    refine x_iload_n (pc := 10) (i := 2) K dX0_takeFrom_10 rfl rfl ?_
    refine x_bipush (pc := 11) (v := 9) K dX0_takeFrom_11 (by decide) ?_
    refine x_icmp_ge (pc := 13) (tgt := 37) K dX0_takeFrom_13 (by decide) (fun c_13 => ?_) (fun c_13 => ?_)
    · obtain rfl : i = 9 := by omega
      exact hx
    · exact absurd (by rw [show i = 9 by omega]; decide) c_13
  | succ j ih =>
    intro i hi hx
    refine x_iload_n (pc := 10) (i := 2) K dX0_takeFrom_10 rfl rfl ?_
    refine x_bipush (pc := 11) (v := 9) K dX0_takeFrom_11 (by decide) ?_
    refine x_icmp_ge (pc := 13) (tgt := 37) K dX0_takeFrom_13 (by decide) (fun c_13 => ?_) (fun c_13 => ?_)
    · exact absurd ((nI_leI (a := 9) (b := i) (by decide) (by omega)).mp c_13) (by omega)
    · refine x_aload_n (pc := 16) (i := 0) K dX0_takeFrom_16 rfl rfl ?_
      refine gf_X0_11 (pc := 17) he K dX0_takeFrom_17 ?_
      refine x_iload_n (pc := 20) (i := 2) K dX0_takeFrom_20 rfl rfl ?_
      refine ab_Sp (pc := 21) he i (by omega) K dX0_takeFrom_21 ?_
      refine x_aload_n (pc := 22) (i := 1) K dX0_takeFrom_22 rfl rfl ?_
      refine gf_X0_11 (pc := 23) he' K dX0_takeFrom_23 ?_
      refine x_iload_n (pc := 26) (i := 2) K dX0_takeFrom_26 rfl rfl ?_
      refine ab_Sp (pc := 27) he' i (by omega) K dX0_takeFrom_27 ?_
      refine x_V1v (pc := 28) K (c_yX4_takeFrom (u := i) (u' := i) he (by omega) he' (by omega) (nSS (fun h => hne h.symm) (by omega) (by omega)) (by rw [q_cs_ne (fun u hu => nSS (fun h => hne h.symm) (by omega) (by omega))]; exact hb i (by omega))) mw_yX4_takeFrom ⟨im_yX4_takeFrom, se_yX4_takeFrom⟩ mk_X0_61 (rc_S he (by omega)) rfl ⟨Nat.le_of_ble_eq_true rfl, Nat.le_of_ble_eq_true rfl, Nat.le_of_ble_eq_true rfl⟩ dX0_takeFrom_28 ?_
      refine x_iinc (pc := 31) (i := 2) (v := nI (i + 1)) K dX0_takeFrom_31 rfl (nI_1 _) rfl ?_
      refine x_goto (pc := 34) (tgt := 10) K dX0_takeFrom_34 (by decide) ?_
      exact ih (i + 1) (by omega) hx

set_option maxRecDepth 100000 in
set_option maxHeartbeats 4000000 in
theorem c_yX0_takeFrom {k : Nat} {l : Launch} {G : Gm} {α ρ : Af} {e e' : Nat} (he : e < 3) (he' : e' < 3) (hne : e ≠ e') (hbk : Bk α e') : CI k l G yX0_takeFrom (Cond.code yX0_takeFrom cX0_takeFrom 3 none) 6 [.ref (gA G (idD e)), .ref (gA G (idD e'))] α ρ (PV (q_take α e e') ρ) := by
  refine CI.of [some (.ref (gA G (idD e))), some (.ref (gA G (idD e'))), none] (by decide) (Nat.le_of_ble_eq_true rfl) rfl rfl (fun C K => ?_)
  have K : Ok l _ G C RX0 cX0_takeFrom none 3 := K
  refine x_aload_n (pc := 0) (i := 0) K dX0_takeFrom_0 rfl rfl ?_
  refine x_aload_n (pc := 1) (i := 1) K dX0_takeFrom_1 rfl rfl ?_
  refine gf_X0_17 (pc := 2) he' K dX0_takeFrom_2 ?_
  refine pf_X0_17 (pc := 5) he K dX0_takeFrom_5 ?_
  refine x_iconst (pc := 8) (v := 0) K dX0_takeFrom_8 (by decide) ?_
  refine x_istore_n (pc := 9) (i := 2) K dX0_takeFrom_9 rfl rfl (by decide) ?_
  refine l_take (α := (up α (idD e) 1 (α (idD e') 1))) K he he' hne (fun u hu => by rw [up_ne (nD_S he)]; exact hbk.1 u hu) 9 0 (by omega) ?_
  refine x_aload_n (pc := 37) (i := 0) K dX0_takeFrom_37 rfl rfl ?_
  refine x_aload_n (pc := 38) (i := 1) K dX0_takeFrom_38 rfl rfl ?_
  refine gf_X0_21 (pc := 39) he' K dX0_takeFrom_39 ?_
  refine pf_X0_21 (pc := 42) he K dX0_takeFrom_42 ?_
  refine x_aload_n (pc := 45) (i := 0) K dX0_takeFrom_45 rfl rfl ?_
  refine x_aload_n (pc := 46) (i := 1) K dX0_takeFrom_46 rfl rfl ?_
  refine gf_X0_24 (pc := 47) he' K dX0_takeFrom_47 ?_
  refine pf_X0_24 (pc := 50) he K dX0_takeFrom_50 ?_
  refine x_aload_n (pc := 53) (i := 0) K dX0_takeFrom_53 rfl rfl ?_
  refine x_aload_n (pc := 54) (i := 1) K dX0_takeFrom_54 rfl rfl ?_
  refine gf_X0_27 (pc := 55) he' K dX0_takeFrom_55 ?_
  refine pf_X0_27 (pc := 58) he K dX0_takeFrom_58 ?_
  refine x_aload_n (pc := 61) (i := 0) K dX0_takeFrom_61 rfl rfl ?_
  refine x_aload_n (pc := 62) (i := 1) K dX0_takeFrom_62 rfl rfl ?_
  refine gf_X0_30 (pc := 63) he' K dX0_takeFrom_63 ?_
  refine pf_X0_30 (pc := 66) he K dX0_takeFrom_66 ?_
  refine x_aload_n (pc := 69) (i := 0) K dX0_takeFrom_69 rfl rfl ?_
  refine x_aload_n (pc := 70) (i := 1) K dX0_takeFrom_70 rfl rfl ?_
  refine gf_X0_33 (pc := 71) he' K dX0_takeFrom_71 ?_
  refine pf_X0_33 (pc := 74) he K dX0_takeFrom_74 ?_
  refine x_aload_n (pc := 77) (i := 0) K dX0_takeFrom_77 rfl rfl ?_
  refine x_aload_n (pc := 78) (i := 1) K dX0_takeFrom_78 rfl rfl ?_
  refine gf_X0_36 (pc := 79) he' K dX0_takeFrom_79 ?_
  refine pf_X0_36 (pc := 82) he K dX0_takeFrom_82 ?_
  refine x_iconst (pc := 85) (v := 0) K dX0_takeFrom_85 (by decide) ?_
  refine x_istore_n (pc := 86) (i := 2) K dX0_takeFrom_86 rfl rfl (by decide) ?_
  refine x_iload_n (pc := 87) (i := 2) K dX0_takeFrom_87 rfl rfl ?_
  refine x_iconst (pc := 88) (v := 1) K dX0_takeFrom_88 (by decide) ?_
  refine x_icmp_gt (pc := 89) (tgt := 113) K dX0_takeFrom_89 (by decide) (fun c_89 => ?_) (fun c_89 => ?_)
  · exact absurd c_89 (by decide)
  · refine x_aload_n (pc := 92) (i := 0) K dX0_takeFrom_92 rfl rfl ?_
    refine gf_X0_41 (pc := 93) he K dX0_takeFrom_93 ?_
    refine x_iload_n (pc := 96) (i := 2) K dX0_takeFrom_96 rfl rfl ?_
    refine ab_Lw (pc := 97) he 0 (by decide) K dX0_takeFrom_97 ?_
    refine x_aload_n (pc := 98) (i := 1) K dX0_takeFrom_98 rfl rfl ?_
    refine gf_X0_41 (pc := 99) he' K dX0_takeFrom_99 ?_
    refine x_iload_n (pc := 102) (i := 2) K dX0_takeFrom_102 rfl rfl ?_
    refine ab_Lw (pc := 103) he' 0 (by decide) K dX0_takeFrom_103 ?_
    refine x_V1v (pc := 104) K (c_yX1_takeFrom (u := 0) (u' := 0) he (by decide) he' (by decide) hne (by show q_take2 (q_take1 α e e') e e' (idL e' 0) 0 = 0 ∨ q_take2 (q_take1 α e e') e e' (idL e' 0) 0 = 1; rw [q_take2_ne (nD_L he), show q_take1 α e e' (idL e' 0) = α (idL e' 0) from by unfold q_take1; rw [q_cs_ne (fun _ _ => nS_L he' (by decide)), up_ne (nD_L he)]]; exact hbk.2.1 0 (by decide))) mw_yX1_takeFrom ⟨im_yX1_takeFrom, se_yX1_takeFrom⟩ mk_X0_65 (rc_L he (by decide)) rfl ⟨Nat.le_of_ble_eq_true rfl, Nat.le_of_ble_eq_true rfl, Nat.le_of_ble_eq_true rfl⟩ dX0_takeFrom_104 ?_
    refine x_iinc (pc := 107) (i := 2) (v := 1) K dX0_takeFrom_107 rfl (by decide) rfl ?_
    refine x_goto (pc := 110) (tgt := 87) K dX0_takeFrom_110 (by decide) ?_
    refine x_iload_n (pc := 87) (i := 2) K dX0_takeFrom_87 rfl rfl ?_
    refine x_iconst (pc := 88) (v := 1) K dX0_takeFrom_88 (by decide) ?_
    refine x_icmp_gt (pc := 89) (tgt := 113) K dX0_takeFrom_89 (by decide) (fun c_89 => ?_) (fun c_89 => ?_)
    · exact absurd c_89 (by decide)
    · refine x_aload_n (pc := 92) (i := 0) K dX0_takeFrom_92 rfl rfl ?_
      refine gf_X0_41 (pc := 93) he K dX0_takeFrom_93 ?_
      refine x_iload_n (pc := 96) (i := 2) K dX0_takeFrom_96 rfl rfl ?_
      refine ab_Lw (pc := 97) he 1 (by decide) K dX0_takeFrom_97 ?_
      refine x_aload_n (pc := 98) (i := 1) K dX0_takeFrom_98 rfl rfl ?_
      refine gf_X0_41 (pc := 99) he' K dX0_takeFrom_99 ?_
      refine x_iload_n (pc := 102) (i := 2) K dX0_takeFrom_102 rfl rfl ?_
      refine ab_Lw (pc := 103) he' 1 (by decide) K dX0_takeFrom_103 ?_
      refine x_V1v (pc := 104) K (c_yX1_takeFrom (u := 1) (u' := 1) he (by decide) he' (by decide) hne (by show q_lawTake (q_take2 (q_take1 α e e') e e') e 0 e' 0 (idL e' 1) 0 = 0 ∨ q_lawTake (q_take2 (q_take1 α e e') e e') e 0 e' 0 (idL e' 1) 0 = 1; rw [q_lawTake_ne (by unfold idL; omega) (nLLc he' (by decide)), q_take2_ne (nD_L he), show q_take1 α e e' (idL e' 1) = α (idL e' 1) from by unfold q_take1; rw [q_cs_ne (fun _ _ => nS_L he' (by decide)), up_ne (nD_L he)]]; exact hbk.2.1 1 (by decide))) mw_yX1_takeFrom ⟨im_yX1_takeFrom, se_yX1_takeFrom⟩ mk_X0_65 (rc_L he (by decide)) rfl ⟨Nat.le_of_ble_eq_true rfl, Nat.le_of_ble_eq_true rfl, Nat.le_of_ble_eq_true rfl⟩ dX0_takeFrom_104 ?_
      refine x_iinc (pc := 107) (i := 2) (v := 2) K dX0_takeFrom_107 rfl (by decide) rfl ?_
      refine x_goto (pc := 110) (tgt := 87) K dX0_takeFrom_110 (by decide) ?_
      refine x_iload_n (pc := 87) (i := 2) K dX0_takeFrom_87 rfl rfl ?_
      refine x_iconst (pc := 88) (v := 1) K dX0_takeFrom_88 (by decide) ?_
      refine x_icmp_gt (pc := 89) (tgt := 113) K dX0_takeFrom_89 (by decide) (fun c_89 => ?_) (fun c_89 => ?_)
      · refine x_aload_n (pc := 113) (i := 1) K dX0_takeFrom_113 rfl rfl ?_
        refine gf_X0_45 (pc := 114) he' K dX0_takeFrom_114 ?_
        refine x_iconst (pc := 117) (v := 0) K dX0_takeFrom_117 (by decide) ?_
        refine x_aload_n (pc := 118) (i := 0) K dX0_takeFrom_118 rfl rfl ?_
        refine gf_X0_45 (pc := 119) he K dX0_takeFrom_119 ?_
        refine x_iconst (pc := 122) (v := 0) K dX0_takeFrom_122 (by decide) ?_
        refine x_bipush (pc := 123) (v := 60) K dX0_takeFrom_123 (by decide) ?_
        refine x_cpyN (pc := 125) (i1 := idTp e') (i2 := idTp e) (n1 := 60) (n2 := 60) (t := 1) (ty := .char) K ⟨by unfold idTp; omega, scr_no (by unfold idTp; omega)⟩ ⟨by unfold idTp; omega, scr_no (by unfold idTp; omega)⟩ (fun f => ent_Tp he') (fun f => ent_Tp he) rfl rfl 0 0 60 ⟨rfl, rfl, rfl⟩ ⟨by decide, by decide, by decide, by decide⟩ (fun j hj => by rw [Nat.zero_add]; show fits .char (.int (q_take3 (q_take2 (q_take1 α e e') e e') e e' (idTp e') j)) = true; rw [show q_take3 (q_take2 (q_take1 α e e') e e') e e' (idTp e') = α (idTp e') from by unfold q_take3; rw [q_lawTake_ne (by unfold idTp idL; omega) (by unfold idTp idLc; omega), q_lawTake_ne (by unfold idTp idL; omega) (by unfold idTp idLc; omega), q_take2_ne (by unfold idTp idD; omega)]; unfold q_take1; rw [q_cs_ne (fun _ _ => by unfold idTp idS; omega), up_ne (by unfold idTp idD; omega)]]; exact hbk.2.2 j hj) mk_X0_68 ⟨by decide, Nat.le_of_ble_eq_true rfl⟩ dX0_takeFrom_125 ?_
        refine x_aload_n (pc := 128) (i := 0) K dX0_takeFrom_128 rfl rfl ?_
        refine x_aload_n (pc := 129) (i := 1) K dX0_takeFrom_129 rfl rfl ?_
        refine gf_X0_49 (pc := 130) he' K dX0_takeFrom_130 ?_
        refine pf_X0_49 (pc := 133) he K dX0_takeFrom_133 ?_
        refine x_aload_n (pc := 136) (i := 1) K dX0_takeFrom_136 rfl rfl ?_
        refine gf_X0_52 (pc := 137) he' K dX0_takeFrom_137 ?_
        refine x_iconst (pc := 140) (v := 0) K dX0_takeFrom_140 (by decide) ?_
        refine x_aload_n (pc := 141) (i := 0) K dX0_takeFrom_141 rfl rfl ?_
        refine gf_X0_52 (pc := 142) he K dX0_takeFrom_142 ?_
        refine x_iconst (pc := 145) (v := 0) K dX0_takeFrom_145 (by decide) ?_
        refine x_bipush (pc := 146) (v := 24) K dX0_takeFrom_146 (by decide) ?_
        refine x_cpyN (pc := 148) (i1 := idWt e') (i2 := idWt e) (n1 := 24) (n2 := 24) (t := 0) (ty := .int) K ⟨by unfold idWt; omega, scr_no (by unfold idWt; omega)⟩ ⟨by unfold idWt; omega, scr_no (by unfold idWt; omega)⟩ (fun f => ent_Wt he') (fun f => ent_Wt he) rfl rfl 0 0 24 ⟨rfl, rfl, rfl⟩ ⟨by decide, by decide, by decide, by decide⟩ (fun _ _ => rfl) mk_X0_68 ⟨by decide, Nat.le_of_ble_eq_true rfl⟩ dX0_takeFrom_148 ?_
        refine x_aload_n (pc := 151) (i := 0) K dX0_takeFrom_151 rfl rfl ?_
        refine x_aload_n (pc := 152) (i := 1) K dX0_takeFrom_152 rfl rfl ?_
        refine gf_X0_56 (pc := 153) he' K dX0_takeFrom_153 ?_
        refine pf_X0_56 (pc := 156) he K dX0_takeFrom_156 ?_
        exact x_vretI (pc := 159) K dX0_takeFrom_159 ⟨rfl, rfl⟩
      · exact absurd c_89 (by decide)

set_option maxRecDepth 100000 in
set_option maxHeartbeats 4000000 in
theorem c_yX0_addSpan {k : Nat} {l : Launch} {G : Gm} {α ρ : Af} {e n : Nat} {km one other : Int32} (he : e < 3) (hn : α (idD e) 1 = nI n) (h9 : n < 9) : CI k l G yX0_addSpan (Cond.code yX0_addSpan cX0_addSpan 5 (some .int)) 2 [.ref (gA G (idD e)), .int km, .int one, .int other] α ρ (PI (nI n) (q_addSpan α e n km one other) ρ) := by
  refine CI.of [some (.ref (gA G (idD e))), some (.int km), some (.int one), some (.int other), none] (by decide) (Nat.le_of_ble_eq_true rfl) rfl rfl (fun C K => ?_)
  have K : Ok l _ G C RX0 cX0_addSpan (some .int) 5 := K
  refine x_aload_n (pc := 0) (i := 0) K dX0_addSpan_0 rfl rfl ?_
  refine gf_X0_11 (pc := 1) he K dX0_addSpan_1 ?_
  refine x_aload_n (pc := 4) (i := 0) K dX0_addSpan_4 rfl rfl ?_
  refine gf_X0_17 (pc := 5) he K dX0_addSpan_5 ?_
  refine x_topi K (show _ = nI n from hn) ?_
  refine ab_Sp (pc := 8) he n h9 K dX0_addSpan_8 ?_
  refine x_astore (pc := 9) (i := 4) K dX0_addSpan_9 rfl (by decide) ?_
  refine x_aload (pc := 11) (i := 4) K dX0_addSpan_11 rfl ?_
  refine x_V0v (pc := 13) K (c_yX4_bakeAnew he h9) mw_yX4_bakeAnew ⟨im_yX4_bakeAnew, se_yX4_bakeAnew⟩ mk_X0_78 (rc_S he h9) rfl ⟨Nat.le_of_ble_eq_true rfl, Nat.le_of_ble_eq_true rfl, Nat.le_of_ble_eq_true rfl⟩ dX0_addSpan_13 ?_
  refine x_aload (pc := 16) (i := 4) K dX0_addSpan_16 rfl ?_
  refine x_iload_n (pc := 18) (i := 1) K dX0_addSpan_18 rfl rfl ?_
  refine x_bipush (pc := 19) (v := 10) K dX0_addSpan_19 (by decide) ?_
  refine x_idiv (pc := 21) K dX0_addSpan_21 (by decide) ?_
  refine pf_X0_81 (pc := 22) he h9 K dX0_addSpan_22 ?_
  refine x_aload (pc := 25) (i := 4) K dX0_addSpan_25 rfl ?_
  refine x_iload_n (pc := 27) (i := 1) K dX0_addSpan_27 rfl rfl ?_
  refine x_bipush (pc := 28) (v := 10) K dX0_addSpan_28 (by decide) ?_
  refine x_irem (pc := 30) K dX0_addSpan_30 (by decide) ?_
  refine pf_X0_84 (pc := 31) he h9 K dX0_addSpan_31 ?_
  refine x_aload (pc := 34) (i := 4) K dX0_addSpan_34 rfl ?_
  refine x_iload_n (pc := 36) (i := 2) K dX0_addSpan_36 rfl rfl ?_
  refine pf_X0_87 (pc := 37) he h9 K dX0_addSpan_37 ?_
  refine x_aload (pc := 40) (i := 4) K dX0_addSpan_40 rfl ?_
  refine x_iload_n (pc := 42) (i := 3) K dX0_addSpan_42 rfl rfl ?_
  refine pf_X0_90 (pc := 43) he h9 K dX0_addSpan_43 ?_
  refine x_aload_n (pc := 46) (i := 0) K dX0_addSpan_46 rfl rfl ?_
  refine x_dup (pc := 47) K dX0_addSpan_47 rfl ?_
  refine gf_X0_17 (pc := 48) he K dX0_addSpan_48 ?_
  refine x_iconst (pc := 51) (v := 1) K dX0_addSpan_51 (by decide) ?_
  refine x_iadd (pc := 52) K dX0_addSpan_52 ?_
  refine pf_X0_17 (pc := 53) he K dX0_addSpan_53 ?_
  refine x_aload_n (pc := 56) (i := 0) K dX0_addSpan_56 rfl rfl ?_
  refine gf_X0_17 (pc := 57) he K dX0_addSpan_57 ?_
  refine x_iconst (pc := 60) (v := 1) K dX0_addSpan_60 (by decide) ?_
  refine x_isub (pc := 61) K dX0_addSpan_61 ?_
  exact x_iretI (pc := 62) K dX0_addSpan_62 ⟨by show q_addSpan α e n km one other (idD e) 1 - 1 = nI n; unfold q_addSpan; rw [up_eq, q_addA_ne (nS_D he), hn, nI_1, nI_pred], rfl, rfl⟩

set_option maxRecDepth 100000 in
set_option maxHeartbeats 4000000 in
theorem l_tape {k : Nat} {l : Launch} {G : Gm} {C : Cx} {P : Po} {e m t : Nat} {w : Int64} {α ρ : Af} (K : Ok l 1 G C RX0 cX0_addToTape (some .int) 5) (he : e < 3) (ht : α (idD e) 10 = nI t) (h60 : t + m ≤ 60) : ∀ (j i : Nat), i + j = m → X k l 1 G C (P) 5 47 [some (.ref (gA G (idD e))), some (.long w), none, some (.int (nI m)), some (.int (nI m))] [] (q_tape α e w m) ρ → X k l 1 G C (P) 5 3 [some (.ref (gA G (idD e))), some (.long w), none, some (.int (nI m)), some (.int (nI i))] [] (q_tape α e w i) ρ := by
  intro j
  induction j with
  | zero =>
    intro i hi hx
    refine x_iload (pc := 3) (i := 4) K dX0_addToTape_3 rfl ?_
    refine x_iload_n (pc := 5) (i := 3) K dX0_addToTape_5 rfl rfl ?_
    refine x_icmp_ge (pc := 6) (tgt := 47) K dX0_addToTape_6 (by decide) (fun c_6 => ?_) (fun c_6 => ?_)
    · obtain rfl : i = m := by omega
      exact hx
    · exact absurd (nI_le (by omega) (by omega)) c_6
  | succ j ih =>
    intro i hi hx
    refine x_iload (pc := 3) (i := 4) K dX0_addToTape_3 rfl ?_
    refine x_iload_n (pc := 5) (i := 3) K dX0_addToTape_5 rfl rfl ?_
    refine x_icmp_ge (pc := 6) (tgt := 47) K dX0_addToTape_6 (by decide) (fun c_6 => ?_) (fun c_6 => ?_)
    · exact (nI_ge (a := i) (b := m) (by omega) (by omega) c_6).elim
    · refine x_aload_n (pc := 9) (i := 0) K dX0_addToTape_9 rfl rfl ?_
      refine gf_X0_45 (pc := 10) he K dX0_addToTape_10 ?_
      refine x_aload_n (pc := 13) (i := 0) K dX0_addToTape_13 rfl rfl ?_
      refine gf_X0_49 (pc := 14) he K dX0_addToTape_14 ?_
      refine x_lload_n (pc := 17) (i := 1) K dX0_addToTape_17 rfl rfl ?_
      refine x_bipush (pc := 18) (v := 8) K dX0_addToTape_18 (by decide) ?_
      refine x_iload (pc := 20) (i := 4) K dX0_addToTape_20 rfl ?_
      refine x_imul (pc := 22) K dX0_addToTape_22 ?_
      refine x_lushr (pc := 23) K dX0_addToTape_23 ?_
      refine x_ldc2 (pc := 24) K kn_X0_93 dX0_addToTape_24 ?_
      refine x_land (pc := 27) K dX0_addToTape_27 ?_
      refine x_l2i (pc := 28) K dX0_addToTape_28 ?_
      refine x_i2c (pc := 29) K dX0_addToTape_29 ?_
      refine cs_Tp (pc := 30) he K (by show vp_in (q_tape α e w i (idD e) 10) 60; rw [q_tape_10 he ht i]; exact vp_in_nI (by omega) (by decide)) dX0_addToTape_30 ?_
      refine x_aload_n (pc := 31) (i := 0) K dX0_addToTape_31 rfl rfl ?_
      refine x_dup (pc := 32) K dX0_addToTape_32 rfl ?_
      refine gf_X0_49 (pc := 33) he K dX0_addToTape_33 ?_
      refine x_iconst (pc := 36) (v := 1) K dX0_addToTape_36 (by decide) ?_
      refine x_iadd (pc := 37) K dX0_addToTape_37 ?_
      refine pf_X0_49 (pc := 38) he K dX0_addToTape_38 ?_
      refine x_iinc (pc := 41) (i := 4) (v := nI (i + 1)) K dX0_addToTape_41 rfl (nI_1 _) rfl ?_
      refine x_goto (pc := 44) (tgt := 3) K dX0_addToTape_44 (by decide) ?_
      exact ih (i + 1) (by omega) hx

set_option maxRecDepth 100000 in
set_option maxHeartbeats 4000000 in
theorem c_yX0_addToTape {k : Nat} {l : Launch} {G : Gm} {α ρ : Af} {e m t : Nat} {w : Int64} (he : e < 3) (ht : α (idD e) 10 = nI t) (h60 : t + m ≤ 60) : CI k l G yX0_addToTape (Cond.code yX0_addToTape cX0_addToTape 5 (some .int)) 1 [.ref (gA G (idD e)), .long w, .int (nI m)] α ρ (PI (nI (t + m)) (q_tape α e w m) ρ) := by
  refine CI.of [some (.ref (gA G (idD e))), some (.long w), none, some (.int (nI m)), none] (by decide) (Nat.le_of_ble_eq_true rfl) rfl rfl (fun C K => ?_)
  have K : Ok l _ G C RX0 cX0_addToTape (some .int) 5 := K
  refine x_iconst (pc := 0) (v := 0) K dX0_addToTape_0 (by decide) ?_
  refine x_istore (pc := 1) (i := 4) K dX0_addToTape_1 rfl (by decide) ?_
  refine l_tape K he ht h60 m 0 (by omega) ?_
  refine x_aload_n (pc := 47) (i := 0) K dX0_addToTape_47 rfl rfl ?_
  refine gf_X0_49 (pc := 48) he K dX0_addToTape_48 ?_
  exact x_iretI (pc := 51) K dX0_addToTape_51 ⟨q_tape_10 he ht m, rfl, rfl⟩

set_option maxRecDepth 100000 in
set_option maxHeartbeats 4000000 in
theorem c_yX0_passDayByDraws {l : Launch} {G : Gm} {α ρ : Af} {e n : Nat} (he : e < 3) (hn : α (idD e) 1 = nI n) (h9 : n ≤ 9) (hk : Lk α e) : CI 1 l G yX0_passDayByDraws (Cond.code yX0_passDayByDraws cX0_passDayByDraws 4 (some .int)) 6 [.ref (gA G (idD e))] α ρ (PI (q_ddB α e n) (q_dd α e n) ρ) := by
  refine CI.of [some (.ref (gA G (idD e))), none, none, none] (by decide) (Nat.le_of_ble_eq_true rfl) rfl rfl (fun C K => ?_)
  have K : Ok l _ G C RX0 cX0_passDayByDraws (some .int) 4 := K
  refine x_aload_n (pc := 0) (i := 0) K dX0_passDayByDraws_0 rfl rfl ?_
  refine x_iconst (pc := 1) (v := 0) K dX0_passDayByDraws_1 (by decide) ?_
  refine x_aload_n (pc := 2) (i := 0) K dX0_passDayByDraws_2 rfl rfl ?_
  refine x_V0i (pc := 3) K (c_yX0_draw he) mw_yX0_draw ⟨im_yX0_draw, se_yX0_draw⟩ mk_X0_130 (rc_D he) rfl ⟨Nat.le_of_ble_eq_true rfl, Nat.le_of_ble_eq_true rfl, Nat.le_of_ble_eq_true rfl⟩ dX0_passDayByDraws_3 ?_
  refine x_bipush (pc := 6) (v := 16) K dX0_passDayByDraws_6 (by decide) ?_
  refine x_irem (pc := 8) K dX0_passDayByDraws_8 (by decide) ?_
  refine x_bipush (pc := 9) (v := 6) K dX0_passDayByDraws_9 (by decide) ?_
  refine x_isub (pc := 11) K dX0_passDayByDraws_11 ?_
  refine x_mmax (pc := 12) K mk_X0_134 ⟨Nat.le_of_ble_eq_true rfl, Nat.le_of_ble_eq_true rfl⟩ dX0_passDayByDraws_12 ?_
  refine pf_X0_21 (pc := 15) he K dX0_passDayByDraws_15 ?_
  refine x_st (a := q_rained α e) rfl rfl ?_
  refine x_iconst (pc := 18) (v := 0) K dX0_passDayByDraws_18 (by decide) ?_
  refine x_istore_n (pc := 19) (i := 1) K dX0_passDayByDraws_19 rfl rfl (by decide) ?_
  refine x_aload_n (pc := 20) (i := 0) K dX0_passDayByDraws_20 rfl rfl ?_
  refine gf_X0_17 (pc := 21) he K dX0_passDayByDraws_21 ?_
  refine x_topi K (show _ = nI n from q_rained_1.trans hn) ?_
  refine x_if_le (pc := 24) (tgt := 68) K dX0_passDayByDraws_24 (by decide) (fun c_24 => ?_) (fun c_24 => ?_)
  · have hn0 : n = 0 := by
      rcases Nat.eq_zero_or_pos n with q | q
      · exact q
      · exact absurd c_24 (nI_nle q (by omega))
    refine x_st (a := q_ddS α e n) (by simp only [q_ddS, if_pos hn0]) rfl ?_
    refine x_aload_n (pc := 68) (i := 0) K dX0_passDayByDraws_68 rfl rfl ?_
    refine x_V0v (pc := 69) K (c_yX0_passDay (α := q_ddS α e n) he ((q_ddS_1 he).trans hn) h9 (hk.ddS he)) mw_yX0_passDay ⟨im_yX0_passDay, se_yX0_passDay⟩ mk_X0_141 (rc_D he) rfl ⟨Nat.le_of_ble_eq_true rfl, Nat.le_of_ble_eq_true rfl, Nat.le_of_ble_eq_true rfl⟩ dX0_passDayByDraws_69 ?_
    refine x_iload_n (pc := 72) (i := 1) K dX0_passDayByDraws_72 rfl rfl ?_
    exact x_iretI (pc := 73) K dX0_passDayByDraws_73 ⟨by unfold q_ddB; rw [if_pos hn0], rfl, rfl⟩
  · refine x_aload_n (pc := 27) (i := 0) K dX0_passDayByDraws_27 rfl rfl ?_
    refine gf_X0_11 (pc := 28) he K dX0_passDayByDraws_28 ?_
    refine x_aload_n (pc := 31) (i := 0) K dX0_passDayByDraws_31 rfl rfl ?_
    refine x_V0i (pc := 32) K (c_yX0_draw he) mw_yX0_draw ⟨im_yX0_draw, se_yX0_draw⟩ mk_X0_130 (rc_D he) rfl ⟨Nat.le_of_ble_eq_true rfl, Nat.le_of_ble_eq_true rfl, Nat.le_of_ble_eq_true rfl⟩ dX0_passDayByDraws_32 ?_
    refine x_st (a := q_dl1 α e) rfl rfl ?_
    refine x_aload_n (pc := 35) (i := 0) K dX0_passDayByDraws_35 rfl rfl ?_
    refine gf_X0_17 (pc := 36) he K dX0_passDayByDraws_36 ?_
    refine x_topi K (show _ = nI n from q_dl1_1.trans hn) ?_
    have hn0 : ¬ n = 0 := fun h => c_24 (by rw [h]; decide)
    refine x_irem (pc := 39) K dX0_passDayByDraws_39 (fun h => hn0 ((nI_eq (a := n) (b := 0) (by omega) (by decide)).mp h)) ?_
    refine x_topi K (show _ = nI (q_dlU α e n) from jrem_nI (Nat.lt_trans q_drawN_lt (by decide)) (by omega) (by omega)) ?_
    refine ab_Sp (pc := 40) he ((q_dlU α e n)) (Nat.lt_of_lt_of_le (Nat.mod_lt _ (by omega)) h9) K dX0_passDayByDraws_40 ?_
    refine x_astore_n (pc := 41) (i := 2) K dX0_passDayByDraws_41 rfl rfl (by decide) ?_
    refine x_aload_n (pc := 42) (i := 0) K dX0_passDayByDraws_42 rfl rfl ?_
    refine x_V0i (pc := 43) K (c_yX0_draw he) mw_yX0_draw ⟨im_yX0_draw, se_yX0_draw⟩ mk_X0_130 (rc_D he) rfl ⟨Nat.le_of_ble_eq_true rfl, Nat.le_of_ble_eq_true rfl, Nat.le_of_ble_eq_true rfl⟩ dX0_passDayByDraws_43 ?_
    refine x_st (a := q_dl2 α e) rfl rfl ?_
    refine x_bipush (pc := 46) (v := 30) K dX0_passDayByDraws_46 (by decide) ?_
    refine x_irem (pc := 48) K dX0_passDayByDraws_48 (by decide) ?_
    refine x_topi K (show _ = q_dlX α e from rfl) ?_
    refine x_istore_n (pc := 49) (i := 3) K dX0_passDayByDraws_49 rfl rfl (by decide) ?_
    refine x_aload_n (pc := 50) (i := 2) K dX0_passDayByDraws_50 rfl rfl ?_
    refine gf_X0_110 (pc := 51) he (Nat.lt_of_lt_of_le (Nat.mod_lt _ (by omega)) h9) K dX0_passDayByDraws_51 ?_
    refine x_if_ne (pc := 54) (tgt := 68) K dX0_passDayByDraws_54 (by decide) (fun c_54 => ?_) (fun c_54 => ?_)
    · refine x_st (a := q_ddS α e n) (by unfold q_ddS; rw [if_neg hn0, if_neg c_54]) rfl ?_
      refine x_aload_n (pc := 68) (i := 0) K dX0_passDayByDraws_68 rfl rfl ?_
      refine x_V0v (pc := 69) K (c_yX0_passDay (α := q_ddS α e n) he ((q_ddS_1 he).trans hn) h9 (hk.ddS he)) mw_yX0_passDay ⟨im_yX0_passDay, se_yX0_passDay⟩ mk_X0_141 (rc_D he) rfl ⟨Nat.le_of_ble_eq_true rfl, Nat.le_of_ble_eq_true rfl, Nat.le_of_ble_eq_true rfl⟩ dX0_passDayByDraws_69 ?_
      refine x_iload_n (pc := 72) (i := 1) K dX0_passDayByDraws_72 rfl rfl ?_
      exact x_iretI (pc := 73) K dX0_passDayByDraws_73 ⟨by unfold q_ddB; rw [if_neg hn0, if_neg c_54], rfl, rfl⟩
    · refine x_aload_n (pc := 57) (i := 0) K dX0_passDayByDraws_57 rfl rfl ?_
      refine x_aload_n (pc := 58) (i := 2) K dX0_passDayByDraws_58 rfl rfl ?_
      refine x_iload_n (pc := 59) (i := 3) K dX0_passDayByDraws_59 rfl rfl ?_
      refine x_V2i (pc := 60) K (c_yX0_carryOver (α := q_dl2 α e) (u := q_dlU α e n) he (Nat.lt_of_lt_of_le (Nat.mod_lt _ (by omega)) h9) (hk.dl2 he)) mw_yX0_carryOver ⟨im_yX0_carryOver, se_yX0_carryOver⟩ mk_X0_137 (rc_D he) rfl ⟨Nat.le_of_ble_eq_true rfl, Nat.le_of_ble_eq_true rfl, Nat.le_of_ble_eq_true rfl⟩ dX0_passDayByDraws_60 ?_
      refine x_if_ge (pc := 63) (tgt := 68) K dX0_passDayByDraws_63 (by decide) (fun c_63 => ?_) (fun c_63 => ?_)
      · refine x_st (a := q_ddS α e n) (by unfold q_ddS; rw [if_neg hn0, if_pos c_54]) rfl ?_
        refine x_aload_n (pc := 68) (i := 0) K dX0_passDayByDraws_68 rfl rfl ?_
        refine x_V0v (pc := 69) K (c_yX0_passDay (α := q_ddS α e n) he ((q_ddS_1 he).trans hn) h9 (hk.ddS he)) mw_yX0_passDay ⟨im_yX0_passDay, se_yX0_passDay⟩ mk_X0_141 (rc_D he) rfl ⟨Nat.le_of_ble_eq_true rfl, Nat.le_of_ble_eq_true rfl, Nat.le_of_ble_eq_true rfl⟩ dX0_passDayByDraws_69 ?_
        refine x_iload_n (pc := 72) (i := 1) K dX0_passDayByDraws_72 rfl rfl ?_
        exact x_iretI (pc := 73) K dX0_passDayByDraws_73 ⟨by unfold q_ddB; rw [if_neg hn0, if_pos c_54, if_pos c_63], rfl, rfl⟩
      · refine x_iconst (pc := 66) (v := 1) K dX0_passDayByDraws_66 (by decide) ?_
        refine x_istore_n (pc := 67) (i := 1) K dX0_passDayByDraws_67 rfl rfl (by decide) ?_
        refine x_st (a := q_ddS α e n) (by unfold q_ddS; rw [if_neg hn0, if_pos c_54]) rfl ?_
        refine x_aload_n (pc := 68) (i := 0) K dX0_passDayByDraws_68 rfl rfl ?_
        refine x_V0v (pc := 69) K (c_yX0_passDay (α := q_ddS α e n) he ((q_ddS_1 he).trans hn) h9 (hk.ddS he)) mw_yX0_passDay ⟨im_yX0_passDay, se_yX0_passDay⟩ mk_X0_141 (rc_D he) rfl ⟨Nat.le_of_ble_eq_true rfl, Nat.le_of_ble_eq_true rfl, Nat.le_of_ble_eq_true rfl⟩ dX0_passDayByDraws_69 ?_
        refine x_iload_n (pc := 72) (i := 1) K dX0_passDayByDraws_72 rfl rfl ?_
        exact x_iretI (pc := 73) K dX0_passDayByDraws_73 ⟨by unfold q_ddB; rw [if_neg hn0, if_pos c_54, if_neg c_63], rfl, rfl⟩
