theorem lt_D {e : Nat} (h : e < 3) : idD e < 76 := by unfold idD; omega
theorem lt_L {e u : Nat} (h : e < 3) (hu : u < 2) : idL e u < 76 := by unfold idL; omega
theorem lt_R : idR < 76 := by decide
theorem lt_Sh {e : Nat} (h : e < 4) : idSh e < 76 := by unfold idSh; omega
theorem lt_S {e u : Nat} (h : e < 3) (hu : u < 9) : idS e u < 76 := by unfold idS; omega
theorem lt_V : idV < 76 := by decide
theorem lt_B : idB < 76 := by decide
theorem scr_no {k i : Nat} (h : (i < 43 ∨ 49 ≤ i) ∧ i ≠ 86 ∧ i ≠ 87) : scr k i = false := by
  unfold scr
  have h1 : decide (43 ≤ i ∧ i < 49) = false := decide_eq_false (by omega)
  have h2 : (i == 86) = false := by simp [h.2.1]
  have h3 : (i == 87) = false := by simp [h.2.2]
  rw [h1, h2, h3]; simp
theorem scr_0 {i : Nat} : scr 0 i = false := rfl
theorem sc_D {k : Nat} {e : Nat} (he : e < 3) : scr k (idD e) = false := scr_no (by unfold idD; omega)
theorem rc_D {G : Gm} {e : Nat} (he : e < 3) : Rc G (idD e) 0 := ⟨by unfold idD; omega, fun f => ⟨_, (ent_D he)⟩⟩
theorem sc_L {k : Nat} {e u : Nat} (he : e < 3) (hu : u < 2) : scr k (idL e u) = false := scr_no (by unfold idL; omega)
theorem rc_L {G : Gm} {e u : Nat} (he : e < 3) (hu : u < 2) : Rc G (idL e u) 1 := ⟨by unfold idL; omega, fun f => ⟨_, (ent_L he hu)⟩⟩
theorem sc_R {k : Nat}   : scr k (idR) = false := scr_no (by unfold idR; omega)
theorem rc_R {G : Gm}   : Rc G (idR) 2 := ⟨by unfold idR; omega, fun f => ⟨_, ent_R⟩⟩
theorem sc_Sh {k : Nat} {e : Nat} (he : e < 4) : scr k (idSh e) = false := scr_no (by unfold idSh; omega)
theorem rc_Sh {G : Gm} {e : Nat} (he : e < 4) : Rc G (idSh e) 3 := ⟨by unfold idSh; omega, fun f => ⟨_, (ent_Sh he)⟩⟩
theorem sc_S {k : Nat} {e u : Nat} (he : e < 3) (hu : u < 9) : scr k (idS e u) = false := scr_no (by unfold idS; omega)
theorem rc_S {G : Gm} {e u : Nat} (he : e < 3) (hu : u < 9) : Rc G (idS e u) 4 := ⟨by unfold idS; omega, fun f => ⟨_, (ent_S he hu)⟩⟩
theorem sc_V {k : Nat}   : scr k (idV) = false := scr_no (by unfold idV; omega)
theorem rc_V {G : Gm}   : Rc G (idV) 5 := ⟨by unfold idV; omega, fun f => ⟨_, ent_V⟩⟩
theorem sc_B {k : Nat}   : scr k (idB) = false := scr_no (by unfold idB; omega)
theorem rc_B {G : Gm}   : Rc G (idB) 6 := ⟨by unfold idB; omega, fun f => ⟨_, ent_B⟩⟩
theorem sc_M {k : Nat}   : scr k (idM) = false := scr_no (by unfold idM; omega)
theorem rc_M {G : Gm}   : Rc G (idM) 7 := ⟨by unfold idM; omega, fun f => ⟨_, ent_M⟩⟩
section TY
variable {k : Nat} {l : Launch} {d : Nat} {G : Gm} {C : Cx} {P : Po} {cc : ByteArray} {ret : Option FieldType} {nL pc : Nat} {ls : List (Option Value)} {st : List Value} {α ρ : Af}
theorem gf_X4_9 {e u : Nat} (he : e < 3) (hu : u < 9) (K : Ok l d G C RX4 cc ret nL) (hdg : decode cc pc = .ok (.getfield 9, 3)) (kk : X k l d G C P nL (pc + 3) ls (.int (α (idS e u) 0) :: st) α ρ) : X k l d G C P nL pc ls (.ref (gA G (idS e u)) :: st) α ρ :=
  x_getc K (lt_S he hu) (sc_S he hu) (ent_S he hu) rfl inW4 0 (by decide) fk_X4_9 rfl hdg kk
theorem pf_X4_9 {e u : Nat} (he : e < 3) (hu : u < 9) (K : Ok l d G C RX4 cc ret nL) {v : Int32} (hdg : decode cc pc = .ok (.putfield 9, 3)) (kk : X k l d G C P nL (pc + 3) ls st (up α (idS e u) 0 v) ρ) : X k l d G C P nL pc ls (.int v :: .ref (gA G (idS e u)) :: st) α ρ :=
  x_putc (f' := upd (α (idS e u)) 0 v) (ty := .int) K tyX4 tyX4_ok nmX4 (lt_S he hu) (sc_S he hu) (ent_S he hu) rfl inW4 0 (by decide) fk_X4_9 rfl rfl rfl rfl (Nat.le_of_ble_eq_true rfl) ((ent_S he hu).trans rfl) hdg kk
theorem gf_X5_32 {e u : Nat} (he : e < 3) (hu : u < 9) (K : Ok l d G C RX5 cc ret nL) (hdg : decode cc pc = .ok (.getfield 32, 3)) (kk : X k l d G C P nL (pc + 3) ls (.int (α (idS e u) 0) :: st) α ρ) : X k l d G C P nL pc ls (.ref (gA G (idS e u)) :: st) α ρ :=
  x_getc K (lt_S he hu) (sc_S he hu) (ent_S he hu) rfl inW4 0 (by decide) fk_X5_32 rfl hdg kk
theorem pf_X5_32 {e u : Nat} (he : e < 3) (hu : u < 9) (K : Ok l d G C RX5 cc ret nL) {v : Int32} (hdg : decode cc pc = .ok (.putfield 32, 3)) (kk : X k l d G C P nL (pc + 3) ls st (up α (idS e u) 0 v) ρ) : X k l d G C P nL pc ls (.int v :: .ref (gA G (idS e u)) :: st) α ρ :=
  x_putc (f' := upd (α (idS e u)) 0 v) (ty := .int) K tyX4 tyX4_ok nmX4 (lt_S he hu) (sc_S he hu) (ent_S he hu) rfl inW4 0 (by decide) fk_X5_32 rfl rfl rfl rfl (Nat.le_of_ble_eq_true rfl) ((ent_S he hu).trans rfl) hdg kk
theorem gf_X6_81 {e u : Nat} (he : e < 3) (hu : u < 9) (K : Ok l d G C RX6 cc ret nL) (hdg : decode cc pc = .ok (.getfield 81, 3)) (kk : X k l d G C P nL (pc + 3) ls (.int (α (idS e u) 0) :: st) α ρ) : X k l d G C P nL pc ls (.ref (gA G (idS e u)) :: st) α ρ :=
  x_getc K (lt_S he hu) (sc_S he hu) (ent_S he hu) rfl inW4 0 (by decide) fk_X6_81 rfl hdg kk
theorem pf_X6_81 {e u : Nat} (he : e < 3) (hu : u < 9) (K : Ok l d G C RX6 cc ret nL) {v : Int32} (hdg : decode cc pc = .ok (.putfield 81, 3)) (kk : X k l d G C P nL (pc + 3) ls st (up α (idS e u) 0 v) ρ) : X k l d G C P nL pc ls (.int v :: .ref (gA G (idS e u)) :: st) α ρ :=
  x_putc (f' := upd (α (idS e u)) 0 v) (ty := .int) K tyX4 tyX4_ok nmX4 (lt_S he hu) (sc_S he hu) (ent_S he hu) rfl inW4 0 (by decide) fk_X6_81 rfl rfl rfl rfl (Nat.le_of_ble_eq_true rfl) ((ent_S he hu).trans rfl) hdg kk
theorem gf_X0_81 {e u : Nat} (he : e < 3) (hu : u < 9) (K : Ok l d G C RX0 cc ret nL) (hdg : decode cc pc = .ok (.getfield 81, 3)) (kk : X k l d G C P nL (pc + 3) ls (.int (α (idS e u) 0) :: st) α ρ) : X k l d G C P nL pc ls (.ref (gA G (idS e u)) :: st) α ρ :=
  x_getc K (lt_S he hu) (sc_S he hu) (ent_S he hu) rfl inW4 0 (by decide) fk_X0_81 rfl hdg kk
theorem pf_X0_81 {e u : Nat} (he : e < 3) (hu : u < 9) (K : Ok l d G C RX0 cc ret nL) {v : Int32} (hdg : decode cc pc = .ok (.putfield 81, 3)) (kk : X k l d G C P nL (pc + 3) ls st (up α (idS e u) 0 v) ρ) : X k l d G C P nL pc ls (.int v :: .ref (gA G (idS e u)) :: st) α ρ :=
  x_putc (f' := upd (α (idS e u)) 0 v) (ty := .int) K tyX4 tyX4_ok nmX4 (lt_S he hu) (sc_S he hu) (ent_S he hu) rfl inW4 0 (by decide) fk_X0_81 rfl rfl rfl rfl (Nat.le_of_ble_eq_true rfl) ((ent_S he hu).trans rfl) hdg kk
theorem gf_X4_15 {e u : Nat} (he : e < 3) (hu : u < 9) (K : Ok l d G C RX4 cc ret nL) (hdg : decode cc pc = .ok (.getfield 15, 3)) (kk : X k l d G C P nL (pc + 3) ls (.int (α (idS e u) 1) :: st) α ρ) : X k l d G C P nL pc ls (.ref (gA G (idS e u)) :: st) α ρ :=
  x_getc K (lt_S he hu) (sc_S he hu) (ent_S he hu) rfl inW4 1 (by decide) fk_X4_15 rfl hdg kk
theorem pf_X4_15 {e u : Nat} (he : e < 3) (hu : u < 9) (K : Ok l d G C RX4 cc ret nL) {v : Int32} (hdg : decode cc pc = .ok (.putfield 15, 3)) (kk : X k l d G C P nL (pc + 3) ls st (up α (idS e u) 1 v) ρ) : X k l d G C P nL pc ls (.int v :: .ref (gA G (idS e u)) :: st) α ρ :=
  x_putc (f' := upd (α (idS e u)) 1 v) (ty := .int) K tyX4 tyX4_ok nmX4 (lt_S he hu) (sc_S he hu) (ent_S he hu) rfl inW4 1 (by decide) fk_X4_15 rfl rfl rfl rfl (Nat.le_of_ble_eq_true rfl) ((ent_S he hu).trans rfl) hdg kk
theorem gf_X5_35 {e u : Nat} (he : e < 3) (hu : u < 9) (K : Ok l d G C RX5 cc ret nL) (hdg : decode cc pc = .ok (.getfield 35, 3)) (kk : X k l d G C P nL (pc + 3) ls (.int (α (idS e u) 1) :: st) α ρ) : X k l d G C P nL pc ls (.ref (gA G (idS e u)) :: st) α ρ :=
  x_getc K (lt_S he hu) (sc_S he hu) (ent_S he hu) rfl inW4 1 (by decide) fk_X5_35 rfl hdg kk
theorem pf_X5_35 {e u : Nat} (he : e < 3) (hu : u < 9) (K : Ok l d G C RX5 cc ret nL) {v : Int32} (hdg : decode cc pc = .ok (.putfield 35, 3)) (kk : X k l d G C P nL (pc + 3) ls st (up α (idS e u) 1 v) ρ) : X k l d G C P nL pc ls (.int v :: .ref (gA G (idS e u)) :: st) α ρ :=
  x_putc (f' := upd (α (idS e u)) 1 v) (ty := .int) K tyX4 tyX4_ok nmX4 (lt_S he hu) (sc_S he hu) (ent_S he hu) rfl inW4 1 (by decide) fk_X5_35 rfl rfl rfl rfl (Nat.le_of_ble_eq_true rfl) ((ent_S he hu).trans rfl) hdg kk
theorem gf_X6_86 {e u : Nat} (he : e < 3) (hu : u < 9) (K : Ok l d G C RX6 cc ret nL) (hdg : decode cc pc = .ok (.getfield 86, 3)) (kk : X k l d G C P nL (pc + 3) ls (.int (α (idS e u) 1) :: st) α ρ) : X k l d G C P nL pc ls (.ref (gA G (idS e u)) :: st) α ρ :=
  x_getc K (lt_S he hu) (sc_S he hu) (ent_S he hu) rfl inW4 1 (by decide) fk_X6_86 rfl hdg kk
theorem pf_X6_86 {e u : Nat} (he : e < 3) (hu : u < 9) (K : Ok l d G C RX6 cc ret nL) {v : Int32} (hdg : decode cc pc = .ok (.putfield 86, 3)) (kk : X k l d G C P nL (pc + 3) ls st (up α (idS e u) 1 v) ρ) : X k l d G C P nL pc ls (.int v :: .ref (gA G (idS e u)) :: st) α ρ :=
  x_putc (f' := upd (α (idS e u)) 1 v) (ty := .int) K tyX4 tyX4_ok nmX4 (lt_S he hu) (sc_S he hu) (ent_S he hu) rfl inW4 1 (by decide) fk_X6_86 rfl rfl rfl rfl (Nat.le_of_ble_eq_true rfl) ((ent_S he hu).trans rfl) hdg kk
theorem gf_X0_84 {e u : Nat} (he : e < 3) (hu : u < 9) (K : Ok l d G C RX0 cc ret nL) (hdg : decode cc pc = .ok (.getfield 84, 3)) (kk : X k l d G C P nL (pc + 3) ls (.int (α (idS e u) 1) :: st) α ρ) : X k l d G C P nL pc ls (.ref (gA G (idS e u)) :: st) α ρ :=
  x_getc K (lt_S he hu) (sc_S he hu) (ent_S he hu) rfl inW4 1 (by decide) fk_X0_84 rfl hdg kk
theorem pf_X0_84 {e u : Nat} (he : e < 3) (hu : u < 9) (K : Ok l d G C RX0 cc ret nL) {v : Int32} (hdg : decode cc pc = .ok (.putfield 84, 3)) (kk : X k l d G C P nL (pc + 3) ls st (up α (idS e u) 1 v) ρ) : X k l d G C P nL pc ls (.int v :: .ref (gA G (idS e u)) :: st) α ρ :=
  x_putc (f' := upd (α (idS e u)) 1 v) (ty := .int) K tyX4 tyX4_ok nmX4 (lt_S he hu) (sc_S he hu) (ent_S he hu) rfl inW4 1 (by decide) fk_X0_84 rfl rfl rfl rfl (Nat.le_of_ble_eq_true rfl) ((ent_S he hu).trans rfl) hdg kk
theorem gf_X4_18 {e u : Nat} (he : e < 3) (hu : u < 9) (K : Ok l d G C RX4 cc ret nL) (hdg : decode cc pc = .ok (.getfield 18, 3)) (kk : X k l d G C P nL (pc + 3) ls (.int (α (idS e u) 2) :: st) α ρ) : X k l d G C P nL pc ls (.ref (gA G (idS e u)) :: st) α ρ :=
  x_getc K (lt_S he hu) (sc_S he hu) (ent_S he hu) rfl inW4 2 (by decide) fk_X4_18 rfl hdg kk
theorem pf_X4_18 {e u : Nat} (he : e < 3) (hu : u < 9) (K : Ok l d G C RX4 cc ret nL) {v : Int32} (hdg : decode cc pc = .ok (.putfield 18, 3)) (kk : X k l d G C P nL (pc + 3) ls st (up α (idS e u) 2 v) ρ) : X k l d G C P nL pc ls (.int v :: .ref (gA G (idS e u)) :: st) α ρ :=
  x_putc (f' := upd (α (idS e u)) 2 v) (ty := .int) K tyX4 tyX4_ok nmX4 (lt_S he hu) (sc_S he hu) (ent_S he hu) rfl inW4 2 (by decide) fk_X4_18 rfl rfl rfl rfl (Nat.le_of_ble_eq_true rfl) ((ent_S he hu).trans rfl) hdg kk
theorem gf_X6_89 {e u : Nat} (he : e < 3) (hu : u < 9) (K : Ok l d G C RX6 cc ret nL) (hdg : decode cc pc = .ok (.getfield 89, 3)) (kk : X k l d G C P nL (pc + 3) ls (.int (α (idS e u) 2) :: st) α ρ) : X k l d G C P nL pc ls (.ref (gA G (idS e u)) :: st) α ρ :=
  x_getc K (lt_S he hu) (sc_S he hu) (ent_S he hu) rfl inW4 2 (by decide) fk_X6_89 rfl hdg kk
theorem pf_X6_89 {e u : Nat} (he : e < 3) (hu : u < 9) (K : Ok l d G C RX6 cc ret nL) {v : Int32} (hdg : decode cc pc = .ok (.putfield 89, 3)) (kk : X k l d G C P nL (pc + 3) ls st (up α (idS e u) 2 v) ρ) : X k l d G C P nL pc ls (.int v :: .ref (gA G (idS e u)) :: st) α ρ :=
  x_putc (f' := upd (α (idS e u)) 2 v) (ty := .int) K tyX4 tyX4_ok nmX4 (lt_S he hu) (sc_S he hu) (ent_S he hu) rfl inW4 2 (by decide) fk_X6_89 rfl rfl rfl rfl (Nat.le_of_ble_eq_true rfl) ((ent_S he hu).trans rfl) hdg kk
theorem gf_X0_87 {e u : Nat} (he : e < 3) (hu : u < 9) (K : Ok l d G C RX0 cc ret nL) (hdg : decode cc pc = .ok (.getfield 87, 3)) (kk : X k l d G C P nL (pc + 3) ls (.int (α (idS e u) 2) :: st) α ρ) : X k l d G C P nL pc ls (.ref (gA G (idS e u)) :: st) α ρ :=
  x_getc K (lt_S he hu) (sc_S he hu) (ent_S he hu) rfl inW4 2 (by decide) fk_X0_87 rfl hdg kk
theorem pf_X0_87 {e u : Nat} (he : e < 3) (hu : u < 9) (K : Ok l d G C RX0 cc ret nL) {v : Int32} (hdg : decode cc pc = .ok (.putfield 87, 3)) (kk : X k l d G C P nL (pc + 3) ls st (up α (idS e u) 2 v) ρ) : X k l d G C P nL pc ls (.int v :: .ref (gA G (idS e u)) :: st) α ρ :=
  x_putc (f' := upd (α (idS e u)) 2 v) (ty := .int) K tyX4 tyX4_ok nmX4 (lt_S he hu) (sc_S he hu) (ent_S he hu) rfl inW4 2 (by decide) fk_X0_87 rfl rfl rfl rfl (Nat.le_of_ble_eq_true rfl) ((ent_S he hu).trans rfl) hdg kk
theorem gf_X4_21 {e u : Nat} (he : e < 3) (hu : u < 9) (K : Ok l d G C RX4 cc ret nL) (hdg : decode cc pc = .ok (.getfield 21, 3)) (kk : X k l d G C P nL (pc + 3) ls (.int (α (idS e u) 3) :: st) α ρ) : X k l d G C P nL pc ls (.ref (gA G (idS e u)) :: st) α ρ :=
  x_getc K (lt_S he hu) (sc_S he hu) (ent_S he hu) rfl inW4 3 (by decide) fk_X4_21 rfl hdg kk
theorem pf_X4_21 {e u : Nat} (he : e < 3) (hu : u < 9) (K : Ok l d G C RX4 cc ret nL) {v : Int32} (hdg : decode cc pc = .ok (.putfield 21, 3)) (kk : X k l d G C P nL (pc + 3) ls st (up α (idS e u) 3 v) ρ) : X k l d G C P nL pc ls (.int v :: .ref (gA G (idS e u)) :: st) α ρ :=
  x_putc (f' := upd (α (idS e u)) 3 v) (ty := .int) K tyX4 tyX4_ok nmX4 (lt_S he hu) (sc_S he hu) (ent_S he hu) rfl inW4 3 (by decide) fk_X4_21 rfl rfl rfl rfl (Nat.le_of_ble_eq_true rfl) ((ent_S he hu).trans rfl) hdg kk
theorem gf_X6_92 {e u : Nat} (he : e < 3) (hu : u < 9) (K : Ok l d G C RX6 cc ret nL) (hdg : decode cc pc = .ok (.getfield 92, 3)) (kk : X k l d G C P nL (pc + 3) ls (.int (α (idS e u) 3) :: st) α ρ) : X k l d G C P nL pc ls (.ref (gA G (idS e u)) :: st) α ρ :=
  x_getc K (lt_S he hu) (sc_S he hu) (ent_S he hu) rfl inW4 3 (by decide) fk_X6_92 rfl hdg kk
theorem pf_X6_92 {e u : Nat} (he : e < 3) (hu : u < 9) (K : Ok l d G C RX6 cc ret nL) {v : Int32} (hdg : decode cc pc = .ok (.putfield 92, 3)) (kk : X k l d G C P nL (pc + 3) ls st (up α (idS e u) 3 v) ρ) : X k l d G C P nL pc ls (.int v :: .ref (gA G (idS e u)) :: st) α ρ :=
  x_putc (f' := upd (α (idS e u)) 3 v) (ty := .int) K tyX4 tyX4_ok nmX4 (lt_S he hu) (sc_S he hu) (ent_S he hu) rfl inW4 3 (by decide) fk_X6_92 rfl rfl rfl rfl (Nat.le_of_ble_eq_true rfl) ((ent_S he hu).trans rfl) hdg kk
theorem gf_X0_90 {e u : Nat} (he : e < 3) (hu : u < 9) (K : Ok l d G C RX0 cc ret nL) (hdg : decode cc pc = .ok (.getfield 90, 3)) (kk : X k l d G C P nL (pc + 3) ls (.int (α (idS e u) 3) :: st) α ρ) : X k l d G C P nL pc ls (.ref (gA G (idS e u)) :: st) α ρ :=
  x_getc K (lt_S he hu) (sc_S he hu) (ent_S he hu) rfl inW4 3 (by decide) fk_X0_90 rfl hdg kk
theorem pf_X0_90 {e u : Nat} (he : e < 3) (hu : u < 9) (K : Ok l d G C RX0 cc ret nL) {v : Int32} (hdg : decode cc pc = .ok (.putfield 90, 3)) (kk : X k l d G C P nL (pc + 3) ls st (up α (idS e u) 3 v) ρ) : X k l d G C P nL pc ls (.int v :: .ref (gA G (idS e u)) :: st) α ρ :=
  x_putc (f' := upd (α (idS e u)) 3 v) (ty := .int) K tyX4 tyX4_ok nmX4 (lt_S he hu) (sc_S he hu) (ent_S he hu) rfl inW4 3 (by decide) fk_X0_90 rfl rfl rfl rfl (Nat.le_of_ble_eq_true rfl) ((ent_S he hu).trans rfl) hdg kk
theorem gf_X4_24 {e u : Nat} (he : e < 3) (hu : u < 9) (K : Ok l d G C RX4 cc ret nL) (hdg : decode cc pc = .ok (.getfield 24, 3)) (kk : X k l d G C P nL (pc + 3) ls (.int (α (idS e u) 4) :: st) α ρ) : X k l d G C P nL pc ls (.ref (gA G (idS e u)) :: st) α ρ :=
  x_getc K (lt_S he hu) (sc_S he hu) (ent_S he hu) rfl inW4 4 (by decide) fk_X4_24 rfl hdg kk
theorem pf_X4_24 {e u : Nat} (he : e < 3) (hu : u < 9) (K : Ok l d G C RX4 cc ret nL) {v : Int32} (hdg : decode cc pc = .ok (.putfield 24, 3)) (kk : X k l d G C P nL (pc + 3) ls st (up α (idS e u) 4 v) ρ) : X k l d G C P nL pc ls (.int v :: .ref (gA G (idS e u)) :: st) α ρ :=
  x_putc (f' := upd (α (idS e u)) 4 v) (ty := .int) K tyX4 tyX4_ok nmX4 (lt_S he hu) (sc_S he hu) (ent_S he hu) rfl inW4 4 (by decide) fk_X4_24 rfl rfl rfl rfl (Nat.le_of_ble_eq_true rfl) ((ent_S he hu).trans rfl) hdg kk
theorem gf_X6_95 {e u : Nat} (he : e < 3) (hu : u < 9) (K : Ok l d G C RX6 cc ret nL) (hdg : decode cc pc = .ok (.getfield 95, 3)) (kk : X k l d G C P nL (pc + 3) ls (.int (α (idS e u) 4) :: st) α ρ) : X k l d G C P nL pc ls (.ref (gA G (idS e u)) :: st) α ρ :=
  x_getc K (lt_S he hu) (sc_S he hu) (ent_S he hu) rfl inW4 4 (by decide) fk_X6_95 rfl hdg kk
theorem pf_X6_95 {e u : Nat} (he : e < 3) (hu : u < 9) (K : Ok l d G C RX6 cc ret nL) {v : Int32} (hdg : decode cc pc = .ok (.putfield 95, 3)) (kk : X k l d G C P nL (pc + 3) ls st (up α (idS e u) 4 v) ρ) : X k l d G C P nL pc ls (.int v :: .ref (gA G (idS e u)) :: st) α ρ :=
  x_putc (f' := upd (α (idS e u)) 4 v) (ty := .int) K tyX4 tyX4_ok nmX4 (lt_S he hu) (sc_S he hu) (ent_S he hu) rfl inW4 4 (by decide) fk_X6_95 rfl rfl rfl rfl (Nat.le_of_ble_eq_true rfl) ((ent_S he hu).trans rfl) hdg kk
theorem gf_X0_127 {e u : Nat} (he : e < 3) (hu : u < 9) (K : Ok l d G C RX0 cc ret nL) (hdg : decode cc pc = .ok (.getfield 127, 3)) (kk : X k l d G C P nL (pc + 3) ls (.int (α (idS e u) 4) :: st) α ρ) : X k l d G C P nL pc ls (.ref (gA G (idS e u)) :: st) α ρ :=
  x_getc K (lt_S he hu) (sc_S he hu) (ent_S he hu) rfl inW4 4 (by decide) fk_X0_127 rfl hdg kk
theorem pf_X0_127 {e u : Nat} (he : e < 3) (hu : u < 9) (K : Ok l d G C RX0 cc ret nL) {v : Int32} (hdg : decode cc pc = .ok (.putfield 127, 3)) (kk : X k l d G C P nL (pc + 3) ls st (up α (idS e u) 4 v) ρ) : X k l d G C P nL pc ls (.int v :: .ref (gA G (idS e u)) :: st) α ρ :=
  x_putc (f' := upd (α (idS e u)) 4 v) (ty := .int) K tyX4 tyX4_ok nmX4 (lt_S he hu) (sc_S he hu) (ent_S he hu) rfl inW4 4 (by decide) fk_X0_127 rfl rfl rfl rfl (Nat.le_of_ble_eq_true rfl) ((ent_S he hu).trans rfl) hdg kk
theorem gf_X4_27 {e u : Nat} (he : e < 3) (hu : u < 9) (K : Ok l d G C RX4 cc ret nL) (hdg : decode cc pc = .ok (.getfield 27, 3)) (kk : X k l d G C P nL (pc + 3) ls (.int (α (idS e u) 5) :: st) α ρ) : X k l d G C P nL pc ls (.ref (gA G (idS e u)) :: st) α ρ :=
  x_getc K (lt_S he hu) (sc_S he hu) (ent_S he hu) rfl inW4 5 (by decide) fk_X4_27 rfl hdg kk
theorem pf_X4_27 {e u : Nat} (he : e < 3) (hu : u < 9) (K : Ok l d G C RX4 cc ret nL) {v : Int32} (hdg : decode cc pc = .ok (.putfield 27, 3)) (kk : X k l d G C P nL (pc + 3) ls st (up α (idS e u) 5 v) ρ) : X k l d G C P nL pc ls (.int v :: .ref (gA G (idS e u)) :: st) α ρ :=
  x_putc (f' := upd (α (idS e u)) 5 v) (ty := .int) K tyX4 tyX4_ok nmX4 (lt_S he hu) (sc_S he hu) (ent_S he hu) rfl inW4 5 (by decide) fk_X4_27 rfl rfl rfl rfl (Nat.le_of_ble_eq_true rfl) ((ent_S he hu).trans rfl) hdg kk
theorem gf_X6_98 {e u : Nat} (he : e < 3) (hu : u < 9) (K : Ok l d G C RX6 cc ret nL) (hdg : decode cc pc = .ok (.getfield 98, 3)) (kk : X k l d G C P nL (pc + 3) ls (.int (α (idS e u) 5) :: st) α ρ) : X k l d G C P nL pc ls (.ref (gA G (idS e u)) :: st) α ρ :=
  x_getc K (lt_S he hu) (sc_S he hu) (ent_S he hu) rfl inW4 5 (by decide) fk_X6_98 rfl hdg kk
theorem pf_X6_98 {e u : Nat} (he : e < 3) (hu : u < 9) (K : Ok l d G C RX6 cc ret nL) {v : Int32} (hdg : decode cc pc = .ok (.putfield 98, 3)) (kk : X k l d G C P nL (pc + 3) ls st (up α (idS e u) 5 v) ρ) : X k l d G C P nL pc ls (.int v :: .ref (gA G (idS e u)) :: st) α ρ :=
  x_putc (f' := upd (α (idS e u)) 5 v) (ty := .int) K tyX4 tyX4_ok nmX4 (lt_S he hu) (sc_S he hu) (ent_S he hu) rfl inW4 5 (by decide) fk_X6_98 rfl rfl rfl rfl (Nat.le_of_ble_eq_true rfl) ((ent_S he hu).trans rfl) hdg kk
theorem gf_X0_124 {e u : Nat} (he : e < 3) (hu : u < 9) (K : Ok l d G C RX0 cc ret nL) (hdg : decode cc pc = .ok (.getfield 124, 3)) (kk : X k l d G C P nL (pc + 3) ls (.int (α (idS e u) 5) :: st) α ρ) : X k l d G C P nL pc ls (.ref (gA G (idS e u)) :: st) α ρ :=
  x_getc K (lt_S he hu) (sc_S he hu) (ent_S he hu) rfl inW4 5 (by decide) fk_X0_124 rfl hdg kk
theorem pf_X0_124 {e u : Nat} (he : e < 3) (hu : u < 9) (K : Ok l d G C RX0 cc ret nL) {v : Int32} (hdg : decode cc pc = .ok (.putfield 124, 3)) (kk : X k l d G C P nL (pc + 3) ls st (up α (idS e u) 5 v) ρ) : X k l d G C P nL pc ls (.int v :: .ref (gA G (idS e u)) :: st) α ρ :=
  x_putc (f' := upd (α (idS e u)) 5 v) (ty := .int) K tyX4 tyX4_ok nmX4 (lt_S he hu) (sc_S he hu) (ent_S he hu) rfl inW4 5 (by decide) fk_X0_124 rfl rfl rfl rfl (Nat.le_of_ble_eq_true rfl) ((ent_S he hu).trans rfl) hdg kk
theorem gf_X4_30 {e u : Nat} (he : e < 3) (hu : u < 9) (K : Ok l d G C RX4 cc ret nL) (hdg : decode cc pc = .ok (.getfield 30, 3)) (kk : X k l d G C P nL (pc + 3) ls (.int (α (idS e u) 6) :: st) α ρ) : X k l d G C P nL pc ls (.ref (gA G (idS e u)) :: st) α ρ :=
  x_getc K (lt_S he hu) (sc_S he hu) (ent_S he hu) rfl inW4 6 (by decide) fk_X4_30 rfl hdg kk
theorem pf_X4_30 {e u : Nat} (he : e < 3) (hu : u < 9) (K : Ok l d G C RX4 cc ret nL) {v : Int32} (hb : narrow .boolean (.int v) = .int v ∧ fits .boolean (.int v) = true) (hdg : decode cc pc = .ok (.putfield 30, 3)) (kk : X k l d G C P nL (pc + 3) ls st (up α (idS e u) 6 v) ρ) : X k l d G C P nL pc ls (.int v :: .ref (gA G (idS e u)) :: st) α ρ :=
  x_putc (f' := upd (α (idS e u)) 6 v) (ty := .boolean) K tyX4 tyX4_ok nmX4 (lt_S he hu) (sc_S he hu) (ent_S he hu) rfl inW4 6 (by decide) fk_X4_30 rfl rfl hb.1 hb.2 (Nat.le_of_ble_eq_true rfl) ((ent_S he hu).trans rfl) hdg kk
theorem gf_X6_101 {e u : Nat} (he : e < 3) (hu : u < 9) (K : Ok l d G C RX6 cc ret nL) (hdg : decode cc pc = .ok (.getfield 101, 3)) (kk : X k l d G C P nL (pc + 3) ls (.int (α (idS e u) 6) :: st) α ρ) : X k l d G C P nL pc ls (.ref (gA G (idS e u)) :: st) α ρ :=
  x_getc K (lt_S he hu) (sc_S he hu) (ent_S he hu) rfl inW4 6 (by decide) fk_X6_101 rfl hdg kk
theorem pf_X6_101 {e u : Nat} (he : e < 3) (hu : u < 9) (K : Ok l d G C RX6 cc ret nL) {v : Int32} (hb : narrow .boolean (.int v) = .int v ∧ fits .boolean (.int v) = true) (hdg : decode cc pc = .ok (.putfield 101, 3)) (kk : X k l d G C P nL (pc + 3) ls st (up α (idS e u) 6 v) ρ) : X k l d G C P nL pc ls (.int v :: .ref (gA G (idS e u)) :: st) α ρ :=
  x_putc (f' := upd (α (idS e u)) 6 v) (ty := .boolean) K tyX4 tyX4_ok nmX4 (lt_S he hu) (sc_S he hu) (ent_S he hu) rfl inW4 6 (by decide) fk_X6_101 rfl rfl hb.1 hb.2 (Nat.le_of_ble_eq_true rfl) ((ent_S he hu).trans rfl) hdg kk
theorem gf_X0_110 {e u : Nat} (he : e < 3) (hu : u < 9) (K : Ok l d G C RX0 cc ret nL) (hdg : decode cc pc = .ok (.getfield 110, 3)) (kk : X k l d G C P nL (pc + 3) ls (.int (α (idS e u) 6) :: st) α ρ) : X k l d G C P nL pc ls (.ref (gA G (idS e u)) :: st) α ρ :=
  x_getc K (lt_S he hu) (sc_S he hu) (ent_S he hu) rfl inW4 6 (by decide) fk_X0_110 rfl hdg kk
theorem pf_X0_110 {e u : Nat} (he : e < 3) (hu : u < 9) (K : Ok l d G C RX0 cc ret nL) {v : Int32} (hb : narrow .boolean (.int v) = .int v ∧ fits .boolean (.int v) = true) (hdg : decode cc pc = .ok (.putfield 110, 3)) (kk : X k l d G C P nL (pc + 3) ls st (up α (idS e u) 6 v) ρ) : X k l d G C P nL pc ls (.int v :: .ref (gA G (idS e u)) :: st) α ρ :=
  x_putc (f' := upd (α (idS e u)) 6 v) (ty := .boolean) K tyX4 tyX4_ok nmX4 (lt_S he hu) (sc_S he hu) (ent_S he hu) rfl inW4 6 (by decide) fk_X0_110 rfl rfl hb.1 hb.2 (Nat.le_of_ble_eq_true rfl) ((ent_S he hu).trans rfl) hdg kk
theorem gf_X1_9 {e u : Nat} (he : e < 3) (hu : u < 2) (K : Ok l d G C RX1 cc ret nL) (hdg : decode cc pc = .ok (.getfield 9, 3)) (kk : X k l d G C P nL (pc + 3) ls (.int (α (idL e u) 0) :: st) α ρ) : X k l d G C P nL pc ls (.ref (gA G (idL e u)) :: st) α ρ :=
  x_getc K (lt_L he hu) (sc_L he hu) (ent_L he hu) rfl inW1 0 (by decide) fk_X1_9 rfl hdg kk
theorem pf_X1_9 {e u : Nat} (he : e < 3) (hu : u < 2) (K : Ok l d G C RX1 cc ret nL) {v : Int32} (hb : narrow .boolean (.int v) = .int v ∧ fits .boolean (.int v) = true) (hdg : decode cc pc = .ok (.putfield 9, 3)) (kk : X k l d G C P nL (pc + 3) ls st (up α (idL e u) 0 v) ρ) : X k l d G C P nL pc ls (.int v :: .ref (gA G (idL e u)) :: st) α ρ :=
  x_putc (f' := upd (α (idL e u)) 0 v) (ty := .boolean) K tyX1 tyX1_ok nmX1 (lt_L he hu) (sc_L he hu) (ent_L he hu) rfl inW1 0 (by decide) fk_X1_9 rfl rfl hb.1 hb.2 (Nat.le_of_ble_eq_true rfl) ((ent_L he hu).trans rfl) hdg kk
theorem gf_X0_95 {e u : Nat} (he : e < 3) (hu : u < 2) (K : Ok l d G C RX0 cc ret nL) (hdg : decode cc pc = .ok (.getfield 95, 3)) (kk : X k l d G C P nL (pc + 3) ls (.int (α (idL e u) 0) :: st) α ρ) : X k l d G C P nL pc ls (.ref (gA G (idL e u)) :: st) α ρ :=
  x_getc K (lt_L he hu) (sc_L he hu) (ent_L he hu) rfl inW1 0 (by decide) fk_X0_95 rfl hdg kk
theorem pf_X0_95 {e u : Nat} (he : e < 3) (hu : u < 2) (K : Ok l d G C RX0 cc ret nL) {v : Int32} (hb : narrow .boolean (.int v) = .int v ∧ fits .boolean (.int v) = true) (hdg : decode cc pc = .ok (.putfield 95, 3)) (kk : X k l d G C P nL (pc + 3) ls st (up α (idL e u) 0 v) ρ) : X k l d G C P nL pc ls (.int v :: .ref (gA G (idL e u)) :: st) α ρ :=
  x_putc (f' := upd (α (idL e u)) 0 v) (ty := .boolean) K tyX1 tyX1_ok nmX1 (lt_L he hu) (sc_L he hu) (ent_L he hu) rfl inW1 0 (by decide) fk_X0_95 rfl rfl hb.1 hb.2 (Nat.le_of_ble_eq_true rfl) ((ent_L he hu).trans rfl) hdg kk
theorem gf_X6_171 {e u : Nat} (he : e < 3) (hu : u < 2) (K : Ok l d G C RX6 cc ret nL) (hdg : decode cc pc = .ok (.getfield 171, 3)) (kk : X k l d G C P nL (pc + 3) ls (.int (α (idL e u) 0) :: st) α ρ) : X k l d G C P nL pc ls (.ref (gA G (idL e u)) :: st) α ρ :=
  x_getc K (lt_L he hu) (sc_L he hu) (ent_L he hu) rfl inW1 0 (by decide) fk_X6_171 rfl hdg kk
theorem pf_X6_171 {e u : Nat} (he : e < 3) (hu : u < 2) (K : Ok l d G C RX6 cc ret nL) {v : Int32} (hb : narrow .boolean (.int v) = .int v ∧ fits .boolean (.int v) = true) (hdg : decode cc pc = .ok (.putfield 171, 3)) (kk : X k l d G C P nL (pc + 3) ls st (up α (idL e u) 0 v) ρ) : X k l d G C P nL pc ls (.int v :: .ref (gA G (idL e u)) :: st) α ρ :=
  x_putc (f' := upd (α (idL e u)) 0 v) (ty := .boolean) K tyX1 tyX1_ok nmX1 (lt_L he hu) (sc_L he hu) (ent_L he hu) rfl inW1 0 (by decide) fk_X6_171 rfl rfl hb.1 hb.2 (Nat.le_of_ble_eq_true rfl) ((ent_L he hu).trans rfl) hdg kk
theorem gf_X1_15 {e u : Nat} (he : e < 3) (hu : u < 2) (K : Ok l d G C RX1 cc ret nL) (hdg : decode cc pc = .ok (.getfield 15, 3)) (kk : X k l d G C P nL (pc + 3) ls (.int (α (idL e u) 1) :: st) α ρ) : X k l d G C P nL pc ls (.ref (gA G (idL e u)) :: st) α ρ :=
  x_getc K (lt_L he hu) (sc_L he hu) (ent_L he hu) rfl inW1 1 (by decide) fk_X1_15 rfl hdg kk
theorem pf_X1_15 {e u : Nat} (he : e < 3) (hu : u < 2) (K : Ok l d G C RX1 cc ret nL) {v : Int32} (hdg : decode cc pc = .ok (.putfield 15, 3)) (kk : X k l d G C P nL (pc + 3) ls st (up α (idL e u) 1 v) ρ) : X k l d G C P nL pc ls (.int v :: .ref (gA G (idL e u)) :: st) α ρ :=
  x_putc (f' := upd (α (idL e u)) 1 v) (ty := .int) K tyX1 tyX1_ok nmX1 (lt_L he hu) (sc_L he hu) (ent_L he hu) rfl inW1 1 (by decide) fk_X1_15 rfl rfl rfl rfl (Nat.le_of_ble_eq_true rfl) ((ent_L he hu).trans rfl) hdg kk
theorem gf_X1_19 {e u : Nat} (he : e < 3) (hu : u < 2) (K : Ok l d G C RX1 cc ret nL) (hdg : decode cc pc = .ok (.getfield 19, 3)) (kk : X k l d G C P nL (pc + 3) ls (.ref (gA G (idLc e u)) :: st) α ρ) : X k l d G C P nL pc ls (.ref (gA G (idL e u)) :: st) α ρ :=
  x_getc K (lt_L he hu) (sc_L he hu) (ent_L he hu) rfl inW1 2 (by decide) fk_X1_19 rfl hdg kk
theorem gf_X1_23 {e u : Nat} (he : e < 3) (hu : u < 2) (K : Ok l d G C RX1 cc ret nL) (hdg : decode cc pc = .ok (.getfield 23, 3)) (kk : X k l d G C P nL (pc + 3) ls (.ref (gA G (idLo e u)) :: st) α ρ) : X k l d G C P nL pc ls (.ref (gA G (idL e u)) :: st) α ρ :=
  x_getc K (lt_L he hu) (sc_L he hu) (ent_L he hu) rfl inW1 3 (by decide) fk_X1_23 rfl hdg kk
theorem gf_X0_11 {e : Nat} (he : e < 3) (K : Ok l d G C RX0 cc ret nL) (hdg : decode cc pc = .ok (.getfield 11, 3)) (kk : X k l d G C P nL (pc + 3) ls (.ref (gA G (idSp e)) :: st) α ρ) : X k l d G C P nL pc ls (.ref (gA G (idD e)) :: st) α ρ :=
  x_getc K (lt_D he) (sc_D he) (ent_D he) rfl inW0 0 (by decide) fk_X0_11 rfl hdg kk
theorem gf_X6_77 {e : Nat} (he : e < 3) (K : Ok l d G C RX6 cc ret nL) (hdg : decode cc pc = .ok (.getfield 77, 3)) (kk : X k l d G C P nL (pc + 3) ls (.ref (gA G (idSp e)) :: st) α ρ) : X k l d G C P nL pc ls (.ref (gA G (idD e)) :: st) α ρ :=
  x_getc K (lt_D he) (sc_D he) (ent_D he) rfl inW0 0 (by decide) fk_X6_77 rfl hdg kk
theorem gf_X0_17 {e : Nat} (he : e < 3) (K : Ok l d G C RX0 cc ret nL) (hdg : decode cc pc = .ok (.getfield 17, 3)) (kk : X k l d G C P nL (pc + 3) ls (.int (α (idD e) 1) :: st) α ρ) : X k l d G C P nL pc ls (.ref (gA G (idD e)) :: st) α ρ :=
  x_getc K (lt_D he) (sc_D he) (ent_D he) rfl inW0 1 (by decide) fk_X0_17 rfl hdg kk
theorem pf_X0_17 {e : Nat} (he : e < 3) (K : Ok l d G C RX0 cc ret nL) {v : Int32} (hdg : decode cc pc = .ok (.putfield 17, 3)) (kk : X k l d G C P nL (pc + 3) ls st (up α (idD e) 1 v) ρ) : X k l d G C P nL pc ls (.int v :: .ref (gA G (idD e)) :: st) α ρ :=
  x_putc (f' := upd (α (idD e)) 1 v) (ty := .int) K tyX0 tyX0_ok nmX0 (lt_D he) (sc_D he) (ent_D he) rfl inW0 1 (by decide) fk_X0_17 rfl rfl rfl rfl (Nat.le_of_ble_eq_true rfl) ((ent_D he).trans rfl) hdg kk
theorem gf_X6_63 {e : Nat} (he : e < 3) (K : Ok l d G C RX6 cc ret nL) (hdg : decode cc pc = .ok (.getfield 63, 3)) (kk : X k l d G C P nL (pc + 3) ls (.int (α (idD e) 1) :: st) α ρ) : X k l d G C P nL pc ls (.ref (gA G (idD e)) :: st) α ρ :=
  x_getc K (lt_D he) (sc_D he) (ent_D he) rfl inW0 1 (by decide) fk_X6_63 rfl hdg kk
theorem pf_X6_63 {e : Nat} (he : e < 3) (K : Ok l d G C RX6 cc ret nL) {v : Int32} (hdg : decode cc pc = .ok (.putfield 63, 3)) (kk : X k l d G C P nL (pc + 3) ls st (up α (idD e) 1 v) ρ) : X k l d G C P nL pc ls (.int v :: .ref (gA G (idD e)) :: st) α ρ :=
  x_putc (f' := upd (α (idD e)) 1 v) (ty := .int) K tyX0 tyX0_ok nmX0 (lt_D he) (sc_D he) (ent_D he) rfl inW0 1 (by decide) fk_X6_63 rfl rfl rfl rfl (Nat.le_of_ble_eq_true rfl) ((ent_D he).trans rfl) hdg kk
theorem gf_X0_21 {e : Nat} (he : e < 3) (K : Ok l d G C RX0 cc ret nL) (hdg : decode cc pc = .ok (.getfield 21, 3)) (kk : X k l d G C P nL (pc + 3) ls (.int (α (idD e) 2) :: st) α ρ) : X k l d G C P nL pc ls (.ref (gA G (idD e)) :: st) α ρ :=
  x_getc K (lt_D he) (sc_D he) (ent_D he) rfl inW0 2 (by decide) fk_X0_21 rfl hdg kk
theorem pf_X0_21 {e : Nat} (he : e < 3) (K : Ok l d G C RX0 cc ret nL) {v : Int32} (hdg : decode cc pc = .ok (.putfield 21, 3)) (kk : X k l d G C P nL (pc + 3) ls st (up α (idD e) 2 v) ρ) : X k l d G C P nL pc ls (.int v :: .ref (gA G (idD e)) :: st) α ρ :=
  x_putc (f' := upd (α (idD e)) 2 v) (ty := .int) K tyX0 tyX0_ok nmX0 (lt_D he) (sc_D he) (ent_D he) rfl inW0 2 (by decide) fk_X0_21 rfl rfl rfl rfl (Nat.le_of_ble_eq_true rfl) ((ent_D he).trans rfl) hdg kk
theorem gf_X6_124 {e : Nat} (he : e < 3) (K : Ok l d G C RX6 cc ret nL) (hdg : decode cc pc = .ok (.getfield 124, 3)) (kk : X k l d G C P nL (pc + 3) ls (.int (α (idD e) 2) :: st) α ρ) : X k l d G C P nL pc ls (.ref (gA G (idD e)) :: st) α ρ :=
  x_getc K (lt_D he) (sc_D he) (ent_D he) rfl inW0 2 (by decide) fk_X6_124 rfl hdg kk
theorem pf_X6_124 {e : Nat} (he : e < 3) (K : Ok l d G C RX6 cc ret nL) {v : Int32} (hdg : decode cc pc = .ok (.putfield 124, 3)) (kk : X k l d G C P nL (pc + 3) ls st (up α (idD e) 2 v) ρ) : X k l d G C P nL pc ls (.int v :: .ref (gA G (idD e)) :: st) α ρ :=
  x_putc (f' := upd (α (idD e)) 2 v) (ty := .int) K tyX0 tyX0_ok nmX0 (lt_D he) (sc_D he) (ent_D he) rfl inW0 2 (by decide) fk_X6_124 rfl rfl rfl rfl (Nat.le_of_ble_eq_true rfl) ((ent_D he).trans rfl) hdg kk
theorem gf_X0_24 {e : Nat} (he : e < 3) (K : Ok l d G C RX0 cc ret nL) (hdg : decode cc pc = .ok (.getfield 24, 3)) (kk : X k l d G C P nL (pc + 3) ls (.int (α (idD e) 3) :: st) α ρ) : X k l d G C P nL pc ls (.ref (gA G (idD e)) :: st) α ρ :=
  x_getc K (lt_D he) (sc_D he) (ent_D he) rfl inW0 3 (by decide) fk_X0_24 rfl hdg kk
theorem pf_X0_24 {e : Nat} (he : e < 3) (K : Ok l d G C RX0 cc ret nL) {v : Int32} (hdg : decode cc pc = .ok (.putfield 24, 3)) (kk : X k l d G C P nL (pc + 3) ls st (up α (idD e) 3 v) ρ) : X k l d G C P nL pc ls (.int v :: .ref (gA G (idD e)) :: st) α ρ :=
  x_putc (f' := upd (α (idD e)) 3 v) (ty := .int) K tyX0 tyX0_ok nmX0 (lt_D he) (sc_D he) (ent_D he) rfl inW0 3 (by decide) fk_X0_24 rfl rfl rfl rfl (Nat.le_of_ble_eq_true rfl) ((ent_D he).trans rfl) hdg kk
theorem gf_X6_118 {e : Nat} (he : e < 3) (K : Ok l d G C RX6 cc ret nL) (hdg : decode cc pc = .ok (.getfield 118, 3)) (kk : X k l d G C P nL (pc + 3) ls (.int (α (idD e) 3) :: st) α ρ) : X k l d G C P nL pc ls (.ref (gA G (idD e)) :: st) α ρ :=
  x_getc K (lt_D he) (sc_D he) (ent_D he) rfl inW0 3 (by decide) fk_X6_118 rfl hdg kk
theorem pf_X6_118 {e : Nat} (he : e < 3) (K : Ok l d G C RX6 cc ret nL) {v : Int32} (hdg : decode cc pc = .ok (.putfield 118, 3)) (kk : X k l d G C P nL (pc + 3) ls st (up α (idD e) 3 v) ρ) : X k l d G C P nL pc ls (.int v :: .ref (gA G (idD e)) :: st) α ρ :=
  x_putc (f' := upd (α (idD e)) 3 v) (ty := .int) K tyX0 tyX0_ok nmX0 (lt_D he) (sc_D he) (ent_D he) rfl inW0 3 (by decide) fk_X6_118 rfl rfl rfl rfl (Nat.le_of_ble_eq_true rfl) ((ent_D he).trans rfl) hdg kk
theorem gf_X0_27 {e : Nat} (he : e < 3) (K : Ok l d G C RX0 cc ret nL) (hdg : decode cc pc = .ok (.getfield 27, 3)) (kk : X k l d G C P nL (pc + 3) ls (.int (α (idD e) 4) :: st) α ρ) : X k l d G C P nL pc ls (.ref (gA G (idD e)) :: st) α ρ :=
  x_getc K (lt_D he) (sc_D he) (ent_D he) rfl inW0 4 (by decide) fk_X0_27 rfl hdg kk
theorem pf_X0_27 {e : Nat} (he : e < 3) (K : Ok l d G C RX0 cc ret nL) {v : Int32} (hdg : decode cc pc = .ok (.putfield 27, 3)) (kk : X k l d G C P nL (pc + 3) ls st (up α (idD e) 4 v) ρ) : X k l d G C P nL pc ls (.int v :: .ref (gA G (idD e)) :: st) α ρ :=
  x_putc (f' := upd (α (idD e)) 4 v) (ty := .int) K tyX0 tyX0_ok nmX0 (lt_D he) (sc_D he) (ent_D he) rfl inW0 4 (by decide) fk_X0_27 rfl rfl rfl rfl (Nat.le_of_ble_eq_true rfl) ((ent_D he).trans rfl) hdg kk
theorem gf_X6_105 {e : Nat} (he : e < 3) (K : Ok l d G C RX6 cc ret nL) (hdg : decode cc pc = .ok (.getfield 105, 3)) (kk : X k l d G C P nL (pc + 3) ls (.int (α (idD e) 4) :: st) α ρ) : X k l d G C P nL pc ls (.ref (gA G (idD e)) :: st) α ρ :=
  x_getc K (lt_D he) (sc_D he) (ent_D he) rfl inW0 4 (by decide) fk_X6_105 rfl hdg kk
theorem pf_X6_105 {e : Nat} (he : e < 3) (K : Ok l d G C RX6 cc ret nL) {v : Int32} (hdg : decode cc pc = .ok (.putfield 105, 3)) (kk : X k l d G C P nL (pc + 3) ls st (up α (idD e) 4 v) ρ) : X k l d G C P nL pc ls (.int v :: .ref (gA G (idD e)) :: st) α ρ :=
  x_putc (f' := upd (α (idD e)) 4 v) (ty := .int) K tyX0 tyX0_ok nmX0 (lt_D he) (sc_D he) (ent_D he) rfl inW0 4 (by decide) fk_X6_105 rfl rfl rfl rfl (Nat.le_of_ble_eq_true rfl) ((ent_D he).trans rfl) hdg kk
theorem gf_X0_30 {e : Nat} (he : e < 3) (K : Ok l d G C RX0 cc ret nL) (hdg : decode cc pc = .ok (.getfield 30, 3)) (kk : X k l d G C P nL (pc + 3) ls (.int (α (idD e) 5) :: st) α ρ) : X k l d G C P nL pc ls (.ref (gA G (idD e)) :: st) α ρ :=
  x_getc K (lt_D he) (sc_D he) (ent_D he) rfl inW0 5 (by decide) fk_X0_30 rfl hdg kk
theorem pf_X0_30 {e : Nat} (he : e < 3) (K : Ok l d G C RX0 cc ret nL) {v : Int32} (hdg : decode cc pc = .ok (.putfield 30, 3)) (kk : X k l d G C P nL (pc + 3) ls st (up α (idD e) 5 v) ρ) : X k l d G C P nL pc ls (.int v :: .ref (gA G (idD e)) :: st) α ρ :=
  x_putc (f' := upd (α (idD e)) 5 v) (ty := .int) K tyX0 tyX0_ok nmX0 (lt_D he) (sc_D he) (ent_D he) rfl inW0 5 (by decide) fk_X0_30 rfl rfl rfl rfl (Nat.le_of_ble_eq_true rfl) ((ent_D he).trans rfl) hdg kk
theorem gf_X6_277 {e : Nat} (he : e < 3) (K : Ok l d G C RX6 cc ret nL) (hdg : decode cc pc = .ok (.getfield 277, 3)) (kk : X k l d G C P nL (pc + 3) ls (.int (α (idD e) 5) :: st) α ρ) : X k l d G C P nL pc ls (.ref (gA G (idD e)) :: st) α ρ :=
  x_getc K (lt_D he) (sc_D he) (ent_D he) rfl inW0 5 (by decide) fk_X6_277 rfl hdg kk
theorem pf_X6_277 {e : Nat} (he : e < 3) (K : Ok l d G C RX6 cc ret nL) {v : Int32} (hdg : decode cc pc = .ok (.putfield 277, 3)) (kk : X k l d G C P nL (pc + 3) ls st (up α (idD e) 5 v) ρ) : X k l d G C P nL pc ls (.int v :: .ref (gA G (idD e)) :: st) α ρ :=
  x_putc (f' := upd (α (idD e)) 5 v) (ty := .int) K tyX0 tyX0_ok nmX0 (lt_D he) (sc_D he) (ent_D he) rfl inW0 5 (by decide) fk_X6_277 rfl rfl rfl rfl (Nat.le_of_ble_eq_true rfl) ((ent_D he).trans rfl) hdg kk
theorem gf_X0_33 {e : Nat} (he : e < 3) (K : Ok l d G C RX0 cc ret nL) (hdg : decode cc pc = .ok (.getfield 33, 3)) (kk : X k l d G C P nL (pc + 3) ls (.int (α (idD e) 6) :: st) α ρ) : X k l d G C P nL pc ls (.ref (gA G (idD e)) :: st) α ρ :=
  x_getc K (lt_D he) (sc_D he) (ent_D he) rfl inW0 6 (by decide) fk_X0_33 rfl hdg kk
theorem pf_X0_33 {e : Nat} (he : e < 3) (K : Ok l d G C RX0 cc ret nL) {v : Int32} (hdg : decode cc pc = .ok (.putfield 33, 3)) (kk : X k l d G C P nL (pc + 3) ls st (up α (idD e) 6 v) ρ) : X k l d G C P nL pc ls (.int v :: .ref (gA G (idD e)) :: st) α ρ :=
  x_putc (f' := upd (α (idD e)) 6 v) (ty := .int) K tyX0 tyX0_ok nmX0 (lt_D he) (sc_D he) (ent_D he) rfl inW0 6 (by decide) fk_X0_33 rfl rfl rfl rfl (Nat.le_of_ble_eq_true rfl) ((ent_D he).trans rfl) hdg kk
theorem gf_X6_280 {e : Nat} (he : e < 3) (K : Ok l d G C RX6 cc ret nL) (hdg : decode cc pc = .ok (.getfield 280, 3)) (kk : X k l d G C P nL (pc + 3) ls (.int (α (idD e) 6) :: st) α ρ) : X k l d G C P nL pc ls (.ref (gA G (idD e)) :: st) α ρ :=
  x_getc K (lt_D he) (sc_D he) (ent_D he) rfl inW0 6 (by decide) fk_X6_280 rfl hdg kk
theorem pf_X6_280 {e : Nat} (he : e < 3) (K : Ok l d G C RX6 cc ret nL) {v : Int32} (hdg : decode cc pc = .ok (.putfield 280, 3)) (kk : X k l d G C P nL (pc + 3) ls st (up α (idD e) 6 v) ρ) : X k l d G C P nL pc ls (.int v :: .ref (gA G (idD e)) :: st) α ρ :=
  x_putc (f' := upd (α (idD e)) 6 v) (ty := .int) K tyX0 tyX0_ok nmX0 (lt_D he) (sc_D he) (ent_D he) rfl inW0 6 (by decide) fk_X6_280 rfl rfl rfl rfl (Nat.le_of_ble_eq_true rfl) ((ent_D he).trans rfl) hdg kk
theorem gf_X0_36 {e : Nat} (he : e < 3) (K : Ok l d G C RX0 cc ret nL) (hdg : decode cc pc = .ok (.getfield 36, 3)) (kk : X k l d G C P nL (pc + 3) ls (.int (α (idD e) 7) :: st) α ρ) : X k l d G C P nL pc ls (.ref (gA G (idD e)) :: st) α ρ :=
  x_getc K (lt_D he) (sc_D he) (ent_D he) rfl inW0 7 (by decide) fk_X0_36 rfl hdg kk
theorem pf_X0_36 {e : Nat} (he : e < 3) (K : Ok l d G C RX0 cc ret nL) {v : Int32} (hdg : decode cc pc = .ok (.putfield 36, 3)) (kk : X k l d G C P nL (pc + 3) ls st (up α (idD e) 7 v) ρ) : X k l d G C P nL pc ls (.int v :: .ref (gA G (idD e)) :: st) α ρ :=
  x_putc (f' := upd (α (idD e)) 7 v) (ty := .int) K tyX0 tyX0_ok nmX0 (lt_D he) (sc_D he) (ent_D he) rfl inW0 7 (by decide) fk_X0_36 rfl rfl rfl rfl (Nat.le_of_ble_eq_true rfl) ((ent_D he).trans rfl) hdg kk
theorem gf_X6_184 {e : Nat} (he : e < 3) (K : Ok l d G C RX6 cc ret nL) (hdg : decode cc pc = .ok (.getfield 184, 3)) (kk : X k l d G C P nL (pc + 3) ls (.int (α (idD e) 7) :: st) α ρ) : X k l d G C P nL pc ls (.ref (gA G (idD e)) :: st) α ρ :=
  x_getc K (lt_D he) (sc_D he) (ent_D he) rfl inW0 7 (by decide) fk_X6_184 rfl hdg kk
theorem pf_X6_184 {e : Nat} (he : e < 3) (K : Ok l d G C RX6 cc ret nL) {v : Int32} (hdg : decode cc pc = .ok (.putfield 184, 3)) (kk : X k l d G C P nL (pc + 3) ls st (up α (idD e) 7 v) ρ) : X k l d G C P nL pc ls (.int v :: .ref (gA G (idD e)) :: st) α ρ :=
  x_putc (f' := upd (α (idD e)) 7 v) (ty := .int) K tyX0 tyX0_ok nmX0 (lt_D he) (sc_D he) (ent_D he) rfl inW0 7 (by decide) fk_X6_184 rfl rfl rfl rfl (Nat.le_of_ble_eq_true rfl) ((ent_D he).trans rfl) hdg kk
theorem gf_X0_41 {e : Nat} (he : e < 3) (K : Ok l d G C RX0 cc ret nL) (hdg : decode cc pc = .ok (.getfield 41, 3)) (kk : X k l d G C P nL (pc + 3) ls (.ref (gA G (idLw e)) :: st) α ρ) : X k l d G C P nL pc ls (.ref (gA G (idD e)) :: st) α ρ :=
  x_getc K (lt_D he) (sc_D he) (ent_D he) rfl inW0 8 (by decide) fk_X0_41 rfl hdg kk
theorem gf_X6_155 {e : Nat} (he : e < 3) (K : Ok l d G C RX6 cc ret nL) (hdg : decode cc pc = .ok (.getfield 155, 3)) (kk : X k l d G C P nL (pc + 3) ls (.ref (gA G (idLw e)) :: st) α ρ) : X k l d G C P nL pc ls (.ref (gA G (idD e)) :: st) α ρ :=
  x_getc K (lt_D he) (sc_D he) (ent_D he) rfl inW0 8 (by decide) fk_X6_155 rfl hdg kk
theorem gf_X0_45 {e : Nat} (he : e < 3) (K : Ok l d G C RX0 cc ret nL) (hdg : decode cc pc = .ok (.getfield 45, 3)) (kk : X k l d G C P nL (pc + 3) ls (.ref (gA G (idTp e)) :: st) α ρ) : X k l d G C P nL pc ls (.ref (gA G (idD e)) :: st) α ρ :=
  x_getc K (lt_D he) (sc_D he) (ent_D he) rfl inW0 9 (by decide) fk_X0_45 rfl hdg kk
theorem gf_X6_144 {e : Nat} (he : e < 3) (K : Ok l d G C RX6 cc ret nL) (hdg : decode cc pc = .ok (.getfield 144, 3)) (kk : X k l d G C P nL (pc + 3) ls (.ref (gA G (idTp e)) :: st) α ρ) : X k l d G C P nL pc ls (.ref (gA G (idD e)) :: st) α ρ :=
  x_getc K (lt_D he) (sc_D he) (ent_D he) rfl inW0 9 (by decide) fk_X6_144 rfl hdg kk
theorem gf_X0_49 {e : Nat} (he : e < 3) (K : Ok l d G C RX0 cc ret nL) (hdg : decode cc pc = .ok (.getfield 49, 3)) (kk : X k l d G C P nL (pc + 3) ls (.int (α (idD e) 10) :: st) α ρ) : X k l d G C P nL pc ls (.ref (gA G (idD e)) :: st) α ρ :=
  x_getc K (lt_D he) (sc_D he) (ent_D he) rfl inW0 10 (by decide) fk_X0_49 rfl hdg kk
theorem pf_X0_49 {e : Nat} (he : e < 3) (K : Ok l d G C RX0 cc ret nL) {v : Int32} (hdg : decode cc pc = .ok (.putfield 49, 3)) (kk : X k l d G C P nL (pc + 3) ls st (up α (idD e) 10 v) ρ) : X k l d G C P nL pc ls (.int v :: .ref (gA G (idD e)) :: st) α ρ :=
  x_putc (f' := upd (α (idD e)) 10 v) (ty := .int) K tyX0 tyX0_ok nmX0 (lt_D he) (sc_D he) (ent_D he) rfl inW0 10 (by decide) fk_X0_49 rfl rfl rfl rfl (Nat.le_of_ble_eq_true rfl) ((ent_D he).trans rfl) hdg kk
theorem gf_X6_134 {e : Nat} (he : e < 3) (K : Ok l d G C RX6 cc ret nL) (hdg : decode cc pc = .ok (.getfield 134, 3)) (kk : X k l d G C P nL (pc + 3) ls (.int (α (idD e) 10) :: st) α ρ) : X k l d G C P nL pc ls (.ref (gA G (idD e)) :: st) α ρ :=
  x_getc K (lt_D he) (sc_D he) (ent_D he) rfl inW0 10 (by decide) fk_X6_134 rfl hdg kk
theorem pf_X6_134 {e : Nat} (he : e < 3) (K : Ok l d G C RX6 cc ret nL) {v : Int32} (hdg : decode cc pc = .ok (.putfield 134, 3)) (kk : X k l d G C P nL (pc + 3) ls st (up α (idD e) 10 v) ρ) : X k l d G C P nL pc ls (.int v :: .ref (gA G (idD e)) :: st) α ρ :=
  x_putc (f' := upd (α (idD e)) 10 v) (ty := .int) K tyX0 tyX0_ok nmX0 (lt_D he) (sc_D he) (ent_D he) rfl inW0 10 (by decide) fk_X6_134 rfl rfl rfl rfl (Nat.le_of_ble_eq_true rfl) ((ent_D he).trans rfl) hdg kk
theorem gf_X0_52 {e : Nat} (he : e < 3) (K : Ok l d G C RX0 cc ret nL) (hdg : decode cc pc = .ok (.getfield 52, 3)) (kk : X k l d G C P nL (pc + 3) ls (.ref (gA G (idWt e)) :: st) α ρ) : X k l d G C P nL pc ls (.ref (gA G (idD e)) :: st) α ρ :=
  x_getc K (lt_D he) (sc_D he) (ent_D he) rfl inW0 11 (by decide) fk_X0_52 rfl hdg kk
theorem gf_X6_274 {e : Nat} (he : e < 3) (K : Ok l d G C RX6 cc ret nL) (hdg : decode cc pc = .ok (.getfield 274, 3)) (kk : X k l d G C P nL (pc + 3) ls (.ref (gA G (idWt e)) :: st) α ρ) : X k l d G C P nL pc ls (.ref (gA G (idD e)) :: st) α ρ :=
  x_getc K (lt_D he) (sc_D he) (ent_D he) rfl inW0 11 (by decide) fk_X6_274 rfl hdg kk
theorem gf_X0_56 {e : Nat} (he : e < 3) (K : Ok l d G C RX0 cc ret nL) (hdg : decode cc pc = .ok (.getfield 56, 3)) (kk : X k l d G C P nL (pc + 3) ls (.int (α (idD e) 12) :: st) α ρ) : X k l d G C P nL pc ls (.ref (gA G (idD e)) :: st) α ρ :=
  x_getc K (lt_D he) (sc_D he) (ent_D he) rfl inW0 12 (by decide) fk_X0_56 rfl hdg kk
theorem pf_X0_56 {e : Nat} (he : e < 3) (K : Ok l d G C RX0 cc ret nL) {v : Int32} (hdg : decode cc pc = .ok (.putfield 56, 3)) (kk : X k l d G C P nL (pc + 3) ls st (up α (idD e) 12 v) ρ) : X k l d G C P nL pc ls (.int v :: .ref (gA G (idD e)) :: st) α ρ :=
  x_putc (f' := upd (α (idD e)) 12 v) (ty := .int) K tyX0 tyX0_ok nmX0 (lt_D he) (sc_D he) (ent_D he) rfl inW0 12 (by decide) fk_X0_56 rfl rfl rfl rfl (Nat.le_of_ble_eq_true rfl) ((ent_D he).trans rfl) hdg kk
theorem gf_X6_271 {e : Nat} (he : e < 3) (K : Ok l d G C RX6 cc ret nL) (hdg : decode cc pc = .ok (.getfield 271, 3)) (kk : X k l d G C P nL (pc + 3) ls (.int (α (idD e) 12) :: st) α ρ) : X k l d G C P nL pc ls (.ref (gA G (idD e)) :: st) α ρ :=
  x_getc K (lt_D he) (sc_D he) (ent_D he) rfl inW0 12 (by decide) fk_X6_271 rfl hdg kk
theorem pf_X6_271 {e : Nat} (he : e < 3) (K : Ok l d G C RX6 cc ret nL) {v : Int32} (hdg : decode cc pc = .ok (.putfield 271, 3)) (kk : X k l d G C P nL (pc + 3) ls st (up α (idD e) 12 v) ρ) : X k l d G C P nL pc ls (.int v :: .ref (gA G (idD e)) :: st) α ρ :=
  x_putc (f' := upd (α (idD e)) 12 v) (ty := .int) K tyX0 tyX0_ok nmX0 (lt_D he) (sc_D he) (ent_D he) rfl inW0 12 (by decide) fk_X6_271 rfl rfl rfl rfl (Nat.le_of_ble_eq_true rfl) ((ent_D he).trans rfl) hdg kk
theorem gf_X2_9   (K : Ok l d G C RX2 cc ret nL) (hdg : decode cc pc = .ok (.getfield 9, 3)) (kk : X k l d G C P nL (pc + 3) ls (.ref (gA G (idRc)) :: st) α ρ) : X k l d G C P nL pc ls (.ref (gA G (idR)) :: st) α ρ :=
  x_getc K lt_R sc_R ent_R rfl inW2 0 (by decide) fk_X2_9 rfl hdg kk
theorem gf_X6_159   (K : Ok l d G C RX6 cc ret nL) (hdg : decode cc pc = .ok (.getfield 159, 3)) (kk : X k l d G C P nL (pc + 3) ls (.ref (gA G (idRc)) :: st) α ρ) : X k l d G C P nL pc ls (.ref (gA G (idR)) :: st) α ρ :=
  x_getc K lt_R sc_R ent_R rfl inW2 0 (by decide) fk_X6_159 rfl hdg kk
theorem gf_X2_15   (K : Ok l d G C RX2 cc ret nL) (hdg : decode cc pc = .ok (.getfield 15, 3)) (kk : X k l d G C P nL (pc + 3) ls (.int (α (idR) 1) :: st) α ρ) : X k l d G C P nL pc ls (.ref (gA G (idR)) :: st) α ρ :=
  x_getc K lt_R sc_R ent_R rfl inW2 1 (by decide) fk_X2_15 rfl hdg kk
theorem pf_X2_15   (K : Ok l d G C RX2 cc ret nL) {v : Int32} (hdg : decode cc pc = .ok (.putfield 15, 3)) (kk : X k l d G C P nL (pc + 3) ls st (up α (idR) 1 v) ρ) : X k l d G C P nL pc ls (.int v :: .ref (gA G (idR)) :: st) α ρ :=
  x_putc (f' := upd (α (idR)) 1 v) (ty := .int) K tyX2 tyX2_ok nmX2 lt_R sc_R ent_R rfl inW2 1 (by decide) fk_X2_15 rfl rfl rfl rfl (Nat.le_of_ble_eq_true rfl) (ent_R.trans rfl) hdg kk
theorem gf_X6_162   (K : Ok l d G C RX6 cc ret nL) (hdg : decode cc pc = .ok (.getfield 162, 3)) (kk : X k l d G C P nL (pc + 3) ls (.int (α (idR) 1) :: st) α ρ) : X k l d G C P nL pc ls (.ref (gA G (idR)) :: st) α ρ :=
  x_getc K lt_R sc_R ent_R rfl inW2 1 (by decide) fk_X6_162 rfl hdg kk
theorem pf_X6_162   (K : Ok l d G C RX6 cc ret nL) {v : Int32} (hdg : decode cc pc = .ok (.putfield 162, 3)) (kk : X k l d G C P nL (pc + 3) ls st (up α (idR) 1 v) ρ) : X k l d G C P nL pc ls (.int v :: .ref (gA G (idR)) :: st) α ρ :=
  x_putc (f' := upd (α (idR)) 1 v) (ty := .int) K tyX2 tyX2_ok nmX2 lt_R sc_R ent_R rfl inW2 1 (by decide) fk_X6_162 rfl rfl rfl rfl (Nat.le_of_ble_eq_true rfl) (ent_R.trans rfl) hdg kk
theorem gf_X2_19   (K : Ok l d G C RX2 cc ret nL) (hdg : decode cc pc = .ok (.getfield 19, 3)) (kk : X k l d G C P nL (pc + 3) ls (.int (α (idR) 2) :: st) α ρ) : X k l d G C P nL pc ls (.ref (gA G (idR)) :: st) α ρ :=
  x_getc K lt_R sc_R ent_R rfl inW2 2 (by decide) fk_X2_19 rfl hdg kk
theorem pf_X2_19   (K : Ok l d G C RX2 cc ret nL) {v : Int32} (hdg : decode cc pc = .ok (.putfield 19, 3)) (kk : X k l d G C P nL (pc + 3) ls st (up α (idR) 2 v) ρ) : X k l d G C P nL pc ls (.int v :: .ref (gA G (idR)) :: st) α ρ :=
  x_putc (f' := upd (α (idR)) 2 v) (ty := .int) K tyX2 tyX2_ok nmX2 lt_R sc_R ent_R rfl inW2 2 (by decide) fk_X2_19 rfl rfl rfl rfl (Nat.le_of_ble_eq_true rfl) (ent_R.trans rfl) hdg kk
theorem gf_X6_152   (K : Ok l d G C RX6 cc ret nL) (hdg : decode cc pc = .ok (.getfield 152, 3)) (kk : X k l d G C P nL (pc + 3) ls (.int (α (idR) 2) :: st) α ρ) : X k l d G C P nL pc ls (.ref (gA G (idR)) :: st) α ρ :=
  x_getc K lt_R sc_R ent_R rfl inW2 2 (by decide) fk_X6_152 rfl hdg kk
theorem pf_X6_152   (K : Ok l d G C RX6 cc ret nL) {v : Int32} (hdg : decode cc pc = .ok (.putfield 152, 3)) (kk : X k l d G C P nL (pc + 3) ls st (up α (idR) 2 v) ρ) : X k l d G C P nL pc ls (.int v :: .ref (gA G (idR)) :: st) α ρ :=
  x_putc (f' := upd (α (idR)) 2 v) (ty := .int) K tyX2 tyX2_ok nmX2 lt_R sc_R ent_R rfl inW2 2 (by decide) fk_X6_152 rfl rfl rfl rfl (Nat.le_of_ble_eq_true rfl) (ent_R.trans rfl) hdg kk
theorem gf_X2_22   (K : Ok l d G C RX2 cc ret nL) (hdg : decode cc pc = .ok (.getfield 22, 3)) (kk : X k l d G C P nL (pc + 3) ls (.ref (gA G (idRb)) :: st) α ρ) : X k l d G C P nL pc ls (.ref (gA G (idR)) :: st) α ρ :=
  x_getc K lt_R sc_R ent_R rfl inW2 3 (by decide) fk_X2_22 rfl hdg kk
theorem gf_X2_26   (K : Ok l d G C RX2 cc ret nL) (hdg : decode cc pc = .ok (.getfield 26, 3)) (kk : X k l d G C P nL (pc + 3) ls (.int (α (idR) 4) :: st) α ρ) : X k l d G C P nL pc ls (.ref (gA G (idR)) :: st) α ρ :=
  x_getc K lt_R sc_R ent_R rfl inW2 4 (by decide) fk_X2_26 rfl hdg kk
theorem pf_X2_26   (K : Ok l d G C RX2 cc ret nL) {v : Int32} (hdg : decode cc pc = .ok (.putfield 26, 3)) (kk : X k l d G C P nL (pc + 3) ls st (up α (idR) 4 v) ρ) : X k l d G C P nL pc ls (.int v :: .ref (gA G (idR)) :: st) α ρ :=
  x_putc (f' := upd (α (idR)) 4 v) (ty := .int) K tyX2 tyX2_ok nmX2 lt_R sc_R ent_R rfl inW2 4 (by decide) fk_X2_26 rfl rfl rfl rfl (Nat.le_of_ble_eq_true rfl) (ent_R.trans rfl) hdg kk
theorem gf_X2_31   (K : Ok l d G C RX2 cc ret nL) (hdg : decode cc pc = .ok (.getfield 31, 3)) (kk : X k l d G C P nL (pc + 3) ls (.ref (gX G (if α idR 5 = 0 then 2 else 3)) :: st) α ρ) : X k l d G C P nL pc ls (.ref (gA G (idR)) :: st) α ρ :=
  x_getc K lt_R sc_R ent_R rfl inW2 5 (by decide) fk_X2_31 rfl hdg kk
theorem pf_X2_31_0 (K : Ok l d G C RX2 cc ret nL) (hdg : decode cc pc = .ok (.putfield 31, 3)) (kk : X k l d G C P nL (pc + 3) ls st (up α idR 5 0) ρ) : X k l d G C P nL pc ls (.ref (gX G 2) :: .ref (gA G idR) :: st) α ρ :=
  x_putc (f' := upd (α idR) 5 0) (ty := .object "java/lang/String") K tyX2 tyX2_ok nmX2 lt_R sc_R ent_R rfl inW2 5 (by decide) fk_X2_31 rfl rfl rfl rfl (Nat.le_of_ble_eq_true rfl) (ent_R.trans rfl) hdg kk
theorem pf_X2_31_1 (K : Ok l d G C RX2 cc ret nL) (hdg : decode cc pc = .ok (.putfield 31, 3)) (kk : X k l d G C P nL (pc + 3) ls st (up α idR 5 1) ρ) : X k l d G C P nL pc ls (.ref (gX G 3) :: .ref (gA G idR) :: st) α ρ :=
  x_putc (f' := upd (α idR) 5 1) (ty := .object "java/lang/String") K tyX2 tyX2_ok nmX2 lt_R sc_R ent_R rfl inW2 5 (by decide) fk_X2_31 rfl rfl rfl rfl (Nat.le_of_ble_eq_true rfl) (ent_R.trans rfl) hdg kk
theorem gf_X5_9   (K : Ok l d G C RX5 cc ret nL) (hdg : decode cc pc = .ok (.getfield 9, 3)) (kk : X k l d G C P nL (pc + 3) ls (.ref (gA G (idVt)) :: st) α ρ) : X k l d G C P nL pc ls (.ref (gA G (idV)) :: st) α ρ :=
  x_getc K lt_V sc_V ent_V rfl inW5 0 (by decide) fk_X5_9 rfl hdg kk
theorem gf_X6_247   (K : Ok l d G C RX6 cc ret nL) (hdg : decode cc pc = .ok (.getfield 247, 3)) (kk : X k l d G C P nL (pc + 3) ls (.ref (gA G (idVt)) :: st) α ρ) : X k l d G C P nL pc ls (.ref (gA G (idV)) :: st) α ρ :=
  x_getc K lt_V sc_V ent_V rfl inW5 0 (by decide) fk_X6_247 rfl hdg kk
theorem gf_X5_15   (K : Ok l d G C RX5 cc ret nL) (hdg : decode cc pc = .ok (.getfield 15, 3)) (kk : X k l d G C P nL (pc + 3) ls (.int (α (idV) 1) :: st) α ρ) : X k l d G C P nL pc ls (.ref (gA G (idV)) :: st) α ρ :=
  x_getc K lt_V sc_V ent_V rfl inW5 1 (by decide) fk_X5_15 rfl hdg kk
theorem pf_X5_15   (K : Ok l d G C RX5 cc ret nL) {v : Int32} (hdg : decode cc pc = .ok (.putfield 15, 3)) (kk : X k l d G C P nL (pc + 3) ls st (up α (idV) 1 v) ρ) : X k l d G C P nL pc ls (.int v :: .ref (gA G (idV)) :: st) α ρ :=
  x_putc (f' := upd (α (idV)) 1 v) (ty := .int) K tyX5 tyX5_ok nmX5 lt_V sc_V ent_V rfl inW5 1 (by decide) fk_X5_15 rfl rfl rfl rfl (Nat.le_of_ble_eq_true rfl) (ent_V.trans rfl) hdg kk
theorem gf_X6_244   (K : Ok l d G C RX6 cc ret nL) (hdg : decode cc pc = .ok (.getfield 244, 3)) (kk : X k l d G C P nL (pc + 3) ls (.int (α (idV) 1) :: st) α ρ) : X k l d G C P nL pc ls (.ref (gA G (idV)) :: st) α ρ :=
  x_getc K lt_V sc_V ent_V rfl inW5 1 (by decide) fk_X6_244 rfl hdg kk
theorem pf_X6_244   (K : Ok l d G C RX6 cc ret nL) {v : Int32} (hdg : decode cc pc = .ok (.putfield 244, 3)) (kk : X k l d G C P nL (pc + 3) ls st (up α (idV) 1 v) ρ) : X k l d G C P nL pc ls (.int v :: .ref (gA G (idV)) :: st) α ρ :=
  x_putc (f' := upd (α (idV)) 1 v) (ty := .int) K tyX5 tyX5_ok nmX5 lt_V sc_V ent_V rfl inW5 1 (by decide) fk_X6_244 rfl rfl rfl rfl (Nat.le_of_ble_eq_true rfl) (ent_V.trans rfl) hdg kk
theorem gf_X5_19   (K : Ok l d G C RX5 cc ret nL) (hdg : decode cc pc = .ok (.getfield 19, 3)) (kk : X k l d G C P nL (pc + 3) ls (.int (α (idV) 2) :: st) α ρ) : X k l d G C P nL pc ls (.ref (gA G (idV)) :: st) α ρ :=
  x_getc K lt_V sc_V ent_V rfl inW5 2 (by decide) fk_X5_19 rfl hdg kk
theorem pf_X5_19   (K : Ok l d G C RX5 cc ret nL) {v : Int32} (hb : narrow .boolean (.int v) = .int v ∧ fits .boolean (.int v) = true) (hdg : decode cc pc = .ok (.putfield 19, 3)) (kk : X k l d G C P nL (pc + 3) ls st (up α (idV) 2 v) ρ) : X k l d G C P nL pc ls (.int v :: .ref (gA G (idV)) :: st) α ρ :=
  x_putc (f' := upd (α (idV)) 2 v) (ty := .boolean) K tyX5 tyX5_ok nmX5 lt_V sc_V ent_V rfl inW5 2 (by decide) fk_X5_19 rfl rfl hb.1 hb.2 (Nat.le_of_ble_eq_true rfl) (ent_V.trans rfl) hdg kk
theorem gf_X6_241   (K : Ok l d G C RX6 cc ret nL) (hdg : decode cc pc = .ok (.getfield 241, 3)) (kk : X k l d G C P nL (pc + 3) ls (.int (α (idV) 2) :: st) α ρ) : X k l d G C P nL pc ls (.ref (gA G (idV)) :: st) α ρ :=
  x_getc K lt_V sc_V ent_V rfl inW5 2 (by decide) fk_X6_241 rfl hdg kk
theorem pf_X6_241   (K : Ok l d G C RX6 cc ret nL) {v : Int32} (hb : narrow .boolean (.int v) = .int v ∧ fits .boolean (.int v) = true) (hdg : decode cc pc = .ok (.putfield 241, 3)) (kk : X k l d G C P nL (pc + 3) ls st (up α (idV) 2 v) ρ) : X k l d G C P nL pc ls (.int v :: .ref (gA G (idV)) :: st) α ρ :=
  x_putc (f' := upd (α (idV)) 2 v) (ty := .boolean) K tyX5 tyX5_ok nmX5 lt_V sc_V ent_V rfl inW5 2 (by decide) fk_X6_241 rfl rfl hb.1 hb.2 (Nat.le_of_ble_eq_true rfl) (ent_V.trans rfl) hdg kk
theorem gf_X5_23   (K : Ok l d G C RX5 cc ret nL) (hdg : decode cc pc = .ok (.getfield 23, 3)) (kk : X k l d G C P nL (pc + 3) ls (.int (α (idV) 3) :: st) α ρ) : X k l d G C P nL pc ls (.ref (gA G (idV)) :: st) α ρ :=
  x_getc K lt_V sc_V ent_V rfl inW5 3 (by decide) fk_X5_23 rfl hdg kk
theorem pf_X5_23   (K : Ok l d G C RX5 cc ret nL) {v : Int32} (hdg : decode cc pc = .ok (.putfield 23, 3)) (kk : X k l d G C P nL (pc + 3) ls st (up α (idV) 3 v) ρ) : X k l d G C P nL pc ls (.int v :: .ref (gA G (idV)) :: st) α ρ :=
  x_putc (f' := upd (α (idV)) 3 v) (ty := .int) K tyX5 tyX5_ok nmX5 lt_V sc_V ent_V rfl inW5 3 (by decide) fk_X5_23 rfl rfl rfl rfl (Nat.le_of_ble_eq_true rfl) (ent_V.trans rfl) hdg kk
theorem gf_X5_26   (K : Ok l d G C RX5 cc ret nL) (hdg : decode cc pc = .ok (.getfield 26, 3)) (kk : X k l d G C P nL (pc + 3) ls (.int (α (idV) 4) :: st) α ρ) : X k l d G C P nL pc ls (.ref (gA G (idV)) :: st) α ρ :=
  x_getc K lt_V sc_V ent_V rfl inW5 4 (by decide) fk_X5_26 rfl hdg kk
theorem pf_X5_26   (K : Ok l d G C RX5 cc ret nL) {v : Int32} (hdg : decode cc pc = .ok (.putfield 26, 3)) (kk : X k l d G C P nL (pc + 3) ls st (up α (idV) 4 v) ρ) : X k l d G C P nL pc ls (.int v :: .ref (gA G (idV)) :: st) α ρ :=
  x_putc (f' := upd (α (idV)) 4 v) (ty := .int) K tyX5 tyX5_ok nmX5 lt_V sc_V ent_V rfl inW5 4 (by decide) fk_X5_26 rfl rfl rfl rfl (Nat.le_of_ble_eq_true rfl) (ent_V.trans rfl) hdg kk
theorem gf_X5_29   (K : Ok l d G C RX5 cc ret nL) (hdg : decode cc pc = .ok (.getfield 29, 3)) (kk : X k l d G C P nL (pc + 3) ls (.int (α (idV) 5) :: st) α ρ) : X k l d G C P nL pc ls (.ref (gA G (idV)) :: st) α ρ :=
  x_getc K lt_V sc_V ent_V rfl inW5 5 (by decide) fk_X5_29 rfl hdg kk
theorem pf_X5_29   (K : Ok l d G C RX5 cc ret nL) {v : Int32} (hdg : decode cc pc = .ok (.putfield 29, 3)) (kk : X k l d G C P nL (pc + 3) ls st (up α (idV) 5 v) ρ) : X k l d G C P nL pc ls (.int v :: .ref (gA G (idV)) :: st) α ρ :=
  x_putc (f' := upd (α (idV)) 5 v) (ty := .int) K tyX5 tyX5_ok nmX5 lt_V sc_V ent_V rfl inW5 5 (by decide) fk_X5_29 rfl rfl rfl rfl (Nat.le_of_ble_eq_true rfl) (ent_V.trans rfl) hdg kk
theorem gf_X3_9 {e : Nat} (he : e < 4) (K : Ok l d G C RX3 cc ret nL) (hdg : decode cc pc = .ok (.getfield 9, 3)) (kk : X k l d G C P nL (pc + 3) ls (.int (α (idSh e) 0) :: st) α ρ) : X k l d G C P nL pc ls (.ref (gA G (idSh e)) :: st) α ρ :=
  x_getc K (lt_Sh he) (sc_Sh he) (ent_Sh he) rfl inW3 0 (by decide) fk_X3_9 rfl hdg kk
theorem pf_X3_9 {e : Nat} (he : e < 4) (K : Ok l d G C RX3 cc ret nL) {v : Int32} (hdg : decode cc pc = .ok (.putfield 9, 3)) (kk : X k l d G C P nL (pc + 3) ls st (up α (idSh e) 0 v) ρ) : X k l d G C P nL pc ls (.int v :: .ref (gA G (idSh e)) :: st) α ρ :=
  x_putc (f' := upd (α (idSh e)) 0 v) (ty := .int) K tyX3 tyX3_ok nmX3 (lt_Sh he) (sc_Sh he) (ent_Sh he) rfl inW3 0 (by decide) fk_X3_9 rfl rfl rfl rfl (Nat.le_of_ble_eq_true rfl) ((ent_Sh he).trans rfl) hdg kk
theorem gf_X6_256 {e : Nat} (he : e < 4) (K : Ok l d G C RX6 cc ret nL) (hdg : decode cc pc = .ok (.getfield 256, 3)) (kk : X k l d G C P nL (pc + 3) ls (.int (α (idSh e) 0) :: st) α ρ) : X k l d G C P nL pc ls (.ref (gA G (idSh e)) :: st) α ρ :=
  x_getc K (lt_Sh he) (sc_Sh he) (ent_Sh he) rfl inW3 0 (by decide) fk_X6_256 rfl hdg kk
theorem pf_X6_256 {e : Nat} (he : e < 4) (K : Ok l d G C RX6 cc ret nL) {v : Int32} (hdg : decode cc pc = .ok (.putfield 256, 3)) (kk : X k l d G C P nL (pc + 3) ls st (up α (idSh e) 0 v) ρ) : X k l d G C P nL pc ls (.int v :: .ref (gA G (idSh e)) :: st) α ρ :=
  x_putc (f' := upd (α (idSh e)) 0 v) (ty := .int) K tyX3 tyX3_ok nmX3 (lt_Sh he) (sc_Sh he) (ent_Sh he) rfl inW3 0 (by decide) fk_X6_256 rfl rfl rfl rfl (Nat.le_of_ble_eq_true rfl) ((ent_Sh he).trans rfl) hdg kk
theorem gf_X3_15 {e : Nat} (he : e < 4) (K : Ok l d G C RX3 cc ret nL) (hdg : decode cc pc = .ok (.getfield 15, 3)) (kk : X k l d G C P nL (pc + 3) ls (.int (α (idSh e) 1) :: st) α ρ) : X k l d G C P nL pc ls (.ref (gA G (idSh e)) :: st) α ρ :=
  x_getc K (lt_Sh he) (sc_Sh he) (ent_Sh he) rfl inW3 1 (by decide) fk_X3_15 rfl hdg kk
theorem pf_X3_15 {e : Nat} (he : e < 4) (K : Ok l d G C RX3 cc ret nL) {v : Int32} (hdg : decode cc pc = .ok (.putfield 15, 3)) (kk : X k l d G C P nL (pc + 3) ls st (up α (idSh e) 1 v) ρ) : X k l d G C P nL pc ls (.int v :: .ref (gA G (idSh e)) :: st) α ρ :=
  x_putc (f' := upd (α (idSh e)) 1 v) (ty := .int) K tyX3 tyX3_ok nmX3 (lt_Sh he) (sc_Sh he) (ent_Sh he) rfl inW3 1 (by decide) fk_X3_15 rfl rfl rfl rfl (Nat.le_of_ble_eq_true rfl) ((ent_Sh he).trans rfl) hdg kk
theorem gf_X0_154 {e : Nat} (he : e < 4) (K : Ok l d G C RX0 cc ret nL) (hdg : decode cc pc = .ok (.getfield 154, 3)) (kk : X k l d G C P nL (pc + 3) ls (.int (α (idSh e) 1) :: st) α ρ) : X k l d G C P nL pc ls (.ref (gA G (idSh e)) :: st) α ρ :=
  x_getc K (lt_Sh he) (sc_Sh he) (ent_Sh he) rfl inW3 1 (by decide) fk_X0_154 rfl hdg kk
theorem pf_X0_154 {e : Nat} (he : e < 4) (K : Ok l d G C RX0 cc ret nL) {v : Int32} (hdg : decode cc pc = .ok (.putfield 154, 3)) (kk : X k l d G C P nL (pc + 3) ls st (up α (idSh e) 1 v) ρ) : X k l d G C P nL pc ls (.int v :: .ref (gA G (idSh e)) :: st) α ρ :=
  x_putc (f' := upd (α (idSh e)) 1 v) (ty := .int) K tyX3 tyX3_ok nmX3 (lt_Sh he) (sc_Sh he) (ent_Sh he) rfl inW3 1 (by decide) fk_X0_154 rfl rfl rfl rfl (Nat.le_of_ble_eq_true rfl) ((ent_Sh he).trans rfl) hdg kk
theorem gf_X6_234 {e : Nat} (he : e < 4) (K : Ok l d G C RX6 cc ret nL) (hdg : decode cc pc = .ok (.getfield 234, 3)) (kk : X k l d G C P nL (pc + 3) ls (.int (α (idSh e) 1) :: st) α ρ) : X k l d G C P nL pc ls (.ref (gA G (idSh e)) :: st) α ρ :=
  x_getc K (lt_Sh he) (sc_Sh he) (ent_Sh he) rfl inW3 1 (by decide) fk_X6_234 rfl hdg kk
theorem pf_X6_234 {e : Nat} (he : e < 4) (K : Ok l d G C RX6 cc ret nL) {v : Int32} (hdg : decode cc pc = .ok (.putfield 234, 3)) (kk : X k l d G C P nL (pc + 3) ls st (up α (idSh e) 1 v) ρ) : X k l d G C P nL pc ls (.int v :: .ref (gA G (idSh e)) :: st) α ρ :=
  x_putc (f' := upd (α (idSh e)) 1 v) (ty := .int) K tyX3 tyX3_ok nmX3 (lt_Sh he) (sc_Sh he) (ent_Sh he) rfl inW3 1 (by decide) fk_X6_234 rfl rfl rfl rfl (Nat.le_of_ble_eq_true rfl) ((ent_Sh he).trans rfl) hdg kk
theorem gf_X3_18 {e : Nat} (he : e < 4) (K : Ok l d G C RX3 cc ret nL) (hdg : decode cc pc = .ok (.getfield 18, 3)) (kk : X k l d G C P nL (pc + 3) ls (.ref (gA G (idSn e)) :: st) α ρ) : X k l d G C P nL pc ls (.ref (gA G (idSh e)) :: st) α ρ :=
  x_getc K (lt_Sh he) (sc_Sh he) (ent_Sh he) rfl inW3 2 (by decide) fk_X3_18 rfl hdg kk
theorem gf_X0_163 {e : Nat} (he : e < 4) (K : Ok l d G C RX0 cc ret nL) (hdg : decode cc pc = .ok (.getfield 163, 3)) (kk : X k l d G C P nL (pc + 3) ls (.ref (gA G (idSn e)) :: st) α ρ) : X k l d G C P nL pc ls (.ref (gA G (idSh e)) :: st) α ρ :=
  x_getc K (lt_Sh he) (sc_Sh he) (ent_Sh he) rfl inW3 2 (by decide) fk_X0_163 rfl hdg kk
theorem gf_X6_262 {e : Nat} (he : e < 4) (K : Ok l d G C RX6 cc ret nL) (hdg : decode cc pc = .ok (.getfield 262, 3)) (kk : X k l d G C P nL (pc + 3) ls (.ref (gA G (idSn e)) :: st) α ρ) : X k l d G C P nL pc ls (.ref (gA G (idSh e)) :: st) α ρ :=
  x_getc K (lt_Sh he) (sc_Sh he) (ent_Sh he) rfl inW3 2 (by decide) fk_X6_262 rfl hdg kk
theorem gf_X6_10   (K : Ok l d G C RX6 cc ret nL) (hdg : decode cc pc = .ok (.getfield 10, 3)) (kk : X k l d G C P nL (pc + 3) ls (.ref (gA G (idD 0)) :: st) α ρ) : X k l d G C P nL pc ls (.ref (gA G (idB)) :: st) α ρ :=
  x_getc K lt_B sc_B ent_B rfl inW6 0 (by decide) fk_X6_10 rfl hdg kk
theorem gf_X6_16   (K : Ok l d G C RX6 cc ret nL) (hdg : decode cc pc = .ok (.getfield 16, 3)) (kk : X k l d G C P nL (pc + 3) ls (.ref (gA G (idD 1)) :: st) α ρ) : X k l d G C P nL pc ls (.ref (gA G (idB)) :: st) α ρ :=
  x_getc K lt_B sc_B ent_B rfl inW6 1 (by decide) fk_X6_16 rfl hdg kk
theorem gf_X6_19   (K : Ok l d G C RX6 cc ret nL) (hdg : decode cc pc = .ok (.getfield 19, 3)) (kk : X k l d G C P nL (pc + 3) ls (.ref (gA G (idD 2)) :: st) α ρ) : X k l d G C P nL pc ls (.ref (gA G (idB)) :: st) α ρ :=
  x_getc K lt_B sc_B ent_B rfl inW6 2 (by decide) fk_X6_19 rfl hdg kk
theorem gf_X6_25   (K : Ok l d G C RX6 cc ret nL) (hdg : decode cc pc = .ok (.getfield 25, 3)) (kk : X k l d G C P nL (pc + 3) ls (.ref (gA G (idR)) :: st) α ρ) : X k l d G C P nL pc ls (.ref (gA G (idB)) :: st) α ρ :=
  x_getc K lt_B sc_B ent_B rfl inW6 3 (by decide) fk_X6_25 rfl hdg kk
theorem gf_X6_32   (K : Ok l d G C RX6 cc ret nL) (hdg : decode cc pc = .ok (.getfield 32, 3)) (kk : X k l d G C P nL (pc + 3) ls (.ref (gA G (idV)) :: st) α ρ) : X k l d G C P nL pc ls (.ref (gA G (idB)) :: st) α ρ :=
  x_getc K lt_B sc_B ent_B rfl inW6 4 (by decide) fk_X6_32 rfl hdg kk
theorem gf_X6_38   (K : Ok l d G C RX6 cc ret nL) (hdg : decode cc pc = .ok (.getfield 38, 3)) (kk : X k l d G C P nL (pc + 3) ls (.ref (gA G (idShs)) :: st) α ρ) : X k l d G C P nL pc ls (.ref (gA G (idB)) :: st) α ρ :=
  x_getc K lt_B sc_B ent_B rfl inW6 5 (by decide) fk_X6_38 rfl hdg kk
theorem gf_X6_42   (K : Ok l d G C RX6 cc ret nL) (hdg : decode cc pc = .ok (.getfield 42, 3)) (kk : X k l d G C P nL (pc + 3) ls (.ref (gA G (idEr)) :: st) α ρ) : X k l d G C P nL pc ls (.ref (gA G (idB)) :: st) α ρ :=
  x_getc K lt_B sc_B ent_B rfl inW6 6 (by decide) fk_X6_42 rfl hdg kk
theorem gf_X6_46   (K : Ok l d G C RX6 cc ret nL) (hdg : decode cc pc = .ok (.getfield 46, 3)) (kk : X k l d G C P nL (pc + 3) ls (.int (α (idB) 7) :: st) α ρ) : X k l d G C P nL pc ls (.ref (gA G (idB)) :: st) α ρ :=
  x_getc K lt_B sc_B ent_B rfl inW6 7 (by decide) fk_X6_46 rfl hdg kk
theorem pf_X6_46   (K : Ok l d G C RX6 cc ret nL) {v : Int32} (hdg : decode cc pc = .ok (.putfield 46, 3)) (kk : X k l d G C P nL (pc + 3) ls st (up α (idB) 7 v) ρ) : X k l d G C P nL pc ls (.int v :: .ref (gA G (idB)) :: st) α ρ :=
  x_putc (f' := upd (α (idB)) 7 v) (ty := .int) K tyX6 tyX6_ok nmX6 lt_B sc_B ent_B rfl inW6 7 (by decide) fk_X6_46 rfl rfl rfl rfl (Nat.le_of_ble_eq_true rfl) (ent_B.trans rfl) hdg kk
theorem gf_X7_9   (K : Ok l d G C RX7 cc ret nL) (hdg : decode cc pc = .ok (.getfield 9, 3)) (kk : X k l d G C P nL (pc + 3) ls (.ref (gA G (mRow)) :: st) α ρ) : X k l d G C P nL pc ls (.ref (gA G (idM)) :: st) α ρ :=
  x_getm K (by decide) sc_M ent_M rfl inW7 0 (by decide) fk_X7_9 rfl hdg kk
theorem gf_X7_13   (K : Ok l d G C RX7 cc ret nL) (hdg : decode cc pc = .ok (.getfield 13, 3)) (kk : X k l d G C P nL (pc + 3) ls (.ref (gA G (mKept)) :: st) α ρ) : X k l d G C P nL pc ls (.ref (gA G (idM)) :: st) α ρ :=
  x_getm K (by decide) sc_M ent_M rfl inW7 1 (by decide) fk_X7_13 rfl hdg kk
theorem gf_X7_16   (K : Ok l d G C RX7 cc ret nL) (hdg : decode cc pc = .ok (.getfield 16, 3)) (kk : X k l d G C P nL (pc + 3) ls (.ref (gA G (mBefore)) :: st) α ρ) : X k l d G C P nL pc ls (.ref (gA G (idM)) :: st) α ρ :=
  x_getm K (by decide) sc_M ent_M rfl inW7 2 (by decide) fk_X7_16 rfl hdg kk
theorem gf_X7_264   (K : Ok l d G C RX7 cc ret nL) (hdg : decode cc pc = .ok (.getfield 264, 3)) (kk : X k l d G C P nL (pc + 3) ls (.int (ρ (idM) 3) :: st) α ρ) : X k l d G C P nL pc ls (.ref (gA G (idM)) :: st) α ρ :=
  x_getm K (by decide) sc_M ent_M rfl inW7 3 (by decide) fk_X7_264 rfl hdg kk
theorem pf_X7_264   (K : Ok l d G C RX7 cc ret nL) {v : Int32} (hdg : decode cc pc = .ok (.putfield 264, 3)) (kk : X k l d G C P nL (pc + 3) ls st α (up ρ (idM) 3 v)) : X k l d G C P nL pc ls (.int v :: .ref (gA G (idM)) :: st) α ρ :=
  x_putm (f' := upd (ρ (idM)) 3 v) (ty := .int) K tyX7 tyX7_ok nmX7 (by decide) sc_M ent_M rfl inW7 3 (by decide) fk_X7_264 rfl rfl rfl rfl (Nat.le_of_ble_eq_true rfl) (ent_M.trans rfl) hdg kk
theorem gf_X7_19   (K : Ok l d G C RX7 cc ret nL) (hdg : decode cc pc = .ok (.getfield 19, 3)) (kk : X k l d G C P nL (pc + 3) ls (.ref (gA G (mErr)) :: st) α ρ) : X k l d G C P nL pc ls (.ref (gA G (idM)) :: st) α ρ :=
  x_getm K (by decide) sc_M ent_M rfl inW7 4 (by decide) fk_X7_19 rfl hdg kk
theorem gf_X7_22   (K : Ok l d G C RX7 cc ret nL) (hdg : decode cc pc = .ok (.getfield 22, 3)) (kk : X k l d G C P nL (pc + 3) ls (.ref (gA G (mBits)) :: st) α ρ) : X k l d G C P nL pc ls (.ref (gA G (idM)) :: st) α ρ :=
  x_getm K (by decide) sc_M ent_M rfl inW7 5 (by decide) fk_X7_22 rfl hdg kk
theorem gf_X7_25   (K : Ok l d G C RX7 cc ret nL) (hdg : decode cc pc = .ok (.getfield 25, 3)) (kk : X k l d G C P nL (pc + 3) ls (.ref (gA G (mSize)) :: st) α ρ) : X k l d G C P nL pc ls (.ref (gA G (idM)) :: st) α ρ :=
  x_getm K (by decide) sc_M ent_M rfl inW7 6 (by decide) fk_X7_25 rfl hdg kk
theorem gf_X7_28   (K : Ok l d G C RX7 cc ret nL) (hdg : decode cc pc = .ok (.getfield 28, 3)) (kk : X k l d G C P nL (pc + 3) ls (.ref (gA G (mCells)) :: st) α ρ) : X k l d G C P nL pc ls (.ref (gA G (idM)) :: st) α ρ :=
  x_getm K (by decide) sc_M ent_M rfl inW7 7 (by decide) fk_X7_28 rfl hdg kk
theorem gf_X7_31   (K : Ok l d G C RX7 cc ret nL) (hdg : decode cc pc = .ok (.getfield 31, 3)) (kk : X k l d G C P nL (pc + 3) ls (.ref (gA G (mAct)) :: st) α ρ) : X k l d G C P nL pc ls (.ref (gA G (idM)) :: st) α ρ :=
  x_getm K (by decide) sc_M ent_M rfl inW7 8 (by decide) fk_X7_31 rfl hdg kk
theorem gf_X7_34   (K : Ok l d G C RX7 cc ret nL) (hdg : decode cc pc = .ok (.getfield 34, 3)) (kk : X k l d G C P nL (pc + 3) ls (.ref (gA G (mWith)) :: st) α ρ) : X k l d G C P nL pc ls (.ref (gA G (idM)) :: st) α ρ :=
  x_getm K (by decide) sc_M ent_M rfl inW7 9 (by decide) fk_X7_34 rfl hdg kk
theorem gf_X7_37   (K : Ok l d G C RX7 cc ret nL) (hdg : decode cc pc = .ok (.getfield 37, 3)) (kk : X k l d G C P nL (pc + 3) ls (.ref (gA G (mFacts)) :: st) α ρ) : X k l d G C P nL pc ls (.ref (gA G (idM)) :: st) α ρ :=
  x_getm K (by decide) sc_M ent_M rfl inW7 10 (by decide) fk_X7_37 rfl hdg kk
theorem gf_X7_40   (K : Ok l d G C RX7 cc ret nL) (hdg : decode cc pc = .ok (.getfield 40, 3)) (kk : X k l d G C P nL (pc + 3) ls (.ref (gA G (mPile)) :: st) α ρ) : X k l d G C P nL pc ls (.ref (gA G (idM)) :: st) α ρ :=
  x_getm K (by decide) sc_M ent_M rfl inW7 11 (by decide) fk_X7_40 rfl hdg kk
theorem gf_X7_121   (K : Ok l d G C RX7 cc ret nL) (hdg : decode cc pc = .ok (.getfield 121, 3)) (kk : X k l d G C P nL (pc + 3) ls (.int (ρ (idM) 12) :: st) α ρ) : X k l d G C P nL pc ls (.ref (gA G (idM)) :: st) α ρ :=
  x_getm K (by decide) sc_M ent_M rfl inW7 12 (by decide) fk_X7_121 rfl hdg kk
theorem pf_X7_121   (K : Ok l d G C RX7 cc ret nL) {v : Int32} (hdg : decode cc pc = .ok (.putfield 121, 3)) (kk : X k l d G C P nL (pc + 3) ls st α (up ρ (idM) 12 v)) : X k l d G C P nL pc ls (.int v :: .ref (gA G (idM)) :: st) α ρ :=
  x_putm (f' := upd (ρ (idM)) 12 v) (ty := .int) K tyX7 tyX7_ok nmX7 (by decide) sc_M ent_M rfl inW7 12 (by decide) fk_X7_121 rfl rfl rfl rfl (Nat.le_of_ble_eq_true rfl) (ent_M.trans rfl) hdg kk
theorem gf_X7_117   (K : Ok l d G C RX7 cc ret nL) (hdg : decode cc pc = .ok (.getfield 117, 3)) (kk : X k l d G C P nL (pc + 3) ls (.int (ρ (idM) 13) :: st) α ρ) : X k l d G C P nL pc ls (.ref (gA G (idM)) :: st) α ρ :=
  x_getm K (by decide) sc_M ent_M rfl inW7 13 (by decide) fk_X7_117 rfl hdg kk
theorem pf_X7_117   (K : Ok l d G C RX7 cc ret nL) {v : Int32} (hdg : decode cc pc = .ok (.putfield 117, 3)) (kk : X k l d G C P nL (pc + 3) ls st α (up ρ (idM) 13 v)) : X k l d G C P nL pc ls (.int v :: .ref (gA G (idM)) :: st) α ρ :=
  x_putm (f' := upd (ρ (idM)) 13 v) (ty := .int) K tyX7 tyX7_ok nmX7 (by decide) sc_M ent_M rfl inW7 13 (by decide) fk_X7_117 rfl rfl rfl rfl (Nat.le_of_ble_eq_true rfl) (ent_M.trans rfl) hdg kk
theorem gf_X7_139   (K : Ok l d G C RX7 cc ret nL) (hdg : decode cc pc = .ok (.getfield 139, 3)) (kk : X k l d G C P nL (pc + 3) ls (.int (ρ (idM) 14) :: st) α ρ) : X k l d G C P nL pc ls (.ref (gA G (idM)) :: st) α ρ :=
  x_getm K (by decide) sc_M ent_M rfl inW7 14 (by decide) fk_X7_139 rfl hdg kk
theorem pf_X7_139   (K : Ok l d G C RX7 cc ret nL) {v : Int32} (hdg : decode cc pc = .ok (.putfield 139, 3)) (kk : X k l d G C P nL (pc + 3) ls st α (up ρ (idM) 14 v)) : X k l d G C P nL pc ls (.int v :: .ref (gA G (idM)) :: st) α ρ :=
  x_putm (f' := upd (ρ (idM)) 14 v) (ty := .int) K tyX7 tyX7_ok nmX7 (by decide) sc_M ent_M rfl inW7 14 (by decide) fk_X7_139 rfl rfl rfl rfl (Nat.le_of_ble_eq_true rfl) (ent_M.trans rfl) hdg kk
theorem gf_X7_131   (K : Ok l d G C RX7 cc ret nL) (hdg : decode cc pc = .ok (.getfield 131, 3)) (kk : X k l d G C P nL (pc + 3) ls (.int (ρ (idM) 15) :: st) α ρ) : X k l d G C P nL pc ls (.ref (gA G (idM)) :: st) α ρ :=
  x_getm K (by decide) sc_M ent_M rfl inW7 15 (by decide) fk_X7_131 rfl hdg kk
theorem pf_X7_131   (K : Ok l d G C RX7 cc ret nL) {v : Int32} (hb : narrow .boolean (.int v) = .int v ∧ fits .boolean (.int v) = true) (hdg : decode cc pc = .ok (.putfield 131, 3)) (kk : X k l d G C P nL (pc + 3) ls st α (up ρ (idM) 15 v)) : X k l d G C P nL pc ls (.int v :: .ref (gA G (idM)) :: st) α ρ :=
  x_putm (f' := upd (ρ (idM)) 15 v) (ty := .boolean) K tyX7 tyX7_ok nmX7 (by decide) sc_M ent_M rfl inW7 15 (by decide) fk_X7_131 rfl rfl hb.1 hb.2 (Nat.le_of_ble_eq_true rfl) (ent_M.trans rfl) hdg kk
theorem gf_X7_124   (K : Ok l d G C RX7 cc ret nL) (hdg : decode cc pc = .ok (.getfield 124, 3)) (kk : X k l d G C P nL (pc + 3) ls (.int (ρ (idM) 16) :: st) α ρ) : X k l d G C P nL pc ls (.ref (gA G (idM)) :: st) α ρ :=
  x_getm K (by decide) sc_M ent_M rfl inW7 16 (by decide) fk_X7_124 rfl hdg kk
theorem pf_X7_124   (K : Ok l d G C RX7 cc ret nL) {v : Int32} (hdg : decode cc pc = .ok (.putfield 124, 3)) (kk : X k l d G C P nL (pc + 3) ls st α (up ρ (idM) 16 v)) : X k l d G C P nL pc ls (.int v :: .ref (gA G (idM)) :: st) α ρ :=
  x_putm (f' := upd (ρ (idM)) 16 v) (ty := .int) K tyX7 tyX7_ok nmX7 (by decide) sc_M ent_M rfl inW7 16 (by decide) fk_X7_124 rfl rfl rfl rfl (Nat.le_of_ble_eq_true rfl) (ent_M.trans rfl) hdg kk
theorem gf_X7_43   (K : Ok l d G C RX7 cc ret nL) (hdg : decode cc pc = .ok (.getfield 43, 3)) (kk : X k l d G C P nL (pc + 3) ls (.ref (gA G (mBear)) :: st) α ρ) : X k l d G C P nL pc ls (.ref (gA G (idM)) :: st) α ρ :=
  x_getm K (by decide) sc_M ent_M rfl inW7 17 (by decide) fk_X7_43 rfl hdg kk
theorem gf_X7_46   (K : Ok l d G C RX7 cc ret nL) (hdg : decode cc pc = .ok (.getfield 46, 3)) (kk : X k l d G C P nL (pc + 3) ls (.ref (gA G (mTrace)) :: st) α ρ) : X k l d G C P nL pc ls (.ref (gA G (idM)) :: st) α ρ :=
  x_getm K (by decide) sc_M ent_M rfl inW7 18 (by decide) fk_X7_46 rfl hdg kk
theorem gf_X7_217   (K : Ok l d G C RX7 cc ret nL) (hdg : decode cc pc = .ok (.getfield 217, 3)) (kk : X k l d G C P nL (pc + 3) ls (.int (ρ (idM) 19) :: st) α ρ) : X k l d G C P nL pc ls (.ref (gA G (idM)) :: st) α ρ :=
  x_getm K (by decide) sc_M ent_M rfl inW7 19 (by decide) fk_X7_217 rfl hdg kk
theorem pf_X7_217   (K : Ok l d G C RX7 cc ret nL) {v : Int32} (hdg : decode cc pc = .ok (.putfield 217, 3)) (kk : X k l d G C P nL (pc + 3) ls st α (up ρ (idM) 19 v)) : X k l d G C P nL pc ls (.int v :: .ref (gA G (idM)) :: st) α ρ :=
  x_putm (f' := upd (ρ (idM)) 19 v) (ty := .int) K tyX7 tyX7_ok nmX7 (by decide) sc_M ent_M rfl inW7 19 (by decide) fk_X7_217 rfl rfl rfl rfl (Nat.le_of_ble_eq_true rfl) (ent_M.trans rfl) hdg kk
theorem gf_X7_244   (K : Ok l d G C RX7 cc ret nL) (hdg : decode cc pc = .ok (.getfield 244, 3)) (kk : X k l d G C P nL (pc + 3) ls (.int (ρ (idM) 20) :: st) α ρ) : X k l d G C P nL pc ls (.ref (gA G (idM)) :: st) α ρ :=
  x_getm K (by decide) sc_M ent_M rfl inW7 20 (by decide) fk_X7_244 rfl hdg kk
theorem pf_X7_244   (K : Ok l d G C RX7 cc ret nL) {v : Int32} (hb : narrow .boolean (.int v) = .int v ∧ fits .boolean (.int v) = true) (hdg : decode cc pc = .ok (.putfield 244, 3)) (kk : X k l d G C P nL (pc + 3) ls st α (up ρ (idM) 20 v)) : X k l d G C P nL pc ls (.int v :: .ref (gA G (idM)) :: st) α ρ :=
  x_putm (f' := upd (ρ (idM)) 20 v) (ty := .boolean) K tyX7 tyX7_ok nmX7 (by decide) sc_M ent_M rfl inW7 20 (by decide) fk_X7_244 rfl rfl hb.1 hb.2 (Nat.le_of_ble_eq_true rfl) (ent_M.trans rfl) hdg kk
theorem ia_Wt {e : Nat} (he : e < 3) {own : String} (K : Ok l d G C own cc ret nL) {x : Int32} (hin : vp_in x 24) (hdg : decode cc pc = .ok (.iaload, 1)) (kk : X k l d G C P nL (pc + 1) ls (.int (α (idWt e) x.toNatClampNeg) :: st) α ρ) : X k l d G C P nL pc ls (.int x :: .ref (gA G (idWt e)) :: st) α ρ :=
  x_iald_c K (by unfold idWt; omega) (scr_no (by unfold idWt; omega)) (fun f => (ent_Wt he)) hin hdg kk
theorem is_Wt {e : Nat} (he : e < 3) {own : String} (K : Ok l d G C own cc ret nL) {x v : Int32} (hin : vp_in x 24) (hdg : decode cc pc = .ok (.iastore, 1)) (kk : X k l d G C P nL (pc + 1) ls st (up α (idWt e) x.toNatClampNeg v) ρ) : X k l d G C P nL pc ls (.int v :: .int x :: .ref (gA G (idWt e)) :: st) α ρ :=
  x_iast_c K (by unfold idWt; omega) (scr_no (by unfold idWt; omega)) (fun f => (ent_Wt he)) hin hdg kk
theorem ia_Rc   {own : String} (K : Ok l d G C own cc ret nL) {x : Int32} (hin : vp_in x 60) (hdg : decode cc pc = .ok (.iaload, 1)) (kk : X k l d G C P nL (pc + 1) ls (.int (α (idRc) x.toNatClampNeg) :: st) α ρ) : X k l d G C P nL pc ls (.int x :: .ref (gA G (idRc)) :: st) α ρ :=
  x_iald_c K (by unfold idRc; omega) (scr_no (by unfold idRc; omega)) (fun f => ent_Rc) hin hdg kk
theorem is_Rc   {own : String} (K : Ok l d G C own cc ret nL) {x v : Int32} (hin : vp_in x 60) (hdg : decode cc pc = .ok (.iastore, 1)) (kk : X k l d G C P nL (pc + 1) ls st (up α (idRc) x.toNatClampNeg v) ρ) : X k l d G C P nL pc ls (.int v :: .int x :: .ref (gA G (idRc)) :: st) α ρ :=
  x_iast_c K (by unfold idRc; omega) (scr_no (by unfold idRc; omega)) (fun f => ent_Rc) hin hdg kk
theorem ia_Vt   {own : String} (K : Ok l d G C own cc ret nL) {x : Int32} (hin : vp_in x 30) (hdg : decode cc pc = .ok (.iaload, 1)) (kk : X k l d G C P nL (pc + 1) ls (.int (α (idVt) x.toNatClampNeg) :: st) α ρ) : X k l d G C P nL pc ls (.int x :: .ref (gA G (idVt)) :: st) α ρ :=
  x_iald_c K (by unfold idVt; omega) (scr_no (by unfold idVt; omega)) (fun f => ent_Vt) hin hdg kk
theorem is_Vt   {own : String} (K : Ok l d G C own cc ret nL) {x v : Int32} (hin : vp_in x 30) (hdg : decode cc pc = .ok (.iastore, 1)) (kk : X k l d G C P nL (pc + 1) ls st (up α (idVt) x.toNatClampNeg v) ρ) : X k l d G C P nL pc ls (.int v :: .int x :: .ref (gA G (idVt)) :: st) α ρ :=
  x_iast_c K (by unfold idVt; omega) (scr_no (by unfold idVt; omega)) (fun f => ent_Vt) hin hdg kk
theorem ia_Er   {own : String} (K : Ok l d G C own cc ret nL) {x : Int32} (hin : vp_in x 7) (hdg : decode cc pc = .ok (.iaload, 1)) (kk : X k l d G C P nL (pc + 1) ls (.int (α (idEr) x.toNatClampNeg) :: st) α ρ) : X k l d G C P nL pc ls (.int x :: .ref (gA G (idEr)) :: st) α ρ :=
  x_iald_c K (by unfold idEr; omega) (scr_no (by unfold idEr; omega)) (fun f => ent_Er) hin hdg kk
theorem is_Er   {own : String} (K : Ok l d G C own cc ret nL) {x v : Int32} (hin : vp_in x 7) (hdg : decode cc pc = .ok (.iastore, 1)) (kk : X k l d G C P nL (pc + 1) ls st (up α (idEr) x.toNatClampNeg v) ρ) : X k l d G C P nL pc ls (.int v :: .int x :: .ref (gA G (idEr)) :: st) α ρ :=
  x_iast_c K (by unfold idEr; omega) (scr_no (by unfold idEr; omega)) (fun f => ent_Er) hin hdg kk
theorem ia_Sn {e : Nat} (he : e < 4) {own : String} (K : Ok l d G C own cc ret nL) {x : Int32} (hin : vp_in x 24) (hdg : decode cc pc = .ok (.iaload, 1)) (kk : X k l d G C P nL (pc + 1) ls (.int (α (idSn e) x.toNatClampNeg) :: st) α ρ) : X k l d G C P nL pc ls (.int x :: .ref (gA G (idSn e)) :: st) α ρ :=
  x_iald_c K (by unfold idSn; omega) (scr_no (by unfold idSn; omega)) (fun f => (ent_Sn he)) hin hdg kk
theorem is_Sn {e : Nat} (he : e < 4) {own : String} (K : Ok l d G C own cc ret nL) {x v : Int32} (hin : vp_in x 24) (hdg : decode cc pc = .ok (.iastore, 1)) (kk : X k l d G C P nL (pc + 1) ls st (up α (idSn e) x.toNatClampNeg v) ρ) : X k l d G C P nL pc ls (.int v :: .int x :: .ref (gA G (idSn e)) :: st) α ρ :=
  x_iast_c K (by unfold idSn; omega) (scr_no (by unfold idSn; omega)) (fun f => (ent_Sn he)) hin hdg kk
theorem ia_Lc {e u : Nat} (he : e < 3) (hu : u < 2) {own : String} (K : Ok l d G C own cc ret nL) {x : Int32} (hin : vp_in x 60) (hdg : decode cc pc = .ok (.iaload, 1)) (kk : X k l d G C P nL (pc + 1) ls (.int (α (idLc e u) x.toNatClampNeg) :: st) α ρ) : X k l d G C P nL pc ls (.int x :: .ref (gA G (idLc e u)) :: st) α ρ :=
  x_iald_c K (by unfold idLc; omega) (scr_no (by unfold idLc; omega)) (fun f => (ent_Lc he hu)) hin hdg kk
theorem is_Lc {e u : Nat} (he : e < 3) (hu : u < 2) {own : String} (K : Ok l d G C own cc ret nL) {x v : Int32} (hin : vp_in x 60) (hdg : decode cc pc = .ok (.iastore, 1)) (kk : X k l d G C P nL (pc + 1) ls st (up α (idLc e u) x.toNatClampNeg v) ρ) : X k l d G C P nL pc ls (.int v :: .int x :: .ref (gA G (idLc e u)) :: st) α ρ :=
  x_iast_c K (by unfold idLc; omega) (scr_no (by unfold idLc; omega)) (fun f => (ent_Lc he hu)) hin hdg kk
theorem ia_Lo {e u : Nat} (he : e < 3) (hu : u < 2) {own : String} {P : Po} (K : Ok l d G C own cc ret nL) {x : Int32} (hin : vp_in x 60) (hdg : decode cc pc = .ok (.iaload, 1)) (kk : X 0 l d G C P nL (pc + 1) ls (.int (α (idLo e u) x.toNatClampNeg) :: st) α ρ) : X 0 l d G C P nL pc ls (.int x :: .ref (gA G (idLo e u)) :: st) α ρ :=
  x_iald_c K (by unfold idLo; omega) scr_0 (fun f => (ent_Lo he hu)) hin hdg kk
theorem is_Lo {e u : Nat} (he : e < 3) (hu : u < 2) {own : String} {P : Po} (K : Ok l d G C own cc ret nL) {x v : Int32} (hin : vp_in x 60) (hdg : decode cc pc = .ok (.iastore, 1)) (kk : X 0 l d G C P nL (pc + 1) ls st (up α (idLo e u) x.toNatClampNeg v) ρ) : X 0 l d G C P nL pc ls (.int v :: .int x :: .ref (gA G (idLo e u)) :: st) α ρ :=
  x_iast_c K (by unfold idLo; omega) scr_0 (fun f => (ent_Lo he hu)) hin hdg kk
theorem ca_Tp {e : Nat} (he : e < 3) {own : String} (K : Ok l d G C own cc ret nL) {x : Int32} (hin : vp_in x 60) (hdg : decode cc pc = .ok (.caload, 1)) (kk : X k l d G C P nL (pc + 1) ls (.int (α (idTp e) x.toNatClampNeg) :: st) α ρ) : X k l d G C P nL pc ls (.int x :: .ref (gA G (idTp e)) :: st) α ρ :=
  x_cald_c K (by unfold idTp; omega) (scr_no (by unfold idTp; omega)) (fun f => (ent_Tp he)) hin hdg kk
theorem cs_Tp {e : Nat} (he : e < 3) {own : String} (K : Ok l d G C own cc ret nL) {x v : Int32} (hin : vp_in x 60) (hdg : decode cc pc = .ok (.castore, 1)) (kk : X k l d G C P nL (pc + 1) ls st (up α (idTp e) x.toNatClampNeg (vp_nar .char v)) ρ) : X k l d G C P nL pc ls (.int v :: .int x :: .ref (gA G (idTp e)) :: st) α ρ :=
  x_cast_c K (by unfold idTp; omega) (scr_no (by unfold idTp; omega)) (fun f => (ent_Tp he)) hin hdg kk
theorem ca_Rb   {own : String} (K : Ok l d G C own cc ret nL) {x : Int32} (hin : vp_in x 60) (hdg : decode cc pc = .ok (.caload, 1)) (kk : X k l d G C P nL (pc + 1) ls (.int (α (idRb) x.toNatClampNeg) :: st) α ρ) : X k l d G C P nL pc ls (.int x :: .ref (gA G (idRb)) :: st) α ρ :=
  x_cald_c K (by unfold idRb; omega) (scr_no (by unfold idRb; omega)) (fun f => ent_Rb) hin hdg kk
theorem cs_Rb   {own : String} (K : Ok l d G C own cc ret nL) {x v : Int32} (hin : vp_in x 60) (hdg : decode cc pc = .ok (.castore, 1)) (kk : X k l d G C P nL (pc + 1) ls st (up α (idRb) x.toNatClampNeg (vp_nar .char v)) ρ) : X k l d G C P nL pc ls (.int v :: .int x :: .ref (gA G (idRb)) :: st) α ρ :=
  x_cast_c K (by unfold idRb; omega) (scr_no (by unfold idRb; omega)) (fun f => ent_Rb) hin hdg kk
theorem aa_Sp {e : Nat} (he : e < 3) {own : String} (K : Ok l d G C own cc ret nL) {x : Int32} (hin : vp_in x 9) (hdg : decode cc pc = .ok (.aaload, 1)) (kk : X k l d G C P nL (pc + 1) ls (.ref (gA G (idS e x.toNatClampNeg)) :: st) α ρ) : X k l d G C P nL pc ls (.int x :: .ref (gA G (idSp e)) :: st) α ρ :=
  x_aald (Cn := "BreadSpans$Span") (t := 2) K (by unfold idSp; omega) (scr_no (by unfold idSp; omega)) (fun f => (ent_Sp he)) rfl hin hdg kk
theorem aa_Lw {e : Nat} (he : e < 3) {own : String} (K : Ok l d G C own cc ret nL) {x : Int32} (hin : vp_in x 2) (hdg : decode cc pc = .ok (.aaload, 1)) (kk : X k l d G C P nL (pc + 1) ls (.ref (gA G (idL e x.toNatClampNeg)) :: st) α ρ) : X k l d G C P nL pc ls (.int x :: .ref (gA G (idLw e)) :: st) α ρ :=
  x_aald (Cn := "BreadSpans$Law") (t := 3) K (by unfold idLw; omega) (scr_no (by unfold idLw; omega)) (fun f => (ent_Lw he)) rfl hin hdg kk
theorem aa_Shs   {own : String} (K : Ok l d G C own cc ret nL) {x : Int32} (hin : vp_in x 4) (hdg : decode cc pc = .ok (.aaload, 1)) (kk : X k l d G C P nL (pc + 1) ls (.ref (gA G (idSh x.toNatClampNeg)) :: st) α ρ) : X k l d G C P nL pc ls (.int x :: .ref (gA G (idShs)) :: st) α ρ :=
  x_aald (Cn := "BreadSpans$Sheet") (t := 4) K (by unfold idShs; omega) (scr_no (by unfold idShs; omega)) (fun f => ent_Shs) rfl hin hdg kk
theorem ia_mRow {own : String} (K : Ok l d G C own cc ret nL) {x : Int32} (hin : vp_in x 398) (hdg : decode cc pc = .ok (.iaload, 1)) (kk : X k l d G C P nL (pc + 1) ls (.int (ρ mRow x.toNatClampNeg) :: st) α ρ) : X k l d G C P nL pc ls (.int x :: .ref (gA G mRow) :: st) α ρ :=
  x_iald_m K (by decide) (scr_no (by decide)) (fun f => rfl) hin hdg kk
theorem is_mRow {own : String} (K : Ok l d G C own cc ret nL) {x v : Int32} (hin : vp_in x 398) (hdg : decode cc pc = .ok (.iastore, 1)) (kk : X k l d G C P nL (pc + 1) ls st α (up ρ mRow x.toNatClampNeg v)) : X k l d G C P nL pc ls (.int v :: .int x :: .ref (gA G mRow) :: st) α ρ :=
  x_iast_m K (by decide) (scr_no (by decide)) (fun f => rfl) hin hdg kk
theorem ia_mKept {own : String} (K : Ok l d G C own cc ret nL) {x : Int32} (hin : vp_in x 398) (hdg : decode cc pc = .ok (.iaload, 1)) (kk : X k l d G C P nL (pc + 1) ls (.int (ρ mKept x.toNatClampNeg) :: st) α ρ) : X k l d G C P nL pc ls (.int x :: .ref (gA G mKept) :: st) α ρ :=
  x_iald_m K (by decide) (scr_no (by decide)) (fun f => rfl) hin hdg kk
theorem is_mKept {own : String} (K : Ok l d G C own cc ret nL) {x v : Int32} (hin : vp_in x 398) (hdg : decode cc pc = .ok (.iastore, 1)) (kk : X k l d G C P nL (pc + 1) ls st α (up ρ mKept x.toNatClampNeg v)) : X k l d G C P nL pc ls (.int v :: .int x :: .ref (gA G mKept) :: st) α ρ :=
  x_iast_m K (by decide) (scr_no (by decide)) (fun f => rfl) hin hdg kk
theorem ia_mBefore {own : String} (K : Ok l d G C own cc ret nL) {x : Int32} (hin : vp_in x 398) (hdg : decode cc pc = .ok (.iaload, 1)) (kk : X k l d G C P nL (pc + 1) ls (.int (ρ mBefore x.toNatClampNeg) :: st) α ρ) : X k l d G C P nL pc ls (.int x :: .ref (gA G mBefore) :: st) α ρ :=
  x_iald_m K (by decide) (scr_no (by decide)) (fun f => rfl) hin hdg kk
theorem is_mBefore {own : String} (K : Ok l d G C own cc ret nL) {x v : Int32} (hin : vp_in x 398) (hdg : decode cc pc = .ok (.iastore, 1)) (kk : X k l d G C P nL (pc + 1) ls st α (up ρ mBefore x.toNatClampNeg v)) : X k l d G C P nL pc ls (.int v :: .int x :: .ref (gA G mBefore) :: st) α ρ :=
  x_iast_m K (by decide) (scr_no (by decide)) (fun f => rfl) hin hdg kk
theorem ia_mErr {own : String} (K : Ok l d G C own cc ret nL) {x : Int32} (hin : vp_in x 7) (hdg : decode cc pc = .ok (.iaload, 1)) (kk : X k l d G C P nL (pc + 1) ls (.int (ρ mErr x.toNatClampNeg) :: st) α ρ) : X k l d G C P nL pc ls (.int x :: .ref (gA G mErr) :: st) α ρ :=
  x_iald_m K (by decide) (scr_no (by decide)) (fun f => rfl) hin hdg kk
theorem is_mErr {own : String} (K : Ok l d G C own cc ret nL) {x v : Int32} (hin : vp_in x 7) (hdg : decode cc pc = .ok (.iastore, 1)) (kk : X k l d G C P nL (pc + 1) ls st α (up ρ mErr x.toNatClampNeg v)) : X k l d G C P nL pc ls (.int v :: .int x :: .ref (gA G mErr) :: st) α ρ :=
  x_iast_m K (by decide) (scr_no (by decide)) (fun f => rfl) hin hdg kk
theorem ia_mBits {own : String} (K : Ok l d G C own cc ret nL) {x : Int32} (hin : vp_in x 4) (hdg : decode cc pc = .ok (.iaload, 1)) (kk : X k l d G C P nL (pc + 1) ls (.int (ρ mBits x.toNatClampNeg) :: st) α ρ) : X k l d G C P nL pc ls (.int x :: .ref (gA G mBits) :: st) α ρ :=
  x_iald_m K (by decide) (scr_no (by decide)) (fun f => rfl) hin hdg kk
theorem is_mBits {own : String} (K : Ok l d G C own cc ret nL) {x v : Int32} (hin : vp_in x 4) (hdg : decode cc pc = .ok (.iastore, 1)) (kk : X k l d G C P nL (pc + 1) ls st α (up ρ mBits x.toNatClampNeg v)) : X k l d G C P nL pc ls (.int v :: .int x :: .ref (gA G mBits) :: st) α ρ :=
  x_iast_m K (by decide) (scr_no (by decide)) (fun f => rfl) hin hdg kk
theorem ia_mSize {own : String} (K : Ok l d G C own cc ret nL) {x : Int32} (hin : vp_in x 4) (hdg : decode cc pc = .ok (.iaload, 1)) (kk : X k l d G C P nL (pc + 1) ls (.int (ρ mSize x.toNatClampNeg) :: st) α ρ) : X k l d G C P nL pc ls (.int x :: .ref (gA G mSize) :: st) α ρ :=
  x_iald_m K (by decide) (scr_no (by decide)) (fun f => rfl) hin hdg kk
theorem is_mSize {own : String} (K : Ok l d G C own cc ret nL) {x v : Int32} (hin : vp_in x 4) (hdg : decode cc pc = .ok (.iastore, 1)) (kk : X k l d G C P nL (pc + 1) ls st α (up ρ mSize x.toNatClampNeg v)) : X k l d G C P nL pc ls (.int v :: .int x :: .ref (gA G mSize) :: st) α ρ :=
  x_iast_m K (by decide) (scr_no (by decide)) (fun f => rfl) hin hdg kk
theorem ia_mCells {own : String} (K : Ok l d G C own cc ret nL) {x : Int32} (hin : vp_in x 96) (hdg : decode cc pc = .ok (.iaload, 1)) (kk : X k l d G C P nL (pc + 1) ls (.int (ρ mCells x.toNatClampNeg) :: st) α ρ) : X k l d G C P nL pc ls (.int x :: .ref (gA G mCells) :: st) α ρ :=
  x_iald_m K (by decide) (scr_no (by decide)) (fun f => rfl) hin hdg kk
theorem is_mCells {own : String} (K : Ok l d G C own cc ret nL) {x v : Int32} (hin : vp_in x 96) (hdg : decode cc pc = .ok (.iastore, 1)) (kk : X k l d G C P nL (pc + 1) ls st α (up ρ mCells x.toNatClampNeg v)) : X k l d G C P nL pc ls (.int v :: .int x :: .ref (gA G mCells) :: st) α ρ :=
  x_iast_m K (by decide) (scr_no (by decide)) (fun f => rfl) hin hdg kk
theorem ia_mAct {own : String} (K : Ok l d G C own cc ret nL) {x : Int32} (hin : vp_in x 60) (hdg : decode cc pc = .ok (.iaload, 1)) (kk : X k l d G C P nL (pc + 1) ls (.int (ρ mAct x.toNatClampNeg) :: st) α ρ) : X k l d G C P nL pc ls (.int x :: .ref (gA G mAct) :: st) α ρ :=
  x_iald_m K (by decide) (scr_no (by decide)) (fun f => rfl) hin hdg kk
theorem is_mAct {own : String} (K : Ok l d G C own cc ret nL) {x v : Int32} (hin : vp_in x 60) (hdg : decode cc pc = .ok (.iastore, 1)) (kk : X k l d G C P nL (pc + 1) ls st α (up ρ mAct x.toNatClampNeg v)) : X k l d G C P nL pc ls (.int v :: .int x :: .ref (gA G mAct) :: st) α ρ :=
  x_iast_m K (by decide) (scr_no (by decide)) (fun f => rfl) hin hdg kk
theorem ia_mWith {own : String} (K : Ok l d G C own cc ret nL) {x : Int32} (hin : vp_in x 60) (hdg : decode cc pc = .ok (.iaload, 1)) (kk : X k l d G C P nL (pc + 1) ls (.int (ρ mWith x.toNatClampNeg) :: st) α ρ) : X k l d G C P nL pc ls (.int x :: .ref (gA G mWith) :: st) α ρ :=
  x_iald_m K (by decide) (scr_no (by decide)) (fun f => rfl) hin hdg kk
theorem is_mWith {own : String} (K : Ok l d G C own cc ret nL) {x v : Int32} (hin : vp_in x 60) (hdg : decode cc pc = .ok (.iastore, 1)) (kk : X k l d G C P nL (pc + 1) ls st α (up ρ mWith x.toNatClampNeg v)) : X k l d G C P nL pc ls (.int v :: .int x :: .ref (gA G mWith) :: st) α ρ :=
  x_iast_m K (by decide) (scr_no (by decide)) (fun f => rfl) hin hdg kk
theorem ia_mFacts {own : String} (K : Ok l d G C own cc ret nL) {x : Int32} (hin : vp_in x 3) (hdg : decode cc pc = .ok (.iaload, 1)) (kk : X 0 l d G C P nL (pc + 1) ls (.int (ρ mFacts x.toNatClampNeg) :: st) α ρ) : X 0 l d G C P nL pc ls (.int x :: .ref (gA G mFacts) :: st) α ρ :=
  x_iald_m K (by decide) scr_0 (fun f => rfl) hin hdg kk
theorem is_mFacts {own : String} (K : Ok l d G C own cc ret nL) {x v : Int32} (hin : vp_in x 3) (hdg : decode cc pc = .ok (.iastore, 1)) (kk : X 0 l d G C P nL (pc + 1) ls st α (up ρ mFacts x.toNatClampNeg v)) : X 0 l d G C P nL pc ls (.int v :: .int x :: .ref (gA G mFacts) :: st) α ρ :=
  x_iast_m K (by decide) scr_0 (fun f => rfl) hin hdg kk
theorem ia_mPile {own : String} (K : Ok l d G C own cc ret nL) {x : Int32} (hin : vp_in x 60) (hdg : decode cc pc = .ok (.iaload, 1)) (kk : X 0 l d G C P nL (pc + 1) ls (.int (ρ mPile x.toNatClampNeg) :: st) α ρ) : X 0 l d G C P nL pc ls (.int x :: .ref (gA G mPile) :: st) α ρ :=
  x_iald_m K (by decide) scr_0 (fun f => rfl) hin hdg kk
theorem is_mPile {own : String} (K : Ok l d G C own cc ret nL) {x v : Int32} (hin : vp_in x 60) (hdg : decode cc pc = .ok (.iastore, 1)) (kk : X 0 l d G C P nL (pc + 1) ls st α (up ρ mPile x.toNatClampNeg v)) : X 0 l d G C P nL pc ls (.int v :: .int x :: .ref (gA G mPile) :: st) α ρ :=
  x_iast_m K (by decide) scr_0 (fun f => rfl) hin hdg kk
theorem ia_mBear {own : String} (K : Ok l d G C own cc ret nL) {x : Int32} (hin : vp_in x 9) (hdg : decode cc pc = .ok (.iaload, 1)) (kk : X k l d G C P nL (pc + 1) ls (.int (ρ mBear x.toNatClampNeg) :: st) α ρ) : X k l d G C P nL pc ls (.int x :: .ref (gA G mBear) :: st) α ρ :=
  x_iald_m K (by decide) (scr_no (by decide)) (fun f => rfl) hin hdg kk
theorem is_mBear {own : String} (K : Ok l d G C own cc ret nL) {x v : Int32} (hin : vp_in x 9) (hdg : decode cc pc = .ok (.iastore, 1)) (kk : X k l d G C P nL (pc + 1) ls st α (up ρ mBear x.toNatClampNeg v)) : X k l d G C P nL pc ls (.int v :: .int x :: .ref (gA G mBear) :: st) α ρ :=
  x_iast_m K (by decide) (scr_no (by decide)) (fun f => rfl) hin hdg kk
theorem ia_mTrace {own : String} (K : Ok l d G C own cc ret nL) {x : Int32} (hin : vp_in x 30) (hdg : decode cc pc = .ok (.iaload, 1)) (kk : X k l d G C P nL (pc + 1) ls (.int (ρ mTrace x.toNatClampNeg) :: st) α ρ) : X k l d G C P nL pc ls (.int x :: .ref (gA G mTrace) :: st) α ρ :=
  x_iald_m K (by decide) (scr_no (by decide)) (fun f => rfl) hin hdg kk
theorem is_mTrace {own : String} (K : Ok l d G C own cc ret nL) {x v : Int32} (hin : vp_in x 30) (hdg : decode cc pc = .ok (.iastore, 1)) (kk : X k l d G C P nL (pc + 1) ls st α (up ρ mTrace x.toNatClampNeg v)) : X k l d G C P nL pc ls (.int v :: .int x :: .ref (gA G mTrace) :: st) α ρ :=
  x_iast_m K (by decide) (scr_no (by decide)) (fun f => rfl) hin hdg kk
end TY
theorem mw_yX6_init : MW yX6_init cX6_init 2 none 0 := ⟨co_yX6_init, in_X6, ⟨by decide, by decide⟩, by decide +kernel⟩
theorem mw_yX0_init : MW yX0_init cX0_init 2 none 0 := ⟨co_yX0_init, in_X0, ⟨by decide, by decide⟩, by decide +kernel⟩
theorem mw_yX4_init : MW yX4_init cX4_init 1 none 0 := ⟨co_yX4_init, in_X4, ⟨by decide, by decide⟩, by decide +kernel⟩
theorem mw_yX1_init : MW yX1_init cX1_init 1 none 0 := ⟨co_yX1_init, in_X1, ⟨by decide, by decide⟩, by decide +kernel⟩
theorem mw_yX2_init : MW yX2_init cX2_init 1 none 0 := ⟨co_yX2_init, in_X2, ⟨by decide, by decide⟩, by decide +kernel⟩
theorem mw_yX5_init : MW yX5_init cX5_init 1 none 0 := ⟨co_yX5_init, in_X5, ⟨by decide, by decide⟩, by decide +kernel⟩
theorem mw_yX3_init : MW yX3_init cX3_init 1 none 0 := ⟨co_yX3_init, in_X3, ⟨by decide, by decide⟩, by decide +kernel⟩
theorem mw_yX6_span : MW yX6_span cX6_span 4 (some .int) 3 := ⟨co_yX6_span, in_X6, ⟨by decide, by decide⟩, by decide +kernel⟩
theorem mw_yX6_isKindAndNumber : MW yX6_isKindAndNumber cX6_isKindAndNumber 1 (some .boolean) 1 := ⟨co_yX6_isKindAndNumber, in_X6, ⟨by decide, by decide⟩, by decide +kernel⟩
theorem mw_yX6_within : MW yX6_within cX6_within 3 (some .boolean) 3 := ⟨co_yX6_within, in_X6, ⟨by decide, by decide⟩, by decide +kernel⟩
theorem mw_yX6_areTwoPlaces : MW yX6_areTwoPlaces cX6_areTwoPlaces 2 (some .boolean) 2 := ⟨co_yX6_areTwoPlaces, in_X6, ⟨by decide, by decide⟩, by decide +kernel⟩
theorem mw_yX6_isPlace : MW yX6_isPlace cX6_isPlace 1 (some .boolean) 1 := ⟨co_yX6_isPlace, in_X6, ⟨by decide, by decide⟩, by decide +kernel⟩
theorem mw_yX6_error : MW yX6_error cX6_error 2 (some .int) 1 := ⟨co_yX6_error, in_X6, ⟨by decide, by decide⟩, by decide +kernel⟩
theorem mw_yX0_addSpan : MW yX0_addSpan cX0_addSpan 5 (some .int) 3 := ⟨co_yX0_addSpan, in_X0, ⟨by decide, by decide⟩, by decide +kernel⟩
theorem mw_yX4_bakeAnew : MW yX4_bakeAnew cX4_bakeAnew 1 none 0 := ⟨co_yX4_bakeAnew, in_X4, ⟨by decide, by decide⟩, by decide +kernel⟩
theorem mw_yX6_spanIs : MW yX6_spanIs cX6_spanIs 4 (some .int) 2 := ⟨co_yX6_spanIs, in_X6, ⟨by decide, by decide⟩, by decide +kernel⟩
theorem mw_yX0_hasSpan : MW yX0_hasSpan cX0_hasSpan 2 (some .boolean) 1 := ⟨co_yX0_hasSpan, in_X0, ⟨by decide, by decide⟩, by decide +kernel⟩
theorem mw_yX4_bearsOn : MW yX4_bearsOn cX4_bearsOn 2 (some .int) 1 := ⟨co_yX4_bearsOn, in_X4, ⟨by decide, by decide⟩, by decide +kernel⟩
theorem mw_yX4_bearsAsRye : MW yX4_bearsAsRye cX4_bearsAsRye 1 (some .int) 0 := ⟨co_yX4_bearsAsRye, in_X4, ⟨by decide, by decide⟩, by decide +kernel⟩
theorem mw_yX4_bearsAsLoaf : MW yX4_bearsAsLoaf cX4_bearsAsLoaf 1 (some .int) 0 := ⟨co_yX4_bearsAsLoaf, in_X4, ⟨by decide, by decide⟩, by decide +kernel⟩
theorem mw_yJ9_max_7cf53 : MW yJ9_max_7cf53 cJ9_max_7cf53 2 (some .int) 2 := ⟨co_yJ9_max_7cf53, in_J9, ⟨by decide, by decide⟩, by decide +kernel⟩
theorem mw_yX4_bearsAsBrioche : MW yX4_bearsAsBrioche cX4_bearsAsBrioche 1 (some .int) 0 := ⟨co_yX4_bearsAsBrioche, in_X4, ⟨by decide, by decide⟩, by decide +kernel⟩
theorem mw_yJ9_min_7cf53 : MW yJ9_min_7cf53 cJ9_min_7cf53 2 (some .int) 2 := ⟨co_yJ9_min_7cf53, in_J9, ⟨by decide, by decide⟩, by decide +kernel⟩
theorem mw_yX4_takes : MW yX4_takes cX4_takes 2 (some .int) 0 := ⟨co_yX4_takes, in_X4, ⟨by decide, by decide⟩, by decide +kernel⟩
theorem mw_yX6_become : MW yX6_become cX6_become 5 (some .int) 2 := ⟨co_yX6_become, in_X6, ⟨by decide, by decide⟩, by decide +kernel⟩
theorem mw_yX6_as : MW yX6_as cX6_as 4 (some .int) 2 := ⟨co_yX6_as, in_X6, ⟨by decide, by decide⟩, by decide +kernel⟩
theorem mw_yX6_isUnder : MW yX6_isUnder cX6_isUnder 4 (some .boolean) 2 := ⟨co_yX6_isUnder, in_X6, ⟨by decide, by decide⟩, by decide +kernel⟩
theorem mw_yX6_kindAbove : MW yX6_kindAbove cX6_kindAbove 1 (some .int) 1 := ⟨co_yX6_kindAbove, in_X6, ⟨by decide, by decide⟩, by decide +kernel⟩
theorem mw_yX6_soak : MW yX6_soak cX6_soak 5 (some .int) 2 := ⟨co_yX6_soak, in_X6, ⟨by decide, by decide⟩, by decide +kernel⟩
theorem mw_yX6_bakes : MW yX6_bakes cX6_bakes 4 (some .int) 1 := ⟨co_yX6_bakes, in_X6, ⟨by decide, by decide⟩, by decide +kernel⟩
theorem mw_yX6_eat : MW yX6_eat cX6_eat 4 (some .int) 1 := ⟨co_yX6_eat, in_X6, ⟨by decide, by decide⟩, by decide +kernel⟩
theorem mw_yX6_store : MW yX6_store cX6_store 4 (some .int) 2 := ⟨co_yX6_store, in_X6, ⟨by decide, by decide⟩, by decide +kernel⟩
theorem mw_yX6_cross : MW yX6_cross cX6_cross 4 (some .int) 2 := ⟨co_yX6_cross, in_X6, ⟨by decide, by decide⟩, by decide +kernel⟩
theorem mw_yX6_isLoad : MW yX6_isLoad cX6_isLoad 1 (some .boolean) 1 := ⟨co_yX6_isLoad, in_X6, ⟨by decide, by decide⟩, by decide +kernel⟩
theorem mw_yX0_carryOver : MW yX0_carryOver cX0_carryOver 5 (some .int) 2 := ⟨co_yX0_carryOver, in_X0, ⟨by decide, by decide⟩, by decide +kernel⟩
theorem mw_yX0_gives : MW yX0_gives cX0_gives 6 (some .int) 4 := ⟨co_yX0_gives, in_X0, ⟨by decide, by decide⟩, by decide +kernel⟩
theorem mw_yX1_workOut : MW yX1_workOut cX1_workOut 7 (some .int) 3 := ⟨co_yX1_workOut, in_X1, ⟨by decide, by decide⟩, by decide +kernel⟩
theorem mw_yX1_truth : MW yX1_truth cX1_truth 1 (some .int) 1 := ⟨co_yX1_truth, in_X1, ⟨by decide, by decide⟩, by decide +kernel⟩
theorem mw_yX1_join : MW yX1_join cX1_join 3 (some .int) 3 := ⟨co_yX1_join, in_X1, ⟨by decide, by decide⟩, by decide +kernel⟩
theorem mw_yX6_held : MW yX6_held cX6_held 3 (some .int) 3 := ⟨co_yX6_held, in_X6, ⟨by decide, by decide⟩, by decide +kernel⟩
theorem mw_yX6_feed : MW yX6_feed cX6_feed 4 (some .int) 2 := ⟨co_yX6_feed, in_X6, ⟨by decide, by decide⟩, by decide +kernel⟩
theorem mw_yX0_addToTape : MW yX0_addToTape cX0_addToTape 5 (some .int) 2 := ⟨co_yX0_addToTape, in_X0, ⟨by decide, by decide⟩, by decide +kernel⟩
theorem mw_yX6_text : MW yX6_text cX6_text 3 (some .int) 1 := ⟨co_yX6_text, in_X6, ⟨by decide, by decide⟩, by decide +kernel⟩
theorem mw_yX6_isUse : MW yX6_isUse cX6_isUse 1 (some .boolean) 1 := ⟨co_yX6_isUse, in_X6, ⟨by decide, by decide⟩, by decide +kernel⟩
theorem mw_yX2_reads : MW yX2_reads cX2_reads 4 (some .boolean) 3 := ⟨co_yX2_reads, in_X2, ⟨by decide, by decide⟩, by decide +kernel⟩
theorem mw_yX2_readAny : MW yX2_readAny cX2_readAny 3 (some .boolean) 1 := ⟨co_yX2_readAny, in_X2, ⟨by decide, by decide⟩, by decide +kernel⟩
theorem mw_yX2_readAll : MW yX2_readAll cX2_readAll 3 (some .boolean) 1 := ⟨co_yX2_readAll, in_X2, ⟨by decide, by decide⟩, by decide +kernel⟩
theorem mw_yX2_readCompared : MW yX2_readCompared cX2_readCompared 3 (some .boolean) 1 := ⟨co_yX2_readCompared, in_X2, ⟨by decide, by decide⟩, by decide +kernel⟩
theorem mw_yX2_readSum : MW yX2_readSum cX2_readSum 4 (some .boolean) 1 := ⟨co_yX2_readSum, in_X2, ⟨by decide, by decide⟩, by decide +kernel⟩
theorem mw_yX2_readProduct : MW yX2_readProduct cX2_readProduct 4 (some .boolean) 1 := ⟨co_yX2_readProduct, in_X2, ⟨by decide, by decide⟩, by decide +kernel⟩
theorem mw_yX2_readOne : MW yX2_readOne cX2_readOne 4 (some .boolean) 1 := ⟨co_yX2_readOne, in_X2, ⟨by decide, by decide⟩, by decide +kernel⟩
theorem mw_yX2_ahead : MW yX2_ahead cX2_ahead 1 (some .char) 0 := ⟨co_yX2_ahead, in_X2, ⟨by decide, by decide⟩, by decide +kernel⟩
theorem mw_yX2_readNot : MW yX2_readNot cX2_readNot 2 (some .boolean) 1 := ⟨co_yX2_readNot, in_X2, ⟨by decide, by decide⟩, by decide +kernel⟩
theorem mw_yX2_make : MW yX2_make cX2_make 2 none 1 := ⟨co_yX2_make, in_X2, ⟨by decide, by decide⟩, by decide +kernel⟩
theorem mw_yX2_readWithin : MW yX2_readWithin cX2_readWithin 2 (some .boolean) 1 := ⟨co_yX2_readWithin, in_X2, ⟨by decide, by decide⟩, by decide +kernel⟩
theorem mw_yX2_isDigit : MW yX2_isDigit cX2_isDigit 1 (some .boolean) 1 := ⟨co_yX2_isDigit, in_X2, ⟨by decide, by decide⟩, by decide +kernel⟩
theorem mw_yX2_readNumber : MW yX2_readNumber cX2_readNumber 3 none 0 := ⟨co_yX2_readNumber, in_X2, ⟨by decide, by decide⟩, by decide +kernel⟩
theorem mw_yJ0_indexOf_0f7a4 : MW yJ0_indexOf_0f7a4 cJ0_indexOf_0f7a4 2 (some .int) 1 := ⟨co_yJ0_indexOf_0f7a4, in_J0, ⟨by decide, by decide⟩, by decide +kernel⟩
theorem mw_yJ0_indexOf_7cf53 : MW yJ0_indexOf_7cf53 cJ0_indexOf_7cf53 3 (some .int) 2 := ⟨co_yJ0_indexOf_7cf53, in_J0, ⟨by decide, by decide⟩, by decide +kernel⟩
theorem mw_yJ0_isLatin1_aae02 : MW yJ0_isLatin1_aae02 cJ0_isLatin1_aae02 1 (some .boolean) 0 := ⟨co_yJ0_isLatin1_aae02, in_J0, ⟨by decide, by decide⟩, by decide +kernel⟩
theorem mw_yJ0_length_8abf5 : MW yJ0_length_8abf5 cJ0_length_8abf5 1 (some .int) 0 := ⟨co_yJ0_length_8abf5, in_J0, ⟨by decide, by decide⟩, by decide +kernel⟩
theorem mw_yJ0_coder_7d493 : MW yJ0_coder_7d493 cJ0_coder_7d493 1 (some .byte) 0 := ⟨co_yJ0_coder_7d493, in_J0, ⟨by decide, by decide⟩, by decide +kernel⟩
theorem mw_yJ1_indexOf_4cfef : MW yJ1_indexOf_4cfef cJ1_indexOf_4cfef 4 (some .int) 4 := ⟨co_yJ1_indexOf_4cfef, in_J1, ⟨by decide, by decide⟩, by decide +kernel⟩
theorem mw_yJ1_canEncode_9a6ad : MW yJ1_canEncode_9a6ad cJ1_canEncode_9a6ad 1 (some .boolean) 1 := ⟨co_yJ1_canEncode_9a6ad, in_J1, ⟨by decide, by decide⟩, by decide +kernel⟩
theorem mw_yJ1_indexOfChar_4cfef : MW yJ1_indexOfChar_4cfef cJ1_indexOfChar_4cfef 6 (some .int) 4 := ⟨co_yJ1_indexOfChar_4cfef, in_J1, ⟨by decide, by decide⟩, by decide +kernel⟩
theorem mw_yJ2_indexOf_4cfef : MW yJ2_indexOf_4cfef cJ2_indexOf_4cfef 4 (some .int) 4 := ⟨co_yJ2_indexOf_4cfef, in_J2, ⟨by decide, by decide⟩, by decide +kernel⟩
theorem mw_yJ2_indexOfChar_4cfef : MW yJ2_indexOfChar_4cfef cJ2_indexOfChar_4cfef 4 (some .int) 4 := ⟨co_yJ2_indexOfChar_4cfef, in_J2, ⟨by decide, by decide⟩, by decide +kernel⟩
theorem mw_yJ2_checkBoundsBeginEnd_d044e : MW yJ2_checkBoundsBeginEnd_d044e cJ2_checkBoundsBeginEnd_d044e 3 none 3 := ⟨co_yJ2_checkBoundsBeginEnd_d044e, in_J2, ⟨by decide, by decide⟩, by decide +kernel⟩
theorem mw_yJ2_length_9d52b : MW yJ2_length_9d52b cJ2_length_9d52b 1 (some .int) 1 := ⟨co_yJ2_length_9d52b, in_J2, ⟨by decide, by decide⟩, by decide +kernel⟩
theorem mw_yJ0_checkBoundsBeginEnd_23922 : MW yJ0_checkBoundsBeginEnd_23922 cJ0_checkBoundsBeginEnd_23922 3 none 3 := ⟨co_yJ0_checkBoundsBeginEnd_23922, in_J0, ⟨by decide, by decide⟩, by decide +kernel⟩
theorem mw_yJ3_checkFromToIndex_8c36e : MW yJ3_checkFromToIndex_8c36e cJ3_checkFromToIndex_8c36e 4 (some .int) 4 := ⟨co_yJ3_checkFromToIndex_8c36e, in_J3, ⟨by decide, by decide⟩, by decide +kernel⟩
theorem mw_yJ2_indexOfCharUnsafe_4cfef : MW yJ2_indexOfCharUnsafe_4cfef cJ2_indexOfCharUnsafe_4cfef 5 (some .int) 4 := ⟨co_yJ2_indexOfCharUnsafe_4cfef, in_J2, ⟨by decide, by decide⟩, by decide +kernel⟩
theorem mw_yJ2_getChar_3b067 : MW yJ2_getChar_3b067 cJ2_getChar_3b067 2 (some .char) 2 := ⟨co_yJ2_getChar_3b067, in_J2, ⟨by decide, by decide⟩, by decide +kernel⟩
theorem mw_yJ2_indexOfSupplementary_4cfef : MW yJ2_indexOfSupplementary_4cfef cJ2_indexOfSupplementary_4cfef 7 (some .int) 4 := ⟨co_yJ2_indexOfSupplementary_4cfef, in_J2, ⟨by decide, by decide⟩, by decide +kernel⟩
theorem mw_yJ11_isValidCodePoint_9a6ad : MW yJ11_isValidCodePoint_9a6ad cJ11_isValidCodePoint_9a6ad 2 (some .boolean) 1 := ⟨co_yJ11_isValidCodePoint_9a6ad, in_J11, ⟨by decide, by decide⟩, by decide +kernel⟩
theorem mw_yJ11_highSurrogate_5068e : MW yJ11_highSurrogate_5068e cJ11_highSurrogate_5068e 1 (some .char) 1 := ⟨co_yJ11_highSurrogate_5068e, in_J11, ⟨by decide, by decide⟩, by decide +kernel⟩
theorem mw_yJ11_lowSurrogate_5068e : MW yJ11_lowSurrogate_5068e cJ11_lowSurrogate_5068e 1 (some .char) 1 := ⟨co_yJ11_lowSurrogate_5068e, in_J11, ⟨by decide, by decide⟩, by decide +kernel⟩
theorem mw_yX2_isOfProducts : MW yX2_isOfProducts cX2_isOfProducts 1 (some .boolean) 1 := ⟨co_yX2_isOfProducts, in_X2, ⟨by decide, by decide⟩, by decide +kernel⟩
theorem mw_yX1_write : MW yX1_write cX1_write 3 none 2 := ⟨co_yX1_write, in_X1, ⟨by decide, by decide⟩, by decide +kernel⟩
theorem mw_yX6_untell : MW yX6_untell cX6_untell 3 (some .int) 1 := ⟨co_yX6_untell, in_X6, ⟨by decide, by decide⟩, by decide +kernel⟩
theorem mw_yX6_law : MW yX6_law cX6_law 5 (some .int) 4 := ⟨co_yX6_law, in_X6, ⟨by decide, by decide⟩, by decide +kernel⟩
theorem mw_yX6_days : MW yX6_days cX6_days 3 (some .int) 1 := ⟨co_yX6_days, in_X6, ⟨by decide, by decide⟩, by decide +kernel⟩
theorem mw_yX0_passDay : MW yX0_passDay cX0_passDay 3 none 0 := ⟨co_yX0_passDay, in_X0, ⟨by decide, by decide⟩, by decide +kernel⟩
theorem mw_yX6_loose : MW yX6_loose cX6_loose 4 (some .int) 1 := ⟨co_yX6_loose, in_X6, ⟨by decide, by decide⟩, by decide +kernel⟩
theorem mw_yX0_passDayByDraws : MW yX0_passDayByDraws cX0_passDayByDraws 4 (some .int) 0 := ⟨co_yX0_passDayByDraws, in_X0, ⟨by decide, by decide⟩, by decide +kernel⟩
theorem mw_yX0_draw : MW yX0_draw cX0_draw 1 (some .int) 0 := ⟨co_yX0_draw, in_X0, ⟨by decide, by decide⟩, by decide +kernel⟩
theorem mw_yX6_seed : MW yX6_seed cX6_seed 3 (some .int) 1 := ⟨co_yX6_seed, in_X6, ⟨by decide, by decide⟩, by decide +kernel⟩
theorem mw_yX6_joined : MW yX6_joined cX6_joined 3 (some .int) 2 := ⟨co_yX6_joined, in_X6, ⟨by decide, by decide⟩, by decide +kernel⟩
theorem mw_yX0_bearing : MW yX0_bearing cX0_bearing 4 (some .int) 1 := ⟨co_yX0_bearing, in_X0, ⟨by decide, by decide⟩, by decide +kernel⟩
theorem mw_yX0_reachOver : MW yX0_reachOver cX0_reachOver 8 (some .int) 2 := ⟨co_yX0_reachOver, in_X0, ⟨by decide, by decide⟩, by decide +kernel⟩
theorem mw_yX4_ends : MW yX4_ends cX4_ends 1 (some .int) 0 := ⟨co_yX4_ends, in_X4, ⟨by decide, by decide⟩, by decide +kernel⟩
theorem mw_yX6_load : MW yX6_load cX6_load 4 (some .int) 2 := ⟨co_yX6_load, in_X6, ⟨by decide, by decide⟩, by decide +kernel⟩
theorem mw_yX0_joins : MW yX0_joins cX0_joins 4 (some .boolean) 3 := ⟨co_yX0_joins, in_X0, ⟨by decide, by decide⟩, by decide +kernel⟩
theorem mw_yX6_baking : MW yX6_baking cX6_baking 11 (some .int) 4 := ⟨co_yX6_baking, in_X6, ⟨by decide, by decide⟩, by decide +kernel⟩
theorem mw_yX0_takeFrom : MW yX0_takeFrom cX0_takeFrom 3 none 1 := ⟨co_yX0_takeFrom, in_X0, ⟨by decide, by decide⟩, by decide +kernel⟩
theorem mw_yX4_takeFrom : MW yX4_takeFrom cX4_takeFrom 2 none 1 := ⟨co_yX4_takeFrom, in_X4, ⟨by decide, by decide⟩, by decide +kernel⟩
theorem mw_yX1_takeFrom : MW yX1_takeFrom cX1_takeFrom 2 none 1 := ⟨co_yX1_takeFrom, in_X1, ⟨by decide, by decide⟩, by decide +kernel⟩
theorem mw_yX0_bakeAllAnew : MW yX0_bakeAllAnew cX0_bakeAllAnew 2 none 0 := ⟨co_yX0_bakeAllAnew, in_X0, ⟨by decide, by decide⟩, by decide +kernel⟩
theorem mw_yX0_flourFor : MW yX0_flourFor cX0_flourFor 4 (some .int) 1 := ⟨co_yX0_flourFor, in_X0, ⟨by decide, by decide⟩, by decide +kernel⟩
theorem mw_yX6_eating : MW yX6_eating cX6_eating 10 (some .int) 4 := ⟨co_yX6_eating, in_X6, ⟨by decide, by decide⟩, by decide +kernel⟩
theorem mw_yJ6_bitCount_0f7a4 : MW yJ6_bitCount_0f7a4 cJ6_bitCount_0f7a4 1 (some .int) 1 := ⟨co_yJ6_bitCount_0f7a4, in_J6, ⟨by decide, by decide⟩, by decide +kernel⟩
theorem mw_yX6_lasts : MW yX6_lasts cX6_lasts 5 (some .int) 3 := ⟨co_yX6_lasts, in_X6, ⟨by decide, by decide⟩, by decide +kernel⟩
theorem mw_yX6_then : MW yX6_then cX6_then 4 (some .int) 2 := ⟨co_yX6_then, in_X6, ⟨by decide, by decide⟩, by decide +kernel⟩
theorem mw_yX6_odds : MW yX6_odds cX6_odds 8 (some .int) 4 := ⟨co_yX6_odds, in_X6, ⟨by decide, by decide⟩, by decide +kernel⟩
theorem mw_yX6_greatestCommon : MW yX6_greatestCommon cX6_greatestCommon 3 (some .int) 2 := ⟨co_yX6_greatestCommon, in_X6, ⟨by decide, by decide⟩, by decide +kernel⟩
theorem mw_yX6_fits : MW yX6_fits cX6_fits 4 (some .int) 1 := ⟨co_yX6_fits, in_X6, ⟨by decide, by decide⟩, by decide +kernel⟩
theorem mw_yX6_isSheet : MW yX6_isSheet cX6_isSheet 1 (some .boolean) 1 := ⟨co_yX6_isSheet, in_X6, ⟨by decide, by decide⟩, by decide +kernel⟩
theorem mw_yX3_isMissing : MW yX3_isMissing cX3_isMissing 1 (some .boolean) 0 := ⟨co_yX3_isMissing, in_X3, ⟨by decide, by decide⟩, by decide +kernel⟩
theorem mw_yX0_rightOnes : MW yX0_rightOnes cX0_rightOnes 3 (some .int) 1 := ⟨co_yX0_rightOnes, in_X0, ⟨by decide, by decide⟩, by decide +kernel⟩
theorem mw_yX6_voice : MW yX6_voice cX6_voice 5 (some .int) 3 := ⟨co_yX6_voice, in_X6, ⟨by decide, by decide⟩, by decide +kernel⟩
theorem mw_yX5_speak : MW yX5_speak cX5_speak 5 (some .int) 4 := ⟨co_yX5_speak, in_X5, ⟨by decide, by decide⟩, by decide +kernel⟩
theorem mw_yX5_say : MW yX5_say cX5_say 8 (some .int) 4 := ⟨co_yX5_say, in_X5, ⟨by decide, by decide⟩, by decide +kernel⟩
theorem mw_yX5_begin : MW yX5_begin cX5_begin 6 (some .int) 4 := ⟨co_yX5_begin, in_X5, ⟨by decide, by decide⟩, by decide +kernel⟩
theorem mw_yX5_part : MW yX5_part cX5_part 3 (some .int) 2 := ⟨co_yX5_part, in_X5, ⟨by decide, by decide⟩, by decide +kernel⟩
theorem mw_yX6_body : MW yX6_body cX6_body 2 (some .int) 1 := ⟨co_yX6_body, in_X6, ⟨by decide, by decide⟩, by decide +kernel⟩
theorem mw_yX6_sheet : MW yX6_sheet cX6_sheet 4 (some .int) 3 := ⟨co_yX6_sheet, in_X6, ⟨by decide, by decide⟩, by decide +kernel⟩
theorem mw_yX3_renew : MW yX3_renew cX3_renew 4 none 2 := ⟨co_yX3_renew, in_X3, ⟨by decide, by decide⟩, by decide +kernel⟩
theorem mw_yX6_put : MW yX6_put cX6_put 5 (some .int) 3 := ⟨co_yX6_put, in_X6, ⟨by decide, by decide⟩, by decide +kernel⟩
theorem mw_yX3_write : MW yX3_write cX3_write 3 none 2 := ⟨co_yX3_write, in_X3, ⟨by decide, by decide⟩, by decide +kernel⟩
theorem mw_yX6_move : MW yX6_move cX6_move 8 (some .int) 5 := ⟨co_yX6_move, in_X6, ⟨by decide, by decide⟩, by decide +kernel⟩
theorem mw_yX3_hasRow : MW yX3_hasRow cX3_hasRow 3 (some .boolean) 2 := ⟨co_yX3_hasRow, in_X3, ⟨by decide, by decide⟩, by decide +kernel⟩
theorem mw_yX6_soaks : MW yX6_soaks cX6_soaks 5 (some .int) 1 := ⟨co_yX6_soaks, in_X6, ⟨by decide, by decide⟩, by decide +kernel⟩
theorem mw_yX6_judge : MW yX6_judge cX6_judge 3 (some .int) 1 := ⟨co_yX6_judge, in_X6, ⟨by decide, by decide⟩, by decide +kernel⟩
theorem mw_yX6_image : MW yX6_image cX6_image 1 (some .int) 0 := ⟨co_yX6_image, in_X6, ⟨by decide, by decide⟩, by decide +kernel⟩
theorem mw_yX6_restore : MW yX6_restore cX6_restore 1 (some .int) 0 := ⟨co_yX6_restore, in_X6, ⟨by decide, by decide⟩, by decide +kernel⟩
theorem mw_yX6_tell : MW yX6_tell cX6_tell 2 (some .int) 1 := ⟨co_yX6_tell, in_X6, ⟨by decide, by decide⟩, by decide +kernel⟩
theorem mw_yX6_check : MW yX6_check cX6_check 3 (some .int) 0 := ⟨co_yX6_check, in_X6, ⟨by decide, by decide⟩, by decide +kernel⟩
theorem mw_yX6_count : MW yX6_count cX6_count 2 (some .int) 1 := ⟨co_yX6_count, in_X6, ⟨by decide, by decide⟩, by decide +kernel⟩
theorem mw_yX6_told : MW yX6_told cX6_told 2 (some .int) 1 := ⟨co_yX6_told, in_X6, ⟨by decide, by decide⟩, by decide +kernel⟩
theorem mw_yX7_init : MW yX7_init cX7_init 1 none 0 := ⟨co_yX7_init, in_X7, ⟨by decide, by decide⟩, by decide +kernel⟩
theorem mw_yX7_span : MW yX7_span cX7_span 5 (some .int) 3 := ⟨co_yX7_span, in_X7, ⟨by decide, by decide⟩, by decide +kernel⟩
theorem mw_yX7_isKm : MW yX7_isKm cX7_isKm 1 (some .boolean) 1 := ⟨co_yX7_isKm, in_X7, ⟨by decide, by decide⟩, by decide +kernel⟩
theorem mw_yX7_in : MW yX7_in cX7_in 3 (some .boolean) 3 := ⟨co_yX7_in, in_X7, ⟨by decide, by decide⟩, by decide +kernel⟩
theorem mw_yX7_areTwo : MW yX7_areTwo cX7_areTwo 2 (some .boolean) 2 := ⟨co_yX7_areTwo, in_X7, ⟨by decide, by decide⟩, by decide +kernel⟩
theorem mw_yX7_isPlace : MW yX7_isPlace cX7_isPlace 1 (some .boolean) 1 := ⟨co_yX7_isPlace, in_X7, ⟨by decide, by decide⟩, by decide +kernel⟩
theorem mw_yX7_error : MW yX7_error cX7_error 2 (some .int) 1 := ⟨co_yX7_error, in_X7, ⟨by decide, by decide⟩, by decide +kernel⟩
theorem mw_yX7_lets : MW yX7_lets cX7_lets 4 none 3 := ⟨co_yX7_lets, in_X7, ⟨by decide, by decide⟩, by decide +kernel⟩
theorem mw_yX7_spanIs : MW yX7_spanIs cX7_spanIs 3 (some .int) 2 := ⟨co_yX7_spanIs, in_X7, ⟨by decide, by decide⟩, by decide +kernel⟩
theorem mw_yX7_isSpan : MW yX7_isSpan cX7_isSpan 2 (some .boolean) 1 := ⟨co_yX7_isSpan, in_X7, ⟨by decide, by decide⟩, by decide +kernel⟩
theorem mw_yX7_of : MW yX7_of cX7_of 3 (some .int) 2 := ⟨co_yX7_of, in_X7, ⟨by decide, by decide⟩, by decide +kernel⟩
theorem mw_yX7_bearsOf : MW yX7_bearsOf cX7_bearsOf 2 (some .int) 1 := ⟨co_yX7_bearsOf, in_X7, ⟨by decide, by decide⟩, by decide +kernel⟩
theorem mw_yX7_bearsBy : MW yX7_bearsBy cX7_bearsBy 7 (some .int) 3 := ⟨co_yX7_bearsBy, in_X7, ⟨by decide, by decide⟩, by decide +kernel⟩
theorem mw_yX7_held : MW yX7_held cX7_held 3 (some .int) 3 := ⟨co_yX7_held, in_X7, ⟨by decide, by decide⟩, by decide +kernel⟩
theorem mw_yX7_takesOf : MW yX7_takesOf cX7_takesOf 3 (some .int) 1 := ⟨co_yX7_takesOf, in_X7, ⟨by decide, by decide⟩, by decide +kernel⟩
theorem mw_yX7_become : MW yX7_become cX7_become 3 (some .int) 2 := ⟨co_yX7_become, in_X7, ⟨by decide, by decide⟩, by decide +kernel⟩
theorem mw_yX7_becomes : MW yX7_becomes cX7_becomes 4 (some .int) 2 := ⟨co_yX7_becomes, in_X7, ⟨by decide, by decide⟩, by decide +kernel⟩
theorem mw_yX7_as : MW yX7_as cX7_as 5 (some .int) 2 := ⟨co_yX7_as, in_X7, ⟨by decide, by decide⟩, by decide +kernel⟩
theorem mw_yX7_soak : MW yX7_soak cX7_soak 3 (some .int) 2 := ⟨co_yX7_soak, in_X7, ⟨by decide, by decide⟩, by decide +kernel⟩
theorem mw_yX7_bakes : MW yX7_bakes cX7_bakes 3 (some .int) 1 := ⟨co_yX7_bakes, in_X7, ⟨by decide, by decide⟩, by decide +kernel⟩
theorem mw_yX7_eat : MW yX7_eat cX7_eat 2 (some .int) 1 := ⟨co_yX7_eat, in_X7, ⟨by decide, by decide⟩, by decide +kernel⟩
theorem mw_yX7_store : MW yX7_store cX7_store 4 (some .int) 2 := ⟨co_yX7_store, in_X7, ⟨by decide, by decide⟩, by decide +kernel⟩
theorem mw_yX7_cross : MW yX7_cross cX7_cross 3 (some .int) 2 := ⟨co_yX7_cross, in_X7, ⟨by decide, by decide⟩, by decide +kernel⟩
theorem mw_yX7_isLoad : MW yX7_isLoad cX7_isLoad 1 (some .boolean) 1 := ⟨co_yX7_isLoad, in_X7, ⟨by decide, by decide⟩, by decide +kernel⟩
theorem mw_yX7_crosses : MW yX7_crosses cX7_crosses 5 (some .int) 2 := ⟨co_yX7_crosses, in_X7, ⟨by decide, by decide⟩, by decide +kernel⟩
theorem mw_yX7_gives : MW yX7_gives cX7_gives 7 (some .int) 4 := ⟨co_yX7_gives, in_X7, ⟨by decide, by decide⟩, by decide +kernel⟩
theorem mw_yX7_works : MW yX7_works cX7_works 5 (some .int) 1 := ⟨co_yX7_works, in_X7, ⟨by decide, by decide⟩, by decide +kernel⟩
theorem mw_yX7_twoOf : MW yX7_twoOf cX7_twoOf 3 (some .int) 3 := ⟨co_yX7_twoOf, in_X7, ⟨by decide, by decide⟩, by decide +kernel⟩
theorem mw_yX7_feed : MW yX7_feed cX7_feed 5 (some .int) 2 := ⟨co_yX7_feed, in_X7, ⟨by decide, by decide⟩, by decide +kernel⟩
theorem mw_yX7_text : MW yX7_text cX7_text 4 (some .int) 1 := ⟨co_yX7_text, in_X7, ⟨by decide, by decide⟩, by decide +kernel⟩
theorem mw_yX7_any : MW yX7_any cX7_any 1 none 0 := ⟨co_yX7_any, in_X7, ⟨by decide, by decide⟩, by decide +kernel⟩
theorem mw_yX7_all : MW yX7_all cX7_all 1 none 0 := ⟨co_yX7_all, in_X7, ⟨by decide, by decide⟩, by decide +kernel⟩
theorem mw_yX7_compares : MW yX7_compares cX7_compares 2 none 0 := ⟨co_yX7_compares, in_X7, ⟨by decide, by decide⟩, by decide +kernel⟩
theorem mw_yX7_sum : MW yX7_sum cX7_sum 2 none 0 := ⟨co_yX7_sum, in_X7, ⟨by decide, by decide⟩, by decide +kernel⟩
theorem mw_yX7_times : MW yX7_times cX7_times 2 none 0 := ⟨co_yX7_times, in_X7, ⟨by decide, by decide⟩, by decide +kernel⟩
theorem mw_yX7_one : MW yX7_one cX7_one 3 none 0 := ⟨co_yX7_one, in_X7, ⟨by decide, by decide⟩, by decide +kernel⟩
theorem mw_yX7_look : MW yX7_look cX7_look 1 (some .int) 0 := ⟨co_yX7_look, in_X7, ⟨by decide, by decide⟩, by decide +kernel⟩
theorem mw_yX7_nameOf : MW yX7_nameOf cX7_nameOf 2 (some .int) 1 := ⟨co_yX7_nameOf, in_X7, ⟨by decide, by decide⟩, by decide +kernel⟩
theorem mw_yX7_step : MW yX7_step cX7_step 3 none 2 := ⟨co_yX7_step, in_X7, ⟨by decide, by decide⟩, by decide +kernel⟩
theorem mw_yX7_opens : MW yX7_opens cX7_opens 2 none 1 := ⟨co_yX7_opens, in_X7, ⟨by decide, by decide⟩, by decide +kernel⟩
theorem mw_yX7_number : MW yX7_number cX7_number 3 none 0 := ⟨co_yX7_number, in_X7, ⟨by decide, by decide⟩, by decide +kernel⟩
theorem mw_yX7_untell : MW yX7_untell cX7_untell 2 (some .int) 1 := ⟨co_yX7_untell, in_X7, ⟨by decide, by decide⟩, by decide +kernel⟩
theorem mw_yX7_law : MW yX7_law cX7_law 5 (some .int) 4 := ⟨co_yX7_law, in_X7, ⟨by decide, by decide⟩, by decide +kernel⟩
theorem mw_yX7_days : MW yX7_days cX7_days 3 (some .int) 1 := ⟨co_yX7_days, in_X7, ⟨by decide, by decide⟩, by decide +kernel⟩
theorem mw_yX7_goes : MW yX7_goes cX7_goes 3 none 0 := ⟨co_yX7_goes, in_X7, ⟨by decide, by decide⟩, by decide +kernel⟩
theorem mw_yX7_loose : MW yX7_loose cX7_loose 4 (some .int) 1 := ⟨co_yX7_loose, in_X7, ⟨by decide, by decide⟩, by decide +kernel⟩
theorem mw_yX7_drawn : MW yX7_drawn cX7_drawn 4 (some .int) 0 := ⟨co_yX7_drawn, in_X7, ⟨by decide, by decide⟩, by decide +kernel⟩
theorem mw_yX7_draw : MW yX7_draw cX7_draw 1 (some .int) 0 := ⟨co_yX7_draw, in_X7, ⟨by decide, by decide⟩, by decide +kernel⟩
theorem mw_yX7_seed : MW yX7_seed cX7_seed 2 (some .int) 1 := ⟨co_yX7_seed, in_X7, ⟨by decide, by decide⟩, by decide +kernel⟩
theorem mw_yX7_joined : MW yX7_joined cX7_joined 3 (some .int) 2 := ⟨co_yX7_joined, in_X7, ⟨by decide, by decide⟩, by decide +kernel⟩
theorem mw_yX7_findBearing : MW yX7_findBearing cX7_findBearing 2 none 0 := ⟨co_yX7_findBearing, in_X7, ⟨by decide, by decide⟩, by decide +kernel⟩
theorem mw_yX7_joinedBy : MW yX7_joinedBy cX7_joinedBy 7 (some .int) 2 := ⟨co_yX7_joinedBy, in_X7, ⟨by decide, by decide⟩, by decide +kernel⟩
theorem mw_yX7_load : MW yX7_load cX7_load 4 (some .int) 2 := ⟨co_yX7_load, in_X7, ⟨by decide, by decide⟩, by decide +kernel⟩
theorem mw_yX7_areJoinedBy : MW yX7_areJoinedBy cX7_areJoinedBy 4 (some .boolean) 3 := ⟨co_yX7_areJoinedBy, in_X7, ⟨by decide, by decide⟩, by decide +kernel⟩
theorem mw_yX7_baking : MW yX7_baking cX7_baking 10 (some .int) 4 := ⟨co_yX7_baking, in_X7, ⟨by decide, by decide⟩, by decide +kernel⟩
theorem mw_yX7_flourFor : MW yX7_flourFor cX7_flourFor 4 (some .int) 1 := ⟨co_yX7_flourFor, in_X7, ⟨by decide, by decide⟩, by decide +kernel⟩
theorem mw_yX7_eating : MW yX7_eating cX7_eating 8 (some .int) 4 := ⟨co_yX7_eating, in_X7, ⟨by decide, by decide⟩, by decide +kernel⟩
theorem mw_yX7_bits : MW yX7_bits cX7_bits 3 (some .int) 1 := ⟨co_yX7_bits, in_X7, ⟨by decide, by decide⟩, by decide +kernel⟩
theorem mw_yX7_lasts : MW yX7_lasts cX7_lasts 5 (some .int) 3 := ⟨co_yX7_lasts, in_X7, ⟨by decide, by decide⟩, by decide +kernel⟩
theorem mw_yX7_thinks : MW yX7_thinks cX7_thinks 1 none 0 := ⟨co_yX7_thinks, in_X7, ⟨by decide, by decide⟩, by decide +kernel⟩
theorem mw_yX7_copyAll : MW yX7_copyAll cX7_copyAll 3 none 2 := ⟨co_yX7_copyAll, in_X7, ⟨by decide, by decide⟩, by decide +kernel⟩
theorem mw_yX7_areJoined : MW yX7_areJoined cX7_areJoined 4 (some .boolean) 3 := ⟨co_yX7_areJoined, in_X7, ⟨by decide, by decide⟩, by decide +kernel⟩
theorem mw_yX7_putsBack : MW yX7_putsBack cX7_putsBack 1 none 0 := ⟨co_yX7_putsBack, in_X7, ⟨by decide, by decide⟩, by decide +kernel⟩
theorem mw_yX7_then : MW yX7_then cX7_then 4 (some .int) 2 := ⟨co_yX7_then, in_X7, ⟨by decide, by decide⟩, by decide +kernel⟩
theorem mw_yX7_odds : MW yX7_odds cX7_odds 8 (some .int) 4 := ⟨co_yX7_odds, in_X7, ⟨by decide, by decide⟩, by decide +kernel⟩
theorem mw_yX7_fits : MW yX7_fits cX7_fits 4 (some .int) 1 := ⟨co_yX7_fits, in_X7, ⟨by decide, by decide⟩, by decide +kernel⟩
theorem mw_yX7_notThere : MW yX7_notThere cX7_notThere 2 (some .int) 1 := ⟨co_yX7_notThere, in_X7, ⟨by decide, by decide⟩, by decide +kernel⟩
theorem mw_yX7_isSheet : MW yX7_isSheet cX7_isSheet 1 (some .boolean) 1 := ⟨co_yX7_isSheet, in_X7, ⟨by decide, by decide⟩, by decide +kernel⟩
theorem mw_yX7_rightOf : MW yX7_rightOf cX7_rightOf 3 (some .int) 1 := ⟨co_yX7_rightOf, in_X7, ⟨by decide, by decide⟩, by decide +kernel⟩
theorem mw_yX7_voice : MW yX7_voice cX7_voice 5 (some .int) 3 := ⟨co_yX7_voice, in_X7, ⟨by decide, by decide⟩, by decide +kernel⟩
theorem mw_yX7_crusts : MW yX7_crusts cX7_crusts 3 (some .int) 2 := ⟨co_yX7_crusts, in_X7, ⟨by decide, by decide⟩, by decide +kernel⟩
theorem mw_yX7_ryeCrusts : MW yX7_ryeCrusts cX7_ryeCrusts 3 (some .int) 2 := ⟨co_yX7_ryeCrusts, in_X7, ⟨by decide, by decide⟩, by decide +kernel⟩
theorem mw_yX7_begins : MW yX7_begins cX7_begins 2 none 1 := ⟨co_yX7_begins, in_X7, ⟨by decide, by decide⟩, by decide +kernel⟩
theorem mw_yX7_plainCrusts : MW yX7_plainCrusts cX7_plainCrusts 3 (some .int) 2 := ⟨co_yX7_plainCrusts, in_X7, ⟨by decide, by decide⟩, by decide +kernel⟩
theorem mw_yX7_steams : MW yX7_steams cX7_steams 3 (some .int) 2 := ⟨co_yX7_steams, in_X7, ⟨by decide, by decide⟩, by decide +kernel⟩
theorem mw_yX7_briocheSteams : MW yX7_briocheSteams cX7_briocheSteams 3 (some .int) 2 := ⟨co_yX7_briocheSteams, in_X7, ⟨by decide, by decide⟩, by decide +kernel⟩
theorem mw_yX7_plainSteams : MW yX7_plainSteams cX7_plainSteams 3 (some .int) 2 := ⟨co_yX7_plainSteams, in_X7, ⟨by decide, by decide⟩, by decide +kernel⟩
theorem mw_yX7_crumbles : MW yX7_crumbles cX7_crumbles 3 (some .int) 2 := ⟨co_yX7_crumbles, in_X7, ⟨by decide, by decide⟩, by decide +kernel⟩
theorem mw_yX7_plainCrumbles : MW yX7_plainCrumbles cX7_plainCrumbles 3 (some .int) 2 := ⟨co_yX7_plainCrumbles, in_X7, ⟨by decide, by decide⟩, by decide +kernel⟩
theorem mw_yX7_partsBy : MW yX7_partsBy cX7_partsBy 4 (some .int) 2 := ⟨co_yX7_partsBy, in_X7, ⟨by decide, by decide⟩, by decide +kernel⟩
theorem mw_yX7_plainParts : MW yX7_plainParts cX7_plainParts 4 (some .int) 2 := ⟨co_yX7_plainParts, in_X7, ⟨by decide, by decide⟩, by decide +kernel⟩
theorem mw_yX7_body : MW yX7_body cX7_body 2 (some .int) 1 := ⟨co_yX7_body, in_X7, ⟨by decide, by decide⟩, by decide +kernel⟩
theorem mw_yX7_sheet : MW yX7_sheet cX7_sheet 5 (some .int) 3 := ⟨co_yX7_sheet, in_X7, ⟨by decide, by decide⟩, by decide +kernel⟩
theorem mw_yX7_put : MW yX7_put cX7_put 5 (some .int) 3 := ⟨co_yX7_put, in_X7, ⟨by decide, by decide⟩, by decide +kernel⟩
theorem mw_yX7_move : MW yX7_move cX7_move 9 (some .int) 5 := ⟨co_yX7_move, in_X7, ⟨by decide, by decide⟩, by decide +kernel⟩
theorem mw_yX7_notMoved : MW yX7_notMoved cX7_notMoved 7 (some .int) 5 := ⟨co_yX7_notMoved, in_X7, ⟨by decide, by decide⟩, by decide +kernel⟩
theorem mw_yX7_soaks : MW yX7_soaks cX7_soaks 4 (some .int) 1 := ⟨co_yX7_soaks, in_X7, ⟨by decide, by decide⟩, by decide +kernel⟩
theorem mw_yX7_judge : MW yX7_judge cX7_judge 3 (some .int) 1 := ⟨co_yX7_judge, in_X7, ⟨by decide, by decide⟩, by decide +kernel⟩
theorem mw_yX7_image : MW yX7_image cX7_image 1 (some .int) 0 := ⟨co_yX7_image, in_X7, ⟨by decide, by decide⟩, by decide +kernel⟩
theorem mw_yX7_restore : MW yX7_restore cX7_restore 1 (some .int) 0 := ⟨co_yX7_restore, in_X7, ⟨by decide, by decide⟩, by decide +kernel⟩
theorem mw_yX7_tell : MW yX7_tell cX7_tell 2 (some .int) 1 := ⟨co_yX7_tell, in_X7, ⟨by decide, by decide⟩, by decide +kernel⟩
theorem mw_yX7_check : MW yX7_check cX7_check 3 (some .int) 0 := ⟨co_yX7_check, in_X7, ⟨by decide, by decide⟩, by decide +kernel⟩
theorem mw_yX7_count : MW yX7_count cX7_count 2 (some .int) 1 := ⟨co_yX7_count, in_X7, ⟨by decide, by decide⟩, by decide +kernel⟩
theorem mw_yX7_told : MW yX7_told cX7_told 2 (some .int) 1 := ⟨co_yX7_told, in_X7, ⟨by decide, by decide⟩, by decide +kernel⟩
