/-! ## a copy of a delta -/
theorem lt_c {α : Af} {e e' u n : Nat} (he : e < 3) (he' : e' < 3) (hne : e ≠ e') (hu : u < 2) (hn : α (idL e' u) 1 = nI n) (h60 : n ≤ 60) : q_lawTake α e u e' u (idL e u) 0 = α (idL e' u) 0 ∧ q_lawTake α e u e' u (idL e u) 1 = nI n ∧ ∀ i, i < n → q_lawTake α e u e' u (idLc e u) i = α (idLc e' u) i := by
  have n1 : idLc e u ≠ idL e u := by unfold idLc idL; omega
  have n2 : idLc e' u ≠ idL e u := by unfold idLc idL; omega
  refine ⟨?_, ?_, fun i hi => ?_⟩
  · unfold q_lawTake
    rw [up_eq, q_write_0 he hu he' hu hne]
  · unfold q_lawTake
    rw [up_ne2 (by decide), q_write_L he hu, hn, held_id h60]
  · unfold q_lawTake
    rw [up_ne n1]
    simp only [q_write]
    rw [up_ne n1, upR_eq, up_ne n2, up_ne n1, up_eq, hn, held_id h60]
    unfold va_cpy
    rw [nI_clamp (by omega), if_pos (by constructor <;> simp <;> omega)]
    simp
theorem take_law {α : Af} {e e' u n : Nat} (he : e < 3) (he' : e' < 3) (hne : e ≠ e') (hu : u < 2) (hl : Lk α e') (hn : α (idL e' u) 1 = nI n) (h60 : n ≤ 60) : q_take α e e' (idL e u) 0 = α (idL e' u) 0 ∧ q_take α e e' (idL e u) 1 = nI n ∧ ∀ i, i < n → q_take α e e' (idLc e u) i = α (idLc e' u) i := by
  have t4 : ∀ i, i ≠ idD e → i ≠ idTp e → i ≠ idWt e → q_take α e e' i = q_take3 (q_take2 (q_take1 α e e') e e') e e' i := fun i h1 h2 h3 => by
    unfold q_take
    simp only [q_take4]
    rw [up_ne h1, upR_ne h3, up_ne h1, upR_ne h2]
  have b1 : ∀ v, v < 2 → q_take2 (q_take1 α e e') e e' (idL e' v) = α (idL e' v) := fun v hv => q_take12_L he' hv he
  have b2 : ∀ v, v < 2 → q_take2 (q_take1 α e e') e e' (idLc e' v) = α (idLc e' v) := fun v hv => by
    rw [q_take2_ne (by unfold idLc idD; omega)]
    unfold q_take1
    rw [q_cs_ne (fun _ _ => nS_Lc he' hv), up_ne (by unfold idLc idD; omega)]
  rw [t4 (idL e u) (by unfold idL idD; omega) (by unfold idL idTp; omega) (by unfold idL idWt; omega), t4 (idLc e u) (by unfold idLc idD; omega) (by unfold idLc idTp; omega) (by unfold idLc idWt; omega)]
  unfold q_take3
  generalize hB : q_take2 (q_take1 α e e') e e' = B at b1 b2
  rcases (show u = 0 ∨ u = 1 by omega) with rfl | rfl
  · have k := lt_c (α := B) he he' hne hu (by rw [b1 0 (by decide)]; exact hn) h60
    have f1 : q_lawTake (q_lawTake B e 0 e' 0) e 1 e' 1 (idL e 0) = q_lawTake B e 0 e' 0 (idL e 0) := q_lawTake_ne (by unfold idL; omega) (by unfold idL idLc; omega)
    have f2 : q_lawTake (q_lawTake B e 0 e' 0) e 1 e' 1 (idLc e 0) = q_lawTake B e 0 e' 0 (idLc e 0) := q_lawTake_ne (by unfold idLc idL; omega) (by unfold idLc; omega)
    rw [f1, f2]
    rw [b1 0 (by decide), b2 0 (by decide)] at k
    exact k
  · have c1 : q_lawTake B e 0 e' 0 (idL e' 1) = α (idL e' 1) := by rw [q_lawTake_ne (by unfold idL; omega) (by unfold idL idLc; omega), b1 1 (by decide)]
    have c2 : q_lawTake B e 0 e' 0 (idLc e' 1) = α (idLc e' 1) := by rw [q_lawTake_ne (by unfold idLc idL; omega) (by unfold idLc; omega), b2 1 (by decide)]
    have k := lt_c (α := q_lawTake B e 0 e' 0) he he' hne hu (by rw [c1]; exact hn) h60
    rw [c1, c2] at k
    exact k
theorem take_Tp {α : Af} {e e' : Nat} (he : e < 3) (he' : e' < 3) (hne : e ≠ e') : (∀ j, j < 60 → q_take α e e' (idTp e) j = α (idTp e') j) ∧ ∀ j, j < 24 → q_take α e e' (idWt e) j = α (idWt e') j := by
  have t3 : ∀ d, d < 3 → q_take3 (q_take2 (q_take1 α e e') e e') e e' (idTp d) = α (idTp d) ∧ q_take3 (q_take2 (q_take1 α e e') e e') e e' (idWt d) = α (idWt d) := fun d hd => by
    constructor
    · unfold q_take3
      rw [q_lawTake_ne (by unfold idL idTp; omega) (by unfold idLc idTp; omega), q_lawTake_ne (by unfold idL idTp; omega) (by unfold idLc idTp; omega), q_take2_ne (by unfold idTp idD; omega)]
      unfold q_take1
      rw [q_cs_ne (fun v hv => by unfold idTp idS; omega), up_ne (by unfold idTp idD; omega)]
    · unfold q_take3
      rw [q_lawTake_ne (by unfold idL idWt; omega) (by unfold idLc idWt; omega), q_lawTake_ne (by unfold idL idWt; omega) (by unfold idLc idWt; omega), q_take2_ne (by unfold idWt idD; omega)]
      unfold q_take1
      rw [q_cs_ne (fun v hv => by unfold idWt idS; omega), up_ne (by unfold idWt idD; omega)]
  unfold q_take
  generalize hB : q_take3 (q_take2 (q_take1 α e e') e e') e e' = B at t3
  simp only [q_take4]
  constructor
  · intro j hj
    rw [up_ne (by unfold idTp idD; omega), upR_ne (by unfold idTp idWt; omega), up_ne (by unfold idTp idD; omega), upR_eq, (t3 e' he').1]
    unfold va_cpy
    rw [if_pos (by constructor <;> omega)]
    simp
  · intro j hj
    rw [up_ne (by unfold idWt idD; omega), upR_eq, up_ne (by unfold idWt idD; omega), upR_ne (by unfold idWt idTp; omega), (t3 e' he').2]
    unfold va_cpy
    rw [if_pos (by constructor <;> omega)]
    simp
/-- the copy's row is the row -/
theorem RowR.take {α : Af} {e e' n : Nat} {row : Nat → Int32} (he : e < 3) (he' : e' < 3) (hne : e ≠ e') (hl : Lk α e') (h : RowR α e' row n) : RowR (q_take α e e') e row n := by
  obtain ⟨⟨h9, hn⟩, ⟨s1, s2, s3, s4, s5, s6, s7, s8, s9⟩, hsp, hlw, htp, hwt, hrg⟩ := h
  have tD := fun j hj => q_take_D (α := α) (j := j) he he' hne hj
  obtain ⟨k1, k2⟩ := take_Tp (α := α) he he' hne
  refine ⟨⟨h9, hn⟩, ⟨(tD 1 (by decide)).trans s1, (tD 2 (by decide)).trans s2, (tD 3 (by decide)).trans s3, (tD 4 (by decide)).trans s4, (tD 5 (by decide)).trans s5, (tD 6 (by decide)).trans s6, (tD 7 (by decide)).trans s7, (tD 10 (by decide)).trans s8, (tD 12 (by decide)).trans s9⟩, fun u hu => ⟨fun w hw => (q_take_S he he' hne (by omega) hw).trans ((hsp u hu).1 w hw), (hsp u hu).2⟩, fun u hu => ?_, htp.of k1 rfl (fun _ _ _ => rfl), hwt.of k2 rfl (fun _ _ _ => rfl), hrg⟩
  obtain ⟨m, m60, em⟩ := hl u hu
  obtain ⟨l0, l1, lc⟩ := take_law he he' hne hu hl em m60
  rcases hlw u hu with ⟨a1, a2⟩ | ⟨a1, z, b1, b2, b3, b4, b5, b6⟩
  · exact Or.inl ⟨l0.trans a1, a2⟩
  · have ez : z = m := by rw [em] at b3; exact ((nI_eq (a := m) (b := z) (by omega) (by omega)).mp b3).symm
    subst ez
    exact Or.inr ⟨l0.trans a1, z, b1, b2, l1, b4, fun i hi => ⟨(b5 i hi).1, (lc i hi).trans (b5 i hi).2⟩, b6⟩
