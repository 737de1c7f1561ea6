/-! # the world behind the constructors -/
def al0 : Af := fun i => if i = 1 ∨ i = 2 ∨ i = 3 then (fun j => if j = 3 then 200 else if j = 7 then 1 else 0) else fun _ => 0
def rh0 : Af := fun i => if i = 77 then upd (upd (fun _ => 0) 1 1) 3 200 else fun _ => 0
def adG (U : Nat → Nat → Nat) (v : Nat → Nat) : Nat → Nat := fun i => ([U 9 0, U 0 0, U 1 0, U 2 0, U 0 1, U 1 1, U 2 1, U 0 2, U 1 2, U 2 2, U 0 3, U 1 3, U 2 3, U 0 4, U 1 4, U 2 4, U 3 0, U 3 1, U 3 2, U 4 0, U 4 1, U 9 1, U 9 2, U 5 0, U 6 0, U 7 0, U 8 0, U 5 1, U 6 1, U 7 1, U 8 1, U 0 14, U 0 17, U 1 14, U 1 17, U 2 14, U 2 17, U 0 15, U 0 18, U 1 15, U 1 18, U 2 15, U 2 18, U 0 16, U 0 19, U 1 16, U 1 19, U 2 16, U 2 19, U 0 5, U 0 6, U 0 7, U 0 8, U 0 9, U 0 10, U 0 11, U 0 12, U 0 13, U 1 5, U 1 6, U 1 7, U 1 8, U 1 9, U 1 10, U 1 11, U 1 12, U 1 13, U 2 5, U 2 6, U 2 7, U 2 8, U 2 9, U 2 10, U 2 11, U 2 12, U 2 13, v 0, v 1, v 2, v 3, v 4, v 5, v 6, v 7, v 8, v 9, v 10, v 11, v 12, v 13] : List Nat).getD i 0
def posG (i : Nat) : Nat := ([0, 1, 21, 41, 2, 22, 42, 3, 23, 43, 4, 24, 44, 5, 25, 45, 61, 62, 63, 64, 65, 66, 67, 68, 70, 72, 74, 69, 71, 73, 75, 15, 18, 35, 38, 55, 58, 16, 19, 36, 39, 56, 59, 17, 20, 37, 40, 57, 60, 6, 7, 8, 9, 10, 11, 12, 13, 14, 26, 27, 28, 29, 30, 31, 32, 33, 34, 46, 47, 48, 49, 50, 51, 52, 53, 54, 76, 77, 78, 79, 80, 81, 82, 83, 84, 85, 86, 87, 88, 89] : List Nat).getD i 0
def GG (G : Gm) (U : Nat → Nat → Nat) (v : Nat → Nat) : Gm := (G.1, gC G, adG U v, gX G)
def bX (G : Gm) (U : Nat → Nat → Nat) (v : Nat → Nat) : va_W := [(U 9 0, .inr (6, [.ref (U 0 0), .ref (U 1 0), .ref (U 2 0), .ref (U 3 0), .ref (U 4 0), .ref (U 9 1), .ref (U 9 2), .int 0])), (U 0 0, .inr (0, [.ref (U 0 1), .int 0, .int 0, .int 200, .int 0, .int 0, .int 0, .int 1, .ref (U 0 2), .ref (U 0 3), .int 0, .ref (U 0 4), .int 0])), (U 0 1, .inl (gC G 2, 9, .inr (.inr (.inr (.inr (va_up (va_up (va_up (va_up (va_up (va_up (va_up (va_up (va_up (fun _ => none) 0 (some (U 0 5))) 1 (some (U 0 6))) 2 (some (U 0 7))) 3 (some (U 0 8))) 4 (some (U 0 9))) 5 (some (U 0 10))) 6 (some (U 0 11))) 7 (some (U 0 12))) 8 (some (U 0 13)))))))), (U 0 2, .inl (gC G 3, 2, .inr (.inr (.inr (.inr (va_up (va_up (fun _ => none) 0 (some (U 0 14))) 1 (some (U 0 17)))))))), (U 0 3, .inl (gC G 1, 60, .inl (fun _ => 0))), (U 0 4, .inl (gC G 0, 24, .inl (fun _ => 0))), (U 0 5, .inr (4, [.int 0, .int 0, .int 0, .int 0, .int 0, .int 0, .int 0])), (U 0 6, .inr (4, [.int 0, .int 0, .int 0, .int 0, .int 0, .int 0, .int 0])), (U 0 7, .inr (4, [.int 0, .int 0, .int 0, .int 0, .int 0, .int 0, .int 0])), (U 0 8, .inr (4, [.int 0, .int 0, .int 0, .int 0, .int 0, .int 0, .int 0])), (U 0 9, .inr (4, [.int 0, .int 0, .int 0, .int 0, .int 0, .int 0, .int 0])), (U 0 10, .inr (4, [.int 0, .int 0, .int 0, .int 0, .int 0, .int 0, .int 0])), (U 0 11, .inr (4, [.int 0, .int 0, .int 0, .int 0, .int 0, .int 0, .int 0])), (U 0 12, .inr (4, [.int 0, .int 0, .int 0, .int 0, .int 0, .int 0, .int 0])), (U 0 13, .inr (4, [.int 0, .int 0, .int 0, .int 0, .int 0, .int 0, .int 0])), (U 0 14, .inr (1, [.int 0, .int 0, .ref (U 0 15), .ref (U 0 16)])), (U 0 15, .inl (gC G 0, 60, .inl (fun _ => 0))), (U 0 16, .inl (gC G 0, 60, .inl (fun _ => 0))), (U 0 17, .inr (1, [.int 0, .int 0, .ref (U 0 18), .ref (U 0 19)])), (U 0 18, .inl (gC G 0, 60, .inl (fun _ => 0))), (U 0 19, .inl (gC G 0, 60, .inl (fun _ => 0))), (U 1 0, .inr (0, [.ref (U 1 1), .int 0, .int 0, .int 200, .int 0, .int 0, .int 0, .int 1, .ref (U 1 2), .ref (U 1 3), .int 0, .ref (U 1 4), .int 0])), (U 1 1, .inl (gC G 2, 9, .inr (.inr (.inr (.inr (va_up (va_up (va_up (va_up (va_up (va_up (va_up (va_up (va_up (fun _ => none) 0 (some (U 1 5))) 1 (some (U 1 6))) 2 (some (U 1 7))) 3 (some (U 1 8))) 4 (some (U 1 9))) 5 (some (U 1 10))) 6 (some (U 1 11))) 7 (some (U 1 12))) 8 (some (U 1 13)))))))), (U 1 2, .inl (gC G 3, 2, .inr (.inr (.inr (.inr (va_up (va_up (fun _ => none) 0 (some (U 1 14))) 1 (some (U 1 17)))))))), (U 1 3, .inl (gC G 1, 60, .inl (fun _ => 0))), (U 1 4, .inl (gC G 0, 24, .inl (fun _ => 0))), (U 1 5, .inr (4, [.int 0, .int 0, .int 0, .int 0, .int 0, .int 0, .int 0])), (U 1 6, .inr (4, [.int 0, .int 0, .int 0, .int 0, .int 0, .int 0, .int 0])), (U 1 7, .inr (4, [.int 0, .int 0, .int 0, .int 0, .int 0, .int 0, .int 0])), (U 1 8, .inr (4, [.int 0, .int 0, .int 0, .int 0, .int 0, .int 0, .int 0])), (U 1 9, .inr (4, [.int 0, .int 0, .int 0, .int 0, .int 0, .int 0, .int 0])), (U 1 10, .inr (4, [.int 0, .int 0, .int 0, .int 0, .int 0, .int 0, .int 0])), (U 1 11, .inr (4, [.int 0, .int 0, .int 0, .int 0, .int 0, .int 0, .int 0])), (U 1 12, .inr (4, [.int 0, .int 0, .int 0, .int 0, .int 0, .int 0, .int 0])), (U 1 13, .inr (4, [.int 0, .int 0, .int 0, .int 0, .int 0, .int 0, .int 0])), (U 1 14, .inr (1, [.int 0, .int 0, .ref (U 1 15), .ref (U 1 16)])), (U 1 15, .inl (gC G 0, 60, .inl (fun _ => 0))), (U 1 16, .inl (gC G 0, 60, .inl (fun _ => 0))), (U 1 17, .inr (1, [.int 0, .int 0, .ref (U 1 18), .ref (U 1 19)])), (U 1 18, .inl (gC G 0, 60, .inl (fun _ => 0))), (U 1 19, .inl (gC G 0, 60, .inl (fun _ => 0))), (U 2 0, .inr (0, [.ref (U 2 1), .int 0, .int 0, .int 200, .int 0, .int 0, .int 0, .int 1, .ref (U 2 2), .ref (U 2 3), .int 0, .ref (U 2 4), .int 0])), (U 2 1, .inl (gC G 2, 9, .inr (.inr (.inr (.inr (va_up (va_up (va_up (va_up (va_up (va_up (va_up (va_up (va_up (fun _ => none) 0 (some (U 2 5))) 1 (some (U 2 6))) 2 (some (U 2 7))) 3 (some (U 2 8))) 4 (some (U 2 9))) 5 (some (U 2 10))) 6 (some (U 2 11))) 7 (some (U 2 12))) 8 (some (U 2 13)))))))), (U 2 2, .inl (gC G 3, 2, .inr (.inr (.inr (.inr (va_up (va_up (fun _ => none) 0 (some (U 2 14))) 1 (some (U 2 17)))))))), (U 2 3, .inl (gC G 1, 60, .inl (fun _ => 0))), (U 2 4, .inl (gC G 0, 24, .inl (fun _ => 0))), (U 2 5, .inr (4, [.int 0, .int 0, .int 0, .int 0, .int 0, .int 0, .int 0])), (U 2 6, .inr (4, [.int 0, .int 0, .int 0, .int 0, .int 0, .int 0, .int 0])), (U 2 7, .inr (4, [.int 0, .int 0, .int 0, .int 0, .int 0, .int 0, .int 0])), (U 2 8, .inr (4, [.int 0, .int 0, .int 0, .int 0, .int 0, .int 0, .int 0])), (U 2 9, .inr (4, [.int 0, .int 0, .int 0, .int 0, .int 0, .int 0, .int 0])), (U 2 10, .inr (4, [.int 0, .int 0, .int 0, .int 0, .int 0, .int 0, .int 0])), (U 2 11, .inr (4, [.int 0, .int 0, .int 0, .int 0, .int 0, .int 0, .int 0])), (U 2 12, .inr (4, [.int 0, .int 0, .int 0, .int 0, .int 0, .int 0, .int 0])), (U 2 13, .inr (4, [.int 0, .int 0, .int 0, .int 0, .int 0, .int 0, .int 0])), (U 2 14, .inr (1, [.int 0, .int 0, .ref (U 2 15), .ref (U 2 16)])), (U 2 15, .inl (gC G 0, 60, .inl (fun _ => 0))), (U 2 16, .inl (gC G 0, 60, .inl (fun _ => 0))), (U 2 17, .inr (1, [.int 0, .int 0, .ref (U 2 18), .ref (U 2 19)])), (U 2 18, .inl (gC G 0, 60, .inl (fun _ => 0))), (U 2 19, .inl (gC G 0, 60, .inl (fun _ => 0))), (U 3 0, .inr (2, [.ref (U 3 1), .int 0, .int 0, .ref (U 3 2), .int 0, .ref (gX G 2)])), (U 3 1, .inl (gC G 0, 60, .inl (fun _ => 0))), (U 3 2, .inl (gC G 1, 60, .inl (fun _ => 0))), (U 4 0, .inr (5, [.ref (U 4 1), .int 0, .int 0, .int 0, .int 0, .int 0])), (U 4 1, .inl (gC G 0, 30, .inl (fun _ => 0))), (U 9 1, .inl (gC G 4, 4, .inr (.inr (.inr (.inr (va_up (va_up (va_up (va_up (fun _ => none) 0 (some (U 5 0))) 1 (some (U 6 0))) 2 (some (U 7 0))) 3 (some (U 8 0)))))))), (U 9 2, .inl (gC G 0, 7, .inl (fun _ => 0))), (U 5 0, .inr (3, [.int 0, .int 0, .ref (U 5 1)])), (U 5 1, .inl (gC G 0, 24, .inl (fun _ => 0))), (U 6 0, .inr (3, [.int 0, .int 0, .ref (U 6 1)])), (U 6 1, .inl (gC G 0, 24, .inl (fun _ => 0))), (U 7 0, .inr (3, [.int 0, .int 0, .ref (U 7 1)])), (U 7 1, .inl (gC G 0, 24, .inl (fun _ => 0))), (U 8 0, .inr (3, [.int 0, .int 0, .ref (U 8 1)])), (U 8 1, .inl (gC G 0, 24, .inl (fun _ => 0))), (v 0, .inr (7, [.ref (v 1), .ref (v 2), .ref (v 3), .int 0, .ref (v 4), .ref (v 5), .ref (v 6), .ref (v 7), .ref (v 8), .ref (v 9), .ref (v 10), .ref (v 11), .int 0, .int 0, .int 0, .int 0, .int 0, .ref (v 12), .ref (v 13), .int 0, .int 0])), (v 1, .inl (gC G 0, 398, .inl (upd (upd (fun _ => 0) 1 1) 3 200))), (v 2, .inl (gC G 0, 398, .inl (fun _ => 0))), (v 3, .inl (gC G 0, 398, .inl (fun _ => 0))), (v 4, .inl (gC G 0, 7, .inl (fun _ => 0))), (v 5, .inl (gC G 0, 4, .inl (fun _ => 0))), (v 6, .inl (gC G 0, 4, .inl (fun _ => 0))), (v 7, .inl (gC G 0, 96, .inl (fun _ => 0))), (v 8, .inl (gC G 0, 60, .inl (fun _ => 0))), (v 9, .inl (gC G 0, 60, .inl (fun _ => 0))), (v 10, .inl (gC G 0, 3, .inl (fun _ => 0))), (v 11, .inl (gC G 0, 60, .inl (fun _ => 0))), (v 12, .inl (gC G 0, 9, .inl (fun _ => 0))), (v 13, .inl (gC G 0, 30, .inl (fun _ => 0)))]
set_option maxRecDepth 100000 in
set_option maxHeartbeats 8000000 in
theorem bX_eq {G : Gm} {U : Nat → Nat → Nat} {v : Nat → Nat} : bB G U ++ bM G v = bX G U v := rfl
theorem posG_inj : ∀ i, i < 90 → ∀ j, j < 90 → posG i = posG j → i = j := by decide +kernel
theorem ent_m {G : Gm} {f : Nat → Int32} {i : Nat} (h : 77 ≤ i) : ent G i f = .inl (gC G 0, mlen i, .inl f) := by
  unfold ent
  rw [if_neg (by omega)]
  rw [if_neg (by omega)]
  rw [if_neg (by omega)]
  rw [if_neg (by omega)]
  rw [if_neg (by omega)]
  rw [if_neg (by omega)]
  rw [if_neg (by omega)]
  rw [if_neg (by omega)]
  rw [if_neg (by omega)]
  rw [if_neg (by omega)]
  rw [if_neg (by omega)]
  rw [if_neg (by omega)]
  rw [if_neg (by omega)]
  rw [if_neg (by omega)]
  rw [if_neg (by omega)]
  rw [if_neg (by omega)]
  rw [if_neg (by omega)]
  rw [if_neg (by omega)]
  rw [if_neg (by omega)]
theorem at_q {D : va_G} {cl : List vw_C} {a n : Nat} {cA : ClassId} {f g : Nat → Option Nat} {H : Heap} (h : va_at D cl (a, .inl (cA, n, .inr (.inr (.inr (.inr f))))) H) (e : ∀ j, j < n → f j = g j) : va_at D cl (a, .inl (cA, n, .inr (.inr (.inr (.inr g))))) H := by
  have h1 : H[a]? = some (vp_cell cA (n, .inr (.inr (.inr (.inr f))))) := h
  show H[a]? = some (vp_cell cA (n, .inr (.inr (.inr (.inr g)))))
  rw [h1, vp_cell_q, vp_cell_q]
  have e2 : (fun j : Fin n => va_rf (f j.val)) = fun j : Fin n => va_rf (g j.val) := funext fun j => by rw [e j.val j.isLt]
  unfold arrV
  rw [e2]
theorem gl_0 {G : Gm} {U : Nat → Nat → Nat} {v : Nat → Nat} : (bX G U v)[0]? = some (U 9 0, .inr (6, [.ref (U 0 0), .ref (U 1 0), .ref (U 2 0), .ref (U 3 0), .ref (U 4 0), .ref (U 9 1), .ref (U 9 2), .int 0])) := rfl
theorem gw_0 {G : Gm} {U : Nat → Nat → Nat} {v : Nat → Nat} : wd (GG G U v) al0 rh0 0 = .inr (6, [.ref (U 0 0), .ref (U 1 0), .ref (U 2 0), .ref (U 3 0), .ref (U 4 0), .ref (U 9 1), .ref (U 9 2), .int 0]) := (wd_c (by decide)).trans (ent_B)
theorem gt_0 {G : Gm} {U : Nat → Nat → Nat} {v : Nat → Nat} {H : Heap} (hP : va_P G.1 vwCl (bX G U v) H) : va_at G.1 vwCl (adG U v 0, wd (GG G U v) al0 rh0 0) H := by
  rw [gw_0]
  exact hP 0 _ gl_0
theorem gl_1 {G : Gm} {U : Nat → Nat → Nat} {v : Nat → Nat} : (bX G U v)[1]? = some (U 0 0, .inr (0, [.ref (U 0 1), .int 0, .int 0, .int 200, .int 0, .int 0, .int 0, .int 1, .ref (U 0 2), .ref (U 0 3), .int 0, .ref (U 0 4), .int 0])) := rfl
theorem gw_1 {G : Gm} {U : Nat → Nat → Nat} {v : Nat → Nat} : wd (GG G U v) al0 rh0 1 = .inr (0, [.ref (U 0 1), .int 0, .int 0, .int 200, .int 0, .int 0, .int 0, .int 1, .ref (U 0 2), .ref (U 0 3), .int 0, .ref (U 0 4), .int 0]) := (wd_c (by decide)).trans (ent_D (d := 0) (by decide))
theorem gt_1 {G : Gm} {U : Nat → Nat → Nat} {v : Nat → Nat} {H : Heap} (hP : va_P G.1 vwCl (bX G U v) H) : va_at G.1 vwCl (adG U v 1, wd (GG G U v) al0 rh0 1) H := by
  rw [gw_1]
  exact hP 1 _ gl_1
theorem gl_2 {G : Gm} {U : Nat → Nat → Nat} {v : Nat → Nat} : (bX G U v)[21]? = some (U 1 0, .inr (0, [.ref (U 1 1), .int 0, .int 0, .int 200, .int 0, .int 0, .int 0, .int 1, .ref (U 1 2), .ref (U 1 3), .int 0, .ref (U 1 4), .int 0])) := rfl
theorem gw_2 {G : Gm} {U : Nat → Nat → Nat} {v : Nat → Nat} : wd (GG G U v) al0 rh0 2 = .inr (0, [.ref (U 1 1), .int 0, .int 0, .int 200, .int 0, .int 0, .int 0, .int 1, .ref (U 1 2), .ref (U 1 3), .int 0, .ref (U 1 4), .int 0]) := (wd_c (by decide)).trans (ent_D (d := 1) (by decide))
theorem gt_2 {G : Gm} {U : Nat → Nat → Nat} {v : Nat → Nat} {H : Heap} (hP : va_P G.1 vwCl (bX G U v) H) : va_at G.1 vwCl (adG U v 2, wd (GG G U v) al0 rh0 2) H := by
  rw [gw_2]
  exact hP 21 _ gl_2
theorem gl_3 {G : Gm} {U : Nat → Nat → Nat} {v : Nat → Nat} : (bX G U v)[41]? = some (U 2 0, .inr (0, [.ref (U 2 1), .int 0, .int 0, .int 200, .int 0, .int 0, .int 0, .int 1, .ref (U 2 2), .ref (U 2 3), .int 0, .ref (U 2 4), .int 0])) := rfl
theorem gw_3 {G : Gm} {U : Nat → Nat → Nat} {v : Nat → Nat} : wd (GG G U v) al0 rh0 3 = .inr (0, [.ref (U 2 1), .int 0, .int 0, .int 200, .int 0, .int 0, .int 0, .int 1, .ref (U 2 2), .ref (U 2 3), .int 0, .ref (U 2 4), .int 0]) := (wd_c (by decide)).trans (ent_D (d := 2) (by decide))
theorem gt_3 {G : Gm} {U : Nat → Nat → Nat} {v : Nat → Nat} {H : Heap} (hP : va_P G.1 vwCl (bX G U v) H) : va_at G.1 vwCl (adG U v 3, wd (GG G U v) al0 rh0 3) H := by
  rw [gw_3]
  exact hP 41 _ gl_3
theorem gl_4 {G : Gm} {U : Nat → Nat → Nat} {v : Nat → Nat} : (bX G U v)[2]? = some (U 0 1, .inl (gC G 2, 9, .inr (.inr (.inr (.inr (va_up (va_up (va_up (va_up (va_up (va_up (va_up (va_up (va_up (fun _ => none) 0 (some (U 0 5))) 1 (some (U 0 6))) 2 (some (U 0 7))) 3 (some (U 0 8))) 4 (some (U 0 9))) 5 (some (U 0 10))) 6 (some (U 0 11))) 7 (some (U 0 12))) 8 (some (U 0 13)))))))) := rfl
theorem gw_4 {G : Gm} {U : Nat → Nat → Nat} {v : Nat → Nat} : wd (GG G U v) al0 rh0 4 = .inl (gC G 2, 9, .inr (.inr (.inr (.inr (fun j => some (adG U v (idS 0 j))))))) := (wd_c (by decide)).trans (ent_Sp (d := 0) (by decide))
theorem gt_4 {G : Gm} {U : Nat → Nat → Nat} {v : Nat → Nat} {H : Heap} (hP : va_P G.1 vwCl (bX G U v) H) : va_at G.1 vwCl (adG U v 4, wd (GG G U v) al0 rh0 4) H := by
  rw [gw_4]
  exact at_q (hP 2 _ gl_4) (fun j hj => by rcases (show j = 0 ∨ j = 1 ∨ j = 2 ∨ j = 3 ∨ j = 4 ∨ j = 5 ∨ j = 6 ∨ j = 7 ∨ j = 8 by omega) with rfl | rfl | rfl | rfl | rfl | rfl | rfl | rfl | rfl <;> rfl)
theorem gl_5 {G : Gm} {U : Nat → Nat → Nat} {v : Nat → Nat} : (bX G U v)[22]? = some (U 1 1, .inl (gC G 2, 9, .inr (.inr (.inr (.inr (va_up (va_up (va_up (va_up (va_up (va_up (va_up (va_up (va_up (fun _ => none) 0 (some (U 1 5))) 1 (some (U 1 6))) 2 (some (U 1 7))) 3 (some (U 1 8))) 4 (some (U 1 9))) 5 (some (U 1 10))) 6 (some (U 1 11))) 7 (some (U 1 12))) 8 (some (U 1 13)))))))) := rfl
theorem gw_5 {G : Gm} {U : Nat → Nat → Nat} {v : Nat → Nat} : wd (GG G U v) al0 rh0 5 = .inl (gC G 2, 9, .inr (.inr (.inr (.inr (fun j => some (adG U v (idS 1 j))))))) := (wd_c (by decide)).trans (ent_Sp (d := 1) (by decide))
theorem gt_5 {G : Gm} {U : Nat → Nat → Nat} {v : Nat → Nat} {H : Heap} (hP : va_P G.1 vwCl (bX G U v) H) : va_at G.1 vwCl (adG U v 5, wd (GG G U v) al0 rh0 5) H := by
  rw [gw_5]
  exact at_q (hP 22 _ gl_5) (fun j hj => by rcases (show j = 0 ∨ j = 1 ∨ j = 2 ∨ j = 3 ∨ j = 4 ∨ j = 5 ∨ j = 6 ∨ j = 7 ∨ j = 8 by omega) with rfl | rfl | rfl | rfl | rfl | rfl | rfl | rfl | rfl <;> rfl)
theorem gl_6 {G : Gm} {U : Nat → Nat → Nat} {v : Nat → Nat} : (bX G U v)[42]? = some (U 2 1, .inl (gC G 2, 9, .inr (.inr (.inr (.inr (va_up (va_up (va_up (va_up (va_up (va_up (va_up (va_up (va_up (fun _ => none) 0 (some (U 2 5))) 1 (some (U 2 6))) 2 (some (U 2 7))) 3 (some (U 2 8))) 4 (some (U 2 9))) 5 (some (U 2 10))) 6 (some (U 2 11))) 7 (some (U 2 12))) 8 (some (U 2 13)))))))) := rfl
theorem gw_6 {G : Gm} {U : Nat → Nat → Nat} {v : Nat → Nat} : wd (GG G U v) al0 rh0 6 = .inl (gC G 2, 9, .inr (.inr (.inr (.inr (fun j => some (adG U v (idS 2 j))))))) := (wd_c (by decide)).trans (ent_Sp (d := 2) (by decide))
theorem gt_6 {G : Gm} {U : Nat → Nat → Nat} {v : Nat → Nat} {H : Heap} (hP : va_P G.1 vwCl (bX G U v) H) : va_at G.1 vwCl (adG U v 6, wd (GG G U v) al0 rh0 6) H := by
  rw [gw_6]
  exact at_q (hP 42 _ gl_6) (fun j hj => by rcases (show j = 0 ∨ j = 1 ∨ j = 2 ∨ j = 3 ∨ j = 4 ∨ j = 5 ∨ j = 6 ∨ j = 7 ∨ j = 8 by omega) with rfl | rfl | rfl | rfl | rfl | rfl | rfl | rfl | rfl <;> rfl)
theorem gl_7 {G : Gm} {U : Nat → Nat → Nat} {v : Nat → Nat} : (bX G U v)[3]? = some (U 0 2, .inl (gC G 3, 2, .inr (.inr (.inr (.inr (va_up (va_up (fun _ => none) 0 (some (U 0 14))) 1 (some (U 0 17)))))))) := rfl
theorem gw_7 {G : Gm} {U : Nat → Nat → Nat} {v : Nat → Nat} : wd (GG G U v) al0 rh0 7 = .inl (gC G 3, 2, .inr (.inr (.inr (.inr (fun j => some (adG U v (idL 0 j))))))) := (wd_c (by decide)).trans (ent_Lw (d := 0) (by decide))
theorem gt_7 {G : Gm} {U : Nat → Nat → Nat} {v : Nat → Nat} {H : Heap} (hP : va_P G.1 vwCl (bX G U v) H) : va_at G.1 vwCl (adG U v 7, wd (GG G U v) al0 rh0 7) H := by
  rw [gw_7]
  exact at_q (hP 3 _ gl_7) (fun j hj => by rcases (show j = 0 ∨ j = 1 by omega) with rfl | rfl <;> rfl)
theorem gl_8 {G : Gm} {U : Nat → Nat → Nat} {v : Nat → Nat} : (bX G U v)[23]? = some (U 1 2, .inl (gC G 3, 2, .inr (.inr (.inr (.inr (va_up (va_up (fun _ => none) 0 (some (U 1 14))) 1 (some (U 1 17)))))))) := rfl
theorem gw_8 {G : Gm} {U : Nat → Nat → Nat} {v : Nat → Nat} : wd (GG G U v) al0 rh0 8 = .inl (gC G 3, 2, .inr (.inr (.inr (.inr (fun j => some (adG U v (idL 1 j))))))) := (wd_c (by decide)).trans (ent_Lw (d := 1) (by decide))
theorem gt_8 {G : Gm} {U : Nat → Nat → Nat} {v : Nat → Nat} {H : Heap} (hP : va_P G.1 vwCl (bX G U v) H) : va_at G.1 vwCl (adG U v 8, wd (GG G U v) al0 rh0 8) H := by
  rw [gw_8]
  exact at_q (hP 23 _ gl_8) (fun j hj => by rcases (show j = 0 ∨ j = 1 by omega) with rfl | rfl <;> rfl)
theorem gl_9 {G : Gm} {U : Nat → Nat → Nat} {v : Nat → Nat} : (bX G U v)[43]? = some (U 2 2, .inl (gC G 3, 2, .inr (.inr (.inr (.inr (va_up (va_up (fun _ => none) 0 (some (U 2 14))) 1 (some (U 2 17)))))))) := rfl
theorem gw_9 {G : Gm} {U : Nat → Nat → Nat} {v : Nat → Nat} : wd (GG G U v) al0 rh0 9 = .inl (gC G 3, 2, .inr (.inr (.inr (.inr (fun j => some (adG U v (idL 2 j))))))) := (wd_c (by decide)).trans (ent_Lw (d := 2) (by decide))
theorem gt_9 {G : Gm} {U : Nat → Nat → Nat} {v : Nat → Nat} {H : Heap} (hP : va_P G.1 vwCl (bX G U v) H) : va_at G.1 vwCl (adG U v 9, wd (GG G U v) al0 rh0 9) H := by
  rw [gw_9]
  exact at_q (hP 43 _ gl_9) (fun j hj => by rcases (show j = 0 ∨ j = 1 by omega) with rfl | rfl <;> rfl)
theorem gl_10 {G : Gm} {U : Nat → Nat → Nat} {v : Nat → Nat} : (bX G U v)[4]? = some (U 0 3, .inl (gC G 1, 60, .inl (fun _ => 0))) := rfl
theorem gw_10 {G : Gm} {U : Nat → Nat → Nat} {v : Nat → Nat} : wd (GG G U v) al0 rh0 10 = .inl (gC G 1, 60, .inl (fun _ => 0)) := (wd_c (by decide)).trans (ent_Tp (d := 0) (by decide))
theorem gt_10 {G : Gm} {U : Nat → Nat → Nat} {v : Nat → Nat} {H : Heap} (hP : va_P G.1 vwCl (bX G U v) H) : va_at G.1 vwCl (adG U v 10, wd (GG G U v) al0 rh0 10) H := by
  rw [gw_10]
  exact hP 4 _ gl_10
theorem gl_11 {G : Gm} {U : Nat → Nat → Nat} {v : Nat → Nat} : (bX G U v)[24]? = some (U 1 3, .inl (gC G 1, 60, .inl (fun _ => 0))) := rfl
theorem gw_11 {G : Gm} {U : Nat → Nat → Nat} {v : Nat → Nat} : wd (GG G U v) al0 rh0 11 = .inl (gC G 1, 60, .inl (fun _ => 0)) := (wd_c (by decide)).trans (ent_Tp (d := 1) (by decide))
theorem gt_11 {G : Gm} {U : Nat → Nat → Nat} {v : Nat → Nat} {H : Heap} (hP : va_P G.1 vwCl (bX G U v) H) : va_at G.1 vwCl (adG U v 11, wd (GG G U v) al0 rh0 11) H := by
  rw [gw_11]
  exact hP 24 _ gl_11
theorem gl_12 {G : Gm} {U : Nat → Nat → Nat} {v : Nat → Nat} : (bX G U v)[44]? = some (U 2 3, .inl (gC G 1, 60, .inl (fun _ => 0))) := rfl
theorem gw_12 {G : Gm} {U : Nat → Nat → Nat} {v : Nat → Nat} : wd (GG G U v) al0 rh0 12 = .inl (gC G 1, 60, .inl (fun _ => 0)) := (wd_c (by decide)).trans (ent_Tp (d := 2) (by decide))
theorem gt_12 {G : Gm} {U : Nat → Nat → Nat} {v : Nat → Nat} {H : Heap} (hP : va_P G.1 vwCl (bX G U v) H) : va_at G.1 vwCl (adG U v 12, wd (GG G U v) al0 rh0 12) H := by
  rw [gw_12]
  exact hP 44 _ gl_12
theorem gl_13 {G : Gm} {U : Nat → Nat → Nat} {v : Nat → Nat} : (bX G U v)[5]? = some (U 0 4, .inl (gC G 0, 24, .inl (fun _ => 0))) := rfl
theorem gw_13 {G : Gm} {U : Nat → Nat → Nat} {v : Nat → Nat} : wd (GG G U v) al0 rh0 13 = .inl (gC G 0, 24, .inl (fun _ => 0)) := (wd_c (by decide)).trans (ent_Wt (d := 0) (by decide))
theorem gt_13 {G : Gm} {U : Nat → Nat → Nat} {v : Nat → Nat} {H : Heap} (hP : va_P G.1 vwCl (bX G U v) H) : va_at G.1 vwCl (adG U v 13, wd (GG G U v) al0 rh0 13) H := by
  rw [gw_13]
  exact hP 5 _ gl_13
theorem gl_14 {G : Gm} {U : Nat → Nat → Nat} {v : Nat → Nat} : (bX G U v)[25]? = some (U 1 4, .inl (gC G 0, 24, .inl (fun _ => 0))) := rfl
theorem gw_14 {G : Gm} {U : Nat → Nat → Nat} {v : Nat → Nat} : wd (GG G U v) al0 rh0 14 = .inl (gC G 0, 24, .inl (fun _ => 0)) := (wd_c (by decide)).trans (ent_Wt (d := 1) (by decide))
theorem gt_14 {G : Gm} {U : Nat → Nat → Nat} {v : Nat → Nat} {H : Heap} (hP : va_P G.1 vwCl (bX G U v) H) : va_at G.1 vwCl (adG U v 14, wd (GG G U v) al0 rh0 14) H := by
  rw [gw_14]
  exact hP 25 _ gl_14
theorem gl_15 {G : Gm} {U : Nat → Nat → Nat} {v : Nat → Nat} : (bX G U v)[45]? = some (U 2 4, .inl (gC G 0, 24, .inl (fun _ => 0))) := rfl
theorem gw_15 {G : Gm} {U : Nat → Nat → Nat} {v : Nat → Nat} : wd (GG G U v) al0 rh0 15 = .inl (gC G 0, 24, .inl (fun _ => 0)) := (wd_c (by decide)).trans (ent_Wt (d := 2) (by decide))
theorem gt_15 {G : Gm} {U : Nat → Nat → Nat} {v : Nat → Nat} {H : Heap} (hP : va_P G.1 vwCl (bX G U v) H) : va_at G.1 vwCl (adG U v 15, wd (GG G U v) al0 rh0 15) H := by
  rw [gw_15]
  exact hP 45 _ gl_15
theorem gl_16 {G : Gm} {U : Nat → Nat → Nat} {v : Nat → Nat} : (bX G U v)[61]? = some (U 3 0, .inr (2, [.ref (U 3 1), .int 0, .int 0, .ref (U 3 2), .int 0, .ref (gX G 2)])) := rfl
theorem gw_16 {G : Gm} {U : Nat → Nat → Nat} {v : Nat → Nat} : wd (GG G U v) al0 rh0 16 = .inr (2, [.ref (U 3 1), .int 0, .int 0, .ref (U 3 2), .int 0, .ref (gX G 2)]) := (wd_c (by decide)).trans (ent_R)
theorem gt_16 {G : Gm} {U : Nat → Nat → Nat} {v : Nat → Nat} {H : Heap} (hP : va_P G.1 vwCl (bX G U v) H) : va_at G.1 vwCl (adG U v 16, wd (GG G U v) al0 rh0 16) H := by
  rw [gw_16]
  exact hP 61 _ gl_16
theorem gl_17 {G : Gm} {U : Nat → Nat → Nat} {v : Nat → Nat} : (bX G U v)[62]? = some (U 3 1, .inl (gC G 0, 60, .inl (fun _ => 0))) := rfl
theorem gw_17 {G : Gm} {U : Nat → Nat → Nat} {v : Nat → Nat} : wd (GG G U v) al0 rh0 17 = .inl (gC G 0, 60, .inl (fun _ => 0)) := (wd_c (by decide)).trans (ent_Rc)
theorem gt_17 {G : Gm} {U : Nat → Nat → Nat} {v : Nat → Nat} {H : Heap} (hP : va_P G.1 vwCl (bX G U v) H) : va_at G.1 vwCl (adG U v 17, wd (GG G U v) al0 rh0 17) H := by
  rw [gw_17]
  exact hP 62 _ gl_17
theorem gl_18 {G : Gm} {U : Nat → Nat → Nat} {v : Nat → Nat} : (bX G U v)[63]? = some (U 3 2, .inl (gC G 1, 60, .inl (fun _ => 0))) := rfl
theorem gw_18 {G : Gm} {U : Nat → Nat → Nat} {v : Nat → Nat} : wd (GG G U v) al0 rh0 18 = .inl (gC G 1, 60, .inl (fun _ => 0)) := (wd_c (by decide)).trans (ent_Rb)
theorem gt_18 {G : Gm} {U : Nat → Nat → Nat} {v : Nat → Nat} {H : Heap} (hP : va_P G.1 vwCl (bX G U v) H) : va_at G.1 vwCl (adG U v 18, wd (GG G U v) al0 rh0 18) H := by
  rw [gw_18]
  exact hP 63 _ gl_18
theorem gl_19 {G : Gm} {U : Nat → Nat → Nat} {v : Nat → Nat} : (bX G U v)[64]? = some (U 4 0, .inr (5, [.ref (U 4 1), .int 0, .int 0, .int 0, .int 0, .int 0])) := rfl
theorem gw_19 {G : Gm} {U : Nat → Nat → Nat} {v : Nat → Nat} : wd (GG G U v) al0 rh0 19 = .inr (5, [.ref (U 4 1), .int 0, .int 0, .int 0, .int 0, .int 0]) := (wd_c (by decide)).trans (ent_V)
theorem gt_19 {G : Gm} {U : Nat → Nat → Nat} {v : Nat → Nat} {H : Heap} (hP : va_P G.1 vwCl (bX G U v) H) : va_at G.1 vwCl (adG U v 19, wd (GG G U v) al0 rh0 19) H := by
  rw [gw_19]
  exact hP 64 _ gl_19
theorem gl_20 {G : Gm} {U : Nat → Nat → Nat} {v : Nat → Nat} : (bX G U v)[65]? = some (U 4 1, .inl (gC G 0, 30, .inl (fun _ => 0))) := rfl
theorem gw_20 {G : Gm} {U : Nat → Nat → Nat} {v : Nat → Nat} : wd (GG G U v) al0 rh0 20 = .inl (gC G 0, 30, .inl (fun _ => 0)) := (wd_c (by decide)).trans (ent_Vt)
theorem gt_20 {G : Gm} {U : Nat → Nat → Nat} {v : Nat → Nat} {H : Heap} (hP : va_P G.1 vwCl (bX G U v) H) : va_at G.1 vwCl (adG U v 20, wd (GG G U v) al0 rh0 20) H := by
  rw [gw_20]
  exact hP 65 _ gl_20
theorem gl_21 {G : Gm} {U : Nat → Nat → Nat} {v : Nat → Nat} : (bX G U v)[66]? = some (U 9 1, .inl (gC G 4, 4, .inr (.inr (.inr (.inr (va_up (va_up (va_up (va_up (fun _ => none) 0 (some (U 5 0))) 1 (some (U 6 0))) 2 (some (U 7 0))) 3 (some (U 8 0)))))))) := rfl
theorem gw_21 {G : Gm} {U : Nat → Nat → Nat} {v : Nat → Nat} : wd (GG G U v) al0 rh0 21 = .inl (gC G 4, 4, .inr (.inr (.inr (.inr (fun j => some (adG U v (idSh j))))))) := (wd_c (by decide)).trans (ent_Shs)
theorem gt_21 {G : Gm} {U : Nat → Nat → Nat} {v : Nat → Nat} {H : Heap} (hP : va_P G.1 vwCl (bX G U v) H) : va_at G.1 vwCl (adG U v 21, wd (GG G U v) al0 rh0 21) H := by
  rw [gw_21]
  exact at_q (hP 66 _ gl_21) (fun j hj => by rcases (show j = 0 ∨ j = 1 ∨ j = 2 ∨ j = 3 by omega) with rfl | rfl | rfl | rfl <;> rfl)
theorem gl_22 {G : Gm} {U : Nat → Nat → Nat} {v : Nat → Nat} : (bX G U v)[67]? = some (U 9 2, .inl (gC G 0, 7, .inl (fun _ => 0))) := rfl
theorem gw_22 {G : Gm} {U : Nat → Nat → Nat} {v : Nat → Nat} : wd (GG G U v) al0 rh0 22 = .inl (gC G 0, 7, .inl (fun _ => 0)) := (wd_c (by decide)).trans (ent_Er)
theorem gt_22 {G : Gm} {U : Nat → Nat → Nat} {v : Nat → Nat} {H : Heap} (hP : va_P G.1 vwCl (bX G U v) H) : va_at G.1 vwCl (adG U v 22, wd (GG G U v) al0 rh0 22) H := by
  rw [gw_22]
  exact hP 67 _ gl_22
theorem gl_23 {G : Gm} {U : Nat → Nat → Nat} {v : Nat → Nat} : (bX G U v)[68]? = some (U 5 0, .inr (3, [.int 0, .int 0, .ref (U 5 1)])) := rfl
theorem gw_23 {G : Gm} {U : Nat → Nat → Nat} {v : Nat → Nat} : wd (GG G U v) al0 rh0 23 = .inr (3, [.int 0, .int 0, .ref (U 5 1)]) := (wd_c (by decide)).trans (ent_Sh (s := 0) (by decide))
theorem gt_23 {G : Gm} {U : Nat → Nat → Nat} {v : Nat → Nat} {H : Heap} (hP : va_P G.1 vwCl (bX G U v) H) : va_at G.1 vwCl (adG U v 23, wd (GG G U v) al0 rh0 23) H := by
  rw [gw_23]
  exact hP 68 _ gl_23
theorem gl_24 {G : Gm} {U : Nat → Nat → Nat} {v : Nat → Nat} : (bX G U v)[70]? = some (U 6 0, .inr (3, [.int 0, .int 0, .ref (U 6 1)])) := rfl
theorem gw_24 {G : Gm} {U : Nat → Nat → Nat} {v : Nat → Nat} : wd (GG G U v) al0 rh0 24 = .inr (3, [.int 0, .int 0, .ref (U 6 1)]) := (wd_c (by decide)).trans (ent_Sh (s := 1) (by decide))
theorem gt_24 {G : Gm} {U : Nat → Nat → Nat} {v : Nat → Nat} {H : Heap} (hP : va_P G.1 vwCl (bX G U v) H) : va_at G.1 vwCl (adG U v 24, wd (GG G U v) al0 rh0 24) H := by
  rw [gw_24]
  exact hP 70 _ gl_24
theorem gl_25 {G : Gm} {U : Nat → Nat → Nat} {v : Nat → Nat} : (bX G U v)[72]? = some (U 7 0, .inr (3, [.int 0, .int 0, .ref (U 7 1)])) := rfl
theorem gw_25 {G : Gm} {U : Nat → Nat → Nat} {v : Nat → Nat} : wd (GG G U v) al0 rh0 25 = .inr (3, [.int 0, .int 0, .ref (U 7 1)]) := (wd_c (by decide)).trans (ent_Sh (s := 2) (by decide))
theorem gt_25 {G : Gm} {U : Nat → Nat → Nat} {v : Nat → Nat} {H : Heap} (hP : va_P G.1 vwCl (bX G U v) H) : va_at G.1 vwCl (adG U v 25, wd (GG G U v) al0 rh0 25) H := by
  rw [gw_25]
  exact hP 72 _ gl_25
theorem gl_26 {G : Gm} {U : Nat → Nat → Nat} {v : Nat → Nat} : (bX G U v)[74]? = some (U 8 0, .inr (3, [.int 0, .int 0, .ref (U 8 1)])) := rfl
theorem gw_26 {G : Gm} {U : Nat → Nat → Nat} {v : Nat → Nat} : wd (GG G U v) al0 rh0 26 = .inr (3, [.int 0, .int 0, .ref (U 8 1)]) := (wd_c (by decide)).trans (ent_Sh (s := 3) (by decide))
theorem gt_26 {G : Gm} {U : Nat → Nat → Nat} {v : Nat → Nat} {H : Heap} (hP : va_P G.1 vwCl (bX G U v) H) : va_at G.1 vwCl (adG U v 26, wd (GG G U v) al0 rh0 26) H := by
  rw [gw_26]
  exact hP 74 _ gl_26
theorem gl_27 {G : Gm} {U : Nat → Nat → Nat} {v : Nat → Nat} : (bX G U v)[69]? = some (U 5 1, .inl (gC G 0, 24, .inl (fun _ => 0))) := rfl
theorem gw_27 {G : Gm} {U : Nat → Nat → Nat} {v : Nat → Nat} : wd (GG G U v) al0 rh0 27 = .inl (gC G 0, 24, .inl (fun _ => 0)) := (wd_c (by decide)).trans (ent_Sn (s := 0) (by decide))
theorem gt_27 {G : Gm} {U : Nat → Nat → Nat} {v : Nat → Nat} {H : Heap} (hP : va_P G.1 vwCl (bX G U v) H) : va_at G.1 vwCl (adG U v 27, wd (GG G U v) al0 rh0 27) H := by
  rw [gw_27]
  exact hP 69 _ gl_27
theorem gl_28 {G : Gm} {U : Nat → Nat → Nat} {v : Nat → Nat} : (bX G U v)[71]? = some (U 6 1, .inl (gC G 0, 24, .inl (fun _ => 0))) := rfl
theorem gw_28 {G : Gm} {U : Nat → Nat → Nat} {v : Nat → Nat} : wd (GG G U v) al0 rh0 28 = .inl (gC G 0, 24, .inl (fun _ => 0)) := (wd_c (by decide)).trans (ent_Sn (s := 1) (by decide))
theorem gt_28 {G : Gm} {U : Nat → Nat → Nat} {v : Nat → Nat} {H : Heap} (hP : va_P G.1 vwCl (bX G U v) H) : va_at G.1 vwCl (adG U v 28, wd (GG G U v) al0 rh0 28) H := by
  rw [gw_28]
  exact hP 71 _ gl_28
theorem gl_29 {G : Gm} {U : Nat → Nat → Nat} {v : Nat → Nat} : (bX G U v)[73]? = some (U 7 1, .inl (gC G 0, 24, .inl (fun _ => 0))) := rfl
theorem gw_29 {G : Gm} {U : Nat → Nat → Nat} {v : Nat → Nat} : wd (GG G U v) al0 rh0 29 = .inl (gC G 0, 24, .inl (fun _ => 0)) := (wd_c (by decide)).trans (ent_Sn (s := 2) (by decide))
theorem gt_29 {G : Gm} {U : Nat → Nat → Nat} {v : Nat → Nat} {H : Heap} (hP : va_P G.1 vwCl (bX G U v) H) : va_at G.1 vwCl (adG U v 29, wd (GG G U v) al0 rh0 29) H := by
  rw [gw_29]
  exact hP 73 _ gl_29
theorem gl_30 {G : Gm} {U : Nat → Nat → Nat} {v : Nat → Nat} : (bX G U v)[75]? = some (U 8 1, .inl (gC G 0, 24, .inl (fun _ => 0))) := rfl
theorem gw_30 {G : Gm} {U : Nat → Nat → Nat} {v : Nat → Nat} : wd (GG G U v) al0 rh0 30 = .inl (gC G 0, 24, .inl (fun _ => 0)) := (wd_c (by decide)).trans (ent_Sn (s := 3) (by decide))
theorem gt_30 {G : Gm} {U : Nat → Nat → Nat} {v : Nat → Nat} {H : Heap} (hP : va_P G.1 vwCl (bX G U v) H) : va_at G.1 vwCl (adG U v 30, wd (GG G U v) al0 rh0 30) H := by
  rw [gw_30]
  exact hP 75 _ gl_30
theorem gl_31 {G : Gm} {U : Nat → Nat → Nat} {v : Nat → Nat} : (bX G U v)[15]? = some (U 0 14, .inr (1, [.int 0, .int 0, .ref (U 0 15), .ref (U 0 16)])) := rfl
theorem gw_31 {G : Gm} {U : Nat → Nat → Nat} {v : Nat → Nat} : wd (GG G U v) al0 rh0 31 = .inr (1, [.int 0, .int 0, .ref (U 0 15), .ref (U 0 16)]) := (wd_c (by decide)).trans (ent_L (d := 0) (u := 0) (by decide) (by decide))
theorem gt_31 {G : Gm} {U : Nat → Nat → Nat} {v : Nat → Nat} {H : Heap} (hP : va_P G.1 vwCl (bX G U v) H) : va_at G.1 vwCl (adG U v 31, wd (GG G U v) al0 rh0 31) H := by
  rw [gw_31]
  exact hP 15 _ gl_31
theorem gl_32 {G : Gm} {U : Nat → Nat → Nat} {v : Nat → Nat} : (bX G U v)[18]? = some (U 0 17, .inr (1, [.int 0, .int 0, .ref (U 0 18), .ref (U 0 19)])) := rfl
theorem gw_32 {G : Gm} {U : Nat → Nat → Nat} {v : Nat → Nat} : wd (GG G U v) al0 rh0 32 = .inr (1, [.int 0, .int 0, .ref (U 0 18), .ref (U 0 19)]) := (wd_c (by decide)).trans (ent_L (d := 0) (u := 1) (by decide) (by decide))
theorem gt_32 {G : Gm} {U : Nat → Nat → Nat} {v : Nat → Nat} {H : Heap} (hP : va_P G.1 vwCl (bX G U v) H) : va_at G.1 vwCl (adG U v 32, wd (GG G U v) al0 rh0 32) H := by
  rw [gw_32]
  exact hP 18 _ gl_32
theorem gl_33 {G : Gm} {U : Nat → Nat → Nat} {v : Nat → Nat} : (bX G U v)[35]? = some (U 1 14, .inr (1, [.int 0, .int 0, .ref (U 1 15), .ref (U 1 16)])) := rfl
theorem gw_33 {G : Gm} {U : Nat → Nat → Nat} {v : Nat → Nat} : wd (GG G U v) al0 rh0 33 = .inr (1, [.int 0, .int 0, .ref (U 1 15), .ref (U 1 16)]) := (wd_c (by decide)).trans (ent_L (d := 1) (u := 0) (by decide) (by decide))
theorem gt_33 {G : Gm} {U : Nat → Nat → Nat} {v : Nat → Nat} {H : Heap} (hP : va_P G.1 vwCl (bX G U v) H) : va_at G.1 vwCl (adG U v 33, wd (GG G U v) al0 rh0 33) H := by
  rw [gw_33]
  exact hP 35 _ gl_33
theorem gl_34 {G : Gm} {U : Nat → Nat → Nat} {v : Nat → Nat} : (bX G U v)[38]? = some (U 1 17, .inr (1, [.int 0, .int 0, .ref (U 1 18), .ref (U 1 19)])) := rfl
theorem gw_34 {G : Gm} {U : Nat → Nat → Nat} {v : Nat → Nat} : wd (GG G U v) al0 rh0 34 = .inr (1, [.int 0, .int 0, .ref (U 1 18), .ref (U 1 19)]) := (wd_c (by decide)).trans (ent_L (d := 1) (u := 1) (by decide) (by decide))
theorem gt_34 {G : Gm} {U : Nat → Nat → Nat} {v : Nat → Nat} {H : Heap} (hP : va_P G.1 vwCl (bX G U v) H) : va_at G.1 vwCl (adG U v 34, wd (GG G U v) al0 rh0 34) H := by
  rw [gw_34]
  exact hP 38 _ gl_34
theorem gl_35 {G : Gm} {U : Nat → Nat → Nat} {v : Nat → Nat} : (bX G U v)[55]? = some (U 2 14, .inr (1, [.int 0, .int 0, .ref (U 2 15), .ref (U 2 16)])) := rfl
theorem gw_35 {G : Gm} {U : Nat → Nat → Nat} {v : Nat → Nat} : wd (GG G U v) al0 rh0 35 = .inr (1, [.int 0, .int 0, .ref (U 2 15), .ref (U 2 16)]) := (wd_c (by decide)).trans (ent_L (d := 2) (u := 0) (by decide) (by decide))
theorem gt_35 {G : Gm} {U : Nat → Nat → Nat} {v : Nat → Nat} {H : Heap} (hP : va_P G.1 vwCl (bX G U v) H) : va_at G.1 vwCl (adG U v 35, wd (GG G U v) al0 rh0 35) H := by
  rw [gw_35]
  exact hP 55 _ gl_35
theorem gl_36 {G : Gm} {U : Nat → Nat → Nat} {v : Nat → Nat} : (bX G U v)[58]? = some (U 2 17, .inr (1, [.int 0, .int 0, .ref (U 2 18), .ref (U 2 19)])) := rfl
theorem gw_36 {G : Gm} {U : Nat → Nat → Nat} {v : Nat → Nat} : wd (GG G U v) al0 rh0 36 = .inr (1, [.int 0, .int 0, .ref (U 2 18), .ref (U 2 19)]) := (wd_c (by decide)).trans (ent_L (d := 2) (u := 1) (by decide) (by decide))
theorem gt_36 {G : Gm} {U : Nat → Nat → Nat} {v : Nat → Nat} {H : Heap} (hP : va_P G.1 vwCl (bX G U v) H) : va_at G.1 vwCl (adG U v 36, wd (GG G U v) al0 rh0 36) H := by
  rw [gw_36]
  exact hP 58 _ gl_36
theorem gl_37 {G : Gm} {U : Nat → Nat → Nat} {v : Nat → Nat} : (bX G U v)[16]? = some (U 0 15, .inl (gC G 0, 60, .inl (fun _ => 0))) := rfl
theorem gw_37 {G : Gm} {U : Nat → Nat → Nat} {v : Nat → Nat} : wd (GG G U v) al0 rh0 37 = .inl (gC G 0, 60, .inl (fun _ => 0)) := (wd_c (by decide)).trans (ent_Lc (d := 0) (u := 0) (by decide) (by decide))
theorem gt_37 {G : Gm} {U : Nat → Nat → Nat} {v : Nat → Nat} {H : Heap} (hP : va_P G.1 vwCl (bX G U v) H) : va_at G.1 vwCl (adG U v 37, wd (GG G U v) al0 rh0 37) H := by
  rw [gw_37]
  exact hP 16 _ gl_37
theorem gl_38 {G : Gm} {U : Nat → Nat → Nat} {v : Nat → Nat} : (bX G U v)[19]? = some (U 0 18, .inl (gC G 0, 60, .inl (fun _ => 0))) := rfl
theorem gw_38 {G : Gm} {U : Nat → Nat → Nat} {v : Nat → Nat} : wd (GG G U v) al0 rh0 38 = .inl (gC G 0, 60, .inl (fun _ => 0)) := (wd_c (by decide)).trans (ent_Lc (d := 0) (u := 1) (by decide) (by decide))
theorem gt_38 {G : Gm} {U : Nat → Nat → Nat} {v : Nat → Nat} {H : Heap} (hP : va_P G.1 vwCl (bX G U v) H) : va_at G.1 vwCl (adG U v 38, wd (GG G U v) al0 rh0 38) H := by
  rw [gw_38]
  exact hP 19 _ gl_38
theorem gl_39 {G : Gm} {U : Nat → Nat → Nat} {v : Nat → Nat} : (bX G U v)[36]? = some (U 1 15, .inl (gC G 0, 60, .inl (fun _ => 0))) := rfl
theorem gw_39 {G : Gm} {U : Nat → Nat → Nat} {v : Nat → Nat} : wd (GG G U v) al0 rh0 39 = .inl (gC G 0, 60, .inl (fun _ => 0)) := (wd_c (by decide)).trans (ent_Lc (d := 1) (u := 0) (by decide) (by decide))
theorem gt_39 {G : Gm} {U : Nat → Nat → Nat} {v : Nat → Nat} {H : Heap} (hP : va_P G.1 vwCl (bX G U v) H) : va_at G.1 vwCl (adG U v 39, wd (GG G U v) al0 rh0 39) H := by
  rw [gw_39]
  exact hP 36 _ gl_39
theorem gl_40 {G : Gm} {U : Nat → Nat → Nat} {v : Nat → Nat} : (bX G U v)[39]? = some (U 1 18, .inl (gC G 0, 60, .inl (fun _ => 0))) := rfl
theorem gw_40 {G : Gm} {U : Nat → Nat → Nat} {v : Nat → Nat} : wd (GG G U v) al0 rh0 40 = .inl (gC G 0, 60, .inl (fun _ => 0)) := (wd_c (by decide)).trans (ent_Lc (d := 1) (u := 1) (by decide) (by decide))
theorem gt_40 {G : Gm} {U : Nat → Nat → Nat} {v : Nat → Nat} {H : Heap} (hP : va_P G.1 vwCl (bX G U v) H) : va_at G.1 vwCl (adG U v 40, wd (GG G U v) al0 rh0 40) H := by
  rw [gw_40]
  exact hP 39 _ gl_40
theorem gl_41 {G : Gm} {U : Nat → Nat → Nat} {v : Nat → Nat} : (bX G U v)[56]? = some (U 2 15, .inl (gC G 0, 60, .inl (fun _ => 0))) := rfl
theorem gw_41 {G : Gm} {U : Nat → Nat → Nat} {v : Nat → Nat} : wd (GG G U v) al0 rh0 41 = .inl (gC G 0, 60, .inl (fun _ => 0)) := (wd_c (by decide)).trans (ent_Lc (d := 2) (u := 0) (by decide) (by decide))
theorem gt_41 {G : Gm} {U : Nat → Nat → Nat} {v : Nat → Nat} {H : Heap} (hP : va_P G.1 vwCl (bX G U v) H) : va_at G.1 vwCl (adG U v 41, wd (GG G U v) al0 rh0 41) H := by
  rw [gw_41]
  exact hP 56 _ gl_41
theorem gl_42 {G : Gm} {U : Nat → Nat → Nat} {v : Nat → Nat} : (bX G U v)[59]? = some (U 2 18, .inl (gC G 0, 60, .inl (fun _ => 0))) := rfl
theorem gw_42 {G : Gm} {U : Nat → Nat → Nat} {v : Nat → Nat} : wd (GG G U v) al0 rh0 42 = .inl (gC G 0, 60, .inl (fun _ => 0)) := (wd_c (by decide)).trans (ent_Lc (d := 2) (u := 1) (by decide) (by decide))
theorem gt_42 {G : Gm} {U : Nat → Nat → Nat} {v : Nat → Nat} {H : Heap} (hP : va_P G.1 vwCl (bX G U v) H) : va_at G.1 vwCl (adG U v 42, wd (GG G U v) al0 rh0 42) H := by
  rw [gw_42]
  exact hP 59 _ gl_42
theorem gl_43 {G : Gm} {U : Nat → Nat → Nat} {v : Nat → Nat} : (bX G U v)[17]? = some (U 0 16, .inl (gC G 0, 60, .inl (fun _ => 0))) := rfl
theorem gw_43 {G : Gm} {U : Nat → Nat → Nat} {v : Nat → Nat} : wd (GG G U v) al0 rh0 43 = .inl (gC G 0, 60, .inl (fun _ => 0)) := (wd_c (by decide)).trans (ent_Lo (d := 0) (u := 0) (by decide) (by decide))
theorem gt_43 {G : Gm} {U : Nat → Nat → Nat} {v : Nat → Nat} {H : Heap} (hP : va_P G.1 vwCl (bX G U v) H) : va_at G.1 vwCl (adG U v 43, wd (GG G U v) al0 rh0 43) H := by
  rw [gw_43]
  exact hP 17 _ gl_43
theorem gl_44 {G : Gm} {U : Nat → Nat → Nat} {v : Nat → Nat} : (bX G U v)[20]? = some (U 0 19, .inl (gC G 0, 60, .inl (fun _ => 0))) := rfl
theorem gw_44 {G : Gm} {U : Nat → Nat → Nat} {v : Nat → Nat} : wd (GG G U v) al0 rh0 44 = .inl (gC G 0, 60, .inl (fun _ => 0)) := (wd_c (by decide)).trans (ent_Lo (d := 0) (u := 1) (by decide) (by decide))
theorem gt_44 {G : Gm} {U : Nat → Nat → Nat} {v : Nat → Nat} {H : Heap} (hP : va_P G.1 vwCl (bX G U v) H) : va_at G.1 vwCl (adG U v 44, wd (GG G U v) al0 rh0 44) H := by
  rw [gw_44]
  exact hP 20 _ gl_44
theorem gl_45 {G : Gm} {U : Nat → Nat → Nat} {v : Nat → Nat} : (bX G U v)[37]? = some (U 1 16, .inl (gC G 0, 60, .inl (fun _ => 0))) := rfl
theorem gw_45 {G : Gm} {U : Nat → Nat → Nat} {v : Nat → Nat} : wd (GG G U v) al0 rh0 45 = .inl (gC G 0, 60, .inl (fun _ => 0)) := (wd_c (by decide)).trans (ent_Lo (d := 1) (u := 0) (by decide) (by decide))
theorem gt_45 {G : Gm} {U : Nat → Nat → Nat} {v : Nat → Nat} {H : Heap} (hP : va_P G.1 vwCl (bX G U v) H) : va_at G.1 vwCl (adG U v 45, wd (GG G U v) al0 rh0 45) H := by
  rw [gw_45]
  exact hP 37 _ gl_45
theorem gl_46 {G : Gm} {U : Nat → Nat → Nat} {v : Nat → Nat} : (bX G U v)[40]? = some (U 1 19, .inl (gC G 0, 60, .inl (fun _ => 0))) := rfl
theorem gw_46 {G : Gm} {U : Nat → Nat → Nat} {v : Nat → Nat} : wd (GG G U v) al0 rh0 46 = .inl (gC G 0, 60, .inl (fun _ => 0)) := (wd_c (by decide)).trans (ent_Lo (d := 1) (u := 1) (by decide) (by decide))
theorem gt_46 {G : Gm} {U : Nat → Nat → Nat} {v : Nat → Nat} {H : Heap} (hP : va_P G.1 vwCl (bX G U v) H) : va_at G.1 vwCl (adG U v 46, wd (GG G U v) al0 rh0 46) H := by
  rw [gw_46]
  exact hP 40 _ gl_46
theorem gl_47 {G : Gm} {U : Nat → Nat → Nat} {v : Nat → Nat} : (bX G U v)[57]? = some (U 2 16, .inl (gC G 0, 60, .inl (fun _ => 0))) := rfl
theorem gw_47 {G : Gm} {U : Nat → Nat → Nat} {v : Nat → Nat} : wd (GG G U v) al0 rh0 47 = .inl (gC G 0, 60, .inl (fun _ => 0)) := (wd_c (by decide)).trans (ent_Lo (d := 2) (u := 0) (by decide) (by decide))
theorem gt_47 {G : Gm} {U : Nat → Nat → Nat} {v : Nat → Nat} {H : Heap} (hP : va_P G.1 vwCl (bX G U v) H) : va_at G.1 vwCl (adG U v 47, wd (GG G U v) al0 rh0 47) H := by
  rw [gw_47]
  exact hP 57 _ gl_47
theorem gl_48 {G : Gm} {U : Nat → Nat → Nat} {v : Nat → Nat} : (bX G U v)[60]? = some (U 2 19, .inl (gC G 0, 60, .inl (fun _ => 0))) := rfl
theorem gw_48 {G : Gm} {U : Nat → Nat → Nat} {v : Nat → Nat} : wd (GG G U v) al0 rh0 48 = .inl (gC G 0, 60, .inl (fun _ => 0)) := (wd_c (by decide)).trans (ent_Lo (d := 2) (u := 1) (by decide) (by decide))
theorem gt_48 {G : Gm} {U : Nat → Nat → Nat} {v : Nat → Nat} {H : Heap} (hP : va_P G.1 vwCl (bX G U v) H) : va_at G.1 vwCl (adG U v 48, wd (GG G U v) al0 rh0 48) H := by
  rw [gw_48]
  exact hP 60 _ gl_48
theorem gl_49 {G : Gm} {U : Nat → Nat → Nat} {v : Nat → Nat} : (bX G U v)[6]? = some (U 0 5, .inr (4, [.int 0, .int 0, .int 0, .int 0, .int 0, .int 0, .int 0])) := rfl
theorem gw_49 {G : Gm} {U : Nat → Nat → Nat} {v : Nat → Nat} : wd (GG G U v) al0 rh0 49 = .inr (4, [.int 0, .int 0, .int 0, .int 0, .int 0, .int 0, .int 0]) := (wd_c (by decide)).trans (ent_S (d := 0) (i := 0) (by decide) (by decide))
theorem gt_49 {G : Gm} {U : Nat → Nat → Nat} {v : Nat → Nat} {H : Heap} (hP : va_P G.1 vwCl (bX G U v) H) : va_at G.1 vwCl (adG U v 49, wd (GG G U v) al0 rh0 49) H := by
  rw [gw_49]
  exact hP 6 _ gl_49
theorem gl_50 {G : Gm} {U : Nat → Nat → Nat} {v : Nat → Nat} : (bX G U v)[7]? = some (U 0 6, .inr (4, [.int 0, .int 0, .int 0, .int 0, .int 0, .int 0, .int 0])) := rfl
theorem gw_50 {G : Gm} {U : Nat → Nat → Nat} {v : Nat → Nat} : wd (GG G U v) al0 rh0 50 = .inr (4, [.int 0, .int 0, .int 0, .int 0, .int 0, .int 0, .int 0]) := (wd_c (by decide)).trans (ent_S (d := 0) (i := 1) (by decide) (by decide))
theorem gt_50 {G : Gm} {U : Nat → Nat → Nat} {v : Nat → Nat} {H : Heap} (hP : va_P G.1 vwCl (bX G U v) H) : va_at G.1 vwCl (adG U v 50, wd (GG G U v) al0 rh0 50) H := by
  rw [gw_50]
  exact hP 7 _ gl_50
theorem gl_51 {G : Gm} {U : Nat → Nat → Nat} {v : Nat → Nat} : (bX G U v)[8]? = some (U 0 7, .inr (4, [.int 0, .int 0, .int 0, .int 0, .int 0, .int 0, .int 0])) := rfl
theorem gw_51 {G : Gm} {U : Nat → Nat → Nat} {v : Nat → Nat} : wd (GG G U v) al0 rh0 51 = .inr (4, [.int 0, .int 0, .int 0, .int 0, .int 0, .int 0, .int 0]) := (wd_c (by decide)).trans (ent_S (d := 0) (i := 2) (by decide) (by decide))
theorem gt_51 {G : Gm} {U : Nat → Nat → Nat} {v : Nat → Nat} {H : Heap} (hP : va_P G.1 vwCl (bX G U v) H) : va_at G.1 vwCl (adG U v 51, wd (GG G U v) al0 rh0 51) H := by
  rw [gw_51]
  exact hP 8 _ gl_51
theorem gl_52 {G : Gm} {U : Nat → Nat → Nat} {v : Nat → Nat} : (bX G U v)[9]? = some (U 0 8, .inr (4, [.int 0, .int 0, .int 0, .int 0, .int 0, .int 0, .int 0])) := rfl
theorem gw_52 {G : Gm} {U : Nat → Nat → Nat} {v : Nat → Nat} : wd (GG G U v) al0 rh0 52 = .inr (4, [.int 0, .int 0, .int 0, .int 0, .int 0, .int 0, .int 0]) := (wd_c (by decide)).trans (ent_S (d := 0) (i := 3) (by decide) (by decide))
theorem gt_52 {G : Gm} {U : Nat → Nat → Nat} {v : Nat → Nat} {H : Heap} (hP : va_P G.1 vwCl (bX G U v) H) : va_at G.1 vwCl (adG U v 52, wd (GG G U v) al0 rh0 52) H := by
  rw [gw_52]
  exact hP 9 _ gl_52
theorem gl_53 {G : Gm} {U : Nat → Nat → Nat} {v : Nat → Nat} : (bX G U v)[10]? = some (U 0 9, .inr (4, [.int 0, .int 0, .int 0, .int 0, .int 0, .int 0, .int 0])) := rfl
theorem gw_53 {G : Gm} {U : Nat → Nat → Nat} {v : Nat → Nat} : wd (GG G U v) al0 rh0 53 = .inr (4, [.int 0, .int 0, .int 0, .int 0, .int 0, .int 0, .int 0]) := (wd_c (by decide)).trans (ent_S (d := 0) (i := 4) (by decide) (by decide))
theorem gt_53 {G : Gm} {U : Nat → Nat → Nat} {v : Nat → Nat} {H : Heap} (hP : va_P G.1 vwCl (bX G U v) H) : va_at G.1 vwCl (adG U v 53, wd (GG G U v) al0 rh0 53) H := by
  rw [gw_53]
  exact hP 10 _ gl_53
theorem gl_54 {G : Gm} {U : Nat → Nat → Nat} {v : Nat → Nat} : (bX G U v)[11]? = some (U 0 10, .inr (4, [.int 0, .int 0, .int 0, .int 0, .int 0, .int 0, .int 0])) := rfl
theorem gw_54 {G : Gm} {U : Nat → Nat → Nat} {v : Nat → Nat} : wd (GG G U v) al0 rh0 54 = .inr (4, [.int 0, .int 0, .int 0, .int 0, .int 0, .int 0, .int 0]) := (wd_c (by decide)).trans (ent_S (d := 0) (i := 5) (by decide) (by decide))
theorem gt_54 {G : Gm} {U : Nat → Nat → Nat} {v : Nat → Nat} {H : Heap} (hP : va_P G.1 vwCl (bX G U v) H) : va_at G.1 vwCl (adG U v 54, wd (GG G U v) al0 rh0 54) H := by
  rw [gw_54]
  exact hP 11 _ gl_54
theorem gl_55 {G : Gm} {U : Nat → Nat → Nat} {v : Nat → Nat} : (bX G U v)[12]? = some (U 0 11, .inr (4, [.int 0, .int 0, .int 0, .int 0, .int 0, .int 0, .int 0])) := rfl
theorem gw_55 {G : Gm} {U : Nat → Nat → Nat} {v : Nat → Nat} : wd (GG G U v) al0 rh0 55 = .inr (4, [.int 0, .int 0, .int 0, .int 0, .int 0, .int 0, .int 0]) := (wd_c (by decide)).trans (ent_S (d := 0) (i := 6) (by decide) (by decide))
theorem gt_55 {G : Gm} {U : Nat → Nat → Nat} {v : Nat → Nat} {H : Heap} (hP : va_P G.1 vwCl (bX G U v) H) : va_at G.1 vwCl (adG U v 55, wd (GG G U v) al0 rh0 55) H := by
  rw [gw_55]
  exact hP 12 _ gl_55
theorem gl_56 {G : Gm} {U : Nat → Nat → Nat} {v : Nat → Nat} : (bX G U v)[13]? = some (U 0 12, .inr (4, [.int 0, .int 0, .int 0, .int 0, .int 0, .int 0, .int 0])) := rfl
theorem gw_56 {G : Gm} {U : Nat → Nat → Nat} {v : Nat → Nat} : wd (GG G U v) al0 rh0 56 = .inr (4, [.int 0, .int 0, .int 0, .int 0, .int 0, .int 0, .int 0]) := (wd_c (by decide)).trans (ent_S (d := 0) (i := 7) (by decide) (by decide))
theorem gt_56 {G : Gm} {U : Nat → Nat → Nat} {v : Nat → Nat} {H : Heap} (hP : va_P G.1 vwCl (bX G U v) H) : va_at G.1 vwCl (adG U v 56, wd (GG G U v) al0 rh0 56) H := by
  rw [gw_56]
  exact hP 13 _ gl_56
theorem gl_57 {G : Gm} {U : Nat → Nat → Nat} {v : Nat → Nat} : (bX G U v)[14]? = some (U 0 13, .inr (4, [.int 0, .int 0, .int 0, .int 0, .int 0, .int 0, .int 0])) := rfl
theorem gw_57 {G : Gm} {U : Nat → Nat → Nat} {v : Nat → Nat} : wd (GG G U v) al0 rh0 57 = .inr (4, [.int 0, .int 0, .int 0, .int 0, .int 0, .int 0, .int 0]) := (wd_c (by decide)).trans (ent_S (d := 0) (i := 8) (by decide) (by decide))
theorem gt_57 {G : Gm} {U : Nat → Nat → Nat} {v : Nat → Nat} {H : Heap} (hP : va_P G.1 vwCl (bX G U v) H) : va_at G.1 vwCl (adG U v 57, wd (GG G U v) al0 rh0 57) H := by
  rw [gw_57]
  exact hP 14 _ gl_57
theorem gl_58 {G : Gm} {U : Nat → Nat → Nat} {v : Nat → Nat} : (bX G U v)[26]? = some (U 1 5, .inr (4, [.int 0, .int 0, .int 0, .int 0, .int 0, .int 0, .int 0])) := rfl
theorem gw_58 {G : Gm} {U : Nat → Nat → Nat} {v : Nat → Nat} : wd (GG G U v) al0 rh0 58 = .inr (4, [.int 0, .int 0, .int 0, .int 0, .int 0, .int 0, .int 0]) := (wd_c (by decide)).trans (ent_S (d := 1) (i := 0) (by decide) (by decide))
theorem gt_58 {G : Gm} {U : Nat → Nat → Nat} {v : Nat → Nat} {H : Heap} (hP : va_P G.1 vwCl (bX G U v) H) : va_at G.1 vwCl (adG U v 58, wd (GG G U v) al0 rh0 58) H := by
  rw [gw_58]
  exact hP 26 _ gl_58
theorem gl_59 {G : Gm} {U : Nat → Nat → Nat} {v : Nat → Nat} : (bX G U v)[27]? = some (U 1 6, .inr (4, [.int 0, .int 0, .int 0, .int 0, .int 0, .int 0, .int 0])) := rfl
theorem gw_59 {G : Gm} {U : Nat → Nat → Nat} {v : Nat → Nat} : wd (GG G U v) al0 rh0 59 = .inr (4, [.int 0, .int 0, .int 0, .int 0, .int 0, .int 0, .int 0]) := (wd_c (by decide)).trans (ent_S (d := 1) (i := 1) (by decide) (by decide))
theorem gt_59 {G : Gm} {U : Nat → Nat → Nat} {v : Nat → Nat} {H : Heap} (hP : va_P G.1 vwCl (bX G U v) H) : va_at G.1 vwCl (adG U v 59, wd (GG G U v) al0 rh0 59) H := by
  rw [gw_59]
  exact hP 27 _ gl_59
theorem gl_60 {G : Gm} {U : Nat → Nat → Nat} {v : Nat → Nat} : (bX G U v)[28]? = some (U 1 7, .inr (4, [.int 0, .int 0, .int 0, .int 0, .int 0, .int 0, .int 0])) := rfl
theorem gw_60 {G : Gm} {U : Nat → Nat → Nat} {v : Nat → Nat} : wd (GG G U v) al0 rh0 60 = .inr (4, [.int 0, .int 0, .int 0, .int 0, .int 0, .int 0, .int 0]) := (wd_c (by decide)).trans (ent_S (d := 1) (i := 2) (by decide) (by decide))
theorem gt_60 {G : Gm} {U : Nat → Nat → Nat} {v : Nat → Nat} {H : Heap} (hP : va_P G.1 vwCl (bX G U v) H) : va_at G.1 vwCl (adG U v 60, wd (GG G U v) al0 rh0 60) H := by
  rw [gw_60]
  exact hP 28 _ gl_60
theorem gl_61 {G : Gm} {U : Nat → Nat → Nat} {v : Nat → Nat} : (bX G U v)[29]? = some (U 1 8, .inr (4, [.int 0, .int 0, .int 0, .int 0, .int 0, .int 0, .int 0])) := rfl
theorem gw_61 {G : Gm} {U : Nat → Nat → Nat} {v : Nat → Nat} : wd (GG G U v) al0 rh0 61 = .inr (4, [.int 0, .int 0, .int 0, .int 0, .int 0, .int 0, .int 0]) := (wd_c (by decide)).trans (ent_S (d := 1) (i := 3) (by decide) (by decide))
theorem gt_61 {G : Gm} {U : Nat → Nat → Nat} {v : Nat → Nat} {H : Heap} (hP : va_P G.1 vwCl (bX G U v) H) : va_at G.1 vwCl (adG U v 61, wd (GG G U v) al0 rh0 61) H := by
  rw [gw_61]
  exact hP 29 _ gl_61
theorem gl_62 {G : Gm} {U : Nat → Nat → Nat} {v : Nat → Nat} : (bX G U v)[30]? = some (U 1 9, .inr (4, [.int 0, .int 0, .int 0, .int 0, .int 0, .int 0, .int 0])) := rfl
theorem gw_62 {G : Gm} {U : Nat → Nat → Nat} {v : Nat → Nat} : wd (GG G U v) al0 rh0 62 = .inr (4, [.int 0, .int 0, .int 0, .int 0, .int 0, .int 0, .int 0]) := (wd_c (by decide)).trans (ent_S (d := 1) (i := 4) (by decide) (by decide))
theorem gt_62 {G : Gm} {U : Nat → Nat → Nat} {v : Nat → Nat} {H : Heap} (hP : va_P G.1 vwCl (bX G U v) H) : va_at G.1 vwCl (adG U v 62, wd (GG G U v) al0 rh0 62) H := by
  rw [gw_62]
  exact hP 30 _ gl_62
theorem gl_63 {G : Gm} {U : Nat → Nat → Nat} {v : Nat → Nat} : (bX G U v)[31]? = some (U 1 10, .inr (4, [.int 0, .int 0, .int 0, .int 0, .int 0, .int 0, .int 0])) := rfl
theorem gw_63 {G : Gm} {U : Nat → Nat → Nat} {v : Nat → Nat} : wd (GG G U v) al0 rh0 63 = .inr (4, [.int 0, .int 0, .int 0, .int 0, .int 0, .int 0, .int 0]) := (wd_c (by decide)).trans (ent_S (d := 1) (i := 5) (by decide) (by decide))
theorem gt_63 {G : Gm} {U : Nat → Nat → Nat} {v : Nat → Nat} {H : Heap} (hP : va_P G.1 vwCl (bX G U v) H) : va_at G.1 vwCl (adG U v 63, wd (GG G U v) al0 rh0 63) H := by
  rw [gw_63]
  exact hP 31 _ gl_63
theorem gl_64 {G : Gm} {U : Nat → Nat → Nat} {v : Nat → Nat} : (bX G U v)[32]? = some (U 1 11, .inr (4, [.int 0, .int 0, .int 0, .int 0, .int 0, .int 0, .int 0])) := rfl
theorem gw_64 {G : Gm} {U : Nat → Nat → Nat} {v : Nat → Nat} : wd (GG G U v) al0 rh0 64 = .inr (4, [.int 0, .int 0, .int 0, .int 0, .int 0, .int 0, .int 0]) := (wd_c (by decide)).trans (ent_S (d := 1) (i := 6) (by decide) (by decide))
theorem gt_64 {G : Gm} {U : Nat → Nat → Nat} {v : Nat → Nat} {H : Heap} (hP : va_P G.1 vwCl (bX G U v) H) : va_at G.1 vwCl (adG U v 64, wd (GG G U v) al0 rh0 64) H := by
  rw [gw_64]
  exact hP 32 _ gl_64
theorem gl_65 {G : Gm} {U : Nat → Nat → Nat} {v : Nat → Nat} : (bX G U v)[33]? = some (U 1 12, .inr (4, [.int 0, .int 0, .int 0, .int 0, .int 0, .int 0, .int 0])) := rfl
theorem gw_65 {G : Gm} {U : Nat → Nat → Nat} {v : Nat → Nat} : wd (GG G U v) al0 rh0 65 = .inr (4, [.int 0, .int 0, .int 0, .int 0, .int 0, .int 0, .int 0]) := (wd_c (by decide)).trans (ent_S (d := 1) (i := 7) (by decide) (by decide))
theorem gt_65 {G : Gm} {U : Nat → Nat → Nat} {v : Nat → Nat} {H : Heap} (hP : va_P G.1 vwCl (bX G U v) H) : va_at G.1 vwCl (adG U v 65, wd (GG G U v) al0 rh0 65) H := by
  rw [gw_65]
  exact hP 33 _ gl_65
theorem gl_66 {G : Gm} {U : Nat → Nat → Nat} {v : Nat → Nat} : (bX G U v)[34]? = some (U 1 13, .inr (4, [.int 0, .int 0, .int 0, .int 0, .int 0, .int 0, .int 0])) := rfl
theorem gw_66 {G : Gm} {U : Nat → Nat → Nat} {v : Nat → Nat} : wd (GG G U v) al0 rh0 66 = .inr (4, [.int 0, .int 0, .int 0, .int 0, .int 0, .int 0, .int 0]) := (wd_c (by decide)).trans (ent_S (d := 1) (i := 8) (by decide) (by decide))
theorem gt_66 {G : Gm} {U : Nat → Nat → Nat} {v : Nat → Nat} {H : Heap} (hP : va_P G.1 vwCl (bX G U v) H) : va_at G.1 vwCl (adG U v 66, wd (GG G U v) al0 rh0 66) H := by
  rw [gw_66]
  exact hP 34 _ gl_66
theorem gl_67 {G : Gm} {U : Nat → Nat → Nat} {v : Nat → Nat} : (bX G U v)[46]? = some (U 2 5, .inr (4, [.int 0, .int 0, .int 0, .int 0, .int 0, .int 0, .int 0])) := rfl
theorem gw_67 {G : Gm} {U : Nat → Nat → Nat} {v : Nat → Nat} : wd (GG G U v) al0 rh0 67 = .inr (4, [.int 0, .int 0, .int 0, .int 0, .int 0, .int 0, .int 0]) := (wd_c (by decide)).trans (ent_S (d := 2) (i := 0) (by decide) (by decide))
theorem gt_67 {G : Gm} {U : Nat → Nat → Nat} {v : Nat → Nat} {H : Heap} (hP : va_P G.1 vwCl (bX G U v) H) : va_at G.1 vwCl (adG U v 67, wd (GG G U v) al0 rh0 67) H := by
  rw [gw_67]
  exact hP 46 _ gl_67
theorem gl_68 {G : Gm} {U : Nat → Nat → Nat} {v : Nat → Nat} : (bX G U v)[47]? = some (U 2 6, .inr (4, [.int 0, .int 0, .int 0, .int 0, .int 0, .int 0, .int 0])) := rfl
theorem gw_68 {G : Gm} {U : Nat → Nat → Nat} {v : Nat → Nat} : wd (GG G U v) al0 rh0 68 = .inr (4, [.int 0, .int 0, .int 0, .int 0, .int 0, .int 0, .int 0]) := (wd_c (by decide)).trans (ent_S (d := 2) (i := 1) (by decide) (by decide))
theorem gt_68 {G : Gm} {U : Nat → Nat → Nat} {v : Nat → Nat} {H : Heap} (hP : va_P G.1 vwCl (bX G U v) H) : va_at G.1 vwCl (adG U v 68, wd (GG G U v) al0 rh0 68) H := by
  rw [gw_68]
  exact hP 47 _ gl_68
theorem gl_69 {G : Gm} {U : Nat → Nat → Nat} {v : Nat → Nat} : (bX G U v)[48]? = some (U 2 7, .inr (4, [.int 0, .int 0, .int 0, .int 0, .int 0, .int 0, .int 0])) := rfl
theorem gw_69 {G : Gm} {U : Nat → Nat → Nat} {v : Nat → Nat} : wd (GG G U v) al0 rh0 69 = .inr (4, [.int 0, .int 0, .int 0, .int 0, .int 0, .int 0, .int 0]) := (wd_c (by decide)).trans (ent_S (d := 2) (i := 2) (by decide) (by decide))
theorem gt_69 {G : Gm} {U : Nat → Nat → Nat} {v : Nat → Nat} {H : Heap} (hP : va_P G.1 vwCl (bX G U v) H) : va_at G.1 vwCl (adG U v 69, wd (GG G U v) al0 rh0 69) H := by
  rw [gw_69]
  exact hP 48 _ gl_69
theorem gl_70 {G : Gm} {U : Nat → Nat → Nat} {v : Nat → Nat} : (bX G U v)[49]? = some (U 2 8, .inr (4, [.int 0, .int 0, .int 0, .int 0, .int 0, .int 0, .int 0])) := rfl
theorem gw_70 {G : Gm} {U : Nat → Nat → Nat} {v : Nat → Nat} : wd (GG G U v) al0 rh0 70 = .inr (4, [.int 0, .int 0, .int 0, .int 0, .int 0, .int 0, .int 0]) := (wd_c (by decide)).trans (ent_S (d := 2) (i := 3) (by decide) (by decide))
theorem gt_70 {G : Gm} {U : Nat → Nat → Nat} {v : Nat → Nat} {H : Heap} (hP : va_P G.1 vwCl (bX G U v) H) : va_at G.1 vwCl (adG U v 70, wd (GG G U v) al0 rh0 70) H := by
  rw [gw_70]
  exact hP 49 _ gl_70
theorem gl_71 {G : Gm} {U : Nat → Nat → Nat} {v : Nat → Nat} : (bX G U v)[50]? = some (U 2 9, .inr (4, [.int 0, .int 0, .int 0, .int 0, .int 0, .int 0, .int 0])) := rfl
theorem gw_71 {G : Gm} {U : Nat → Nat → Nat} {v : Nat → Nat} : wd (GG G U v) al0 rh0 71 = .inr (4, [.int 0, .int 0, .int 0, .int 0, .int 0, .int 0, .int 0]) := (wd_c (by decide)).trans (ent_S (d := 2) (i := 4) (by decide) (by decide))
theorem gt_71 {G : Gm} {U : Nat → Nat → Nat} {v : Nat → Nat} {H : Heap} (hP : va_P G.1 vwCl (bX G U v) H) : va_at G.1 vwCl (adG U v 71, wd (GG G U v) al0 rh0 71) H := by
  rw [gw_71]
  exact hP 50 _ gl_71
theorem gl_72 {G : Gm} {U : Nat → Nat → Nat} {v : Nat → Nat} : (bX G U v)[51]? = some (U 2 10, .inr (4, [.int 0, .int 0, .int 0, .int 0, .int 0, .int 0, .int 0])) := rfl
theorem gw_72 {G : Gm} {U : Nat → Nat → Nat} {v : Nat → Nat} : wd (GG G U v) al0 rh0 72 = .inr (4, [.int 0, .int 0, .int 0, .int 0, .int 0, .int 0, .int 0]) := (wd_c (by decide)).trans (ent_S (d := 2) (i := 5) (by decide) (by decide))
theorem gt_72 {G : Gm} {U : Nat → Nat → Nat} {v : Nat → Nat} {H : Heap} (hP : va_P G.1 vwCl (bX G U v) H) : va_at G.1 vwCl (adG U v 72, wd (GG G U v) al0 rh0 72) H := by
  rw [gw_72]
  exact hP 51 _ gl_72
theorem gl_73 {G : Gm} {U : Nat → Nat → Nat} {v : Nat → Nat} : (bX G U v)[52]? = some (U 2 11, .inr (4, [.int 0, .int 0, .int 0, .int 0, .int 0, .int 0, .int 0])) := rfl
theorem gw_73 {G : Gm} {U : Nat → Nat → Nat} {v : Nat → Nat} : wd (GG G U v) al0 rh0 73 = .inr (4, [.int 0, .int 0, .int 0, .int 0, .int 0, .int 0, .int 0]) := (wd_c (by decide)).trans (ent_S (d := 2) (i := 6) (by decide) (by decide))
theorem gt_73 {G : Gm} {U : Nat → Nat → Nat} {v : Nat → Nat} {H : Heap} (hP : va_P G.1 vwCl (bX G U v) H) : va_at G.1 vwCl (adG U v 73, wd (GG G U v) al0 rh0 73) H := by
  rw [gw_73]
  exact hP 52 _ gl_73
theorem gl_74 {G : Gm} {U : Nat → Nat → Nat} {v : Nat → Nat} : (bX G U v)[53]? = some (U 2 12, .inr (4, [.int 0, .int 0, .int 0, .int 0, .int 0, .int 0, .int 0])) := rfl
theorem gw_74 {G : Gm} {U : Nat → Nat → Nat} {v : Nat → Nat} : wd (GG G U v) al0 rh0 74 = .inr (4, [.int 0, .int 0, .int 0, .int 0, .int 0, .int 0, .int 0]) := (wd_c (by decide)).trans (ent_S (d := 2) (i := 7) (by decide) (by decide))
theorem gt_74 {G : Gm} {U : Nat → Nat → Nat} {v : Nat → Nat} {H : Heap} (hP : va_P G.1 vwCl (bX G U v) H) : va_at G.1 vwCl (adG U v 74, wd (GG G U v) al0 rh0 74) H := by
  rw [gw_74]
  exact hP 53 _ gl_74
theorem gl_75 {G : Gm} {U : Nat → Nat → Nat} {v : Nat → Nat} : (bX G U v)[54]? = some (U 2 13, .inr (4, [.int 0, .int 0, .int 0, .int 0, .int 0, .int 0, .int 0])) := rfl
theorem gw_75 {G : Gm} {U : Nat → Nat → Nat} {v : Nat → Nat} : wd (GG G U v) al0 rh0 75 = .inr (4, [.int 0, .int 0, .int 0, .int 0, .int 0, .int 0, .int 0]) := (wd_c (by decide)).trans (ent_S (d := 2) (i := 8) (by decide) (by decide))
theorem gt_75 {G : Gm} {U : Nat → Nat → Nat} {v : Nat → Nat} {H : Heap} (hP : va_P G.1 vwCl (bX G U v) H) : va_at G.1 vwCl (adG U v 75, wd (GG G U v) al0 rh0 75) H := by
  rw [gw_75]
  exact hP 54 _ gl_75
theorem gl_76 {G : Gm} {U : Nat → Nat → Nat} {v : Nat → Nat} : (bX G U v)[76]? = some (v 0, .inr (7, [.ref (v 1), .ref (v 2), .ref (v 3), .int 0, .ref (v 4), .ref (v 5), .ref (v 6), .ref (v 7), .ref (v 8), .ref (v 9), .ref (v 10), .ref (v 11), .int 0, .int 0, .int 0, .int 0, .int 0, .ref (v 12), .ref (v 13), .int 0, .int 0])) := rfl
theorem gw_76 {G : Gm} {U : Nat → Nat → Nat} {v : Nat → Nat} : wd (GG G U v) al0 rh0 76 = .inr (7, [.ref (v 1), .ref (v 2), .ref (v 3), .int 0, .ref (v 4), .ref (v 5), .ref (v 6), .ref (v 7), .ref (v 8), .ref (v 9), .ref (v 10), .ref (v 11), .int 0, .int 0, .int 0, .int 0, .int 0, .ref (v 12), .ref (v 13), .int 0, .int 0]) := (wd_m (by decide)).trans (ent_M)
theorem gt_76 {G : Gm} {U : Nat → Nat → Nat} {v : Nat → Nat} {H : Heap} (hP : va_P G.1 vwCl (bX G U v) H) : va_at G.1 vwCl (adG U v 76, wd (GG G U v) al0 rh0 76) H := by
  rw [gw_76]
  exact hP 76 _ gl_76
theorem gl_77 {G : Gm} {U : Nat → Nat → Nat} {v : Nat → Nat} : (bX G U v)[77]? = some (v 1, .inl (gC G 0, 398, .inl (upd (upd (fun _ => 0) 1 1) 3 200))) := rfl
theorem gw_77 {G : Gm} {U : Nat → Nat → Nat} {v : Nat → Nat} : wd (GG G U v) al0 rh0 77 = .inl (gC G 0, 398, .inl (upd (upd (fun _ => 0) 1 1) 3 200)) := (wd_m (by decide)).trans ((ent_m (by decide)).trans rfl)
theorem gt_77 {G : Gm} {U : Nat → Nat → Nat} {v : Nat → Nat} {H : Heap} (hP : va_P G.1 vwCl (bX G U v) H) : va_at G.1 vwCl (adG U v 77, wd (GG G U v) al0 rh0 77) H := by
  rw [gw_77]
  exact hP 77 _ gl_77
theorem gl_78 {G : Gm} {U : Nat → Nat → Nat} {v : Nat → Nat} : (bX G U v)[78]? = some (v 2, .inl (gC G 0, 398, .inl (fun _ => 0))) := rfl
theorem gw_78 {G : Gm} {U : Nat → Nat → Nat} {v : Nat → Nat} : wd (GG G U v) al0 rh0 78 = .inl (gC G 0, 398, .inl (fun _ => 0)) := (wd_m (by decide)).trans ((ent_m (by decide)).trans rfl)
theorem gt_78 {G : Gm} {U : Nat → Nat → Nat} {v : Nat → Nat} {H : Heap} (hP : va_P G.1 vwCl (bX G U v) H) : va_at G.1 vwCl (adG U v 78, wd (GG G U v) al0 rh0 78) H := by
  rw [gw_78]
  exact hP 78 _ gl_78
theorem gl_79 {G : Gm} {U : Nat → Nat → Nat} {v : Nat → Nat} : (bX G U v)[79]? = some (v 3, .inl (gC G 0, 398, .inl (fun _ => 0))) := rfl
theorem gw_79 {G : Gm} {U : Nat → Nat → Nat} {v : Nat → Nat} : wd (GG G U v) al0 rh0 79 = .inl (gC G 0, 398, .inl (fun _ => 0)) := (wd_m (by decide)).trans ((ent_m (by decide)).trans rfl)
theorem gt_79 {G : Gm} {U : Nat → Nat → Nat} {v : Nat → Nat} {H : Heap} (hP : va_P G.1 vwCl (bX G U v) H) : va_at G.1 vwCl (adG U v 79, wd (GG G U v) al0 rh0 79) H := by
  rw [gw_79]
  exact hP 79 _ gl_79
theorem gl_80 {G : Gm} {U : Nat → Nat → Nat} {v : Nat → Nat} : (bX G U v)[80]? = some (v 4, .inl (gC G 0, 7, .inl (fun _ => 0))) := rfl
theorem gw_80 {G : Gm} {U : Nat → Nat → Nat} {v : Nat → Nat} : wd (GG G U v) al0 rh0 80 = .inl (gC G 0, 7, .inl (fun _ => 0)) := (wd_m (by decide)).trans ((ent_m (by decide)).trans rfl)
theorem gt_80 {G : Gm} {U : Nat → Nat → Nat} {v : Nat → Nat} {H : Heap} (hP : va_P G.1 vwCl (bX G U v) H) : va_at G.1 vwCl (adG U v 80, wd (GG G U v) al0 rh0 80) H := by
  rw [gw_80]
  exact hP 80 _ gl_80
theorem gl_81 {G : Gm} {U : Nat → Nat → Nat} {v : Nat → Nat} : (bX G U v)[81]? = some (v 5, .inl (gC G 0, 4, .inl (fun _ => 0))) := rfl
theorem gw_81 {G : Gm} {U : Nat → Nat → Nat} {v : Nat → Nat} : wd (GG G U v) al0 rh0 81 = .inl (gC G 0, 4, .inl (fun _ => 0)) := (wd_m (by decide)).trans ((ent_m (by decide)).trans rfl)
theorem gt_81 {G : Gm} {U : Nat → Nat → Nat} {v : Nat → Nat} {H : Heap} (hP : va_P G.1 vwCl (bX G U v) H) : va_at G.1 vwCl (adG U v 81, wd (GG G U v) al0 rh0 81) H := by
  rw [gw_81]
  exact hP 81 _ gl_81
theorem gl_82 {G : Gm} {U : Nat → Nat → Nat} {v : Nat → Nat} : (bX G U v)[82]? = some (v 6, .inl (gC G 0, 4, .inl (fun _ => 0))) := rfl
theorem gw_82 {G : Gm} {U : Nat → Nat → Nat} {v : Nat → Nat} : wd (GG G U v) al0 rh0 82 = .inl (gC G 0, 4, .inl (fun _ => 0)) := (wd_m (by decide)).trans ((ent_m (by decide)).trans rfl)
theorem gt_82 {G : Gm} {U : Nat → Nat → Nat} {v : Nat → Nat} {H : Heap} (hP : va_P G.1 vwCl (bX G U v) H) : va_at G.1 vwCl (adG U v 82, wd (GG G U v) al0 rh0 82) H := by
  rw [gw_82]
  exact hP 82 _ gl_82
theorem gl_83 {G : Gm} {U : Nat → Nat → Nat} {v : Nat → Nat} : (bX G U v)[83]? = some (v 7, .inl (gC G 0, 96, .inl (fun _ => 0))) := rfl
theorem gw_83 {G : Gm} {U : Nat → Nat → Nat} {v : Nat → Nat} : wd (GG G U v) al0 rh0 83 = .inl (gC G 0, 96, .inl (fun _ => 0)) := (wd_m (by decide)).trans ((ent_m (by decide)).trans rfl)
theorem gt_83 {G : Gm} {U : Nat → Nat → Nat} {v : Nat → Nat} {H : Heap} (hP : va_P G.1 vwCl (bX G U v) H) : va_at G.1 vwCl (adG U v 83, wd (GG G U v) al0 rh0 83) H := by
  rw [gw_83]
  exact hP 83 _ gl_83
theorem gl_84 {G : Gm} {U : Nat → Nat → Nat} {v : Nat → Nat} : (bX G U v)[84]? = some (v 8, .inl (gC G 0, 60, .inl (fun _ => 0))) := rfl
theorem gw_84 {G : Gm} {U : Nat → Nat → Nat} {v : Nat → Nat} : wd (GG G U v) al0 rh0 84 = .inl (gC G 0, 60, .inl (fun _ => 0)) := (wd_m (by decide)).trans ((ent_m (by decide)).trans rfl)
theorem gt_84 {G : Gm} {U : Nat → Nat → Nat} {v : Nat → Nat} {H : Heap} (hP : va_P G.1 vwCl (bX G U v) H) : va_at G.1 vwCl (adG U v 84, wd (GG G U v) al0 rh0 84) H := by
  rw [gw_84]
  exact hP 84 _ gl_84
theorem gl_85 {G : Gm} {U : Nat → Nat → Nat} {v : Nat → Nat} : (bX G U v)[85]? = some (v 9, .inl (gC G 0, 60, .inl (fun _ => 0))) := rfl
theorem gw_85 {G : Gm} {U : Nat → Nat → Nat} {v : Nat → Nat} : wd (GG G U v) al0 rh0 85 = .inl (gC G 0, 60, .inl (fun _ => 0)) := (wd_m (by decide)).trans ((ent_m (by decide)).trans rfl)
theorem gt_85 {G : Gm} {U : Nat → Nat → Nat} {v : Nat → Nat} {H : Heap} (hP : va_P G.1 vwCl (bX G U v) H) : va_at G.1 vwCl (adG U v 85, wd (GG G U v) al0 rh0 85) H := by
  rw [gw_85]
  exact hP 85 _ gl_85
theorem gl_86 {G : Gm} {U : Nat → Nat → Nat} {v : Nat → Nat} : (bX G U v)[86]? = some (v 10, .inl (gC G 0, 3, .inl (fun _ => 0))) := rfl
theorem gw_86 {G : Gm} {U : Nat → Nat → Nat} {v : Nat → Nat} : wd (GG G U v) al0 rh0 86 = .inl (gC G 0, 3, .inl (fun _ => 0)) := (wd_m (by decide)).trans ((ent_m (by decide)).trans rfl)
theorem gt_86 {G : Gm} {U : Nat → Nat → Nat} {v : Nat → Nat} {H : Heap} (hP : va_P G.1 vwCl (bX G U v) H) : va_at G.1 vwCl (adG U v 86, wd (GG G U v) al0 rh0 86) H := by
  rw [gw_86]
  exact hP 86 _ gl_86
theorem gl_87 {G : Gm} {U : Nat → Nat → Nat} {v : Nat → Nat} : (bX G U v)[87]? = some (v 11, .inl (gC G 0, 60, .inl (fun _ => 0))) := rfl
theorem gw_87 {G : Gm} {U : Nat → Nat → Nat} {v : Nat → Nat} : wd (GG G U v) al0 rh0 87 = .inl (gC G 0, 60, .inl (fun _ => 0)) := (wd_m (by decide)).trans ((ent_m (by decide)).trans rfl)
theorem gt_87 {G : Gm} {U : Nat → Nat → Nat} {v : Nat → Nat} {H : Heap} (hP : va_P G.1 vwCl (bX G U v) H) : va_at G.1 vwCl (adG U v 87, wd (GG G U v) al0 rh0 87) H := by
  rw [gw_87]
  exact hP 87 _ gl_87
theorem gl_88 {G : Gm} {U : Nat → Nat → Nat} {v : Nat → Nat} : (bX G U v)[88]? = some (v 12, .inl (gC G 0, 9, .inl (fun _ => 0))) := rfl
theorem gw_88 {G : Gm} {U : Nat → Nat → Nat} {v : Nat → Nat} : wd (GG G U v) al0 rh0 88 = .inl (gC G 0, 9, .inl (fun _ => 0)) := (wd_m (by decide)).trans ((ent_m (by decide)).trans rfl)
theorem gt_88 {G : Gm} {U : Nat → Nat → Nat} {v : Nat → Nat} {H : Heap} (hP : va_P G.1 vwCl (bX G U v) H) : va_at G.1 vwCl (adG U v 88, wd (GG G U v) al0 rh0 88) H := by
  rw [gw_88]
  exact hP 88 _ gl_88
theorem gl_89 {G : Gm} {U : Nat → Nat → Nat} {v : Nat → Nat} : (bX G U v)[89]? = some (v 13, .inl (gC G 0, 30, .inl (fun _ => 0))) := rfl
theorem gw_89 {G : Gm} {U : Nat → Nat → Nat} {v : Nat → Nat} : wd (GG G U v) al0 rh0 89 = .inl (gC G 0, 30, .inl (fun _ => 0)) := (wd_m (by decide)).trans ((ent_m (by decide)).trans rfl)
theorem gt_89 {G : Gm} {U : Nat → Nat → Nat} {v : Nat → Nat} {H : Heap} (hP : va_P G.1 vwCl (bX G U v) H) : va_at G.1 vwCl (adG U v 89, wd (GG G U v) al0 rh0 89) H := by
  rw [gw_89]
  exact hP 89 _ gl_89
theorem gg_ad {G : Gm} {U : Nat → Nat → Nat} {v : Nat → Nat} : ∀ i, i < 90 → ∃ e, (bX G U v)[posG i]? = some (adG U v i, e)
  | 0, _ => ⟨_, gl_0⟩
  | 1, _ => ⟨_, gl_1⟩
  | 2, _ => ⟨_, gl_2⟩
  | 3, _ => ⟨_, gl_3⟩
  | 4, _ => ⟨_, gl_4⟩
  | 5, _ => ⟨_, gl_5⟩
  | 6, _ => ⟨_, gl_6⟩
  | 7, _ => ⟨_, gl_7⟩
  | 8, _ => ⟨_, gl_8⟩
  | 9, _ => ⟨_, gl_9⟩
  | 10, _ => ⟨_, gl_10⟩
  | 11, _ => ⟨_, gl_11⟩
  | 12, _ => ⟨_, gl_12⟩
  | 13, _ => ⟨_, gl_13⟩
  | 14, _ => ⟨_, gl_14⟩
  | 15, _ => ⟨_, gl_15⟩
  | 16, _ => ⟨_, gl_16⟩
  | 17, _ => ⟨_, gl_17⟩
  | 18, _ => ⟨_, gl_18⟩
  | 19, _ => ⟨_, gl_19⟩
  | 20, _ => ⟨_, gl_20⟩
  | 21, _ => ⟨_, gl_21⟩
  | 22, _ => ⟨_, gl_22⟩
  | 23, _ => ⟨_, gl_23⟩
  | 24, _ => ⟨_, gl_24⟩
  | 25, _ => ⟨_, gl_25⟩
  | 26, _ => ⟨_, gl_26⟩
  | 27, _ => ⟨_, gl_27⟩
  | 28, _ => ⟨_, gl_28⟩
  | 29, _ => ⟨_, gl_29⟩
  | 30, _ => ⟨_, gl_30⟩
  | 31, _ => ⟨_, gl_31⟩
  | 32, _ => ⟨_, gl_32⟩
  | 33, _ => ⟨_, gl_33⟩
  | 34, _ => ⟨_, gl_34⟩
  | 35, _ => ⟨_, gl_35⟩
  | 36, _ => ⟨_, gl_36⟩
  | 37, _ => ⟨_, gl_37⟩
  | 38, _ => ⟨_, gl_38⟩
  | 39, _ => ⟨_, gl_39⟩
  | 40, _ => ⟨_, gl_40⟩
  | 41, _ => ⟨_, gl_41⟩
  | 42, _ => ⟨_, gl_42⟩
  | 43, _ => ⟨_, gl_43⟩
  | 44, _ => ⟨_, gl_44⟩
  | 45, _ => ⟨_, gl_45⟩
  | 46, _ => ⟨_, gl_46⟩
  | 47, _ => ⟨_, gl_47⟩
  | 48, _ => ⟨_, gl_48⟩
  | 49, _ => ⟨_, gl_49⟩
  | 50, _ => ⟨_, gl_50⟩
  | 51, _ => ⟨_, gl_51⟩
  | 52, _ => ⟨_, gl_52⟩
  | 53, _ => ⟨_, gl_53⟩
  | 54, _ => ⟨_, gl_54⟩
  | 55, _ => ⟨_, gl_55⟩
  | 56, _ => ⟨_, gl_56⟩
  | 57, _ => ⟨_, gl_57⟩
  | 58, _ => ⟨_, gl_58⟩
  | 59, _ => ⟨_, gl_59⟩
  | 60, _ => ⟨_, gl_60⟩
  | 61, _ => ⟨_, gl_61⟩
  | 62, _ => ⟨_, gl_62⟩
  | 63, _ => ⟨_, gl_63⟩
  | 64, _ => ⟨_, gl_64⟩
  | 65, _ => ⟨_, gl_65⟩
  | 66, _ => ⟨_, gl_66⟩
  | 67, _ => ⟨_, gl_67⟩
  | 68, _ => ⟨_, gl_68⟩
  | 69, _ => ⟨_, gl_69⟩
  | 70, _ => ⟨_, gl_70⟩
  | 71, _ => ⟨_, gl_71⟩
  | 72, _ => ⟨_, gl_72⟩
  | 73, _ => ⟨_, gl_73⟩
  | 74, _ => ⟨_, gl_74⟩
  | 75, _ => ⟨_, gl_75⟩
  | 76, _ => ⟨_, gl_76⟩
  | 77, _ => ⟨_, gl_77⟩
  | 78, _ => ⟨_, gl_78⟩
  | 79, _ => ⟨_, gl_79⟩
  | 80, _ => ⟨_, gl_80⟩
  | 81, _ => ⟨_, gl_81⟩
  | 82, _ => ⟨_, gl_82⟩
  | 83, _ => ⟨_, gl_83⟩
  | 84, _ => ⟨_, gl_84⟩
  | 85, _ => ⟨_, gl_85⟩
  | 86, _ => ⟨_, gl_86⟩
  | 87, _ => ⟨_, gl_87⟩
  | 88, _ => ⟨_, gl_88⟩
  | 89, _ => ⟨_, gl_89⟩
  | i + 90, h => absurd h (by omega)
theorem gg_at {G : Gm} {U : Nat → Nat → Nat} {v : Nat → Nat} {H : Heap} (hP : va_P G.1 vwCl (bX G U v) H) : ∀ i, i < 90 → va_at G.1 vwCl (adG U v i, wd (GG G U v) al0 rh0 i) H
  | 0, _ => gt_0 hP
  | 1, _ => gt_1 hP
  | 2, _ => gt_2 hP
  | 3, _ => gt_3 hP
  | 4, _ => gt_4 hP
  | 5, _ => gt_5 hP
  | 6, _ => gt_6 hP
  | 7, _ => gt_7 hP
  | 8, _ => gt_8 hP
  | 9, _ => gt_9 hP
  | 10, _ => gt_10 hP
  | 11, _ => gt_11 hP
  | 12, _ => gt_12 hP
  | 13, _ => gt_13 hP
  | 14, _ => gt_14 hP
  | 15, _ => gt_15 hP
  | 16, _ => gt_16 hP
  | 17, _ => gt_17 hP
  | 18, _ => gt_18 hP
  | 19, _ => gt_19 hP
  | 20, _ => gt_20 hP
  | 21, _ => gt_21 hP
  | 22, _ => gt_22 hP
  | 23, _ => gt_23 hP
  | 24, _ => gt_24 hP
  | 25, _ => gt_25 hP
  | 26, _ => gt_26 hP
  | 27, _ => gt_27 hP
  | 28, _ => gt_28 hP
  | 29, _ => gt_29 hP
  | 30, _ => gt_30 hP
  | 31, _ => gt_31 hP
  | 32, _ => gt_32 hP
  | 33, _ => gt_33 hP
  | 34, _ => gt_34 hP
  | 35, _ => gt_35 hP
  | 36, _ => gt_36 hP
  | 37, _ => gt_37 hP
  | 38, _ => gt_38 hP
  | 39, _ => gt_39 hP
  | 40, _ => gt_40 hP
  | 41, _ => gt_41 hP
  | 42, _ => gt_42 hP
  | 43, _ => gt_43 hP
  | 44, _ => gt_44 hP
  | 45, _ => gt_45 hP
  | 46, _ => gt_46 hP
  | 47, _ => gt_47 hP
  | 48, _ => gt_48 hP
  | 49, _ => gt_49 hP
  | 50, _ => gt_50 hP
  | 51, _ => gt_51 hP
  | 52, _ => gt_52 hP
  | 53, _ => gt_53 hP
  | 54, _ => gt_54 hP
  | 55, _ => gt_55 hP
  | 56, _ => gt_56 hP
  | 57, _ => gt_57 hP
  | 58, _ => gt_58 hP
  | 59, _ => gt_59 hP
  | 60, _ => gt_60 hP
  | 61, _ => gt_61 hP
  | 62, _ => gt_62 hP
  | 63, _ => gt_63 hP
  | 64, _ => gt_64 hP
  | 65, _ => gt_65 hP
  | 66, _ => gt_66 hP
  | 67, _ => gt_67 hP
  | 68, _ => gt_68 hP
  | 69, _ => gt_69 hP
  | 70, _ => gt_70 hP
  | 71, _ => gt_71 hP
  | 72, _ => gt_72 hP
  | 73, _ => gt_73 hP
  | 74, _ => gt_74 hP
  | 75, _ => gt_75 hP
  | 76, _ => gt_76 hP
  | 77, _ => gt_77 hP
  | 78, _ => gt_78 hP
  | 79, _ => gt_79 hP
  | 80, _ => gt_80 hP
  | 81, _ => gt_81 hP
  | 82, _ => gt_82 hP
  | 83, _ => gt_83 hP
  | 84, _ => gt_84 hP
  | 85, _ => gt_85 hP
  | 86, _ => gt_86 hP
  | 87, _ => gt_87 hP
  | 88, _ => gt_88 hP
  | 89, _ => gt_89 hP
  | i + 90, h => absurd h (by omega)
theorem gg_inj {G : Gm} {U : Nat → Nat → Nat} {v : Nat → Nat} {A : Nat → Prop} (hD : va_D A (bX G U v)) : GInj (GG G U v) ∧ ∀ q, AW (GG G U v) q → A q := by
  refine ⟨fun i j hi hj e => ?_, fun q h => ?_⟩
  · obtain ⟨x, hx⟩ := gg_ad (G := G) (U := U) (v := v) i hi
    obtain ⟨y, hy⟩ := gg_ad (G := G) (U := U) (v := v) j hj
    exact posG_inj i hi j hj (hD.1 _ _ _ _ hx hy e)
  · obtain ⟨i, hi, e⟩ := h
    obtain ⟨x, hx⟩ := gg_ad (G := G) (U := U) (v := v) i hi
    have := hD.2 _ _ hx
    have e' : adG U v i = q := e
    rw [e'] at this
    exact this
theorem gg_P {G : Gm} {U : Nat → Nat → Nat} {v : Nat → Nat} {H : Heap} (hP : va_P G.1 vwCl (bX G U v) H) : va_P (GG G U v).1 vwCl (wl (GG G U v) (wd (GG G U v) al0 rh0)) H := by
  intro k q hk
  obtain ⟨h1, rfl⟩ := wl_some hk
  exact gg_at hP k h1
theorem al0_0 {i : Nat} (h : ¬ (i = 1 ∨ i = 2 ∨ i = 3)) : al0 i = fun _ => 0 := if_neg h
theorem R0 : R al0 rh0 := by
  have c0 : Ch 0 := ch_byte (b := 0) (by decide)
  have lz : ∀ e u : Nat, al0 (idL e u) = fun _ => 0 := fun e u => al0_0 (by unfold idL; omega)
  refine ⟨⟨0, ⟨⟨by decide, rfl⟩, ⟨rfl, rfl, rfl, rfl, rfl, rfl, rfl, rfl, rfl⟩, fun u hu => absurd hu (Nat.not_lt_zero u), fun u hu => Or.inl ⟨by rw [lz], ?_⟩, ⟨0, by decide, rfl, fun j hj => absurd hj (Nat.not_lt_zero j)⟩, ⟨0, by decide, rfl, fun j hj => absurd hj (Nat.not_lt_zero j)⟩, ⟨0, by decide, rfl⟩, ⟨0, by decide, rfl⟩⟩, 0, by decide, rfl⟩, ⟨rfl, fun h => absurd rfl h⟩, fun j hj => ?_, fun s hs => ⟨rfl, ?_, 0, by decide, ?_, rfl, fun i hi => absurd hi (Nat.not_lt_zero i)⟩, ⟨0, by decide, rfl, rfl, fun j hj => absurd hj (Nat.not_lt_zero j)⟩, fun e he u hu => ?_, fun e he u hu => ?_, fun j hj => ?_, fun e he j hj => ?_⟩
  · rcases (show u = 0 ∨ u = 1 by omega) with rfl | rfl <;> rfl
  · rw [al0_0 (by decide)]; rfl
  · rw [al0_0 (by unfold idSh; omega)]; rfl
  · rw [al0_0 (by unfold idSh; omega)]; rfl
  · rw [lz]; exact ⟨⟨0, by decide, rfl⟩, Or.inl rfl⟩
  · rw [al0_0 (by unfold idS; omega)]; exact Or.inl rfl
  · rw [al0_0 (by decide)]; exact c0
  · rw [al0_0 (by unfold idTp; omega)]; exact c0
