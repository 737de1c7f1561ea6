/-! # constructors: a world that grows -/
theorem co_objectInit : Cond.code objectInit ⟨#[0xb1]⟩ 1 none ∈ WS := WS_in (tb_1 (List.mem_of_getElem? (i := 24) (by decide +kernel))) rfl
def NK (G : Gm) (U : State) : Prop := va_K G.1 vwCl (tysG G) U ∧ vk_R "BreadSpans$Reader" 29 "rwk" (gX G 2) U ∧ SN U ∧ va_AO "BreadSpans$Span" U ∧ va_AO "BreadSpans$Law" U ∧ va_AO "BreadSpans$Sheet" U
theorem NK.warm {G : Gm} {s U : State} (hW : s.WarmedH U.vm) (h : NK G s) : NK G U := ⟨va_K.moved hW.alike h.1, h.2.1.warm hW, h.2.2.1.warm hW, h.2.2.2.1.moved hW.alike, h.2.2.2.2.1.moved hW.alike, h.2.2.2.2.2.moved hW.alike⟩
theorem NK.calling {G : Gm} {U : State} (g : JFrame) (mk : MethodId) (v : Array Value) (h : NK G U) : NK G (U.calling g mk v) := ⟨va_K.moved (u := U) (U := U.calling g mk v) (Vm.Alike.refl U.vm) h.1, vk_R.same (u := U) (U := U.calling g mk v) rfl h.2.1, SN.same (u := U) (U := U.calling g mk v) rfl h.2.2.1, va_AO.moved (u := U) (U := U.calling g mk v) (Vm.Alike.refl U.vm) h.2.2.2.1, va_AO.moved (u := U) (U := U.calling g mk v) (Vm.Alike.refl U.vm) h.2.2.2.2.1, va_AO.moved (u := U) (U := U.calling g mk v) (Vm.Alike.refl U.vm) h.2.2.2.2.2⟩
abbrev YX (R : Room) (l : Launch) (C : Cx) (Z : State → Prop) (H : Heap) (locs : List Loc) (cells slots : Nat) (g : JFrame) : Prop :=
  W C.1 l C.2.1 R C.2.2.1 C.2.2.2.1 C.2.2.2.2.1 C.2.2.2.2.2.1 C.2.2.2.2.2.2.1 C.2.2.2.2.2.2.2 H locs cells slots Z g
def Y (R : Room) (l : Launch) (G : Gm) (C : Cx) (A : Nat → Prop) (Z : State → Prop) (nL : Nat) (pc : Nat) (ls : List (Option Value)) (st : List Value) (ws : va_W) (cells slots : Nat) : Prop :=
  ∀ (H : Heap) (locs : List Loc) (la : Array Slot), va_P G.1 vwCl ws H → va_D A ws → va_S A C.2.2.1.heap H locs → hasL la ls → la.size = nL → YX R l C Z H locs cells slots (F0 C.2.2.2.1 pc la st)
def OkY (G : Gm) (C : Cx) (A : Nat → Prop) (own : String) (cc : ByteArray) (nL : Nat) : Prop :=
  C.1.tables.exec = Jvm.exec ∧ C.2.2.2.2.2.2.2.code = cc ∧ C.2.2.2.2.2.2.2.maxLocals = nL ∧ C.2.2.1.vm.findClass own = some C.2.2.2.1.cls ∧ (∀ w ∈ WS, w.before C.2.2.2.2.1 C.2.2.1 = true) ∧ NK G C.2.2.1 ∧ (∀ q, C.2.2.1.heap.size ≤ q → A q)
def OkC (C : Cx) : Prop := C.2.2.2.2.2.2.1.sig.returnType = none ∧ C.2.2.2.2.2.2.1.locks = false ∧ C.2.2.2.2.2.2.1.name = "<init>"
/-- the contract of a constructor: of an object of class ci with its fields as they are born it makes the cells blk u, the object's own at ad u -/
def CN (l : Launch) (G : Gm) (y : MethodName) (hd : Cond) (d nc ns ci : Nat) (fs0 : List Value) {S : Type} (ad : S → Nat) (blk : S → va_W) : Prop :=
  ∀ (h0 sz : Nat), Met l y (hd :: WS) ({ frames := d, cells := nc, slots := ns, locals := 32 * d } : Room) (va_Pc [.ref h0] (fun U => U.heap.size = sz ∧ va_P G.1 vwCl [(h0, .inr (ci, fs0))] U.heap ∧ NK G U)) (va_Qv (fun u : S => ad u = h0) (fun u t => va_P G.1 vwCl (blk u) t.heap ∧ va_D (va_A [(h0, .inr (ci, fs0))] sz) (blk u)) (va_A [(h0, .inr (ci, fs0))] sz)) nc ns (va_A [(h0, .inr (ci, fs0))] sz)
theorem CN.of {l : Launch} {G : Gm} {y : MethodName} {cc : ByteArray} {maxL d nc ns ci : Nat} {fs0 : List Value} {S : Type} {ad : S → Nat} {blk : S → va_W} (hy : plainName y.cls = true) (hyn : y.name = "<init>") (hlen : 1 ≤ maxL)
    (h : ∀ (C : Cx) (A : Nat → Prop) (h0 : Nat) (ls : List (Option Value)), ls = some (.ref h0) :: List.replicate (maxL - 1) none → OkY G C A y.cls cc maxL → OkC C → Y ({ frames := d, cells := nc, slots := ns, locals := 32 * d } : Room) l G C A (MQ C.2.2.2.2.2.1 (va_Qv (fun u : S => ad u = h0) (fun u t => va_P G.1 vwCl (blk u) t.heap ∧ va_D A (blk u)) A) C.2.2.2.2.1 C.2.2.1 nc ns A) maxL 0 ls [] [(h0, .inr (ci, fs0))] 0 0) : CN l G y (Cond.code y cc maxL none) d nc ns ci fs0 ad blk := by
  intro h0 sz
  refine Met.ofW (cc := cc) (maxL := maxL) (ret := none) hy rfl ?_
  intro p e s m args below meth c s₁ B hml hv
  obtain ⟨rfl, rfl, hP, hN⟩ := hv
  have hts := atoms_spec (ws := Cond.code y cc maxL none :: WS) B.pre
  have hD : va_D (va_A [(h0, .inr (ci, fs0))] s.heap.size) [(h0, .inr (ci, fs0))] := by
    refine ⟨fun i j p q hi hj _ => ?_, fun k q hk => va_A.in hk⟩
    have h1 : i < 1 := (List.getElem?_eq_some_iff.mp hi).1
    have h2 : j < 1 := (List.getElem?_eq_some_iff.mp hj).1
    omega
  rw [lg_entry_eq]
  have hlen' : (lg_sl ([.ref h0] : List Value)).length ≤ maxL := hlen
  refine h (p, e, s, m, [Value.ref h0].toArray, below, meth, c) _ h0 _ rfl ⟨B.exec, B.bytes, hml, findClass_of_methodNamed B.named, fun w hw => hts w (List.mem_cons_of_mem _ hw), hN, fun q hq => Or.inr hq⟩ ⟨B.returns, B.notSynchronized, (name_of_methodNamed B.named B.method).1.trans hyn⟩ s.heap [] _ hP hD va_S.rf (hasL.entry [.ref h0] _ maxL hlen' (by simp; omega) (fun i v hi => ?_)) (by rw [(lv_entry [.ref h0] hlen').1])
  cases i with
  | zero => cases hi; exact List.mem_cons_self
  | succ i =>
    rw [List.getElem?_cons_succ, List.getElem?_replicate] at hi
    split at hi <;> cases hi
theorem y_join {A : Nat → Prop} {D : va_G} {cl : List vw_C} {ws w1 : va_W} {x : Nat × va_E} {H H1 : Heap} (hP : va_P D cl (ws ++ [x]) H) (hD : va_D A (ws ++ [x])) (hk : ∀ q : Nat, q < H.size → ¬ va_A [x] H.size q → H1[q]? = H[q]?) (hF : ∀ q, va_A [x] H.size q → A q) (hP1 : va_P D cl w1 H1) (hD1 : va_D (va_A [x] H.size) w1) : va_P D cl (ws ++ w1) H1 ∧ va_D A (ws ++ w1) := by
  have get : ∀ {k : Nat} {p : Nat × va_E}, ws[k]? = some p → k < ws.length ∧ (ws ++ [x])[k]? = some p := fun {k p} h => by
    have hl := (List.getElem?_eq_some_iff.mp h).1
    exact ⟨hl, by rw [List.getElem?_append_left hl]; exact h⟩
  have last : (ws ++ [x])[ws.length]? = some x := by simp
  have apart : ∀ (k : Nat) (p : Nat × va_E), ws[k]? = some p → p.1 < H.size ∧ ¬ va_A [x] H.size p.1 := fun k p h => by
    obtain ⟨hl, hg⟩ := get h
    have hlt := (hP k p hg).lt
    refine ⟨hlt, fun q => ?_⟩
    rcases q with ⟨k2, e, q⟩ | q
    · have h2 : k2 < 1 := (List.getElem?_eq_some_iff.mp q).1
      have e0 : k2 = 0 := by omega
      subst e0
      have ex : x = (p.1, e) := Option.some.inj q
      have := hD.1 k ws.length p x hg last (by rw [ex])
      omega
    · omega
  refine ⟨va_P.app (fun k p h => ?_) hP1, va_D.app ⟨fun i j p q hi hj e => hD.1 i j p q (get hi).2 (get hj).2 e, fun k q h => hD.2 k q (get h).2⟩ (hD1.weaken (fun _ q _ h => hF q.1 h)) (fun i j a b ha hb e => ?_)⟩
  · obtain ⟨g1, g2⟩ := apart k p h
    exact (hP k p (get h).2).kept (hk p.1 g1 g2)
  · exact (apart i a ha).2 (by rw [e]; exact hD1.2 j b hb)
section YR
variable {R : Room} {l : Launch} {G : Gm} {C : Cx} {A : Nat → Prop} {Z : State → Prop} {own : String} {cc : ByteArray} {nL pc : Nat} {ls : List (Option Value)} {st : List Value} {ws wr : va_W} {cells slots : Nat}
theorem OkY.w (K : OkY G C A own cc nL) {w : Cond} (h : w ∈ WS) : w.before C.2.2.2.2.1 C.2.2.1 = true := K.2.2.2.2.1 w h
theorem Y.lift {pc2 : Nat} {st2 : List Value} (h : ∀ (H : Heap) (locs : List Loc) (la : Array Slot), la.size = nL → hasL la ls → YX R l C Z H locs cells slots (F0 C.2.2.2.1 pc2 la st2) → YX R l C Z H locs cells slots (F0 C.2.2.2.1 pc la st)) (kk : Y R l G C A Z nL pc2 ls st2 ws cells slots) : Y R l G C A Z nL pc ls st ws cells slots :=
  fun H locs la hP hD hS hL hn => h H locs la hn hL (kk H locs la hP hD hS hL hn)
theorem Y.norm {ws2 : va_W} {c2 s2 : Nat} (h : ws2 = ws) (hc : c2 = cells) (hs : s2 = slots) (kk : Y R l G C A Z nL pc ls st ws cells slots) : Y R l G C A Z nL pc ls st ws2 c2 s2 := by rw [h, hc, hs]; exact kk
theorem y_aload_n (K : OkY G C A own cc nL) {j : Fin 4} {i : Nat} {x : Nat} (hdg : decode cc pc = .ok (.aload_n j, 1)) (hi : (j : Nat) = i) (hl : ls[i]? = some (some (.ref x))) (kk : Y R l G C A Z nL (pc + 1) ls (.ref x :: st) ws cells slots) : Y R l G C A Z nL pc ls st ws cells slots :=
  Y.lift (fun H locs la hn hL w => lv_aload_n K.1 K.2.1 hdg hi (hL.2.2 _ _ hl) w) kk
theorem y_iload_n (K : OkY G C A own cc nL) {j : Fin 4} {i : Nat} {x : Int32} (hdg : decode cc pc = .ok (.iload_n j, 1)) (hi : (j : Nat) = i) (hl : ls[i]? = some (some (.int x))) (kk : Y R l G C A Z nL (pc + 1) ls (.int x :: st) ws cells slots) : Y R l G C A Z nL pc ls st ws cells slots :=
  Y.lift (fun H locs la hn hL w => lv_iload_n K.1 K.2.1 hdg hi (hL.2.2 _ _ hl) w) kk
theorem y_iconst (K : OkY G C A own cc nL) {n : Int} {v : Int32} (hdg : decode cc pc = .ok (.iconst n, 1)) (hv : Int32.ofInt n = v) (kk : Y R l G C A Z nL (pc + 1) ls (.int v :: st) ws cells slots) : Y R l G C A Z nL pc ls st ws cells slots :=
  Y.lift (fun H locs la hn hL w => lv_iconst K.1 K.2.1 hdg hv w) kk
theorem y_bipush (K : OkY G C A own cc nL) {n : Int} {v : Int32} (hdg : decode cc pc = .ok (.bipush n, 2)) (hv : (Int8.ofInt n).toInt32 = v) (kk : Y R l G C A Z nL (pc + 2) ls (.int v :: st) ws cells slots) : Y R l G C A Z nL pc ls st ws cells slots :=
  Y.lift (fun H locs la hn hL w => lv_bipush K.1 K.2.1 hdg hv w) kk
theorem y_sipush (K : OkY G C A own cc nL) {n : Int} {v : Int32} (hdg : decode cc pc = .ok (.sipush n, 3)) (hv : (Int16.ofInt n).toInt32 = v) (kk : Y R l G C A Z nL (pc + 3) ls (.int v :: st) ws cells slots) : Y R l G C A Z nL pc ls st ws cells slots :=
  Y.lift (fun H locs la hn hL w => lv_sipush K.1 K.2.1 hdg hv w) kk
theorem y_goto (K : OkY G C A own cc nL) {off : Int} {tgt : Nat} (hdg : decode cc pc = .ok (.goto off, 3)) (ht : (pc : Int) + off = (tgt : Int)) (kk : Y R l G C A Z nL tgt ls st ws cells slots) : Y R l G C A Z nL pc ls st ws cells slots :=
  Y.lift (fun H locs la hn hL w => lv_goto K.1 K.2.1 hdg ht w) kk
theorem y_ge_t (K : OkY G C A own cc nL) {x y : Int32} {off : Int} {tgt : Nat} (hdg : decode cc pc = .ok (.if_icmp .ge off, 3)) (ht : (pc : Int) + off = (tgt : Int)) (hc : y ≤ x) (kk : Y R l G C A Z nL tgt ls st ws cells slots) : Y R l G C A Z nL pc ls (.int y :: .int x :: st) ws cells slots :=
  Y.lift (fun H locs la hn hL w => lv_icmp_ge K.1 K.2.1 hdg ht (fun _ => w) (fun c => absurd hc c)) kk
theorem y_ge_f (K : OkY G C A own cc nL) {x y : Int32} {off : Int} (hdg : decode cc pc = .ok (.if_icmp .ge off, 3)) {tgt : Nat} (ht : (pc : Int) + off = (tgt : Int)) (hc : ¬ y ≤ x) (kk : Y R l G C A Z nL (pc + 3) ls st ws cells slots) : Y R l G C A Z nL pc ls (.int y :: .int x :: st) ws cells slots :=
  Y.lift (fun H locs la hn hL w => lv_icmp_ge K.1 K.2.1 hdg ht (fun c => absurd c hc) (fun _ => w)) kk
theorem y_gt_t (K : OkY G C A own cc nL) {x y : Int32} {off : Int} {tgt : Nat} (hdg : decode cc pc = .ok (.if_icmp .gt off, 3)) (ht : (pc : Int) + off = (tgt : Int)) (hc : y < x) (kk : Y R l G C A Z nL tgt ls st ws cells slots) : Y R l G C A Z nL pc ls (.int y :: .int x :: st) ws cells slots :=
  Y.lift (fun H locs la hn hL w => lv_icmp_gt K.1 K.2.1 hdg ht (fun _ => w) (fun c => absurd hc c)) kk
theorem y_gt_f (K : OkY G C A own cc nL) {x y : Int32} {off : Int} (hdg : decode cc pc = .ok (.if_icmp .gt off, 3)) {tgt : Nat} (ht : (pc : Int) + off = (tgt : Int)) (hc : ¬ y < x) (kk : Y R l G C A Z nL (pc + 3) ls st ws cells slots) : Y R l G C A Z nL pc ls (.int y :: .int x :: st) ws cells slots :=
  Y.lift (fun H locs la hn hL w => lv_icmp_gt K.1 K.2.1 hdg ht (fun c => absurd c hc) (fun _ => w)) kk
theorem y_istore_n (K : OkY G C A own cc nL) {j : Fin 4} {i : Nat} {x : Int32} (hdg : decode cc pc = .ok (.istore_n j, 1)) (hi : (j : Nat) = i) (ho : okst ls i = true) (hlt : i < nL) (kk : Y R l G C A Z nL (pc + 1) (ls.set i (some (.int x))) st ws cells slots) : Y R l G C A Z nL pc ls (.int x :: st) ws cells slots :=
  fun H locs la hP hD hS hL hn => lv_istore_n K.1 K.2.1 hdg hi hL.to (by rw [← hL.1, hn]; exact hlt) rfl (fun la2 h2 => kk H locs la2 hP hD hS (hasL.set ho h2) (by rw [h2.1, ← hL.1, hn]))
theorem y_astore_n (K : OkY G C A own cc nL) {j : Fin 4} {i : Nat} {x : Nat} (hdg : decode cc pc = .ok (.astore_n j, 1)) (hi : (j : Nat) = i) (ho : okst ls i = true) (hlt : i < nL) (kk : Y R l G C A Z nL (pc + 1) (ls.set i (some (.ref x))) st ws cells slots) : Y R l G C A Z nL pc ls (.ref x :: st) ws cells slots :=
  fun H locs la hP hD hS hL hn => lv_astore_n K.1 K.2.1 hdg hi hL.to (by rw [← hL.1, hn]; exact hlt) rfl (fun la2 h2 => kk H locs la2 hP hD hS (hasL.set ho h2) (by rw [h2.1, ← hL.1, hn]))
theorem y_iinc (K : OkY G C A own cc nL) {i : Nat} {n : Int} {x v : Int32} (hdg : decode cc pc = .ok (.iinc i n, 3)) (hl : ls[i]? = some (some (.int x))) (hv : x + Int32.ofInt n = v) (ho : okst ls i = true) (kk : Y R l G C A Z nL (pc + 3) (ls.set i (some (.int v))) st ws cells slots) : Y R l G C A Z nL pc ls st ws cells slots := by
  intro H locs la hP hD hS hL hn
  obtain ⟨j, hj⟩ := List.getElem?_of_mem (toA_mem.mpr hl)
  have hlt : i < ls.length := by
    rcases Nat.lt_or_ge i ls.length with q | q
    · exact q
    · rw [List.getElem?_eq_none q] at hl; cases hl
  exact lv_iinc K.1 K.2.1 hdg hL.to (k := j) hj hv hlt rfl (fun la2 h2 => kk H locs la2 hP hD hS (hasL.set ho h2) (by rw [h2.1, ← hL.1, hn]))
theorem y_objInit (K : OkY G C A own cc nL) {idx a : Nat} (hlink : Cond.methodLink own idx objectInit ∈ WS) (hdg : decode cc pc = .ok (.invokespecial idx, 3)) (hR : 1 ≤ R.frames ∧ 12 ≤ R.locals) (kk : Y R l G C A Z nL (pc + 3) ls [] ws cells slots) : Y R l G C A Z nL pc ls [.ref a] ws cells slots :=
  Y.lift (fun H locs la hn hL w => W.objInit K.1 K.2.1 K.2.2.2.1 (K.w hlink) (K.w im_objectInit) (K.w co_objectInit) rfl (by show la.size = _; rw [hn]; exact K.2.2.1.symm) rfl hdg hR.1 (by show 2 * 0 + 0 + 12 ≤ _; exact hR.2) w) kk
theorem y_put (K : OkY G C A own cc nL) {a ci N index : Nat} {Cn : String} {T : u_T} {fs fs' : List Value} {v : Value} {ty : FieldType} (ty0 : Nat → FieldType) (hty : ∀ j, j < N → parseFieldDescriptor (T j).2.2.1 = some (ty0 j)) (hnm : ∀ a, a < N → ∀ b, b < N → a ≠ b → (T a).2.1 ≠ (T b).2.1) (hc : vwCl[ci]? = some (Cn, T, N)) (hin : ∀ w ∈ u_ws Cn T N, w ∈ WS) (j : Nat) (hj : j < N) (hlink : Cond.fieldLink own index (T j).1 (T j).2.1 (T j).2.2.1 ∈ WS) (hfin : (T j).2.2.2 = false) (hd : parseFieldDescriptor (T j).2.2.1 = some ty) (hn1 : narrow ty v = v) (hfit : fits ty v = true) (hl : j < fs.length) (hfs : fs.set j v = fs') (hdg : decode cc pc = .ok (.putfield index, 3)) (kk : Y R l G C A Z nL (pc + 3) ls st ((a, .inr (ci, fs')) :: wr) cells slots) : Y R l G C A Z nL pc ls (v :: .ref a :: st) ((a, .inr (ci, fs)) :: wr) cells slots := by
  subst hfs
  intro H locs la hP hD hS hL hn
  exact va_put K.1 K.2.1 K.2.2.2.2.1 hin ty0 hty hnm K.2.2.2.1 K.2.2.2.2.2.1.1 hP hD hS 0 rfl hc j hj (K.w hlink) (fun _ h => h) hfin hd hn1 hfit hl hdg (fun H1 locs1 hP1 hD1 hS1 => kk H1 locs1 la hP1 hD1 hS1 hL hn)
theorem y_putF (K : OkY G C A own cc nL) (hO : OkC C) {a ci N index : Nat} {Cn : String} {T : u_T} {fs fs' : List Value} {v : Value} {ty : FieldType} (ty0 : Nat → FieldType) (hty : ∀ j, j < N → parseFieldDescriptor (T j).2.2.1 = some (ty0 j)) (hnm : ∀ a, a < N → ∀ b, b < N → a ≠ b → (T a).2.1 ≠ (T b).2.1) (hc : vwCl[ci]? = some (Cn, T, N)) (hin : ∀ w ∈ u_ws Cn T N, w ∈ WS) (j : Nat) (hj : j < N) (hlink : Cond.fieldLink own index (T j).1 (T j).2.1 (T j).2.2.1 ∈ WS) (hfin : (T j).2.2.2 = true) (hdecl : (T j).1 = own) (hd : parseFieldDescriptor (T j).2.2.1 = some ty) (hn1 : narrow ty v = v) (hfit : fits ty v = true) (hl : j < fs.length) (hfs : fs.set j v = fs') (hdg : decode cc pc = .ok (.putfield index, 3)) (kk : Y R l G C A Z nL (pc + 3) ls st ((a, .inr (ci, fs')) :: wr) cells slots) : Y R l G C A Z nL pc ls (v :: .ref a :: st) ((a, .inr (ci, fs)) :: wr) cells slots := by
  subst hfs
  intro H locs la hP hD hS hL hn
  exact va_putF K.1 K.2.1 K.2.2.2.2.1 hin ty0 hty hnm K.2.2.2.1 K.2.2.2.2.2.1.1 hP hD hS 0 rfl hc j hj (K.w hlink) (fun _ h => h) hfin hO.2.2 hdecl hd hn1 hfit hl hdg (fun H1 locs1 hP1 hD1 hS1 => kk H1 locs1 la hP1 hD1 hS1 hL hn)
theorem y_get (K : OkY G C A own cc nL) {a ci N index : Nat} {Cn : String} {T : u_T} {fs : List Value} {v : Value} (hc : vwCl[ci]? = some (Cn, T, N)) (hin : ∀ w ∈ u_ws Cn T N, w ∈ WS) (j : Nat) (hj : j < N) (hlink : Cond.fieldLink own index (T j).1 (T j).2.1 (T j).2.2.1 ∈ WS) (hv : fs[j]? = some v) (hdg : decode cc pc = .ok (.getfield index, 3)) (kk : Y R l G C A Z nL (pc + 3) ls (v :: st) ((a, .inr (ci, fs)) :: wr) cells slots) : Y R l G C A Z nL pc ls (.ref a :: st) ((a, .inr (ci, fs)) :: wr) cells slots :=
  fun H locs la hP hD hS hL hn => va_get K.1 K.2.1 K.2.2.2.2.1 hin K.2.2.2.1 K.2.2.2.2.2.1.1 hP 0 rfl hc j hj (K.w hlink) (fun _ h => h) hv hdg (kk H locs la hP hD hS hL hn)
theorem y_ldcS (K : OkY G C A "BreadSpans$Reader" cc nL) (hdg : decode cc pc = .ok (.ldc 29, 2)) (kk : Y R l G C A Z nL (pc + 2) ls (.ref (gX G 2) :: st) ws cells slots) : Y R l G C A Z nL pc ls st ws cells slots :=
  Y.lift (fun H locs la hn hL w => va_ldcS K.1 K.2.1 K.2.2.2.1 K.2.2.2.2.2.1.2.1 hdg w) kk
theorem y_newI (K : OkY G C A own cc nL) {n : Int32} {N : Nat} (hn : ¬ n < 0) (hN : n.toNatClampNeg = N) (hby : N * 4 ≤ 536870912) (hcells : cells + 1 ≤ R.cells) (hslots : slots + N ≤ R.slots) (hdg : decode cc pc = .ok (.newarray .int, 2)) (kk : ∀ q : Nat, Y R l G C A Z nL (pc + 2) ls (.ref q :: st) (ws ++ [(q, .inl (gC G 0, N, .inl (fun _ => 0)))]) (cells + 1) (slots + N)) : Y R l G C A Z nL pc ls (.int n :: st) ws cells slots := by
  intro H locs la hP hD hS hL hsz
  refine va_newa (atype := .int) (ty := .int) (a0 := (N, .inl (fun _ => 0))) K.1 K.2.1 (K.w ac_int) rfl K.2.2.2.2.2.1.1 hP hD hS K.2.2.2.2.2.2 (fun _ => rfl) hn hN hby hcells hslots hdg (fun q cA H1 hK1 hP1 hD1 hS1 => ?_)
  have e1 : C.2.2.1.vm.findClass "[I" = some cA := (hK1.2 5 (cA, .int) rfl).2
  have e2 : C.2.2.1.vm.findClass "[I" = some (gC G 0) := (K.2.2.2.2.2.1.1.2 0 (gC G 0, .int) rfl).2
  have e3 : cA = gC G 0 := Option.some.inj (e1.symm.trans e2)
  subst e3
  exact kk q H1 locs la hP1 hD1 hS1 hL hsz
theorem y_newC (K : OkY G C A own cc nL) {n : Int32} {N : Nat} (hn : ¬ n < 0) (hN : n.toNatClampNeg = N) (hby : N * 2 ≤ 536870912) (hcells : cells + 1 ≤ R.cells) (hslots : slots + N ≤ R.slots) (hdg : decode cc pc = .ok (.newarray .char, 2)) (kk : ∀ q : Nat, Y R l G C A Z nL (pc + 2) ls (.ref q :: st) (ws ++ [(q, .inl (gC G 1, N, .inl (fun _ => 0)))]) (cells + 1) (slots + N)) : Y R l G C A Z nL pc ls (.int n :: st) ws cells slots := by
  intro H locs la hP hD hS hL hsz
  refine va_newa (atype := .char) (ty := .char) (a0 := (N, .inl (fun _ => 0))) K.1 K.2.1 (K.w ac_char) rfl K.2.2.2.2.2.1.1 hP hD hS K.2.2.2.2.2.2 (fun _ => rfl) hn hN hby hcells hslots hdg (fun q cA H1 hK1 hP1 hD1 hS1 => ?_)
  have e1 : C.2.2.1.vm.findClass "[C" = some cA := (hK1.2 5 (cA, .char) rfl).2
  have e2 : C.2.2.1.vm.findClass "[C" = some (gC G 1) := (K.2.2.2.2.2.1.1.2 1 (gC G 1, .char) rfl).2
  have e3 : cA = gC G 1 := Option.some.inj (e1.symm.trans e2)
  subst e3
  exact kk q H1 locs la hP1 hD1 hS1 hL hsz
theorem y_newq (K : OkY G C A own cc nL) {n : Int32} {N t index : Nat} {Cn : String} (ht : (tysG G)[t]? = some (gC G t, .object Cn)) (hcl : Cond.classLink own index Cn ∈ WS) (hao : va_AO Cn C.2.2.1) (hn : ¬ n < 0) (hN : n.toNatClampNeg = N) (hby : N * 4 ≤ 536870912) (hcells : cells + 1 ≤ R.cells) (hslots : slots + N ≤ R.slots) (hdg : decode cc pc = .ok (.anewarray index, 3)) (kk : ∀ q : Nat, Y R l G C A Z nL (pc + 3) ls (.ref q :: st) (ws ++ [(q, .inl (gC G t, N, .inr (.inr (.inr (.inr (fun _ => none))))))]) (cells + 1) (slots + N)) : Y R l G C A Z nL pc ls (.int n :: st) ws cells slots := by
  intro H locs la hP hD hS hL hsz
  refine va_newq (C := Cn) K.1 K.2.1 K.2.2.2.1 (K.w hcl) hao K.2.2.2.2.2.1.1 hP hD hS K.2.2.2.2.2.2 hn hN hby hcells hslots hdg (fun q cA H1 hK1 hP1 hD1 hS1 => ?_)
  obtain ⟨_, _, -, -, -, e1⟩ := (hK1.2 5 (cA, .object Cn) rfl).2
  obtain ⟨_, _, -, -, -, e2⟩ := (K.2.2.2.2.2.1.1.2 t _ ht).2
  have e3 : cA = gC G t := Option.some.inj (e1.symm.trans e2)
  subst e3
  exact kk q H1 locs la hP1 hD1 hS1 hL hsz
theorem y_astq (K : OkY G C A own cc nL) {i : Int32} {a v N t ci : Nat} {r : vw_C} {vs : List Value} {f : Nat → Option Nat} (q0 qk : Nat) (ha : ws[q0]? = some (a, .inl (gC G t, N, .inr (.inr (.inr (.inr f)))))) (ht : (tysG G)[t]? = some (gC G t, .object r.1)) (hv : ws[qk]? = some (v, .inr (ci, vs))) (hc : vwCl[ci]? = some r) (hin : vp_in i N) {k : Nat} (hk : i.toNatClampNeg = k) (hdg : decode cc pc = .ok (.aastore, 1)) {ws2 : va_W} (hw : ws.set q0 (a, .inl (gC G t, N, .inr (.inr (.inr (.inr (va_up f k (some v))))))) = ws2) (kk : Y R l G C A Z nL (pc + 1) ls st ws2 cells slots) : Y R l G C A Z nL pc ls (.ref v :: .int i :: .ref a :: st) ws cells slots := by
  subst hw
  subst hk
  exact fun H locs la hP hD hS hL hn => va_astq K.1 K.2.1 K.2.2.2.2.2.1.1 hP hD hS q0 t qk ci ha ht hv hc hin hdg (fun H1 locs1 hP1 hD1 hS1 => kk H1 locs1 la hP1 hD1 hS1 hL hn)
theorem y_iast (K : OkY G C A own cc nL) {i x : Int32} {a N : Nat} {f : Nat → Int32} (q0 : Nat) (ha : ws[q0]? = some (a, .inl (gC G 0, N, .inl f))) (hin : vp_in i N) {k : Nat} (hk : i.toNatClampNeg = k) (hdg : decode cc pc = .ok (.iastore, 1)) {ws2 : va_W} (hw : ws.set q0 (a, .inl (gC G 0, N, .inl (upd f k x))) = ws2) (kk : Y R l G C A Z nL (pc + 1) ls st ws2 cells slots) : Y R l G C A Z nL pc ls (.int x :: .int i :: .ref a :: st) ws cells slots := by
  subst hw
  subst hk
  exact fun H locs la hP hD hS hL hn => va_iast K.1 K.2.1 K.2.2.2.2.2.1.1 hP hD hS q0 0 ha rfl hin hdg (fun H1 locs1 hP1 hD1 hS1 => kk H1 locs1 la hP1 hD1 hS1 hL hn)
/-- what goes on behind 'new' and 'dup' -/
def CallsI (R : Room) (l : Launch) (G : Gm) (C : Cx) (nL pc4 : Nat) (st : List Value) (c1 s1 nc ns ci idx2 : Nat) (cc : ByteArray) (fs0 : List Value) {S : Type} (ad : S → Nat) (blk : S → va_W) : Prop :=
  ∀ (q : Nat) (H : Heap) (locs : List Loc) (la : Array Slot), la.size = nL → PreS C.2.2.1 H (va_Pc [.ref q] (fun U => U.heap.size = H.size ∧ va_P G.1 vwCl [(q, .inr (ci, fs0))] U.heap ∧ NK G U)) [.ref q] → c1 + nc ≤ R.cells ∧ s1 + ns ≤ R.slots → decode cc pc4 = .ok (.invokespecial idx2, 3) → va_Run C.1 l C.2.1 R C.2.2.1 C.2.2.2.1 C.2.2.2.2.1 C.2.2.2.2.2.1 C.2.2.2.2.2.2.1 C.2.2.2.2.2.2.2 H locs c1 s1 nc ns (F0 C.2.2.2.1 pc4 la (.ref q :: .ref q :: st)) (.ref q :: st) (va_Qv (fun u : S => ad u = q) (fun u t => va_P G.1 vwCl (blk u) t.heap ∧ va_D (va_A [(q, .inr (ci, fs0))] H.size) (blk u)) (va_A [(q, .inr (ci, fs0))] H.size) #[.ref q]) (va_A [(q, .inr (ci, fs0))] H.size)
/-- 'new', 'dup', the constructor's call -/
theorem y_makeO (K : OkY G C A own cc nL) {ci N idx idx2 nc ns : Nat} {Cn : String} {T : u_T} {fs0 : List Value} {S : Type} {ad : S → Nat} {blk : S → va_W} (ty : Nat → FieldType) (hty : ∀ k, k < N → parseFieldDescriptor (T k).2.2.1 = some (ty k)) (hin : ∀ w ∈ u_ws Cn T N, w ∈ WS) (hcl : Cond.classLink own idx Cn ∈ WS) (hinst : Cond.instantiable Cn N ∈ WS) (hini : Cond.initialized Cn ∈ WS) (hc : vwCl[ci]? = some (Cn, T, N)) (hfs : ∀ j, j < N → defaultValue (ty j) = vp_V fs0 j)
    (hcall : CallsI R l G C nL (pc + 4) st (cells + 1) (slots + N) nc ns ci idx2 cc fs0 ad blk)
    (hcells : cells + 1 + nc ≤ R.cells ∧ slots + N + ns ≤ R.slots) (hd1 : decode cc pc = .ok (.new idx, 3)) (hd2 : decode cc (pc + 3) = .ok (.dup, 1)) (hd3 : decode cc (pc + 4) = .ok (.invokespecial idx2, 3))
    (kk : ∀ u : S, Y R l G C A Z nL (pc + 7) ls (.ref (ad u) :: st) (ws ++ blk u) (cells + 1 + nc) (slots + N + ns)) : Y R l G C A Z nL pc ls st ws cells slots := by
  intro H locs la hP hD hS hL hsz
  refine va_new K.1 K.2.1 K.2.2.2.2.1 hin ty hty K.2.2.2.1 (K.w hcl) (K.w hinst) (K.w hini) K.2.2.2.2.2.1.1 hP hD hS K.2.2.2.2.2.2 hc hfs (by omega) (by omega) hd1 (fun q H1 hP1 hD1 hS1 => ?_)
  refine lv_dup K.1 K.2.1 hd2 rfl ?_
  have hPq : va_P G.1 vwCl [(q, .inr (ci, fs0))] H1 := fun k x hk => by
    have h1 : k < 1 := (List.getElem?_eq_some_iff.mp hk).1
    have e0 : k = 0 := by omega
    subst e0
    exact hP1 ws.length x (by rw [List.getElem?_append_right (Nat.le_refl _), Nat.sub_self]; exact hk)
  have hF : ∀ z, va_A [(q, .inr (ci, fs0))] H1.size z → A z := fun z hz => by
    rcases hz with ⟨k, e, hk⟩ | hz
    · have h1 : k < 1 := (List.getElem?_eq_some_iff.mp hk).1
      have e0 : k = 0 := by omega
      subst e0
      exact hD1.2 ws.length (z, e) (by rw [List.getElem?_append_right (Nat.le_refl _), Nat.sub_self]; exact hk)
    · exact K.2.2.2.2.2.2 z (Nat.le_trans hS1.1 hz)
  refine va_callv (hcall q H1 locs la hsz ⟨?_, fun U hU hW => ⟨rfl, by rw [hU], by rw [hU]; exact hPq, K.2.2.2.2.2.1.warm hW⟩⟩ hcells hd3) hS1 (fun z _ h => hF z h) hF (fun u t H2 locs2 ht hvm hw hB hz hk hS2 => ?_)
  · intro a U g mk h
    obtain ⟨h1, h2, h3, h4⟩ := h
    exact ⟨h1, h2, h3, h4.calling g mk a⟩
  · obtain ⟨hP2, hD2⟩ := hB
    rw [ht] at hP2
    obtain ⟨hP3, hD3⟩ := y_join hP1 hD1 hk hF hP2 hD2
    have e : ad u = q := hw
    have k3 := kk u H2 locs2 la hP3 hD3 hS2 hL hsz
    rw [e] at k3
    exact k3
theorem y_callN (K : OkY G C A own cc nL) {y : MethodName} {bytes : ByteArray} {ci idx2 maxL d nc ns c1 s1 pc4 : Nat} {fs0 : List Value} {S : Type} {ad : S → Nat} {blk : S → va_W} (hcn : CN l G y (Cond.code y bytes maxL none) d nc ns ci fs0 ad blk) (hm : MW y bytes maxL none 0) (him : Cond.instanceMethod y ∈ WS) (hyn : y.name = "<init>") (hl : (own, idx2, y) ∈ nestM) (hd : d + 1 ≤ R.frames ∧ 8 + (maxL + 11) + 32 * d ≤ R.locals) (hst : (st.map fun v => v.category).sum + 1 ≤ 8) : CallsI R l G C nL pc4 st c1 s1 nc ns ci idx2 cc fs0 ad blk := by
  intro q H locs la hsz hpre hroom hdg
  refine va_runIN (host := "BreadSpans") (As := []) (rest := .ref q :: st) (Ts := WS) (own := own) (y := y) (bytes := bytes) (maxL := maxL) (n := 0) (index := idx2) ⟨K.1, K.2.1, K.2.2.1, K.2.2.2.1, K.2.2.2.2.1⟩ (hcn q H.size) ⟨⟨⟨rfl, rfl, hd.1, hd.2, pay_in K.2.2.2.2.1 (fun w hw => ?_), List.mem_cons_self⟩, K.w hm.1, K.w hm.2.1, hm.2.2.1, fun sig h => ?_, va_Nw.use rfl (K.2.2.2.2.2.1.2.2.1.1 _ hl)⟩, hyn, K.w him⟩ hpre rfl rfl hsz rfl (lv_room (by show 1 + (st.map fun v => v.category).sum ≤ 8; omega)) hdg hroom
  · rcases List.mem_cons.mp hw with h | h
    · rw [h]; exact WS_good _ hm.1
    · exact WS_good _ h
  · have h2 := hm.2.2.2
    rw [h] at h2
    exact (Option.some.inj h2).symm
theorem y_callP (K : OkY G C A own cc nL) {y : MethodName} {bytes : ByteArray} {ci idx2 maxL d nc ns c1 s1 pc4 : Nat} {fs0 : List Value} {S : Type} {ad : S → Nat} {blk : S → va_W} (hcn : CN l G y (Cond.code y bytes maxL none) d nc ns ci fs0 ad blk) (hm : MW y bytes maxL none 0) (him : Cond.instanceMethod y ∈ WS) (hyn : y.name = "<init>") (hl : Cond.methodLink own idx2 y ∈ WS) (hd : d + 1 ≤ R.frames ∧ 8 + (maxL + 11) + 32 * d ≤ R.locals) (hst : (st.map fun v => v.category).sum + 1 ≤ 8) : CallsI R l G C nL pc4 st c1 s1 nc ns ci idx2 cc fs0 ad blk := by
  intro q H locs la hsz hpre hroom hdg
  refine va_runI (As := []) (rest := .ref q :: st) (Ts := WS) (own := own) (y := y) (bytes := bytes) (maxL := maxL) (n := 0) (index := idx2) ⟨K.1, K.2.1, K.2.2.1, K.2.2.2.1, K.2.2.2.2.1⟩ (hcn q H.size) ⟨⟨rfl, rfl, hd.1, hd.2, pay_in K.2.2.2.2.1 (fun w hw => ?_), List.mem_cons_self, K.w hm.1, K.w hm.2.1, hm.2.2.1, fun sig h => ?_, K.w hl⟩, hyn, K.w him⟩ hpre rfl rfl hsz rfl (lv_room (by show 1 + (st.map fun v => v.category).sum ≤ 8; omega)) hdg hroom
  · rcases List.mem_cons.mp hw with h | h
    · rw [h]; exact WS_good _ hm.1
    · exact WS_good _ h
  · have h2 := hm.2.2.2
    rw [h] at h2
    exact (Option.some.inj h2).symm
theorem y_vret (K : OkY G C A own cc nL) (hO : OkC C) {S : Type} {ad : S → Nat} {blk : S → va_W} {h0 : Nat} (u : S) (hu : ad u = h0) (hw : ws = blk u) (hdg : decode cc pc = .ok (.return_, 1)) : Y R l G C A (MQ C.2.2.2.2.2.1 (va_Qv (fun u : S => ad u = h0) (fun u t => va_P G.1 vwCl (blk u) t.heap ∧ va_D A (blk u)) A) C.2.2.2.2.1 C.2.2.1 cells slots A) nL pc ls [] ws cells slots := by
  subst hw
  exact fun H locs la hP hD hS hL hn => W.vret K.1 K.2.1 hO.1 (fun t ht hW => ⟨⟨u, rfl, hu, by rw [ht]; exact hP, hD⟩, hS.F ht⟩) hS.2.2 hdg hO.2.1
end YR
