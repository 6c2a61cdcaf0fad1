/-! The pure heap: g = (size, tag of a cell, length of an array, references), f = ints. -/
abbrev zG : Type := Nat × (Nat → Nat) × (Nat → Nat) × (Nat → Nat → Option Nat)
abbrev zI : Type := Nat → Nat → Int32
abbrev zD : Type := va_G × ((Nat → ClassId) × (Nat × Nat × (Nat → Int32)))
/-- the script: where it lies, its length, what it holds -/
abbrev zsB (D : zD) : Nat := D.2.2.1
abbrev zsN (D : zD) : Nat := D.2.2.2.1
abbrev zsX (D : zD) : Nat → Int32 := D.2.2.2.2
def zet : List Nat := [99, 1, 2, 0, 8, 7]
def zty (t k : Nat) : Nat := if t < 13 then (zkt.getD t []).getD k 99 else zet.getD (t - 13) 99
def znf (t : Nat) : Nat := (zkt.getD t []).length
def zval (t : Nat) (R : Nat → Option Nat) (f : Nat → Int32) (k : Nat) : Value := if zty t k = 99 then .int (f k) else va_rf (R k)
def zfs (t : Nat) (R : Nat → Option Nat) (f : Nat → Int32) : List Value := (List.range (znf t)).map (zval t R f)
def zE (D : zD) (g : zG) (f : zI) (a : Nat) : va_E :=
  if g.2.1 a < 13 then .inr (g.2.1 a, zfs (g.2.1 a) (g.2.2.2 a) (f a))
  else if g.2.1 a = 13 then .inl (D.2.1 0, g.2.2.1 a, .inl (f a))
  else .inl (D.2.1 (g.2.1 a - 13), g.2.2.1 a, .inr (.inr (.inr (.inr (g.2.2.2 a)))))
def ztys (D : zD) : List (ClassId × FieldType) := [(D.2.1 0, .int), (D.2.1 1, .object RX1), (D.2.1 2, .object RX2), (D.2.1 3, .object RX0), (D.2.1 4, .object RX8), (D.2.1 5, .object RX7)]
def zK (D : zD) (b0 : Nat) (s : State) : Prop := va_K D.1 vwCl (ztys D) s ∧ (∀ w ∈ zNest, va_Nw w s) ∧ (∀ q ∈ zOver, va_AO q s) ∧ va_X (zsB D) (zsN D) (zsX D) s s.heap ∧ zsB D < b0 ∧ zsN D ≤ 260
def zR (D : zD) (b0 : Nat) (g : zG) (f : zI) (H : Heap) : Prop := b0 ≤ H.size ∧ H.size = g.1 ∧ ∀ a, b0 ≤ a → a < g.1 → va_at D.1 vwCl (a, zE D g f a) H
def zCtx (mi : zMI) (p : Program) (s : State) (m : MethodId) (args : Array Value) (meth : Method) (c : Code) : Prop :=
  p.tables.exec = Jvm.exec ∧ c.code = mi.2.1 ∧ meth.sig.returnType = mi.2.2.2 ∧ c.maxLocals = mi.2.2.1 ∧ s.vm.findClass mi.1.cls = some m.cls ∧ (∀ w ∈ zTbl, w.before args s = true) ∧ meth.locks = false ∧ meth.name = mi.1.name
def zL (ls : Array Slot) (L : List (Option Value)) : Prop := ls.size = L.length ∧ lv_wf ls ∧ ∀ (i : Nat) (v : Value), L[i]? = some (some v) → ls[i]? = some (.val v) ∧ v.category = 1
def zRm (d mc ms : Nat) (R : Room) : Prop := d ≤ R.frames ∧ 31 * d ≤ R.locals ∧ mc ≤ R.cells ∧ ms ≤ R.slots
def zF (b0 : Nat) (H0 H : Heap) (locs : List Loc) : Prop := (∀ q, q < b0 → H[q]? = H0[q]?) ∧ ∀ q ∈ locs, b0 ≤ q.base
abbrev zKT : Type := List Frame → Array Value → State → State → Prop
def zT (l : Launch) (d : Nat) (D : zD) (b0 : Nat) (mi : zMI) (cs ns pc : Nat) (L : List (Option Value)) (st : List Value) (g : zG) (f : zI) (mc ms : Nat) (K : zKT) : Prop :=
  cs ≤ mc ∧ ns ≤ ms ∧ ∀ (p : Program) (e : Env) (R : Room) (s : State) (m : MethodId) (args : Array Value) (below : List Frame) (meth : Method) (c : Code) (H : Heap) (locs : List Loc) (ls : Array Slot),
    zCtx mi p s m args meth c → zK D b0 s → zRm d mc ms R → zL ls L → zR D b0 g f H → zF b0 s.heap H locs →
    W p l e R s m args below meth c H locs cs ns (K below args s) (F0 m pc ls st)
def zS (l : Launch) (d : Nat) (D : zD) (b0 : Nat) (mi : zMI) (cs ns pc : Nat) (L : List (Option Value)) (st : List Value) (g : zG) (f : zI) (Q : Nat → Nat → zKT → Prop) : Prop :=
  ∃ mc ms K, Q mc ms K ∧ zT l d D b0 mi cs ns pc L st g f mc ms K
/-- a method's end: what it answers, the heap then -/
def zQc (D : zD) (b0 : Nat) (r : Option Value) (g : zG) (f : zI) : Array Value → State → Outcome → State → Prop := fun _ st o t =>
  o = .returned r ∧ zR D b0 g f t.heap ∧ ∀ q, q < b0 → t.heap[q]? = st.heap[q]?
def zKM (D : zD) (b0 : Nat) (r : Option Value) (g : zG) (f : zI) (mc ms : Nat) : zKT := fun below args s => MQ below (zQc D b0 r g f) args s mc ms (fun q => b0 ≤ q)
abbrev zP : Type := Option Value → zG → zI → Nat → Nat → Prop
def zq (D : zD) (b0 : Nat) (Q : zP) : Nat → Nat → zKT → Prop := fun mc ms K => ∃ r g f, Q r g f mc ms ∧ K = zKM D b0 r g f mc ms
def zPc (D : zD) (b0 : Nat) (av : List Value) (g : zG) (f : zI) : Array Value → State → Prop := fun v U => v = av.toArray ∧ zR D b0 g f U.heap ∧ zK D b0 U
def zws (mi : zMI) : List Cond := .code mi.1 mi.2.1 mi.2.2.1 mi.2.2.2 :: zTbl
def zrm (d mc ms : Nat) : Room := { frames := d, cells := mc, slots := ms, locals := 31 * d }
def zMet (l : Launch) (d : Nat) (D : zD) (b0 : Nat) (mi : zMI) (av : List Value) (g : zG) (f : zI) (r : Option Value) (g' : zG) (f' : zI) (mc ms : Nat) : Prop :=
  Met l mi.1 (zws mi) (zrm d mc ms) (zPc D b0 av g f) (zQc D b0 r g' f') mc ms (fun q => b0 ≤ q)
/-- the method, called with these arguments over this heap, ends, and what Q says holds then -/
def zM (l : Launch) (d : Nat) (D : zD) (b0 : Nat) (mi : zMI) (av : List Value) (g : zG) (f : zI) (Q : zP) : Prop :=
  ∃ r g' f' mc ms, Q r g' f' mc ms ∧ zMet l d D b0 mi av g f r g' f' mc ms
theorem zM.mono {l : Launch} {d : Nat} {D : zD} {b0 : Nat} {mi : zMI} {av : List Value} {g : zG} {f : zI} {Q Q' : zP} (h : zM l d D b0 mi av g f Q) (k : ∀ r g' f' mc ms, Q r g' f' mc ms → Q' r g' f' mc ms) : zM l d D b0 mi av g f Q' := by
  obtain ⟨r, g', f', mc, ms, hQ, hM⟩ := h
  exact ⟨r, g', f', mc, ms, k _ _ _ _ _ hQ, hM⟩
theorem zS.mono {l : Launch} {d : Nat} {D : zD} {b0 : Nat} {mi : zMI} {cs ns pc : Nat} {L : List (Option Value)} {st : List Value} {g : zG} {f : zI} {Q Q' : Nat → Nat → zKT → Prop} (h : zS l d D b0 mi cs ns pc L st g f Q) (k : ∀ mc ms K, Q mc ms K → Q' mc ms K) : zS l d D b0 mi cs ns pc L st g f Q' := by
  obtain ⟨mc, ms, K, hQ, hT⟩ := h
  exact ⟨mc, ms, K, k _ _ _ hQ, hT⟩
/-- the members of the tables that a method's callees want -/
theorem zgood : ∀ w ∈ zTbl, (w.onTables && w.keeps) = true ∨ ∃ ty, w = .arrayClass ty := fun w h => good_of_word (List.mem_filter.mp h).2
theorem zgoodIn {mi : zMI} (hc : Cond.code mi.1 mi.2.1 mi.2.2.1 mi.2.2.2 ∈ zTbl) : GoodIn zTbl (zws mi) := by
  intro w hw
  rcases List.mem_cons.mp hw with rfl | h
  · exact ⟨hc, zgood _ hc⟩
  · exact ⟨h, zgood _ h⟩
theorem zNest_on : ∀ w ∈ zNest, w.onTables = true := by decide +kernel
theorem zK.same {D : zD} {b0 : Nat} {u U : State} (h : u.vm = U.vm) (hh : U.heap[zsB D]? = u.heap[zsB D]?) (k : zK D b0 u) : zK D b0 U := by
  refine ⟨va_K.moved (by rw [h]; exact Vm.Alike.refl U.vm) k.1, fun w hw => va_Nw.same (zNest_on w hw) h (k.2.1 w hw), fun q hq => va_AO.moved (by rw [h]; exact Vm.Alike.refl U.vm) (k.2.2.1 q hq), va_X.kept (va_X.moved (by rw [h]; exact Vm.Alike.refl U.vm) k.2.2.2.1) hh, k.2.2.2.2⟩
theorem zK.warm {D : zD} {b0 : Nat} {s U : State} (hW : s.WarmedH U.vm) (hh : U.heap[zsB D]? = s.heap[zsB D]?) (k : zK D b0 s) : zK D b0 U := by
  refine ⟨va_K.moved hW.alike k.1, ?_, fun q hq => va_AO.moved hW.alike (k.2.2.1 q hq), va_X.kept (va_X.moved hW.alike k.2.2.2.1) hh, k.2.2.2.2⟩
  have h := k.2.1
  intro w hw
  have hh := h w hw
  simp only [zNest, List.mem_cons, List.not_mem_nil, or_false] at hw
  rcases hw with h | h | h | h | h | h | h | h | h | h | h | h | h <;> (subst h; exact va_Nw.warmM hW hh)
theorem zblind (D : zD) (b0 : Nat) (av : List Value) (g : zG) (f : zI) : FrameBlind (zPc D b0 av g f) := by
  intro a U gg mk h
  exact ⟨h.1, h.2.1, zK.same (u := U) (U := U.calling gg mk a) rfl rfl h.2.2⟩


/-! locals -/
def zpr (L : List (Option Value)) : List (Nat × Value) := (List.range L.length).filterMap fun i => (L.getD i none).map fun v => (i, v)
theorem zpr_mem {L : List (Option Value)} {i : Nat} {v : Value} (h : (i, v) ∈ zpr L) : L[i]? = some (some v) := by
  obtain ⟨j, -, hj⟩ := List.mem_filterMap.mp h
  cases h1 : L.getD j none with
  | none => rw [h1] at hj; cases hj
  | some w =>
    rw [h1] at hj
    simp only [Option.map_some, Option.some.injEq, Prod.mk.injEq] at hj
    obtain ⟨rfl, rfl⟩ := hj
    rw [List.getD_eq_getElem?_getD] at h1
    cases h2 : L[j]? with
    | none => rw [h2] at h1; cases h1
    | some x => rw [h2] at h1; exact congrArg some h1
theorem zpr_of {L : List (Option Value)} {i : Nat} {v : Value} (h : L[i]? = some (some v)) : (i, v) ∈ zpr L := by
  refine List.mem_filterMap.mpr ⟨i, List.mem_range.mpr (List.getElem?_eq_some_iff.mp h).1, ?_⟩
  rw [List.getD_eq_getElem?_getD, h]
  rfl
theorem zL.lv {ls : Array Slot} {L : List (Option Value)} (h : zL ls L) : lv_has ls L.length (zpr L) := ⟨h.1, h.2.1, fun q hq => (h.2.2 q.1 q.2 (zpr_mem hq)).1⟩
theorem zL.at_ {ls : Array Slot} {L : List (Option Value)} (h : zL ls L) {i : Nat} {v : Value} (hi : L[i]? = some (some v)) : ls[i]? = some (.val v) := (h.2.2 i v hi).1
theorem zL.put {ls ls' : Array Slot} {L : List (Option Value)} {i : Nat} {v : Value} (h : zL ls L) (hi : i < L.length) (hv : v.category = 1) (h2 : lv_has ls' L.length ((i, v) :: (zpr L).filter (fun q => !(q.1 == i) && !(q.1 + 1 == i && q.2.category == 2)))) : zL ls' (L.set i (some v)) := by
  refine ⟨by rw [List.length_set]; exact h2.1, h2.2.1, fun j w hj => ?_⟩
  by_cases hij : i = j
  · subst hij
    rw [List.getElem?_set_self hi] at hj
    cases hj
    exact ⟨h2.2.2 (i, v) List.mem_cons_self, hv⟩
  · rw [List.getElem?_set_ne hij] at hj
    have hc := (h.2.2 j w hj).2
    refine ⟨h2.2.2 (j, w) (List.mem_cons_of_mem _ (List.mem_filter.mpr ⟨zpr_of hj, ?_⟩)), hc⟩
    have hji : ¬ j = i := fun e => hij e.symm
    simp [hc, hji]
def zrf (v : Value) : Prop := v = .null ∨ ∃ a, v = .ref a
theorem zrf_o (r : Option Nat) : zrf (va_rf r) := by
  cases r with
  | none => exact Or.inl rfl
  | some a => exact Or.inr ⟨a, rfl⟩
theorem zrf_r (a : Nat) : zrf (.ref a) := Or.inr ⟨a, rfl⟩
theorem zrf.cat {v : Value} (h : zrf v) : v.category = 1 := by
  rcases h with rfl | ⟨a, rfl⟩ <;> rfl
section ZROW
variable {l : Launch} {d : Nat} {D : zD} {b0 : Nat} {mi : zMI} {cs ns pc : Nat} {L : List (Option Value)} {st rest : List Value} {g : zG} {f : zI} {Q : Nat → Nat → zKT → Prop}
/-- a row that changes pc, locals and stack alone -/
theorem zS.go {pc' : Nat} {L' : List (Option Value)} {st' : List Value}
    (h : ∀ (p : Program) (e : Env) (R : Room) (s : State) (m : MethodId) (args : Array Value) (below : List Frame) (meth : Method) (c : Code) (H : Heap) (locs : List Loc) (ls : Array Slot) (Qw : State → Prop), zCtx mi p s m args meth c → zRm d 0 0 R → cs ≤ R.cells → ns ≤ R.slots → zL ls L → (∀ ls', zL ls' L' → W p l e R s m args below meth c H locs cs ns Qw (F0 m pc' ls' st')) → W p l e R s m args below meth c H locs cs ns Qw (F0 m pc ls st))
    (k : zS l d D b0 mi cs ns pc' L' st' g f Q) : zS l d D b0 mi cs ns pc L st g f Q := by
  obtain ⟨mc, ms, K, hQ, h1, h2, hT⟩ := k
  refine ⟨mc, ms, K, hQ, h1, h2, fun p e R s m args below meth c H locs ls C hK hR hL hH hF => ?_⟩
  exact h p e R s m args below meth c H locs ls _ C ⟨hR.1, hR.2.1, Nat.zero_le _, Nat.zero_le _⟩ (Nat.le_trans h1 hR.2.2.1) (Nat.le_trans h2 hR.2.2.2) hL (fun ls' hL' => hT p e R s m args below meth c H locs ls' C hK hR hL' hH hF)
theorem zS.weak {L' : List (Option Value)} (hl : L'.length = L.length) (h : ∀ (i : Nat) (v : Value), L'[i]? = some (some v) → L[i]? = some (some v)) (k : zS l d D b0 mi cs ns pc L' st g f Q) : zS l d D b0 mi cs ns pc L st g f Q :=
  zS.go (fun p e R s m args below meth c H locs ls Qw C hR h1 h2 hL kk => kk ls ⟨hL.1.trans hl.symm, hL.2.1, fun i v hv => hL.2.2 i v (h i v hv)⟩) k

theorem z_iconst {n : Int} {v : Int32} (hd : decode mi.2.1 pc = .ok (.iconst n, 1)) (hv : Int32.ofInt n = v) (k : zS l d D b0 mi cs ns (pc + 1) L (.int v :: st) g f Q) : zS l d D b0 mi cs ns pc L st g f Q :=
  zS.go (fun p e R s m args below meth c H locs ls Qw C hR hc1 hc2 hL kk => lv_iconst C.1 C.2.1 hd hv (kk ls hL)) k
theorem z_bipush {n : Int} {v : Int32} (hd : decode mi.2.1 pc = .ok (.bipush n, 2)) (hv : (Int8.ofInt n).toInt32 = v) (k : zS l d D b0 mi cs ns (pc + 2) L (.int v :: st) g f Q) : zS l d D b0 mi cs ns pc L st g f Q :=
  zS.go (fun p e R s m args below meth c H locs ls Qw C hR hc1 hc2 hL kk => lv_bipush C.1 C.2.1 hd hv (kk ls hL)) k
theorem z_sipush {n : Int} {v : Int32} (hd : decode mi.2.1 pc = .ok (.sipush n, 3)) (hv : (Int16.ofInt n).toInt32 = v) (k : zS l d D b0 mi cs ns (pc + 3) L (.int v :: st) g f Q) : zS l d D b0 mi cs ns pc L st g f Q :=
  zS.go (fun p e R s m args below meth c H locs ls Qw C hR hc1 hc2 hL kk => lv_sipush C.1 C.2.1 hd hv (kk ls hL)) k
theorem z_ldc {i : Nat} {v : Int32} (hd : decode mi.2.1 pc = .ok (.ldc i, 2)) (hw : Cond.constant mi.1.cls i v ∈ zTbl) (k : zS l d D b0 mi cs ns (pc + 2) L (.int v :: st) g f Q) : zS l d D b0 mi cs ns pc L st g f Q :=
  zS.go (fun p e R s m args below meth c H locs ls Qw C hR hc1 hc2 hL kk => lv_ldc C.1 C.2.1 C.2.2.2.2.1 (C.2.2.2.2.2.1 _ hw) hd (kk ls hL)) k
theorem z_null (hd : decode mi.2.1 pc = .ok (.aconst_null, 1)) (k : zS l d D b0 mi cs ns (pc + 1) L (.null :: st) g f Q) : zS l d D b0 mi cs ns pc L st g f Q :=
  zS.go (fun p e R s m args below meth c H locs ls Qw C hR hc1 hc2 hL kk => lv_null C.1 C.2.1 hd (kk ls hL)) k
theorem z_iload0 {t : List (Option Value)} {x : Int32} (hd : decode mi.2.1 pc = .ok (.iload_n 0, 1)) (k : zS l d D b0 mi cs ns (pc + 1) (some (.int x) :: t) (.int x :: st) g f Q) : zS l d D b0 mi cs ns pc (some (.int x) :: t) st g f Q :=
  zS.go (fun p e R s m args below meth c H locs ls Qw C hR hc1 hc2 hL kk => lv_iload_n (i := 0) C.1 C.2.1 hd rfl (hL.at_ rfl) (kk ls hL)) k
theorem z_aload0 {t : List (Option Value)} {x : Value} (hd : decode mi.2.1 pc = .ok (.aload_n 0, 1)) (k : zS l d D b0 mi cs ns (pc + 1) (some x :: t) (x :: st) g f Q) (hx : zrf x := by first | exact zrf_r _ | exact zrf_o _ | exact Or.inl rfl) : zS l d D b0 mi cs ns pc (some x :: t) st g f Q := by
  rcases hx with rfl | ⟨a, rfl⟩
  · exact zS.go (fun p e R s m args below meth c H locs ls Qw C hR hc1 hc2 hL kk => lv_aload_nN (i := 0) C.1 C.2.1 hd rfl (hL.at_ rfl) (kk ls hL)) k
  · exact zS.go (fun p e R s m args below meth c H locs ls Qw C hR hc1 hc2 hL kk => lv_aload_n (i := 0) C.1 C.2.1 hd rfl (hL.at_ rfl) (kk ls hL)) k
theorem z_istore0 {v : Option Value} {t : List (Option Value)} {x : Int32} (hd : decode mi.2.1 pc = .ok (.istore_n 0, 1)) (k : zS l d D b0 mi cs ns (pc + 1) (some (.int x) :: t) st g f Q) : zS l d D b0 mi cs ns pc (v :: t) (.int x :: st) g f Q :=
  zS.go (fun p e R s m args below meth c H locs ls Qw C hR hc1 hc2 hL kk => lv_istore_n (i := 0) C.1 C.2.1 hd rfl hL.lv (by simp) rfl (fun ls' h' => kk ls' (hL.put (by simp) rfl h'))) k
theorem z_astore0 {v : Option Value} {t : List (Option Value)} {x : Value} (hd : decode mi.2.1 pc = .ok (.astore_n 0, 1)) (k : zS l d D b0 mi cs ns (pc + 1) (some x :: t) st g f Q) (hx : zrf x := by first | exact zrf_r _ | exact zrf_o _ | exact Or.inl rfl) : zS l d D b0 mi cs ns pc (v :: t) (x :: st) g f Q := by
  rcases hx with rfl | ⟨a, rfl⟩
  · exact zS.go (fun p e R s m args below meth c H locs ls Qw C hR hc1 hc2 hL kk => lv_astore_nN (i := 0) C.1 C.2.1 hd rfl hL.lv (by simp) rfl (fun ls' h' => kk ls' (hL.put (by simp) rfl h'))) k
  · exact zS.go (fun p e R s m args below meth c H locs ls Qw C hR hc1 hc2 hL kk => lv_astore_n (i := 0) C.1 C.2.1 hd rfl hL.lv (by simp) rfl (fun ls' h' => kk ls' (hL.put (by simp) rfl h'))) k
theorem z_iinc0 {t : List (Option Value)} {x : Int32} {n : Int} {y : Int32} (hd : decode mi.2.1 pc = .ok (.iinc 0 n, 3)) (hy : Int32.ofInt n = y) (k : zS l d D b0 mi cs ns (pc + 3) (some (.int (x + y)) :: t) st g f Q) : zS l d D b0 mi cs ns pc (some (.int x) :: t) st g f Q := by
  subst hy
  refine zS.go (fun p e R s m args below meth c H locs ls Qw C hR hc1 hc2 hL kk => ?_) k
  obtain ⟨j, hj⟩ := List.getElem?_of_mem (zpr_of (L := some (.int x) :: t) (i := 0) (v := .int x) rfl)
  exact lv_iinc (i := 0) C.1 C.2.1 hd hL.lv hj rfl (by simp) rfl (fun ls' h' => kk ls' (hL.put (by simp) rfl h'))
theorem z_iload1 {v0 : Option Value} {t : List (Option Value)} {x : Int32} (hd : decode mi.2.1 pc = .ok (.iload_n 1, 1)) (k : zS l d D b0 mi cs ns (pc + 1) (v0 :: some (.int x) :: t) (.int x :: st) g f Q) : zS l d D b0 mi cs ns pc (v0 :: some (.int x) :: t) st g f Q :=
  zS.go (fun p e R s m args below meth c H locs ls Qw C hR hc1 hc2 hL kk => lv_iload_n (i := 1) C.1 C.2.1 hd rfl (hL.at_ rfl) (kk ls hL)) k
theorem z_aload1 {v0 : Option Value} {t : List (Option Value)} {x : Value} (hd : decode mi.2.1 pc = .ok (.aload_n 1, 1)) (k : zS l d D b0 mi cs ns (pc + 1) (v0 :: some x :: t) (x :: st) g f Q) (hx : zrf x := by first | exact zrf_r _ | exact zrf_o _ | exact Or.inl rfl) : zS l d D b0 mi cs ns pc (v0 :: some x :: t) st g f Q := by
  rcases hx with rfl | ⟨a, rfl⟩
  · exact zS.go (fun p e R s m args below meth c H locs ls Qw C hR hc1 hc2 hL kk => lv_aload_nN (i := 1) C.1 C.2.1 hd rfl (hL.at_ rfl) (kk ls hL)) k
  · exact zS.go (fun p e R s m args below meth c H locs ls Qw C hR hc1 hc2 hL kk => lv_aload_n (i := 1) C.1 C.2.1 hd rfl (hL.at_ rfl) (kk ls hL)) k
theorem z_istore1 {v0 : Option Value} {v : Option Value} {t : List (Option Value)} {x : Int32} (hd : decode mi.2.1 pc = .ok (.istore_n 1, 1)) (k : zS l d D b0 mi cs ns (pc + 1) (v0 :: some (.int x) :: t) st g f Q) : zS l d D b0 mi cs ns pc (v0 :: v :: t) (.int x :: st) g f Q :=
  zS.go (fun p e R s m args below meth c H locs ls Qw C hR hc1 hc2 hL kk => lv_istore_n (i := 1) C.1 C.2.1 hd rfl hL.lv (by simp) rfl (fun ls' h' => kk ls' (hL.put (by simp) rfl h'))) k
theorem z_astore1 {v0 : Option Value} {v : Option Value} {t : List (Option Value)} {x : Value} (hd : decode mi.2.1 pc = .ok (.astore_n 1, 1)) (k : zS l d D b0 mi cs ns (pc + 1) (v0 :: some x :: t) st g f Q) (hx : zrf x := by first | exact zrf_r _ | exact zrf_o _ | exact Or.inl rfl) : zS l d D b0 mi cs ns pc (v0 :: v :: t) (x :: st) g f Q := by
  rcases hx with rfl | ⟨a, rfl⟩
  · exact zS.go (fun p e R s m args below meth c H locs ls Qw C hR hc1 hc2 hL kk => lv_astore_nN (i := 1) C.1 C.2.1 hd rfl hL.lv (by simp) rfl (fun ls' h' => kk ls' (hL.put (by simp) rfl h'))) k
  · exact zS.go (fun p e R s m args below meth c H locs ls Qw C hR hc1 hc2 hL kk => lv_astore_n (i := 1) C.1 C.2.1 hd rfl hL.lv (by simp) rfl (fun ls' h' => kk ls' (hL.put (by simp) rfl h'))) k
theorem z_iinc1 {v0 : Option Value} {t : List (Option Value)} {x : Int32} {n : Int} {y : Int32} (hd : decode mi.2.1 pc = .ok (.iinc 1 n, 3)) (hy : Int32.ofInt n = y) (k : zS l d D b0 mi cs ns (pc + 3) (v0 :: some (.int (x + y)) :: t) st g f Q) : zS l d D b0 mi cs ns pc (v0 :: some (.int x) :: t) st g f Q := by
  subst hy
  refine zS.go (fun p e R s m args below meth c H locs ls Qw C hR hc1 hc2 hL kk => ?_) k
  obtain ⟨j, hj⟩ := List.getElem?_of_mem (zpr_of (L := v0 :: some (.int x) :: t) (i := 1) (v := .int x) rfl)
  exact lv_iinc (i := 1) C.1 C.2.1 hd hL.lv hj rfl (by simp) rfl (fun ls' h' => kk ls' (hL.put (by simp) rfl h'))
theorem z_iload2 {v0 v1 : Option Value} {t : List (Option Value)} {x : Int32} (hd : decode mi.2.1 pc = .ok (.iload_n 2, 1)) (k : zS l d D b0 mi cs ns (pc + 1) (v0 :: v1 :: some (.int x) :: t) (.int x :: st) g f Q) : zS l d D b0 mi cs ns pc (v0 :: v1 :: some (.int x) :: t) st g f Q :=
  zS.go (fun p e R s m args below meth c H locs ls Qw C hR hc1 hc2 hL kk => lv_iload_n (i := 2) C.1 C.2.1 hd rfl (hL.at_ rfl) (kk ls hL)) k
theorem z_aload2 {v0 v1 : Option Value} {t : List (Option Value)} {x : Value} (hd : decode mi.2.1 pc = .ok (.aload_n 2, 1)) (k : zS l d D b0 mi cs ns (pc + 1) (v0 :: v1 :: some x :: t) (x :: st) g f Q) (hx : zrf x := by first | exact zrf_r _ | exact zrf_o _ | exact Or.inl rfl) : zS l d D b0 mi cs ns pc (v0 :: v1 :: some x :: t) st g f Q := by
  rcases hx with rfl | ⟨a, rfl⟩
  · exact zS.go (fun p e R s m args below meth c H locs ls Qw C hR hc1 hc2 hL kk => lv_aload_nN (i := 2) C.1 C.2.1 hd rfl (hL.at_ rfl) (kk ls hL)) k
  · exact zS.go (fun p e R s m args below meth c H locs ls Qw C hR hc1 hc2 hL kk => lv_aload_n (i := 2) C.1 C.2.1 hd rfl (hL.at_ rfl) (kk ls hL)) k
theorem z_istore2 {v0 v1 : Option Value} {v : Option Value} {t : List (Option Value)} {x : Int32} (hd : decode mi.2.1 pc = .ok (.istore_n 2, 1)) (k : zS l d D b0 mi cs ns (pc + 1) (v0 :: v1 :: some (.int x) :: t) st g f Q) : zS l d D b0 mi cs ns pc (v0 :: v1 :: v :: t) (.int x :: st) g f Q :=
  zS.go (fun p e R s m args below meth c H locs ls Qw C hR hc1 hc2 hL kk => lv_istore_n (i := 2) C.1 C.2.1 hd rfl hL.lv (by simp) rfl (fun ls' h' => kk ls' (hL.put (by simp) rfl h'))) k
theorem z_astore2 {v0 v1 : Option Value} {v : Option Value} {t : List (Option Value)} {x : Value} (hd : decode mi.2.1 pc = .ok (.astore_n 2, 1)) (k : zS l d D b0 mi cs ns (pc + 1) (v0 :: v1 :: some x :: t) st g f Q) (hx : zrf x := by first | exact zrf_r _ | exact zrf_o _ | exact Or.inl rfl) : zS l d D b0 mi cs ns pc (v0 :: v1 :: v :: t) (x :: st) g f Q := by
  rcases hx with rfl | ⟨a, rfl⟩
  · exact zS.go (fun p e R s m args below meth c H locs ls Qw C hR hc1 hc2 hL kk => lv_astore_nN (i := 2) C.1 C.2.1 hd rfl hL.lv (by simp) rfl (fun ls' h' => kk ls' (hL.put (by simp) rfl h'))) k
  · exact zS.go (fun p e R s m args below meth c H locs ls Qw C hR hc1 hc2 hL kk => lv_astore_n (i := 2) C.1 C.2.1 hd rfl hL.lv (by simp) rfl (fun ls' h' => kk ls' (hL.put (by simp) rfl h'))) k
theorem z_iinc2 {v0 v1 : Option Value} {t : List (Option Value)} {x : Int32} {n : Int} {y : Int32} (hd : decode mi.2.1 pc = .ok (.iinc 2 n, 3)) (hy : Int32.ofInt n = y) (k : zS l d D b0 mi cs ns (pc + 3) (v0 :: v1 :: some (.int (x + y)) :: t) st g f Q) : zS l d D b0 mi cs ns pc (v0 :: v1 :: some (.int x) :: t) st g f Q := by
  subst hy
  refine zS.go (fun p e R s m args below meth c H locs ls Qw C hR hc1 hc2 hL kk => ?_) k
  obtain ⟨j, hj⟩ := List.getElem?_of_mem (zpr_of (L := v0 :: v1 :: some (.int x) :: t) (i := 2) (v := .int x) rfl)
  exact lv_iinc (i := 2) C.1 C.2.1 hd hL.lv hj rfl (by simp) rfl (fun ls' h' => kk ls' (hL.put (by simp) rfl h'))
theorem z_iload3 {v0 v1 v2 : Option Value} {t : List (Option Value)} {x : Int32} (hd : decode mi.2.1 pc = .ok (.iload_n 3, 1)) (k : zS l d D b0 mi cs ns (pc + 1) (v0 :: v1 :: v2 :: some (.int x) :: t) (.int x :: st) g f Q) : zS l d D b0 mi cs ns pc (v0 :: v1 :: v2 :: some (.int x) :: t) st g f Q :=
  zS.go (fun p e R s m args below meth c H locs ls Qw C hR hc1 hc2 hL kk => lv_iload_n (i := 3) C.1 C.2.1 hd rfl (hL.at_ rfl) (kk ls hL)) k
theorem z_aload3 {v0 v1 v2 : Option Value} {t : List (Option Value)} {x : Value} (hd : decode mi.2.1 pc = .ok (.aload_n 3, 1)) (k : zS l d D b0 mi cs ns (pc + 1) (v0 :: v1 :: v2 :: some x :: t) (x :: st) g f Q) (hx : zrf x := by first | exact zrf_r _ | exact zrf_o _ | exact Or.inl rfl) : zS l d D b0 mi cs ns pc (v0 :: v1 :: v2 :: some x :: t) st g f Q := by
  rcases hx with rfl | ⟨a, rfl⟩
  · exact zS.go (fun p e R s m args below meth c H locs ls Qw C hR hc1 hc2 hL kk => lv_aload_nN (i := 3) C.1 C.2.1 hd rfl (hL.at_ rfl) (kk ls hL)) k
  · exact zS.go (fun p e R s m args below meth c H locs ls Qw C hR hc1 hc2 hL kk => lv_aload_n (i := 3) C.1 C.2.1 hd rfl (hL.at_ rfl) (kk ls hL)) k
theorem z_istore3 {v0 v1 v2 : Option Value} {v : Option Value} {t : List (Option Value)} {x : Int32} (hd : decode mi.2.1 pc = .ok (.istore_n 3, 1)) (k : zS l d D b0 mi cs ns (pc + 1) (v0 :: v1 :: v2 :: some (.int x) :: t) st g f Q) : zS l d D b0 mi cs ns pc (v0 :: v1 :: v2 :: v :: t) (.int x :: st) g f Q :=
  zS.go (fun p e R s m args below meth c H locs ls Qw C hR hc1 hc2 hL kk => lv_istore_n (i := 3) C.1 C.2.1 hd rfl hL.lv (by simp) rfl (fun ls' h' => kk ls' (hL.put (by simp) rfl h'))) k
theorem z_astore3 {v0 v1 v2 : Option Value} {v : Option Value} {t : List (Option Value)} {x : Value} (hd : decode mi.2.1 pc = .ok (.astore_n 3, 1)) (k : zS l d D b0 mi cs ns (pc + 1) (v0 :: v1 :: v2 :: some x :: t) st g f Q) (hx : zrf x := by first | exact zrf_r _ | exact zrf_o _ | exact Or.inl rfl) : zS l d D b0 mi cs ns pc (v0 :: v1 :: v2 :: v :: t) (x :: st) g f Q := by
  rcases hx with rfl | ⟨a, rfl⟩
  · exact zS.go (fun p e R s m args below meth c H locs ls Qw C hR hc1 hc2 hL kk => lv_astore_nN (i := 3) C.1 C.2.1 hd rfl hL.lv (by simp) rfl (fun ls' h' => kk ls' (hL.put (by simp) rfl h'))) k
  · exact zS.go (fun p e R s m args below meth c H locs ls Qw C hR hc1 hc2 hL kk => lv_astore_n (i := 3) C.1 C.2.1 hd rfl hL.lv (by simp) rfl (fun ls' h' => kk ls' (hL.put (by simp) rfl h'))) k
theorem z_iinc3 {v0 v1 v2 : Option Value} {t : List (Option Value)} {x : Int32} {n : Int} {y : Int32} (hd : decode mi.2.1 pc = .ok (.iinc 3 n, 3)) (hy : Int32.ofInt n = y) (k : zS l d D b0 mi cs ns (pc + 3) (v0 :: v1 :: v2 :: some (.int (x + y)) :: t) st g f Q) : zS l d D b0 mi cs ns pc (v0 :: v1 :: v2 :: some (.int x) :: t) st g f Q := by
  subst hy
  refine zS.go (fun p e R s m args below meth c H locs ls Qw C hR hc1 hc2 hL kk => ?_) k
  obtain ⟨j, hj⟩ := List.getElem?_of_mem (zpr_of (L := v0 :: v1 :: v2 :: some (.int x) :: t) (i := 3) (v := .int x) rfl)
  exact lv_iinc (i := 3) C.1 C.2.1 hd hL.lv hj rfl (by simp) rfl (fun ls' h' => kk ls' (hL.put (by simp) rfl h'))
theorem z_iload4 {v0 v1 v2 v3 : Option Value} {t : List (Option Value)} {x : Int32} (hd : decode mi.2.1 pc = .ok (.iload 4, 2)) (k : zS l d D b0 mi cs ns (pc + 2) (v0 :: v1 :: v2 :: v3 :: some (.int x) :: t) (.int x :: st) g f Q) : zS l d D b0 mi cs ns pc (v0 :: v1 :: v2 :: v3 :: some (.int x) :: t) st g f Q :=
  zS.go (fun p e R s m args below meth c H locs ls Qw C hR hc1 hc2 hL kk => lv_iload (i := 4) C.1 C.2.1 hd (hL.at_ rfl) (kk ls hL)) k
theorem z_aload4 {v0 v1 v2 v3 : Option Value} {t : List (Option Value)} {x : Value} (hd : decode mi.2.1 pc = .ok (.aload 4, 2)) (k : zS l d D b0 mi cs ns (pc + 2) (v0 :: v1 :: v2 :: v3 :: some x :: t) (x :: st) g f Q) (hx : zrf x := by first | exact zrf_r _ | exact zrf_o _ | exact Or.inl rfl) : zS l d D b0 mi cs ns pc (v0 :: v1 :: v2 :: v3 :: some x :: t) st g f Q := by
  rcases hx with rfl | ⟨a, rfl⟩
  · exact zS.go (fun p e R s m args below meth c H locs ls Qw C hR hc1 hc2 hL kk => lv_aloadN (i := 4) C.1 C.2.1 hd (hL.at_ rfl) (kk ls hL)) k
  · exact zS.go (fun p e R s m args below meth c H locs ls Qw C hR hc1 hc2 hL kk => lv_aload (i := 4) C.1 C.2.1 hd (hL.at_ rfl) (kk ls hL)) k
theorem z_istore4 {v0 v1 v2 v3 : Option Value} {v : Option Value} {t : List (Option Value)} {x : Int32} (hd : decode mi.2.1 pc = .ok (.istore 4, 2)) (k : zS l d D b0 mi cs ns (pc + 2) (v0 :: v1 :: v2 :: v3 :: some (.int x) :: t) st g f Q) : zS l d D b0 mi cs ns pc (v0 :: v1 :: v2 :: v3 :: v :: t) (.int x :: st) g f Q :=
  zS.go (fun p e R s m args below meth c H locs ls Qw C hR hc1 hc2 hL kk => lv_istore (i := 4) C.1 C.2.1 hd hL.lv (by simp) rfl (fun ls' h' => kk ls' (hL.put (by simp) rfl h'))) k
theorem z_astore4 {v0 v1 v2 v3 : Option Value} {v : Option Value} {t : List (Option Value)} {x : Value} (hd : decode mi.2.1 pc = .ok (.astore 4, 2)) (k : zS l d D b0 mi cs ns (pc + 2) (v0 :: v1 :: v2 :: v3 :: some x :: t) st g f Q) (hx : zrf x := by first | exact zrf_r _ | exact zrf_o _ | exact Or.inl rfl) : zS l d D b0 mi cs ns pc (v0 :: v1 :: v2 :: v3 :: v :: t) (x :: st) g f Q := by
  rcases hx with rfl | ⟨a, rfl⟩
  · exact zS.go (fun p e R s m args below meth c H locs ls Qw C hR hc1 hc2 hL kk => lv_astoreN (i := 4) C.1 C.2.1 hd hL.lv (by simp) rfl (fun ls' h' => kk ls' (hL.put (by simp) rfl h'))) k
  · exact zS.go (fun p e R s m args below meth c H locs ls Qw C hR hc1 hc2 hL kk => lv_astore (i := 4) C.1 C.2.1 hd hL.lv (by simp) rfl (fun ls' h' => kk ls' (hL.put (by simp) rfl h'))) k
theorem z_iinc4 {v0 v1 v2 v3 : Option Value} {t : List (Option Value)} {x : Int32} {n : Int} {y : Int32} (hd : decode mi.2.1 pc = .ok (.iinc 4 n, 3)) (hy : Int32.ofInt n = y) (k : zS l d D b0 mi cs ns (pc + 3) (v0 :: v1 :: v2 :: v3 :: some (.int (x + y)) :: t) st g f Q) : zS l d D b0 mi cs ns pc (v0 :: v1 :: v2 :: v3 :: some (.int x) :: t) st g f Q := by
  subst hy
  refine zS.go (fun p e R s m args below meth c H locs ls Qw C hR hc1 hc2 hL kk => ?_) k
  obtain ⟨j, hj⟩ := List.getElem?_of_mem (zpr_of (L := v0 :: v1 :: v2 :: v3 :: some (.int x) :: t) (i := 4) (v := .int x) rfl)
  exact lv_iinc (i := 4) C.1 C.2.1 hd hL.lv hj rfl (by simp) rfl (fun ls' h' => kk ls' (hL.put (by simp) rfl h'))
theorem z_iload5 {v0 v1 v2 v3 v4 : Option Value} {t : List (Option Value)} {x : Int32} (hd : decode mi.2.1 pc = .ok (.iload 5, 2)) (k : zS l d D b0 mi cs ns (pc + 2) (v0 :: v1 :: v2 :: v3 :: v4 :: some (.int x) :: t) (.int x :: st) g f Q) : zS l d D b0 mi cs ns pc (v0 :: v1 :: v2 :: v3 :: v4 :: some (.int x) :: t) st g f Q :=
  zS.go (fun p e R s m args below meth c H locs ls Qw C hR hc1 hc2 hL kk => lv_iload (i := 5) C.1 C.2.1 hd (hL.at_ rfl) (kk ls hL)) k
theorem z_aload5 {v0 v1 v2 v3 v4 : Option Value} {t : List (Option Value)} {x : Value} (hd : decode mi.2.1 pc = .ok (.aload 5, 2)) (k : zS l d D b0 mi cs ns (pc + 2) (v0 :: v1 :: v2 :: v3 :: v4 :: some x :: t) (x :: st) g f Q) (hx : zrf x := by first | exact zrf_r _ | exact zrf_o _ | exact Or.inl rfl) : zS l d D b0 mi cs ns pc (v0 :: v1 :: v2 :: v3 :: v4 :: some x :: t) st g f Q := by
  rcases hx with rfl | ⟨a, rfl⟩
  · exact zS.go (fun p e R s m args below meth c H locs ls Qw C hR hc1 hc2 hL kk => lv_aloadN (i := 5) C.1 C.2.1 hd (hL.at_ rfl) (kk ls hL)) k
  · exact zS.go (fun p e R s m args below meth c H locs ls Qw C hR hc1 hc2 hL kk => lv_aload (i := 5) C.1 C.2.1 hd (hL.at_ rfl) (kk ls hL)) k
theorem z_istore5 {v0 v1 v2 v3 v4 : Option Value} {v : Option Value} {t : List (Option Value)} {x : Int32} (hd : decode mi.2.1 pc = .ok (.istore 5, 2)) (k : zS l d D b0 mi cs ns (pc + 2) (v0 :: v1 :: v2 :: v3 :: v4 :: some (.int x) :: t) st g f Q) : zS l d D b0 mi cs ns pc (v0 :: v1 :: v2 :: v3 :: v4 :: v :: t) (.int x :: st) g f Q :=
  zS.go (fun p e R s m args below meth c H locs ls Qw C hR hc1 hc2 hL kk => lv_istore (i := 5) C.1 C.2.1 hd hL.lv (by simp) rfl (fun ls' h' => kk ls' (hL.put (by simp) rfl h'))) k
theorem z_astore5 {v0 v1 v2 v3 v4 : Option Value} {v : Option Value} {t : List (Option Value)} {x : Value} (hd : decode mi.2.1 pc = .ok (.astore 5, 2)) (k : zS l d D b0 mi cs ns (pc + 2) (v0 :: v1 :: v2 :: v3 :: v4 :: some x :: t) st g f Q) (hx : zrf x := by first | exact zrf_r _ | exact zrf_o _ | exact Or.inl rfl) : zS l d D b0 mi cs ns pc (v0 :: v1 :: v2 :: v3 :: v4 :: v :: t) (x :: st) g f Q := by
  rcases hx with rfl | ⟨a, rfl⟩
  · exact zS.go (fun p e R s m args below meth c H locs ls Qw C hR hc1 hc2 hL kk => lv_astoreN (i := 5) C.1 C.2.1 hd hL.lv (by simp) rfl (fun ls' h' => kk ls' (hL.put (by simp) rfl h'))) k
  · exact zS.go (fun p e R s m args below meth c H locs ls Qw C hR hc1 hc2 hL kk => lv_astore (i := 5) C.1 C.2.1 hd hL.lv (by simp) rfl (fun ls' h' => kk ls' (hL.put (by simp) rfl h'))) k
theorem z_iinc5 {v0 v1 v2 v3 v4 : Option Value} {t : List (Option Value)} {x : Int32} {n : Int} {y : Int32} (hd : decode mi.2.1 pc = .ok (.iinc 5 n, 3)) (hy : Int32.ofInt n = y) (k : zS l d D b0 mi cs ns (pc + 3) (v0 :: v1 :: v2 :: v3 :: v4 :: some (.int (x + y)) :: t) st g f Q) : zS l d D b0 mi cs ns pc (v0 :: v1 :: v2 :: v3 :: v4 :: some (.int x) :: t) st g f Q := by
  subst hy
  refine zS.go (fun p e R s m args below meth c H locs ls Qw C hR hc1 hc2 hL kk => ?_) k
  obtain ⟨j, hj⟩ := List.getElem?_of_mem (zpr_of (L := v0 :: v1 :: v2 :: v3 :: v4 :: some (.int x) :: t) (i := 5) (v := .int x) rfl)
  exact lv_iinc (i := 5) C.1 C.2.1 hd hL.lv hj rfl (by simp) rfl (fun ls' h' => kk ls' (hL.put (by simp) rfl h'))
theorem z_iload6 {v0 v1 v2 v3 v4 v5 : Option Value} {t : List (Option Value)} {x : Int32} (hd : decode mi.2.1 pc = .ok (.iload 6, 2)) (k : zS l d D b0 mi cs ns (pc + 2) (v0 :: v1 :: v2 :: v3 :: v4 :: v5 :: some (.int x) :: t) (.int x :: st) g f Q) : zS l d D b0 mi cs ns pc (v0 :: v1 :: v2 :: v3 :: v4 :: v5 :: some (.int x) :: t) st g f Q :=
  zS.go (fun p e R s m args below meth c H locs ls Qw C hR hc1 hc2 hL kk => lv_iload (i := 6) C.1 C.2.1 hd (hL.at_ rfl) (kk ls hL)) k
theorem z_aload6 {v0 v1 v2 v3 v4 v5 : Option Value} {t : List (Option Value)} {x : Value} (hd : decode mi.2.1 pc = .ok (.aload 6, 2)) (k : zS l d D b0 mi cs ns (pc + 2) (v0 :: v1 :: v2 :: v3 :: v4 :: v5 :: some x :: t) (x :: st) g f Q) (hx : zrf x := by first | exact zrf_r _ | exact zrf_o _ | exact Or.inl rfl) : zS l d D b0 mi cs ns pc (v0 :: v1 :: v2 :: v3 :: v4 :: v5 :: some x :: t) st g f Q := by
  rcases hx with rfl | ⟨a, rfl⟩
  · exact zS.go (fun p e R s m args below meth c H locs ls Qw C hR hc1 hc2 hL kk => lv_aloadN (i := 6) C.1 C.2.1 hd (hL.at_ rfl) (kk ls hL)) k
  · exact zS.go (fun p e R s m args below meth c H locs ls Qw C hR hc1 hc2 hL kk => lv_aload (i := 6) C.1 C.2.1 hd (hL.at_ rfl) (kk ls hL)) k
theorem z_istore6 {v0 v1 v2 v3 v4 v5 : Option Value} {v : Option Value} {t : List (Option Value)} {x : Int32} (hd : decode mi.2.1 pc = .ok (.istore 6, 2)) (k : zS l d D b0 mi cs ns (pc + 2) (v0 :: v1 :: v2 :: v3 :: v4 :: v5 :: some (.int x) :: t) st g f Q) : zS l d D b0 mi cs ns pc (v0 :: v1 :: v2 :: v3 :: v4 :: v5 :: v :: t) (.int x :: st) g f Q :=
  zS.go (fun p e R s m args below meth c H locs ls Qw C hR hc1 hc2 hL kk => lv_istore (i := 6) C.1 C.2.1 hd hL.lv (by simp) rfl (fun ls' h' => kk ls' (hL.put (by simp) rfl h'))) k
theorem z_astore6 {v0 v1 v2 v3 v4 v5 : Option Value} {v : Option Value} {t : List (Option Value)} {x : Value} (hd : decode mi.2.1 pc = .ok (.astore 6, 2)) (k : zS l d D b0 mi cs ns (pc + 2) (v0 :: v1 :: v2 :: v3 :: v4 :: v5 :: some x :: t) st g f Q) (hx : zrf x := by first | exact zrf_r _ | exact zrf_o _ | exact Or.inl rfl) : zS l d D b0 mi cs ns pc (v0 :: v1 :: v2 :: v3 :: v4 :: v5 :: v :: t) (x :: st) g f Q := by
  rcases hx with rfl | ⟨a, rfl⟩
  · exact zS.go (fun p e R s m args below meth c H locs ls Qw C hR hc1 hc2 hL kk => lv_astoreN (i := 6) C.1 C.2.1 hd hL.lv (by simp) rfl (fun ls' h' => kk ls' (hL.put (by simp) rfl h'))) k
  · exact zS.go (fun p e R s m args below meth c H locs ls Qw C hR hc1 hc2 hL kk => lv_astore (i := 6) C.1 C.2.1 hd hL.lv (by simp) rfl (fun ls' h' => kk ls' (hL.put (by simp) rfl h'))) k
theorem z_iinc6 {v0 v1 v2 v3 v4 v5 : Option Value} {t : List (Option Value)} {x : Int32} {n : Int} {y : Int32} (hd : decode mi.2.1 pc = .ok (.iinc 6 n, 3)) (hy : Int32.ofInt n = y) (k : zS l d D b0 mi cs ns (pc + 3) (v0 :: v1 :: v2 :: v3 :: v4 :: v5 :: some (.int (x + y)) :: t) st g f Q) : zS l d D b0 mi cs ns pc (v0 :: v1 :: v2 :: v3 :: v4 :: v5 :: some (.int x) :: t) st g f Q := by
  subst hy
  refine zS.go (fun p e R s m args below meth c H locs ls Qw C hR hc1 hc2 hL kk => ?_) k
  obtain ⟨j, hj⟩ := List.getElem?_of_mem (zpr_of (L := v0 :: v1 :: v2 :: v3 :: v4 :: v5 :: some (.int x) :: t) (i := 6) (v := .int x) rfl)
  exact lv_iinc (i := 6) C.1 C.2.1 hd hL.lv hj rfl (by simp) rfl (fun ls' h' => kk ls' (hL.put (by simp) rfl h'))
theorem z_iadd {x y : Int32} (hd : decode mi.2.1 pc = .ok (.iadd, 1)) (k : zS l d D b0 mi cs ns (pc + 1) L (.int (x + y) :: st) g f Q) : zS l d D b0 mi cs ns pc L (.int y :: .int x :: st) g f Q :=
  zS.go (fun p e R s m args below meth c H locs ls Qw C hR hc1 hc2 hL kk => lv_iadd C.1 C.2.1 hd (kk ls hL)) k
theorem z_isub {x y : Int32} (hd : decode mi.2.1 pc = .ok (.isub, 1)) (k : zS l d D b0 mi cs ns (pc + 1) L (.int (x - y) :: st) g f Q) : zS l d D b0 mi cs ns pc L (.int y :: .int x :: st) g f Q :=
  zS.go (fun p e R s m args below meth c H locs ls Qw C hR hc1 hc2 hL kk => lv_isub C.1 C.2.1 hd (kk ls hL)) k
theorem z_imul {x y : Int32} (hd : decode mi.2.1 pc = .ok (.imul, 1)) (k : zS l d D b0 mi cs ns (pc + 1) L (.int (x * y) :: st) g f Q) : zS l d D b0 mi cs ns pc L (.int y :: .int x :: st) g f Q :=
  zS.go (fun p e R s m args below meth c H locs ls Qw C hR hc1 hc2 hL kk => lv_imul C.1 C.2.1 hd (kk ls hL)) k
theorem z_ior {x y : Int32} (hd : decode mi.2.1 pc = .ok (.ior, 1)) (k : zS l d D b0 mi cs ns (pc + 1) L (.int (x ||| y) :: st) g f Q) : zS l d D b0 mi cs ns pc L (.int y :: .int x :: st) g f Q :=
  zS.go (fun p e R s m args below meth c H locs ls Qw C hR hc1 hc2 hL kk => lv_ior C.1 C.2.1 hd (kk ls hL)) k
theorem z_iand {x y : Int32} (hd : decode mi.2.1 pc = .ok (.iand, 1)) (k : zS l d D b0 mi cs ns (pc + 1) L (.int (x &&& y) :: st) g f Q) : zS l d D b0 mi cs ns pc L (.int y :: .int x :: st) g f Q :=
  zS.go (fun p e R s m args below meth c H locs ls Qw C hR hc1 hc2 hL kk => lv_iand C.1 C.2.1 hd (kk ls hL)) k
theorem z_ixor {x y : Int32} (hd : decode mi.2.1 pc = .ok (.ixor, 1)) (k : zS l d D b0 mi cs ns (pc + 1) L (.int (x ^^^ y) :: st) g f Q) : zS l d D b0 mi cs ns pc L (.int y :: .int x :: st) g f Q :=
  zS.go (fun p e R s m args below meth c H locs ls Qw C hR hc1 hc2 hL kk => lv_ixor C.1 C.2.1 hd (kk ls hL)) k
theorem z_ishl {x y : Int32} (hd : decode mi.2.1 pc = .ok (.ishl, 1)) (k : zS l d D b0 mi cs ns (pc + 1) L (.int (x <<< (y &&& 31)) :: st) g f Q) : zS l d D b0 mi cs ns pc L (.int y :: .int x :: st) g f Q :=
  zS.go (fun p e R s m args below meth c H locs ls Qw C hR hc1 hc2 hL kk => lv_ishl C.1 C.2.1 hd (kk ls hL)) k
theorem z_ishr {x y : Int32} (hd : decode mi.2.1 pc = .ok (.ishr, 1)) (k : zS l d D b0 mi cs ns (pc + 1) L (.int (x >>> (y &&& 31)) :: st) g f Q) : zS l d D b0 mi cs ns pc L (.int y :: .int x :: st) g f Q :=
  zS.go (fun p e R s m args below meth c H locs ls Qw C hR hc1 hc2 hL kk => lv_ishr C.1 C.2.1 hd (kk ls hL)) k
theorem z_idiv {x y : Int32} (hd : decode mi.2.1 pc = .ok (.idiv, 1)) (hy : ¬ y = 0) (k : zS l d D b0 mi cs ns (pc + 1) L (.int (x / y) :: st) g f Q) : zS l d D b0 mi cs ns pc L (.int y :: .int x :: st) g f Q :=
  zS.go (fun p e R s m args below meth c H locs ls Qw C hR hc1 hc2 hL kk => lv_idiv C.1 C.2.1 hd hy (kk ls hL)) k
theorem z_irem {x y : Int32} (hd : decode mi.2.1 pc = .ok (.irem, 1)) (hy : ¬ y = 0) (k : zS l d D b0 mi cs ns (pc + 1) L (.int (x - x / y * y) :: st) g f Q) : zS l d D b0 mi cs ns pc L (.int y :: .int x :: st) g f Q :=
  zS.go (fun p e R s m args below meth c H locs ls Qw C hR hc1 hc2 hL kk => lv_irem C.1 C.2.1 hd hy (kk ls hL)) k
theorem z_ineg {x : Int32} (hd : decode mi.2.1 pc = .ok (.ineg, 1)) (k : zS l d D b0 mi cs ns (pc + 1) L (.int (-x) :: st) g f Q) : zS l d D b0 mi cs ns pc L (.int x :: st) g f Q :=
  zS.go (fun p e R s m args below meth c H locs ls Qw C hR hc1 hc2 hL kk => lv_ineg C.1 C.2.1 hd (kk ls hL)) k
theorem z_top {x y : Int32} (h : x = y) (k : zS l d D b0 mi cs ns pc L (.int y :: st) g f Q) : zS l d D b0 mi cs ns pc L (.int x :: st) g f Q := h ▸ k
theorem z_dupr {a : Nat} (hd : decode mi.2.1 pc = .ok (.dup, 1)) (k : zS l d D b0 mi cs ns (pc + 1) L (.ref a :: .ref a :: st) g f Q) : zS l d D b0 mi cs ns pc L (.ref a :: st) g f Q :=
  zS.go (fun p e R s m args below meth c H locs ls Qw C hR hc1 hc2 hL kk => lv_dup C.1 C.2.1 hd rfl (kk ls hL)) k
theorem z_dup {v : Value} (hd : decode mi.2.1 pc = .ok (.dup, 1)) (k : zS l d D b0 mi cs ns (pc + 1) L (v :: v :: st) g f Q) (hv : v.category = 1 := by rfl) : zS l d D b0 mi cs ns pc L (v :: st) g f Q :=
  zS.go (fun p e R s m args below meth c H locs ls Qw C hR hc1 hc2 hL kk => lv_dup C.1 C.2.1 hd hv (kk ls hL)) k
theorem z_pop {v : Value} (hd : decode mi.2.1 pc = .ok (.pop, 1)) (k : zS l d D b0 mi cs ns (pc + 1) L st g f Q) (hv : v.category = 1 := by rfl) : zS l d D b0 mi cs ns pc L (v :: st) g f Q :=
  zS.go (fun p e R s m args below meth c H locs ls Qw C hR hc1 hc2 hL kk => lv_pop C.1 C.2.1 hd hv (kk ls hL)) k
theorem z_dup2 {u v : Value} (hd : decode mi.2.1 pc = .ok (.dup2, 1)) (k : zS l d D b0 mi cs ns (pc + 1) L (u :: v :: u :: v :: st) g f Q) (hu : u.category = 1 := by rfl) (hv : v.category = 1 := by rfl) : zS l d D b0 mi cs ns pc L (u :: v :: st) g f Q :=
  zS.go (fun p e R s m args below meth c H locs ls Qw C hR hc1 hc2 hL kk => lv_dup2_11 C.1 C.2.1 hd hu hv (kk ls hL)) k
theorem z_icmp_eq {x y : Int32} {off : Int} {tgt : Nat} (hd : decode mi.2.1 pc = .ok (.if_icmp .eq off, 3)) (ht : (pc : Int) + off = (tgt : Int)) (kt : x = y → zS l d D b0 mi cs ns tgt L st g f Q) (kf : ¬ x = y → zS l d D b0 mi cs ns (pc + 3) L st g f Q) : zS l d D b0 mi cs ns pc L (.int y :: .int x :: st) g f Q := by
  by_cases hq : x = y
  · exact zS.go (fun p e R s m args below meth c H locs ls Qw C hR hc1 hc2 hL kk => lv_icmp_eq C.1 C.2.1 hd ht (fun _ => kk ls hL) (fun h => absurd hq h)) (kt hq)
  · exact zS.go (fun p e R s m args below meth c H locs ls Qw C hR hc1 hc2 hL kk => lv_icmp_eq C.1 C.2.1 hd ht (fun h => absurd h hq) (fun _ => kk ls hL)) (kf hq)
theorem z_if_eq {x : Int32} {off : Int} {tgt : Nat} (hd : decode mi.2.1 pc = .ok (.ifCond .eq off, 3)) (ht : (pc : Int) + off = (tgt : Int)) (kt : x = 0 → zS l d D b0 mi cs ns tgt L st g f Q) (kf : ¬ x = 0 → zS l d D b0 mi cs ns (pc + 3) L st g f Q) : zS l d D b0 mi cs ns pc L (.int x :: st) g f Q := by
  by_cases hq : x = 0
  · exact zS.go (fun p e R s m args below meth c H locs ls Qw C hR hc1 hc2 hL kk => lv_if_eq C.1 C.2.1 hd ht (fun _ => kk ls hL) (fun h => absurd hq h)) (kt hq)
  · exact zS.go (fun p e R s m args below meth c H locs ls Qw C hR hc1 hc2 hL kk => lv_if_eq C.1 C.2.1 hd ht (fun h => absurd h hq) (fun _ => kk ls hL)) (kf hq)
theorem z_icmp_ne {x y : Int32} {off : Int} {tgt : Nat} (hd : decode mi.2.1 pc = .ok (.if_icmp .ne off, 3)) (ht : (pc : Int) + off = (tgt : Int)) (kt : ¬ x = y → zS l d D b0 mi cs ns tgt L st g f Q) (kf : x = y → zS l d D b0 mi cs ns (pc + 3) L st g f Q) : zS l d D b0 mi cs ns pc L (.int y :: .int x :: st) g f Q := by
  by_cases hq : ¬ x = y
  · exact zS.go (fun p e R s m args below meth c H locs ls Qw C hR hc1 hc2 hL kk => lv_icmp_ne C.1 C.2.1 hd ht (fun _ => kk ls hL) (fun h => absurd h hq)) (kt hq)
  · exact zS.go (fun p e R s m args below meth c H locs ls Qw C hR hc1 hc2 hL kk => lv_icmp_ne C.1 C.2.1 hd ht (fun h => absurd h hq) (fun _ => kk ls hL)) (kf (Decidable.not_not.mp hq))
theorem z_if_ne {x : Int32} {off : Int} {tgt : Nat} (hd : decode mi.2.1 pc = .ok (.ifCond .ne off, 3)) (ht : (pc : Int) + off = (tgt : Int)) (kt : ¬ x = 0 → zS l d D b0 mi cs ns tgt L st g f Q) (kf : x = 0 → zS l d D b0 mi cs ns (pc + 3) L st g f Q) : zS l d D b0 mi cs ns pc L (.int x :: st) g f Q := by
  by_cases hq : ¬ x = 0
  · exact zS.go (fun p e R s m args below meth c H locs ls Qw C hR hc1 hc2 hL kk => lv_if_ne C.1 C.2.1 hd ht (fun _ => kk ls hL) (fun h => absurd h hq)) (kt hq)
  · exact zS.go (fun p e R s m args below meth c H locs ls Qw C hR hc1 hc2 hL kk => lv_if_ne C.1 C.2.1 hd ht (fun h => absurd h hq) (fun _ => kk ls hL)) (kf (Decidable.not_not.mp hq))
theorem z_icmp_lt {x y : Int32} {off : Int} {tgt : Nat} (hd : decode mi.2.1 pc = .ok (.if_icmp .lt off, 3)) (ht : (pc : Int) + off = (tgt : Int)) (kt : x < y → zS l d D b0 mi cs ns tgt L st g f Q) (kf : ¬ x < y → zS l d D b0 mi cs ns (pc + 3) L st g f Q) : zS l d D b0 mi cs ns pc L (.int y :: .int x :: st) g f Q := by
  by_cases hq : x < y
  · exact zS.go (fun p e R s m args below meth c H locs ls Qw C hR hc1 hc2 hL kk => lv_icmp_lt C.1 C.2.1 hd ht (fun _ => kk ls hL) (fun h => absurd hq h)) (kt hq)
  · exact zS.go (fun p e R s m args below meth c H locs ls Qw C hR hc1 hc2 hL kk => lv_icmp_lt C.1 C.2.1 hd ht (fun h => absurd h hq) (fun _ => kk ls hL)) (kf hq)
theorem z_if_lt {x : Int32} {off : Int} {tgt : Nat} (hd : decode mi.2.1 pc = .ok (.ifCond .lt off, 3)) (ht : (pc : Int) + off = (tgt : Int)) (kt : x < 0 → zS l d D b0 mi cs ns tgt L st g f Q) (kf : ¬ x < 0 → zS l d D b0 mi cs ns (pc + 3) L st g f Q) : zS l d D b0 mi cs ns pc L (.int x :: st) g f Q := by
  by_cases hq : x < 0
  · exact zS.go (fun p e R s m args below meth c H locs ls Qw C hR hc1 hc2 hL kk => lv_if_lt C.1 C.2.1 hd ht (fun _ => kk ls hL) (fun h => absurd hq h)) (kt hq)
  · exact zS.go (fun p e R s m args below meth c H locs ls Qw C hR hc1 hc2 hL kk => lv_if_lt C.1 C.2.1 hd ht (fun h => absurd h hq) (fun _ => kk ls hL)) (kf hq)
theorem z_icmp_ge {x y : Int32} {off : Int} {tgt : Nat} (hd : decode mi.2.1 pc = .ok (.if_icmp .ge off, 3)) (ht : (pc : Int) + off = (tgt : Int)) (kt : ¬ x < y → zS l d D b0 mi cs ns tgt L st g f Q) (kf : x < y → zS l d D b0 mi cs ns (pc + 3) L st g f Q) : zS l d D b0 mi cs ns pc L (.int y :: .int x :: st) g f Q := by
  by_cases hq : ¬ x < y
  · exact zS.go (fun p e R s m args below meth c H locs ls Qw C hR hc1 hc2 hL kk => lv_icmp_ge C.1 C.2.1 hd ht (fun _ => kk ls hL) (fun h => absurd (Int32.not_le.mp h) hq)) (kt hq)
  · exact zS.go (fun p e R s m args below meth c H locs ls Qw C hR hc1 hc2 hL kk => lv_icmp_ge C.1 C.2.1 hd ht (fun h => absurd (Int32.not_lt.mpr h) hq) (fun _ => kk ls hL)) (kf (Decidable.not_not.mp hq))
theorem z_if_ge {x : Int32} {off : Int} {tgt : Nat} (hd : decode mi.2.1 pc = .ok (.ifCond .ge off, 3)) (ht : (pc : Int) + off = (tgt : Int)) (kt : ¬ x < 0 → zS l d D b0 mi cs ns tgt L st g f Q) (kf : x < 0 → zS l d D b0 mi cs ns (pc + 3) L st g f Q) : zS l d D b0 mi cs ns pc L (.int x :: st) g f Q := by
  by_cases hq : ¬ x < 0
  · exact zS.go (fun p e R s m args below meth c H locs ls Qw C hR hc1 hc2 hL kk => lv_if_ge C.1 C.2.1 hd ht (fun _ => kk ls hL) (fun h => absurd (Int32.not_le.mp h) hq)) (kt hq)
  · exact zS.go (fun p e R s m args below meth c H locs ls Qw C hR hc1 hc2 hL kk => lv_if_ge C.1 C.2.1 hd ht (fun h => absurd (Int32.not_lt.mpr h) hq) (fun _ => kk ls hL)) (kf (Decidable.not_not.mp hq))
theorem z_icmp_gt {x y : Int32} {off : Int} {tgt : Nat} (hd : decode mi.2.1 pc = .ok (.if_icmp .gt off, 3)) (ht : (pc : Int) + off = (tgt : Int)) (kt : y < x → zS l d D b0 mi cs ns tgt L st g f Q) (kf : ¬ y < x → zS l d D b0 mi cs ns (pc + 3) L st g f Q) : zS l d D b0 mi cs ns pc L (.int y :: .int x :: st) g f Q := by
  by_cases hq : y < x
  · exact zS.go (fun p e R s m args below meth c H locs ls Qw C hR hc1 hc2 hL kk => lv_icmp_gt C.1 C.2.1 hd ht (fun _ => kk ls hL) (fun h => absurd hq h)) (kt hq)
  · exact zS.go (fun p e R s m args below meth c H locs ls Qw C hR hc1 hc2 hL kk => lv_icmp_gt C.1 C.2.1 hd ht (fun h => absurd h hq) (fun _ => kk ls hL)) (kf hq)
theorem z_if_gt {x : Int32} {off : Int} {tgt : Nat} (hd : decode mi.2.1 pc = .ok (.ifCond .gt off, 3)) (ht : (pc : Int) + off = (tgt : Int)) (kt : 0 < x → zS l d D b0 mi cs ns tgt L st g f Q) (kf : ¬ 0 < x → zS l d D b0 mi cs ns (pc + 3) L st g f Q) : zS l d D b0 mi cs ns pc L (.int x :: st) g f Q := by
  by_cases hq : 0 < x
  · exact zS.go (fun p e R s m args below meth c H locs ls Qw C hR hc1 hc2 hL kk => lv_if_gt C.1 C.2.1 hd ht (fun _ => kk ls hL) (fun h => absurd hq h)) (kt hq)
  · exact zS.go (fun p e R s m args below meth c H locs ls Qw C hR hc1 hc2 hL kk => lv_if_gt C.1 C.2.1 hd ht (fun h => absurd h hq) (fun _ => kk ls hL)) (kf hq)
theorem z_icmp_le {x y : Int32} {off : Int} {tgt : Nat} (hd : decode mi.2.1 pc = .ok (.if_icmp .le off, 3)) (ht : (pc : Int) + off = (tgt : Int)) (kt : ¬ y < x → zS l d D b0 mi cs ns tgt L st g f Q) (kf : y < x → zS l d D b0 mi cs ns (pc + 3) L st g f Q) : zS l d D b0 mi cs ns pc L (.int y :: .int x :: st) g f Q := by
  by_cases hq : ¬ y < x
  · exact zS.go (fun p e R s m args below meth c H locs ls Qw C hR hc1 hc2 hL kk => lv_icmp_le C.1 C.2.1 hd ht (fun _ => kk ls hL) (fun h => absurd (Int32.not_le.mp h) hq)) (kt hq)
  · exact zS.go (fun p e R s m args below meth c H locs ls Qw C hR hc1 hc2 hL kk => lv_icmp_le C.1 C.2.1 hd ht (fun h => absurd (Int32.not_lt.mpr h) hq) (fun _ => kk ls hL)) (kf (Decidable.not_not.mp hq))
theorem z_if_le {x : Int32} {off : Int} {tgt : Nat} (hd : decode mi.2.1 pc = .ok (.ifCond .le off, 3)) (ht : (pc : Int) + off = (tgt : Int)) (kt : ¬ 0 < x → zS l d D b0 mi cs ns tgt L st g f Q) (kf : 0 < x → zS l d D b0 mi cs ns (pc + 3) L st g f Q) : zS l d D b0 mi cs ns pc L (.int x :: st) g f Q := by
  by_cases hq : ¬ 0 < x
  · exact zS.go (fun p e R s m args below meth c H locs ls Qw C hR hc1 hc2 hL kk => lv_if_le C.1 C.2.1 hd ht (fun _ => kk ls hL) (fun h => absurd (Int32.not_le.mp h) hq)) (kt hq)
  · exact zS.go (fun p e R s m args below meth c H locs ls Qw C hR hc1 hc2 hL kk => lv_if_le C.1 C.2.1 hd ht (fun h => absurd (Int32.not_lt.mpr h) hq) (fun _ => kk ls hL)) (kf (Decidable.not_not.mp hq))
theorem z_goto {off : Int} {tgt : Nat} (hd : decode mi.2.1 pc = .ok (.goto off, 3)) (ht : (pc : Int) + off = (tgt : Int)) (k : zS l d D b0 mi cs ns tgt L st g f Q) : zS l d D b0 mi cs ns pc L st g f Q :=
  zS.go (fun p e R s m args below meth c H locs ls Qw C hR hc1 hc2 hL kk => lv_goto C.1 C.2.1 hd ht (kk ls hL)) k
theorem z_ifnull {r : Option Nat} {off : Int} {tgt : Nat} (hd : decode mi.2.1 pc = .ok (.ifnull off, 3)) (ht : (pc : Int) + off = (tgt : Int)) (kt : r = none → zS l d D b0 mi cs ns tgt L st g f Q) (kf : ∀ a, r = some a → zS l d D b0 mi cs ns (pc + 3) L st g f Q) : zS l d D b0 mi cs ns pc L (va_rf r :: st) g f Q := by
  cases r with
  | none => exact zS.go (fun p e R s m args below meth c H locs ls Qw C hR hc1 hc2 hL kk => lv_ifnullN C.1 C.2.1 hd ht (kk ls hL)) (kt rfl)
  | some a => exact zS.go (fun p e R s m args below meth c H locs ls Qw C hR hc1 hc2 hL kk => lv_ifnull C.1 C.2.1 hd (kk ls hL)) (kf a rfl)
theorem z_ifnonnull {r : Option Nat} {off : Int} {tgt : Nat} (hd : decode mi.2.1 pc = .ok (.ifnonnull off, 3)) (ht : (pc : Int) + off = (tgt : Int)) (kt : ∀ a, r = some a → zS l d D b0 mi cs ns tgt L st g f Q) (kf : r = none → zS l d D b0 mi cs ns (pc + 3) L st g f Q) : zS l d D b0 mi cs ns pc L (va_rf r :: st) g f Q := by
  cases r with
  | none => exact zS.go (fun p e R s m args below meth c H locs ls Qw C hR hc1 hc2 hL kk => lv_ifnonnullN C.1 C.2.1 hd (kk ls hL)) (kf rfl)
  | some a => exact zS.go (fun p e R s m args below meth c H locs ls Qw C hR hc1 hc2 hL kk => lv_ifnonnull C.1 C.2.1 hd ht (kk ls hL)) (kt a rfl)
/-- the targets of a lookupswitch, a case each -/
def zlook (K : Nat → Prop) (pc : Nat) (dflt : Int) (x : Int32) : List (Int × Int) → Prop
  | [] => K ((pc : Int) + dflt).toNat
  | (k, o) :: r => (x = Int32.ofInt k → K ((pc : Int) + o).toNat) ∧ (¬ x = Int32.ofInt k → zlook K pc dflt x r)
def zlookok (pc : Nat) (dflt : Int) (ps : List (Int × Int)) : Bool := decide (0 ≤ (pc : Int) + dflt) && ps.all fun q => decide (0 ≤ (pc : Int) + q.2) && decide ((Int32.ofInt q.1).toInt = q.1)
theorem zlook_spec {K : Nat → Prop} {pc : Nat} {dflt : Int} {x : Int32} : ∀ {ps : List (Int × Int)}, zlookok pc dflt ps = true → zlook K pc dflt x ps → ∃ tgt : Nat, (pc : Int) + Op.lookupswitch.offset ps dflt x.toInt = (tgt : Int) ∧ K tgt := by
  intro ps
  induction ps with
  | nil =>
    intro h k
    simp only [zlookok, Bool.and_eq_true, decide_eq_true_eq] at h
    exact ⟨_, by simp only [Op.lookupswitch.offset]; exact (Int.toNat_of_nonneg h.1).symm, k⟩
  | cons q r ih =>
    obtain ⟨a, o⟩ := q
    intro h k
    simp only [zlookok, Bool.and_eq_true, decide_eq_true_eq, List.all_cons] at h
    obtain ⟨h0, ⟨h1, h2⟩, h3⟩ := h
    by_cases hx : x = Int32.ofInt a
    · refine ⟨_, ?_, k.1 hx⟩
      have e : x.toInt = a := by rw [hx]; exact h2
      rw [Op.lookupswitch.offset_cons, e, if_pos rfl]
      exact (Int.toNat_of_nonneg h1).symm
    · obtain ⟨tgt, e1, e2⟩ := ih (by simp only [zlookok, Bool.and_eq_true, decide_eq_true_eq]; exact ⟨h0, h3⟩) (k.2 hx)
      refine ⟨tgt, ?_, e2⟩
      have e : ¬ x.toInt = a := fun q => hx (Int32.toInt_inj.mp (by rw [h2]; exact q))
      rw [← e1, Op.lookupswitch.offset_cons, if_neg (fun q => e q.symm)]
theorem z_look {x : Int32} {dflt : Int} {ps : Array (Int × Int)} {len : Nat} (hd : decode mi.2.1 pc = .ok (.lookupswitch dflt ps, len)) (hp : (ps.toList.zip (ps.toList.drop 1)).all (fun (a, next) => a.1 < next.1) = true) (hk : zlookok pc dflt ps.toList = true)
    (k : zlook (fun tgt => zS l d D b0 mi cs ns tgt L st g f Q) pc dflt x ps.toList) : zS l d D b0 mi cs ns pc L (.int x :: st) g f Q := by
  obtain ⟨tgt, e1, e2⟩ := zlook_spec hk k
  exact zS.go (fun p e R s m args below meth c H locs ls Qw C hR hc1 hc2 hL kk => lv_lookup C.1 C.2.1 hd hp rfl e1 (kk ls hL)) e2
def ztab (K : Nat → Prop) (pc : Nat) (dflt : Int) (x : Int32) : Int → List Int → Prop
  | _, [] => K ((pc : Int) + dflt).toNat
  | lo, o :: r => (x = Int32.ofInt lo → K ((pc : Int) + o).toNat) ∧ (¬ x = Int32.ofInt lo → ztab K pc dflt x (lo + 1) r)
def ztabok (pc : Nat) (dflt : Int) : Int → List Int → Bool
  | _, [] => decide (0 ≤ (pc : Int) + dflt)
  | lo, o :: r => decide (0 ≤ (pc : Int) + o) && decide ((Int32.ofInt lo).toInt = lo) && ztabok pc dflt (lo + 1) r
theorem ztab_spec {K : Nat → Prop} {pc : Nat} {dflt : Int} {x : Int32} : ∀ {os : List Int} {lo : Int}, ztabok pc dflt lo os = true → ztab K pc dflt x lo os → (∃ (j : Nat) (o : Int) (tgt : Nat), x.toInt = lo + j ∧ os[j]? = some o ∧ (pc : Int) + o = (tgt : Int) ∧ K tgt) ∨ ((∀ j : Nat, j < os.length → ¬ x.toInt = lo + j) ∧ ∃ tgt : Nat, (pc : Int) + dflt = (tgt : Int) ∧ K tgt) := by
  intro os
  induction os with
  | nil =>
    intro lo h k
    simp only [ztabok, decide_eq_true_eq] at h
    exact Or.inr ⟨fun j hj => absurd hj (Nat.not_lt_zero j), _, (Int.toNat_of_nonneg h).symm, k⟩
  | cons o r ih =>
    intro lo h k
    simp only [ztabok, Bool.and_eq_true, decide_eq_true_eq] at h
    obtain ⟨⟨h1, h2⟩, h3⟩ := h
    by_cases hx : x = Int32.ofInt lo
    · exact Or.inl ⟨0, o, _, by rw [hx, h2]; simp, rfl, (Int.toNat_of_nonneg h1).symm, k.1 hx⟩
    · have e : ¬ x.toInt = lo := fun q => hx (Int32.toInt_inj.mp (by rw [h2]; exact q))
      rcases ih h3 (k.2 hx) with ⟨j, o', tgt, g1, g2, g3, g4⟩ | ⟨g1, tgt, g2, g3⟩
      · exact Or.inl ⟨j + 1, o', tgt, by omega, by simpa using g2, g3, g4⟩
      · refine Or.inr ⟨fun j hj => ?_, tgt, g2, g3⟩
        cases j with
        | zero => simpa using e
        | succ j => have := g1 j (by simpa using hj); omega
theorem z_tab {x : Int32} {dflt lo hi : Int} {offs : Array Int} {len : Nat} (hd : decode mi.2.1 pc = .ok (.tableswitch dflt lo hi offs, len)) (hn : hi = lo + offs.toList.length - 1) (hk : ztabok pc dflt lo offs.toList = true)
    (k : ztab (fun tgt => zS l d D b0 mi cs ns tgt L st g f Q) pc dflt x lo offs.toList) : zS l d D b0 mi cs ns pc L (.int x :: st) g f Q := by
  rcases ztab_spec hk k with ⟨j, o, tgt, g1, g2, g3, g4⟩ | ⟨g1, tgt, g2, g3⟩
  · have hj := (List.getElem?_eq_some_iff.mp g2).1
    refine zS.go (fun p e R s m args below meth c H locs ls Qw C hR hc1 hc2 hL kk => lv_tableIn C.1 C.2.1 hd (by omega) (by omega) ?_ g3 (kk ls hL)) g4
    rw [show (x.toInt - lo).toNat = j by omega, ← Array.getElem?_toList]
    exact g2
  · refine zS.go (fun p e R s m args below meth c H locs ls Qw C hR hc1 hc2 hL kk => lv_tableOut C.1 C.2.1 hd ?_ g2 (kk ls hL)) g3
    by_cases h1 : x.toInt < lo
    · exact Or.inl h1
    · right
      by_cases h2 : hi < x.toInt
      · exact h2
      · have := g1 (x.toInt - lo).toNat (by omega)
        omega
end ZROW
