/-! The law's own rows: the heap as with the methods', the script below it. -/
def LF : Type := Program × Launch × Env × State × MethodId × (List Frame) × Method × Code × zD × Nat × Nat × (Nat → Int32) × (State → Prop)
abbrev LF.p (F : LF) : Program := F.1
abbrev LF.l (F : LF) : Launch := F.2.1
abbrev LF.e (F : LF) : Env := F.2.2.1
abbrev LF.s (F : LF) : State := F.2.2.2.1
abbrev LF.m (F : LF) : MethodId := F.2.2.2.2.1
abbrev LF.below (F : LF) : List Frame := F.2.2.2.2.2.1
abbrev LF.meth (F : LF) : Method := F.2.2.2.2.2.2.1
abbrev LF.c (F : LF) : Code := F.2.2.2.2.2.2.2.1
abbrev LF.D (F : LF) : zD := F.2.2.2.2.2.2.2.2.1
abbrev LF.b (F : LF) : Nat := F.2.2.2.2.2.2.2.2.2.1
abbrev LF.N (F : LF) : Nat := F.2.2.2.2.2.2.2.2.2.2.1
abbrev LF.xs (F : LF) : Nat → Int32 := F.2.2.2.2.2.2.2.2.2.2.2.1
abbrev LF.Z (F : LF) : State → Prop := F.2.2.2.2.2.2.2.2.2.2.2.2
def LX (F : LF) : Prop := (F.p.tables.exec = Jvm.exec ∧ F.c.code = code ∧ F.c.maxLocals = 4 ∧ F.s.vm.findClass RL = some F.m.cls ∧ ∀ w ∈ zTbl, w.before #[Value.ref F.b] F.s = true) ∧ zK F.D F.s ∧ va_X F.b F.N F.xs F.s F.s.heap ∧ F.b < F.s.heap.size ∧ F.N ≤ 2048
def LW (F : LF) (cs ns pc : Nat) (L : List (Option Value)) (st : List Value) (g : zG) (f : zI) : Prop := ∀ (H : Heap) (locs : List Loc) (ls : Array Slot), zL ls L → zR F.D F.s.heap.size g f H → zF F.s.heap.size F.s.heap H locs → W F.p F.l F.e room_1 F.s F.m #[Value.ref F.b] F.below F.meth F.c H locs cs ns F.Z (F0 F.m pc ls st)
section LROW
variable {F : LF} {cs ns pc : Nat} {L : List (Option Value)} {st rest : List Value} {g : zG} {f : zI}
theorem LW.widen {cs' ns' : Nat} (h1 : cs ≤ cs') (h2 : ns ≤ ns') (k : LW F cs' ns' pc L st g f) : LW F cs ns pc L st g f := fun H locs ls hL hR hF => W.widen h1 h2 (k H locs ls hL hR hF)
theorem L_iconst {n : Int} {v : Int32} (X : LX F) (hd : decode code pc = .ok (.iconst n, 1)) (hv : Int32.ofInt n = v) (k : LW F cs ns (pc + 1) L (.int v :: st) g f) : LW F cs ns pc L st g f := fun H locs ls hL hR hF => lv_iconst X.1.1 X.1.2.1 hd hv (k H locs ls hL hR hF)
theorem L_bipush {n : Int} {v : Int32} (X : LX F) (hd : decode code pc = .ok (.bipush n, 2)) (hv : (Int8.ofInt n).toInt32 = v) (k : LW F cs ns (pc + 2) L (.int v :: st) g f) : LW F cs ns pc L st g f := fun H locs ls hL hR hF => lv_bipush X.1.1 X.1.2.1 hd hv (k H locs ls hL hR hF)
theorem L_iadd {x y : Int32} (X : LX F) (hd : decode code pc = .ok (.iadd, 1)) (k : LW F cs ns (pc + 1) L (.int (x + y) :: st) g f) : LW F cs ns pc L (.int y :: .int x :: st) g f := fun H locs ls hL hR hF => lv_iadd X.1.1 X.1.2.1 hd (k H locs ls hL hR hF)
theorem L_isub {x y : Int32} (X : LX F) (hd : decode code pc = .ok (.isub, 1)) (k : LW F cs ns (pc + 1) L (.int (x - y) :: st) g f) : LW F cs ns pc L (.int y :: .int x :: st) g f := fun H locs ls hL hR hF => lv_isub X.1.1 X.1.2.1 hd (k H locs ls hL hR hF)
theorem L_iand {x y : Int32} (X : LX F) (hd : decode code pc = .ok (.iand, 1)) (k : LW F cs ns (pc + 1) L (.int (x &&& y) :: st) g f) : LW F cs ns pc L (.int y :: .int x :: st) g f := fun H locs ls hL hR hF => lv_iand X.1.1 X.1.2.1 hd (k H locs ls hL hR hF)
theorem L_dup {a : Nat} (X : LX F) (hd : decode code pc = .ok (.dup, 1)) (k : LW F cs ns (pc + 1) L (.ref a :: .ref a :: st) g f) : LW F cs ns pc L (.ref a :: st) g f := fun H locs ls hL hR hF => lv_dup X.1.1 X.1.2.1 hd rfl (k H locs ls hL hR hF)
theorem L_aload {i : Nat} {q : Fin 4} {x : Nat} (X : LX F) (hd : decode code pc = .ok (.aload_n q, 1)) (hi : (q : Nat) = i) (hx : L[i]? = some (some (.ref x))) (k : LW F cs ns (pc + 1) L (.ref x :: st) g f) : LW F cs ns pc L st g f := fun H locs ls hL hR hF => lv_aload_n X.1.1 X.1.2.1 hd hi (hL.at_ hx) (k H locs ls hL hR hF)
theorem L_iload {i : Nat} {q : Fin 4} {x : Int32} (X : LX F) (hd : decode code pc = .ok (.iload_n q, 1)) (hi : (q : Nat) = i) (hx : L[i]? = some (some (.int x))) (k : LW F cs ns (pc + 1) L (.int x :: st) g f) : LW F cs ns pc L st g f := fun H locs ls hL hR hF => lv_iload_n X.1.1 X.1.2.1 hd hi (hL.at_ hx) (k H locs ls hL hR hF)
theorem L_astore {i : Nat} {q : Fin 4} {x : Nat} (X : LX F) (hd : decode code pc = .ok (.astore_n q, 1)) (hi : (q : Nat) = i) (hn : i < L.length) (k : LW F cs ns (pc + 1) (L.set i (some (.ref x))) st g f) : LW F cs ns pc L (.ref x :: st) g f := fun H locs ls hL hR hF => lv_astore_n X.1.1 X.1.2.1 hd hi hL.lv hn rfl (fun ls' h' => k H locs ls' (hL.put hn rfl h') hR hF)
theorem L_istore {i : Nat} {q : Fin 4} {x : Int32} (X : LX F) (hd : decode code pc = .ok (.istore_n q, 1)) (hi : (q : Nat) = i) (hn : i < L.length) (k : LW F cs ns (pc + 1) (L.set i (some (.int x))) st g f) : LW F cs ns pc L (.int x :: st) g f := fun H locs ls hL hR hF => lv_istore_n X.1.1 X.1.2.1 hd hi hL.lv hn rfl (fun ls' h' => k H locs ls' (hL.put hn rfl h') hR hF)
theorem L_iinc {i : Nat} {x y : Int32} {n : Int} (X : LX F) (hd : decode code pc = .ok (.iinc i n, 3)) (hx : L[i]? = some (some (.int x))) (hy : x + Int32.ofInt n = y) (k : LW F cs ns (pc + 3) (L.set i (some (.int y))) st g f) : LW F cs ns pc L st g f := fun H locs ls hL hR hF => by
  obtain ⟨j, hj⟩ := List.getElem?_of_mem (zpr_of hx)
  have hn := (List.getElem?_eq_some_iff.mp hx).1
  exact lv_iinc X.1.1 X.1.2.1 hd hL.lv hj hy hn rfl (fun ls' h' => k H locs ls' (hL.put hn rfl h') hR hF)
theorem L_goto {off : Int} {tgt : Nat} (X : LX F) (hd : decode code pc = .ok (.goto off, 3)) (ht : (pc : Int) + off = (tgt : Int)) (k : LW F cs ns tgt L st g f) : LW F cs ns pc L st g f := fun H locs ls hL hR hF => lv_goto X.1.1 X.1.2.1 hd ht (k H locs ls hL hR hF)
theorem L_icmp_gt {x y : Int32} {off : Int} {tgt : Nat} (X : LX F) (hd : decode code pc = .ok (.if_icmp .gt off, 3)) (ht : (pc : Int) + off = (tgt : Int)) (kt : y < x → LW F cs ns tgt L st g f) (kf : ¬ y < x → LW F cs ns (pc + 3) L st g f) : LW F cs ns pc L (.int y :: .int x :: st) g f := fun H locs ls hL hR hF => lv_icmp_gt X.1.1 X.1.2.1 hd ht (fun h => kt h H locs ls hL hR hF) (fun h => kf h H locs ls hL hR hF)
theorem L_icmp_eq {x : Int32} {off : Int} {tgt : Nat} (X : LX F) (hd : decode code pc = .ok (.if_icmp .eq off, 3)) (ht : (pc : Int) + off = (tgt : Int)) (kt : LW F cs ns tgt L st g f) : LW F cs ns pc L (.int x :: .int x :: st) g f := fun H locs ls hL hR hF => lv_icmp_eq X.1.1 X.1.2.1 hd ht (fun _ => kt H locs ls hL hR hF) (fun h => absurd rfl h)
theorem L_tab {x : Int32} {dflt lo hi : Int} {offs : Array Int} {len : Nat} (X : LX F) (hd : decode code pc = .ok (.tableswitch dflt lo hi offs, len)) (hn : hi = lo + offs.toList.length - 1) (hk : ztabok pc dflt lo offs.toList = true)
    (k : ztab (fun tgt => LW F cs ns tgt L st g f) pc dflt x lo offs.toList) : LW F cs ns pc L (.int x :: st) g f := fun H locs ls hL hR hF => by
  rcases ztab_spec hk k with ⟨j, o, tgt, g1, g2, g3, g4⟩ | ⟨g1, tgt, g2, g3⟩
  · have hj := (List.getElem?_eq_some_iff.mp g2).1
    refine lv_tableIn X.1.1 X.1.2.1 hd (by omega) (by omega) ?_ g3 (g4 H locs ls hL hR hF)
    rw [show (x.toInt - lo).toNat = j by omega, ← Array.getElem?_toList]
    exact g2
  · refine lv_tableOut X.1.1 X.1.2.1 hd ?_ g2 (g3 H locs ls hL hR hF)
    by_cases h1 : x.toInt < lo
    · exact Or.inl h1
    · right
      by_cases h2 : hi < x.toInt
      · exact h2
      · have := g1 (x.toInt - lo).toNat (by omega)
        omega
/-- the script -/
theorem L_sld {j : Nat} {i : Int32} (X : LX F) (hi : i = nI j) (hj : j < F.N) (hd : decode code pc = .ok (.iaload, 1)) (k : LW F cs ns (pc + 1) L (.int (F.xs j) :: st) g f) : LW F cs ns pc L (.int i :: .ref F.b :: st) g f := fun H locs ls hL hR hF => by
  obtain ⟨scr, h1, h2, h3, h4, h5⟩ := X.2.2.1
  have hN := X.2.2.2.2
  have hc : i.toNatClampNeg = j := by rw [hi]; exact nI_clamp (by omega)
  refine W.iald (v := .int (F.xs j)) X.1.1 X.1.2.1 (by rw [hF.1 _ X.2.2.2.1]; exact h1) h2 h3 ?_ (by rw [hc]; exact h5 j hj) rfl rfl hd (k H locs ls hL hR hF)
  rw [h4, hc, hi]
  intro q
  rcases q with q | q
  · exact absurd q (Int32.not_lt.mpr (nI_le (a := 0) (Nat.zero_le _) (by omega)))
  · omega
theorem L_slen (X : LX F) (hd : decode code pc = .ok (.arraylength, 1)) (k : LW F cs ns (pc + 1) L (.int (nI F.N) :: st) g f) : LW F cs ns pc L (.ref F.b :: st) g f := fun H locs ls hL hR hF => by
  obtain ⟨scr, h1, h2, h3, h4, h5⟩ := X.2.2.1
  exact W.alen (n := nI F.N) X.1.1 X.1.2.1 (by rw [hF.1 _ X.2.2.2.1]; exact h1) h2 (by rw [h4]; rfl) rfl rfl hd (k H locs ls hL hR hF)
theorem L_new {idx ci n : Nat} {C0 : String} {T : u_T} (X : LX F) (hcl : zCls ci C0 T n) (h1 : Cond.classLink RL idx C0 ∈ zTbl) (h2 : Cond.instantiable C0 n ∈ zTbl) (h3 : Cond.initialized C0 ∈ zTbl) (hc : cs + 1 ≤ 175071) (hs : ns + n ≤ 8577036) (hd : decode code pc = .ok (.new idx, 3)) (kk : LW F (cs + 1) (ns + n) (pc + 3) L (.ref g.1 :: st) (znG g ci 0) (znI g f)) : LW F cs ns pc L st g f := fun H locs ls hL hR hF => by
  obtain ⟨hq, hci, hN, hin, ty0, hty, hnm, hdef⟩ := hcl
  have hKn := X.2.1.1.1 ci _ hq
  refine W.newcK X.1.1 X.1.2.1 X.1.2.2.2.1 (X.1.2.2.2.2 _ h1) (X.1.2.2.2.2 _ h2) (X.1.2.2.2.2 _ h3) rfl hd hc hs hKn.2.1 (h := g.1) hR.2.1 fun H1 kC hkC e1 z1 o1 => ?_
  have o2 : ∀ q, q < H.size → H1[q]? = H[q]? := fun q hq => o1 q (by rw [← hR.2.1]; exact hq)
  refine kk H1 locs ls hL (hR.new (by rw [z1, hR.2.1]) o2 ?_) (hF.new o2 hR.1)
  simp only [zE, znG, znI, zu1_at]
  rw [if_pos hci]
  exact ⟨_, hq, (u_born ty0 X.1.2.2.2.2 hin hKn hkC e1 hty).to hdef⟩
theorem L_call {d' : Nat} {mi' : zMI} {av : List Value} {Q' : zP} (hM : zM F.l d' F.D F.s.heap.size mi' av g f Q')
    (h : ∀ (r : Option Value) (g' : zG) (f' : zI) (mc ms : Nat), Q' r g' f' mc ms → zMet F.l d' F.D F.s.heap.size mi' av g f r g' f' mc ms → ∀ (H : Heap) (locs : List Loc) (ls : Array Slot), zL ls L → zR F.D F.s.heap.size g f H → va_Run F.p F.l F.e room_1 F.s F.m #[Value.ref F.b] F.below F.meth F.c H locs cs ns mc ms (F0 F.m pc ls st) rest (zQc F.D F.s.heap.size r g' f' av.toArray) (fun q => F.s.heap.size ≤ q))
    (kk : ∀ (r : Option Value) (g' : zG) (f' : zI) (mc ms : Nat), Q' r g' f' mc ms → LW F (cs + mc) (ns + ms) (pc + 3) L (r.toList ++ rest) g' f') : LW F cs ns pc L st g f := fun H locs ls hL hR hF => by
  obtain ⟨r, g', f', mc, ms, hQ', hM'⟩ := hM
  intro T hT X
  obtain ⟨v, st₀, t, T', Lc, h0, X', hLc, e1, e2, ⟨hv, hR1, hk⟩, stp⟩ := h r g' f' mc ms hQ' hM' H locs ls hL hR T hT X
  cases hv
  rw [h0] at hk
  obtain ⟨t2, a1, b1⟩ := kk r g' f' mc ms hQ' T'.heap (locs ++ Lc) ls hL (by rw [e1]; exact hR1) ⟨fun q hq => by rw [e1]; exact (hk q hq).trans (hF.1 q hq), fun q hq => by
      rcases List.mem_append.mp hq with h | h
      · exact hF.2 q h
      · exact hLc q h⟩ T' rfl X'
  exact ⟨t2, stp t2 a1, b1⟩
theorem L_callV {idx n d' ci a : Nat} {mi' : zMI} {As : List Value} {Q' : zP} (X : LX F) (hm : zMd mi' n) (hcl : vwCl[ci]?.map (fun q => q.1) = some mi'.1.cls) (hci : ci < 13) (hl : Cond.methodLink RL idx mi'.1 ∈ zTbl) (hin : Cond.instanceMethod mi'.1 ∈ zTbl) (hse : Cond.selects mi'.1.cls mi'.1 mi'.1 ∈ zTbl) (hM : zM F.l d' F.D F.s.heap.size mi' (.ref a :: As) g f Q') (ha : zIn F.s.heap.size g a ci) (hst : st = As.reverse ++ .ref a :: rest) (hn : As.length = n) (hd' : d' ≤ 10) (hml : L.length = 4) (hd : decode code pc = .ok (.invokevirtual idx, 3))
    (hb : ∀ (r : Option Value) (g' : zG) (f' : zI) (mc ms : Nat), Q' r g' f' mc ms → cs + mc ≤ 175071 ∧ ns + ms ≤ 8577036)
    (kk : ∀ (r : Option Value) (g' : zG) (f' : zI) (mc ms : Nat), Q' r g' f' mc ms → LW F (cs + mc) (ns + ms) (pc + 3) L (r.toList ++ rest) g' f') (hr : (rest.map fun v => v.category).sum ≤ 8 := by exact Nat.le_of_ble_eq_true rfl) : LW F cs ns pc L st g f := by
  refine L_call hM (fun r g' f' mc ms hQ hM' H locs ls hL hH => ?_) kk
  have hrec : ∃ cellB : Cell, H[a]? = some cellB ∧ cellB.vm.isStatics = false ∧ F.s.vm.findClass mi'.1.cls = some cellB.cls := by
    cases hq : vwCl[ci]? with
    | none => rw [hq] at hcl; cases hcl
    | some q =>
      rw [hq] at hcl
      have e : q.1 = mi'.1.cls := Option.some.inj hcl
      rw [← e]
      exact va_recv X.2.1.1 (hH.at_obj ha hci).one hq (q0 := 0) rfl
  refine va_runV (ws := zws mi') ⟨X.1.1, X.1.2.1, X.1.2.2.1, X.1.2.2.2.1, X.1.2.2.2.2⟩ hM' (cwV (ws' := zTbl) n X.1.2.2.2.2 ?_ rfl rfl rfl ⟨rfl, hm.2.2.1.1, hm.2.2.1.2, hm.2.2.2.1⟩ ⟨by show d' + 1 ≤ 11; omega, by have := hm.2.2.2.2.1; show 8 + (mi'.2.2.1 + 11) + 30 * d' ≤ 404; omega⟩) ⟨zblind F.D F.s.heap.size _ g f, hrec, (zpre hH X.2.1).2⟩ rfl hn (hL.1.trans hml) hst (lv_room hr) hd (hb r g' f' mc ms hQ)
  intro w hw
  rcases List.mem_append.mp hw with h | h
  · simp only [List.mem_cons, List.not_mem_nil, or_false] at h
    rcases h with rfl | rfl | rfl | rfl
    · exact ⟨hl, zgood _ hl⟩
    · exact ⟨hin, zgood _ hin⟩
    · exact ⟨hse, zgood _ hse⟩
    · exact ⟨hm.2.1, zgood _ hm.2.1⟩
  · exact zgoodIn hm.1 w h
theorem L_callI {idx n d' a : Nat} {mi' : zMI} {As : List Value} {Q' : zP} (X : LX F) (hm : zMd mi' n) (hret : mi'.2.2.2 = none) (hni : mi'.1.name = "<init>") (hl : Cond.methodLink RL idx mi'.1 ∈ zTbl) (hin : Cond.instanceMethod mi'.1 ∈ zTbl) (hM : zM F.l d' F.D F.s.heap.size mi' (.ref a :: As) g f Q') (hst : st = As.reverse ++ .ref a :: rest) (hn : As.length = n) (hd' : d' ≤ 10) (hml : L.length = 4) (hd : decode code pc = .ok (.invokespecial idx, 3))
    (hb : ∀ (r : Option Value) (g' : zG) (f' : zI) (mc ms : Nat), Q' r g' f' mc ms → cs + mc ≤ 175071 ∧ ns + ms ≤ 8577036)
    (kk : ∀ (r : Option Value) (g' : zG) (f' : zI) (mc ms : Nat), Q' r g' f' mc ms → LW F (cs + mc) (ns + ms) (pc + 3) L (r.toList ++ rest) g' f') (hr : (rest.map fun v => v.category).sum ≤ 8 := by exact Nat.le_of_ble_eq_true rfl) : LW F cs ns pc L st g f := by
  refine L_call hM (fun r g' f' mc ms hQ hM' H locs ls hL hH => ?_) kk
  have hM2 : Met F.l mi'.1 (Cond.code mi'.1 mi'.2.1 mi'.2.2.1 none :: zTbl) (zrm d' mc ms) (zPc F.D F.s.heap.size (.ref a :: As) g f) (zQc F.D F.s.heap.size r g' f') mc ms (fun q => F.s.heap.size ≤ q) := by rw [← hret]; exact hM'
  exact va_runI (ws := Cond.code mi'.1 mi'.2.1 mi'.2.2.1 none :: zTbl) ⟨X.1.1, X.1.2.1, X.1.2.2.1, X.1.2.2.2.1, X.1.2.2.2.2⟩ hM2 (cwI (ws' := zTbl) n X.1.2.2.2.2 (by rw [← hret]; exact zgoodIn hm.1) rfl rfl rfl (X.1.2.2.2.2 _ hm.2.1) (X.1.2.2.2.2 _ hl) (X.1.2.2.2.2 _ hin) hni ⟨hm.2.2.1.1, hm.2.2.1.2, hm.2.2.2.1⟩ ⟨by show d' + 1 ≤ 11; omega, by have := hm.2.2.2.2.1; show 8 + (mi'.2.2.1 + 11) + 30 * d' ≤ 404; omega⟩) (zpre hH X.2.1) rfl hn (hL.1.trans hml) hst (lv_room hr) hd (hb r g' f' mc ms hQ)
end LROW
