def zup {α : Type} (f : Nat → Nat → α) (a k : Nat) (v : α) : Nat → Nat → α := fun b j => if b = a then (if j = k then v else f b j) else f b j
def zu1 {α : Type} (f : Nat → α) (a : Nat) (v : α) : Nat → α := fun b => if b = a then v else f b
theorem zup_at {α : Type} (f : Nat → Nat → α) (a k : Nat) (v : α) : zup f a k v a k = v := by simp [zup]
theorem zup_ne {α : Type} (f : Nat → Nat → α) (a k : Nat) (v : α) {b j : Nat} (h : b ≠ a ∨ j ≠ k) : zup f a k v b j = f b j := by
  unfold zup
  by_cases hb : b = a
  · rw [if_pos hb, if_neg (by rcases h with h | h; exact absurd hb h; exact h)]
  · rw [if_neg hb]
theorem zu1_at {α : Type} (f : Nat → α) (a : Nat) (v : α) : zu1 f a v a = v := by simp [zu1]
theorem zu1_ne {α : Type} (f : Nat → α) (a : Nat) (v : α) {b : Nat} (h : b ≠ a) : zu1 f a v b = f b := by simp [zu1, h]
def zIn (b0 : Nat) (g : zG) (a t : Nat) : Prop := b0 ≤ a ∧ a < g.1 ∧ g.2.1 a = t
def zpR (g : zG) (a k : Nat) (v : Option Nat) : zG := (g.1, g.2.1, g.2.2.1, zup g.2.2.2 a k v)
def znG (g : zG) (t n : Nat) : zG := (g.1 + 1, zu1 g.2.1 g.1 t, zu1 g.2.2.1 g.1 n, zu1 g.2.2.2 g.1 (fun _ => none))
def znI (g : zG) (f : zI) : zI := zu1 f g.1 (fun _ => 0)
/-- what is known of a class and its fields -/
def zCls (ci : Nat) (C : String) (T : u_T) (N : Nat) : Prop := vwCl[ci]? = some (C, T, N) ∧ ci < 13 ∧ znf ci = N ∧ (∀ w ∈ u_ws C T N, w ∈ zTbl) ∧ ∃ ty0 : Nat → FieldType, (∀ k, k < N → parseFieldDescriptor (T k).2.2.1 = some (ty0 k)) ∧ (∀ a, a < N → ∀ b, b < N → a ≠ b → (T a).2.1 ≠ (T b).2.1) ∧ ∀ j, j < N → defaultValue (ty0 j) = vp_V (zfs ci (fun _ => none) (fun _ => 0)) j
def zFl (own : String) (idx ci k : Nat) (ty : FieldType) (fin : Bool) (t : Nat) : Prop := ∃ (C : String) (T : u_T) (N : Nat), zCls ci C T N ∧ k < N ∧ Cond.fieldLink own idx C (T k).2.1 (T k).2.2.1 ∈ zTbl ∧ (T k).1 = C ∧ parseFieldDescriptor (T k).2.2.1 = some ty ∧ (T k).2.2.2 = fin ∧ zty ci k = t ∧ (fin = true → C = own ∨ True)
theorem zfs_at {t k : Nat} {R : Nat → Option Nat} {f : Nat → Int32} (h : k < znf t) : (zfs t R f)[k]? = some (zval t R f k) := by simp [zfs, h]
theorem zfs_V {t k : Nat} {R : Nat → Option Nat} {f : Nat → Int32} (h : k < znf t) : vp_V (zfs t R f) k = zval t R f k := by
  unfold vp_V
  rw [List.getD_eq_getElem?_getD, zfs_at h]
  rfl
theorem zR.at_obj {D : zD} {b0 : Nat} {g : zG} {f : zI} {H : Heap} {a ci : Nat} (hR : zR D b0 g f H) (ha : zIn b0 g a ci) (hci : ci < 13) : va_at D.1 vwCl (a, .inr (ci, zfs ci (g.2.2.2 a) (f a))) H := by
  have h := hR.2.2 a ha.1 ha.2.1
  unfold zE at h
  rw [ha.2.2, if_pos hci] at h
  exact h
theorem zR.at_int {D : zD} {b0 : Nat} {g : zG} {f : zI} {H : Heap} {a : Nat} (hR : zR D b0 g f H) (ha : zIn b0 g a 13) : H[a]? = some (vp_cell (D.2.1 0) (g.2.2.1 a, .inl (f a))) := by
  have h := hR.2.2 a ha.1 ha.2.1
  unfold zE at h
  rw [ha.2.2, if_neg (by decide), if_pos rfl] at h
  exact h
theorem zR.at_ref {D : zD} {b0 : Nat} {g : zG} {f : zI} {H : Heap} {a t : Nat} (hR : zR D b0 g f H) (ha : zIn b0 g a t) (h1 : 13 < t) : H[a]? = some (vp_cell (D.2.1 (t - 13)) (g.2.2.1 a, .inr (.inr (.inr (.inr (g.2.2.2 a)))))) := by
  have h := hR.2.2 a ha.1 ha.2.1
  unfold zE at h
  rw [ha.2.2, if_neg (by omega), if_neg (by omega)] at h
  exact h
theorem va_at.one {D : va_G} {cl : List vw_C} {q : Nat × va_E} {H : Heap} (h : va_at D cl q H) : va_P D cl [q] H := by
  intro k x hx
  have hk : k < 1 := (List.getElem?_eq_some_iff.mp hx).1
  rw [show k = 0 by omega] at hx
  cases hx
  exact h
/-- one cell is written anew -/
theorem zR.put {D : zD} {b0 : Nat} {g g' : zG} {f f' : zI} {H H1 : Heap} {a : Nat} (hR : zR D b0 g f H) (z : H1.size = H.size) (o : ∀ q, q ≠ a → H1[q]? = H[q]?) (h1 : g'.1 = g.1) (h2 : g'.2.1 = g.2.1) (h3 : g'.2.2.1 = g.2.2.1) (h4 : ∀ b, b ≠ a → g'.2.2.2 b = g.2.2.2 b) (h5 : ∀ b, b ≠ a → f' b = f b)
    (ha : va_at D.1 vwCl (a, zE D g' f' a) H1) : zR D b0 g' f' H1 := by
  refine ⟨by rw [z]; exact hR.1, by rw [z, h1]; exact hR.2.1, fun b hb1 hb2 => ?_⟩
  by_cases hba : b = a
  · rw [hba]; exact ha
  · have e : zE D g' f' b = zE D g f b := by unfold zE; rw [h2, h3, h4 b hba, h5 b hba]
    rw [e]
    exact (hR.2.2 b hb1 (by rw [← h1]; exact hb2)).kept (o b hba)
theorem zF.put {b0 : Nat} {H0 H H1 : Heap} {locs : List Loc} {a i : Nat} (h : zF b0 H0 H locs) (o : ∀ q, q ≠ a → H1[q]? = H[q]?) (ha : b0 ≤ a) : zF b0 H0 H1 (locs ++ [⟨a, i⟩]) := by
  refine ⟨fun q hq => (o q (by omega)).trans (h.1 q hq), fun x hx => ?_⟩
  rcases List.mem_append.mp hx with hx | hx
  · exact h.2 x hx
  · cases List.mem_singleton.mp hx; exact ha
/-- a cell is made -/
theorem zR.new {D : zD} {b0 : Nat} {g : zG} {f : zI} {H H1 : Heap} {t n : Nat} (hR : zR D b0 g f H) (z : H1.size = H.size + 1) (o : ∀ q, q < H.size → H1[q]? = H[q]?) (ha : va_at D.1 vwCl (g.1, zE D (znG g t n) (znI g f) g.1) H1) : zR D b0 (znG g t n) (znI g f) H1 := by
  refine ⟨by rw [z]; exact Nat.le_succ_of_le hR.1, by rw [z, hR.2.1]; rfl, fun b hb1 hb2 => ?_⟩
  have hb2 : b < g.1 + 1 := hb2
  by_cases hba : b = g.1
  · rw [hba]; exact ha
  · have e : zE D (znG g t n) (znI g f) b = zE D g f b := by simp only [zE, znG, znI, zu1_ne _ _ _ hba]
    rw [e]
    exact (hR.2.2 b hb1 (by omega)).kept (o b (by rw [hR.2.1]; omega))
theorem zF.new {b0 : Nat} {H0 H H1 : Heap} {locs : List Loc} (h : zF b0 H0 H locs) (o : ∀ q, q < H.size → H1[q]? = H[q]?) (hb : b0 ≤ H.size) : zF b0 H0 H1 locs :=
  ⟨fun q hq => (o q (by omega)).trans (h.1 q hq), h.2⟩
section ZHEAP
variable {l : Launch} {d : Nat} {D : zD} {b0 : Nat} {mi : zMI} {cs ns pc : Nat} {L : List (Option Value)} {st rest : List Value} {g : zG} {f : zI} {Q : Nat → Nat → zKT → Prop}
theorem zS.hp {cs' ns' pc' : Nat} {L' : List (Option Value)} {st' : List Value} {g' : zG} {f' : zI} (hcs : cs ≤ cs') (hns : ns ≤ ns')
    (h : ∀ (p : Program) (e : Env) (R : Room) (s : State) (m : MethodId) (args : Array Value) (below : List Frame) (meth : Method) (c : Code) (H : Heap) (locs : List Loc) (ls : Array Slot) (Qw : State → Prop), zCtx mi p s m args meth c → zK D b0 s → zRm d cs' ns' R → zL ls L → zR D b0 g f H → zF b0 s.heap H locs →
      (∀ (H1 : Heap) (locs1 : List Loc) (ls' : Array Slot), zL ls' L' → zR D b0 g' f' H1 → zF b0 s.heap H1 locs1 → W p l e R s m args below meth c H1 locs1 cs' ns' Qw (F0 m pc' ls' st')) → W p l e R s m args below meth c H locs cs ns Qw (F0 m pc ls st))
    (k : zS l d D b0 mi cs' ns' pc' L' st' g' f' Q) : zS l d D b0 mi cs ns pc L st g f Q := by
  obtain ⟨mc, ms, K, hQ, h1, h2, hT⟩ := k
  refine ⟨mc, ms, K, hQ, Nat.le_trans hcs h1, Nat.le_trans hns h2, fun p e R s m args below meth c H locs ls C hK hR hL hH hF => ?_⟩
  exact h p e R s m args below meth c H locs ls _ C hK ⟨hR.1, hR.2.1, Nat.le_trans h1 hR.2.2.1, Nat.le_trans h2 hR.2.2.2⟩ hL hH hF (fun H1 locs1 ls' hL' hH' hF' => hT p e R s m args below meth c H1 locs1 ls' C hK hR hL' hH' hF')
theorem z_get {idx ci k : Nat} {ty : FieldType} {fin : Bool} {t a : Nat} (hf : zFl mi.1.cls idx ci k ty fin t) (ha : zIn b0 g a ci) (hd : decode mi.2.1 pc = .ok (.getfield idx, 3)) (kk : zS l d D b0 mi cs ns (pc + 3) L (zval ci (g.2.2.2 a) (f a) k :: st) g f Q) : zS l d D b0 mi cs ns pc L (.ref a :: st) g f Q := by
  obtain ⟨C0, T, N, ⟨hc, hci, hN, hin, ty0, hty, hnm, -⟩, hk, hl, hT, -, -, -, -⟩ := hf
  refine zS.hp (Nat.le_refl _) (Nat.le_refl _) (fun p e R s m args below meth c H locs ls Qw C hK hR hL hH hF kk => ?_) kk
  refine va_get C.1 C.2.1 C.2.2.2.2.2.1 hin C.2.2.2.2.1 hK.1 (hH.at_obj ha hci).one 0 (fs := zfs ci (g.2.2.2 a) (f a)) rfl hc k hk (C.2.2.2.2.2.1 _ hl) (by rw [hT]; exact fun x h => h) (zfs_at (by rw [hN]; exact hk)) hd (kk H locs ls hL hH hF)
theorem z_getI {idx ci k : Nat} {ty : FieldType} {fin : Bool} {a : Nat} (hf : zFl mi.1.cls idx ci k ty fin 99) (ha : zIn b0 g a ci) (hd : decode mi.2.1 pc = .ok (.getfield idx, 3)) (kk : zS l d D b0 mi cs ns (pc + 3) L (.int (f a k) :: st) g f Q) : zS l d D b0 mi cs ns pc L (.ref a :: st) g f Q := by
  have ht : zty ci k = 99 := by obtain ⟨C0, T, N, -, -, -, -, -, -, ht, -⟩ := hf; exact ht
  refine z_get hf ha hd ?_
  unfold zval
  rw [if_pos ht]
  exact kk
theorem z_getR {idx ci k : Nat} {ty : FieldType} {fin : Bool} {t a : Nat} (hf : zFl mi.1.cls idx ci k ty fin t) (ht9 : t ≠ 99) (ha : zIn b0 g a ci) (hd : decode mi.2.1 pc = .ok (.getfield idx, 3)) (kk : zS l d D b0 mi cs ns (pc + 3) L (va_rf (g.2.2.2 a k) :: st) g f Q) : zS l d D b0 mi cs ns pc L (.ref a :: st) g f Q := by
  have ht : zty ci k = t := by obtain ⟨C0, T, N, -, -, -, -, -, -, ht, -⟩ := hf; exact ht
  refine z_get hf ha hd ?_
  unfold zval
  rw [if_neg (by rw [ht]; exact ht9)]
  exact kk
/-- a reference that is known -/
theorem z_getRs {idx ci k : Nat} {ty : FieldType} {fin : Bool} {t a b : Nat} (hf : zFl mi.1.cls idx ci k ty fin t) (ht9 : t ≠ 99) (ha : zIn b0 g a ci) (hb : g.2.2.2 a k = some b) (hd : decode mi.2.1 pc = .ok (.getfield idx, 3)) (kk : zS l d D b0 mi cs ns (pc + 3) L (.ref b :: st) g f Q) : zS l d D b0 mi cs ns pc L (.ref a :: st) g f Q := by
  refine z_getR hf ht9 ha hd ?_
  rw [hb]
  exact kk
theorem zput_val {t a k : Nat} {g' : zG} {f' : zI} {v : Value} (hk : k < znf t) (hv : zval t (g'.2.2.2 a) (f' a) k = v) (hR : ∀ j, j ≠ k → g'.2.2.2 a j = g.2.2.2 a j) (hf : ∀ j, j ≠ k → f' a j = f a j) : ∀ j, j < znf t → updV (vp_V (zfs t (g.2.2.2 a) (f a))) k v j = vp_V (zfs t (g'.2.2.2 a) (f' a)) j := by
  intro j hj
  rw [zfs_V hj]
  unfold updV
  by_cases h : j = k
  · rw [if_pos h, h, hv]
  · rw [if_neg h, zfs_V hj]
    unfold zval
    rw [hR j h, hf j h]
theorem z_put {idx ci k : Nat} {ty : FieldType} {t a : Nat} {v : Value} {g' : zG} {f' : zI} (hf : zFl mi.1.cls idx ci k ty false t) (ha : zIn b0 g a ci) (hn : narrow ty v = v) (hfit : fits ty v = true) (h1 : g'.1 = g.1) (h2 : g'.2.1 = g.2.1) (h3 : g'.2.2.1 = g.2.2.1)
    (h4 : ∀ b j, b ≠ a ∨ j ≠ k → g'.2.2.2 b j = g.2.2.2 b j) (h5 : ∀ b j, b ≠ a ∨ j ≠ k → f' b j = f b j) (hv : zval ci (g'.2.2.2 a) (f' a) k = v) (hd : decode mi.2.1 pc = .ok (.putfield idx, 3)) (kk : zS l d D b0 mi cs ns (pc + 3) L st g' f' Q) : zS l d D b0 mi cs ns pc L (v :: .ref a :: st) g f Q := by
  obtain ⟨C0, T, N, ⟨hc, hci, hN, hin, ty0, hty, hnm, -⟩, hk, hl, hT, hpd, hfin, -, -⟩ := hf
  refine zS.hp (Nat.le_refl _) (Nat.le_refl _) (fun p e R s m args below meth c H locs ls Qw C hK hR hL hH hF kk => ?_) kk
  have hap := va_apart (own := mi.1.cls) C.2.2.2.2.2.1 hin ty0 hty hnm hK.1 hc
  obtain ⟨r, q0, cell, q1, q2, q3, q4⟩ := hH.at_obj ha hci
  have hr : r = (C0, T, N) := Option.some.inj (q0.symm.trans hc)
  subst hr
  obtain ⟨hS, hfc, kC, hkC, hkind⟩ := hK.1.1 ci _ hc
  obtain ⟨cf, kf, fi, fd, hi, hsl⟩ := hS k hk
  have hlay := C.2.2.2.2.2.1 _ (hin _ (u_in_lay hk))
  unfold u_lay at hlay
  rw [if_neg (by rw [hfin]; decide)] at hlay
  have hst := (u_facts hfc hkC (u_lays C.2.2.2.2.2.1 hin hk) hi).1
  have h6 := u_store hfc hkC hkind hlay hi hpd hn hfit
  have hi2 : s.fieldFound? C0 (T k).2.1 (T k).2.2.1 = some (cf, kf, fi, fd) := by have h := hi; rw [hT] at h; exact h
  refine W.putK C.1 C.2.1 (f := fd) ⟨C.2.2.2.2.1, C.2.2.2.2.2.1 _ hl, ⟨_, _, _, hi2⟩, hst⟩ (by rw [q2]; exact h6) q1 q3 (by rw [hsl]; exact k2_hasslot (q4 k hk)) rfl rfl hd fun H' e1 e2 e3 => ?_
  rw [hsl] at e1 ⊢
  refine kk H' _ ls hL (hH.put e2 e3 h1 h2 h3 (fun b hb => funext fun j => h4 b j (Or.inl hb)) (fun b hb => funext fun j => h5 b j (Or.inl hb)) ?_) (hF.put e3 ha.1)
  unfold zE
  rw [h2, ha.2.2, if_pos hci]
  refine ⟨_, hc, t_OB.to (V := updV (vp_V (zfs ci (g.2.2.2 a) (f a))) k v) ⟨_, e1, q2, q3, t_set q4 hap hk v⟩ ?_⟩
  show ∀ j, j < N → _
  rw [← hN]
  exact zput_val (by rw [hN]; exact hk) hv (fun j hj => h4 a j (Or.inr hj)) (fun j hj => h5 a j (Or.inr hj))
theorem z_putF {idx ci k : Nat} {ty : FieldType} {t a : Nat} {v : Value} {g' : zG} {f' : zI} (hf : zFl mi.1.cls idx ci k ty true t) (hown : vwCl[ci]?.map (fun q => q.1) = some mi.1.cls) (hini : mi.1.name = "<init>") (ha : zIn b0 g a ci) (hn : narrow ty v = v) (hfit : fits ty v = true) (h1 : g'.1 = g.1) (h2 : g'.2.1 = g.2.1) (h3 : g'.2.2.1 = g.2.2.1)
    (h4 : ∀ b j, b ≠ a ∨ j ≠ k → g'.2.2.2 b j = g.2.2.2 b j) (h5 : ∀ b j, b ≠ a ∨ j ≠ k → f' b j = f b j) (hv : zval ci (g'.2.2.2 a) (f' a) k = v) (hd : decode mi.2.1 pc = .ok (.putfield idx, 3)) (kk : zS l d D b0 mi cs ns (pc + 3) L st g' f' Q) : zS l d D b0 mi cs ns pc L (v :: .ref a :: st) g f Q := by
  obtain ⟨C0, T, N, ⟨hc, hci, hN, hin, ty0, hty, hnm, -⟩, hk, hl, hT, hpd, hfin, -, -⟩ := hf
  refine zS.hp (Nat.le_refl _) (Nat.le_refl _) (fun p e R s m args below meth c H locs ls Qw C hK hR hL hH hF kk => ?_) kk
  have hap := va_apart (own := mi.1.cls) C.2.2.2.2.2.1 hin ty0 hty hnm hK.1 hc
  obtain ⟨r, q0, cell, q1, q2, q3, q4⟩ := hH.at_obj ha hci
  have hr : r = (C0, T, N) := Option.some.inj (q0.symm.trans hc)
  subst hr
  obtain ⟨hS, hfc, kC, hkC, hkind⟩ := hK.1.1 ci _ hc
  obtain ⟨cf, kf, fi, fd, hi, hsl⟩ := hS k hk
  have hlay := C.2.2.2.2.2.1 _ (hin _ (u_in_lay hk))
  unfold u_lay at hlay
  rw [if_pos hfin] at hlay
  have hst := (u_facts hfc hkC (u_lays C.2.2.2.2.2.1 hin hk) hi).1
  have hC0 : C0 = mi.1.cls := by rw [hc] at hown; exact Option.some.inj hown
  have hcf : m.cls = cf := by
    obtain ⟨_, _, c', _, _, _, -, -, hf', -, -, -, hown2, -⟩ := Cond.laysFinal_spec hlay
    have e1 : c' = cf := by have := hi.symm.trans hf'; simp at this; exact this.1.symm
    rw [hT, hC0] at hown2
    rw [← e1]; exact Option.some.inj (C.2.2.2.2.1.symm.trans hown2)
  have h6 := u_fits hfc hkC hkind (Or.inr hlay) hi hpd hn hfit
  have hi2 : s.fieldFound? C0 (T k).2.1 (T k).2.2.1 = some (cf, kf, fi, fd) := by have h := hi; rw [hT] at h; exact h
  refine W.putFinK C.1 C.2.1 C.2.2.2.2.1 (C.2.2.2.2.2.1 _ hl) hi2 hst hcf (C.2.2.2.2.2.2.2.trans hini) (by rw [q2]; exact h6) q1 q3 (by rw [hsl]; exact k2_hasslot (q4 k hk)) rfl rfl hd fun H' e1 e2 e3 => ?_
  rw [hsl] at e1 ⊢
  refine kk H' _ ls hL (hH.put e2 e3 h1 h2 h3 (fun b hb => funext fun j => h4 b j (Or.inl hb)) (fun b hb => funext fun j => h5 b j (Or.inl hb)) ?_) (hF.put e3 ha.1)
  unfold zE
  rw [h2, ha.2.2, if_pos hci]
  refine ⟨_, hc, t_OB.to (V := updV (vp_V (zfs ci (g.2.2.2 a) (f a))) k v) ⟨_, e1, q2, q3, t_set q4 hap hk v⟩ ?_⟩
  show ∀ j, j < N → _
  rw [← hN]
  exact zput_val (by rw [hN]; exact hk) hv (fun j hj => h4 a j (Or.inr hj)) (fun j hj => h5 a j (Or.inr hj))
theorem zFl.t {own : String} {idx ci k : Nat} {ty : FieldType} {fin : Bool} {t : Nat} (h : zFl own idx ci k ty fin t) : zty ci k = t := by obtain ⟨C0, T, N, -, -, -, -, -, -, ht, -⟩ := h; exact ht
theorem zval_I {own : String} {idx ci k : Nat} {ty : FieldType} {fin : Bool} (h : zFl own idx ci k ty fin 99) {R : Nat → Option Nat} {h1 : Nat → Int32} : zval ci R h1 k = .int (h1 k) := by unfold zval; rw [if_pos h.t]
theorem zval_R {own : String} {idx ci k : Nat} {ty : FieldType} {fin : Bool} {t : Nat} (h : zFl own idx ci k ty fin t) (ht : t ≠ 99) {R : Nat → Option Nat} {h1 : Nat → Int32} : zval ci R h1 k = va_rf (R k) := by unfold zval; rw [if_neg (by rw [h.t]; exact ht)]
theorem zrfn {ty : FieldType} (h : (∃ n, ty = .object n) ∨ ∃ t, ty = .array t) (v : Option Nat) : narrow ty (va_rf v) = va_rf v ∧ fits ty (va_rf v) = true := by
  rcases h with ⟨n, rfl⟩ | ⟨n, rfl⟩ <;> cases v <;> exact ⟨rfl, rfl⟩
theorem z_putI {idx ci k : Nat} {ty : FieldType} {a : Nat} {x : Int32} (hf : zFl mi.1.cls idx ci k ty false 99) (ha : zIn b0 g a ci) (hd : decode mi.2.1 pc = .ok (.putfield idx, 3)) (kk : zS l d D b0 mi cs ns (pc + 3) L st g (zup f a k x) Q) (hn : narrow ty (.int x) = .int x := by rfl) (hfit : fits ty (.int x) = true := by rfl) : zS l d D b0 mi cs ns pc L (.int x :: .ref a :: st) g f Q :=
  z_put (g' := g) (f' := zup f a k x) hf ha hn hfit rfl rfl rfl (fun _ _ _ => rfl) (fun b j h => zup_ne f a k x h) (by rw [zval_I hf, zup_at]) hd kk
theorem z_putR {idx ci k : Nat} {ty : FieldType} {t a : Nat} {v : Option Nat} (hf : zFl mi.1.cls idx ci k ty false t) (ht : t ≠ 99) (hty : (∃ n, ty = .object n) ∨ ∃ t, ty = .array t) (ha : zIn b0 g a ci) (hd : decode mi.2.1 pc = .ok (.putfield idx, 3)) (kk : zS l d D b0 mi cs ns (pc + 3) L st (zpR g a k v) f Q) : zS l d D b0 mi cs ns pc L (va_rf v :: .ref a :: st) g f Q :=
  z_put (g' := zpR g a k v) (f' := f) hf ha (zrfn hty v).1 (zrfn hty v).2 rfl rfl rfl (fun b j h => zup_ne _ a k v h) (fun _ _ _ => rfl) (by rw [zval_R hf ht]; exact congrArg va_rf (zup_at _ a k v)) hd kk
theorem z_putRs {idx ci k : Nat} {ty : FieldType} {t a v : Nat} (hf : zFl mi.1.cls idx ci k ty false t) (ht : t ≠ 99) (hty : (∃ n, ty = .object n) ∨ ∃ t, ty = .array t) (ha : zIn b0 g a ci) (hd : decode mi.2.1 pc = .ok (.putfield idx, 3)) (kk : zS l d D b0 mi cs ns (pc + 3) L st (zpR g a k (some v)) f Q) : zS l d D b0 mi cs ns pc L (.ref v :: .ref a :: st) g f Q := z_putR (v := some v) hf ht hty ha hd kk
theorem z_putRn {idx ci k : Nat} {ty : FieldType} {t a : Nat} (hf : zFl mi.1.cls idx ci k ty false t) (ht : t ≠ 99) (hty : (∃ n, ty = .object n) ∨ ∃ t, ty = .array t) (ha : zIn b0 g a ci) (hd : decode mi.2.1 pc = .ok (.putfield idx, 3)) (kk : zS l d D b0 mi cs ns (pc + 3) L st (zpR g a k none) f Q) : zS l d D b0 mi cs ns pc L (.null :: .ref a :: st) g f Q := z_putR (v := none) hf ht hty ha hd kk
theorem z_putFI {idx ci k : Nat} {ty : FieldType} {a : Nat} {x : Int32} (hf : zFl mi.1.cls idx ci k ty true 99) (hown : vwCl[ci]?.map (fun q => q.1) = some mi.1.cls) (hini : mi.1.name = "<init>") (ha : zIn b0 g a ci) (hd : decode mi.2.1 pc = .ok (.putfield idx, 3)) (kk : zS l d D b0 mi cs ns (pc + 3) L st g (zup f a k x) Q) (hn : narrow ty (.int x) = .int x := by rfl) (hfit : fits ty (.int x) = true := by rfl) : zS l d D b0 mi cs ns pc L (.int x :: .ref a :: st) g f Q :=
  z_putF (g' := g) (f' := zup f a k x) hf hown hini ha hn hfit rfl rfl rfl (fun _ _ _ => rfl) (fun b j h => zup_ne f a k x h) (by rw [zval_I hf, zup_at]) hd kk
theorem z_putFR {idx ci k : Nat} {ty : FieldType} {t a : Nat} {v : Option Nat} (hf : zFl mi.1.cls idx ci k ty true t) (ht : t ≠ 99) (hty : (∃ n, ty = .object n) ∨ ∃ t, ty = .array t) (hown : vwCl[ci]?.map (fun q => q.1) = some mi.1.cls) (hini : mi.1.name = "<init>") (ha : zIn b0 g a ci) (hd : decode mi.2.1 pc = .ok (.putfield idx, 3)) (kk : zS l d D b0 mi cs ns (pc + 3) L st (zpR g a k v) f Q) : zS l d D b0 mi cs ns pc L (va_rf v :: .ref a :: st) g f Q :=
  z_putF (g' := zpR g a k v) (f' := f) hf hown hini ha (zrfn hty v).1 (zrfn hty v).2 rfl rfl rfl (fun b j h => zup_ne _ a k v h) (fun _ _ _ => rfl) (by rw [zval_R hf ht]; exact congrArg va_rf (zup_at _ a k v)) hd kk
theorem z_putFRs {idx ci k : Nat} {ty : FieldType} {t a v : Nat} (hf : zFl mi.1.cls idx ci k ty true t) (ht : t ≠ 99) (hty : (∃ n, ty = .object n) ∨ ∃ t, ty = .array t) (hown : vwCl[ci]?.map (fun q => q.1) = some mi.1.cls) (hini : mi.1.name = "<init>") (ha : zIn b0 g a ci) (hd : decode mi.2.1 pc = .ok (.putfield idx, 3)) (kk : zS l d D b0 mi cs ns (pc + 3) L st (zpR g a k (some v)) f Q) : zS l d D b0 mi cs ns pc L (.ref v :: .ref a :: st) g f Q := z_putFR (v := some v) hf ht hty hown hini ha hd kk
theorem z_alen {a t : Nat} (ha : zIn b0 g a t) (ht : 13 ≤ t ∧ t < 19) (hd : decode mi.2.1 pc = .ok (.arraylength, 1)) (kk : zS l d D b0 mi cs ns (pc + 1) L (.int (Int32.ofNat (g.2.2.1 a)) :: st) g f Q) : zS l d D b0 mi cs ns pc L (.ref a :: st) g f Q := by
  refine zS.hp (Nat.le_refl _) (Nat.le_refl _) (fun p e R s m args below meth c H locs ls Qw C hK hR hL hH hF kk => ?_) kk
  have K := kk H locs ls hL hH hF
  by_cases h13 : t = 13
  · subst h13
    exact W.alen (n := Int32.ofNat (g.2.2.1 a)) C.1 C.2.1 (hH.at_int ha) ((hK.1.2 0 (D.2.1 0, .int) rfl).1 (g.2.2.1 a) (fun j => .int (f a j))) (by rw [vp_cell_i, arrV_size] <;> rfl) rfl rfl hd K
  · have hz : ∃ C0, (ztys D)[t - 13]? = some (D.2.1 (t - 13), .object C0) := by
      rcases (show t = 14 ∨ t = 15 ∨ t = 16 ∨ t = 17 ∨ t = 18 by omega) with rfl | rfl | rfl | rfl | rfl <;> exact ⟨_, rfl⟩
    obtain ⟨C0, hz⟩ := hz
    exact W.alen (n := Int32.ofNat (g.2.2.1 a)) C.1 C.2.1 (hH.at_ref ha (by omega)) ((hK.1.2 (t - 13) _ hz).1 (g.2.2.1 a) (fun j => va_rf (g.2.2.2 a j))) (by rw [vp_cell_q, arrV_size] <;> rfl) rfl rfl hd K
theorem z_iald {a : Nat} {i : Int32} (ha : zIn b0 g a 13) (hi : vp_in i (g.2.2.1 a)) (hd : decode mi.2.1 pc = .ok (.iaload, 1)) (kk : zS l d D b0 mi cs ns (pc + 1) L (.int (f a i.toNatClampNeg) :: st) g f Q) : zS l d D b0 mi cs ns pc L (.int i :: .ref a :: st) g f Q := by
  refine zS.hp (Nat.le_refl _) (Nat.le_refl _) (fun p e R s m args below meth c H locs ls Qw C hK hR hL hH hF kk => ?_) kk
  exact va_iald C.1 C.2.1 hK.1 (va_at.one (D := D.1) (cl := vwCl) (q := (a, .inl (D.2.1 0, g.2.2.1 a, .inl (f a)))) (hH.at_int ha)) 0 0 rfl rfl hi hd (kk H locs ls hL hH hF)
theorem z_aald {a t : Nat} {i : Int32} (ha : zIn b0 g a t) (ht : 14 ≤ t ∧ t < 19) (hi : vp_in i (g.2.2.1 a)) (hd : decode mi.2.1 pc = .ok (.aaload, 1)) (kk : zS l d D b0 mi cs ns (pc + 1) L (va_rf (g.2.2.2 a i.toNatClampNeg) :: st) g f Q) : zS l d D b0 mi cs ns pc L (.int i :: .ref a :: st) g f Q := by
  refine zS.hp (Nat.le_refl _) (Nat.le_refl _) (fun p e R s m args below meth c H locs ls Qw C hK hR hL hH hF kk => ?_) kk
  have hz : ∃ C0, (ztys D)[t - 13]? = some (D.2.1 (t - 13), .object C0) := by
    rcases (show t = 14 ∨ t = 15 ∨ t = 16 ∨ t = 17 ∨ t = 18 by omega) with rfl | rfl | rfl | rfl | rfl <;> exact ⟨_, rfl⟩
  obtain ⟨C0, hz⟩ := hz
  exact va_aldq C.1 C.2.1 hK.1 (va_at.one (D := D.1) (cl := vwCl) (q := (a, .inl (D.2.1 (t - 13), g.2.2.1 a, .inr (.inr (.inr (.inr (g.2.2.2 a))))))) (hH.at_ref ha (by omega))) 0 (t - 13) rfl hz hi hd (kk H locs ls hL hH hF)
theorem z_aalds {a t b : Nat} {i : Int32} (ha : zIn b0 g a t) (ht : 14 ≤ t ∧ t < 19) (hi : vp_in i (g.2.2.1 a)) (hb : g.2.2.2 a i.toNatClampNeg = some b) (hd : decode mi.2.1 pc = .ok (.aaload, 1)) (kk : zS l d D b0 mi cs ns (pc + 1) L (.ref b :: st) g f Q) : zS l d D b0 mi cs ns pc L (.int i :: .ref a :: st) g f Q := by
  refine z_aald ha ht hi hd ?_
  rw [hb]
  exact kk
theorem z_iast {a : Nat} {i x : Int32} (ha : zIn b0 g a 13) (hi : vp_in i (g.2.2.1 a)) (hd : decode mi.2.1 pc = .ok (.iastore, 1)) (kk : zS l d D b0 mi cs ns (pc + 1) L st g (zup f a i.toNatClampNeg x) Q) : zS l d D b0 mi cs ns pc L (.int x :: .int i :: .ref a :: st) g f Q := by
  refine zS.hp (Nat.le_refl _) (Nat.le_refl _) (fun p e R s m args below meth c H locs ls Qw C hK hR hL hH hF kk => ?_) kk
  refine W.iast C.1 C.2.1 (hH.at_int ha) ((hK.1.2 0 (D.2.1 0, .int) rfl).1 (g.2.2.1 a) (fun j => .int (f a j))) (fun q => by cases q) (by show ¬ (i < 0 ∨ (arrV _ _ _).slots.size ≤ _); rw [arrV_size]; exact hi) rfl rfl hd fun H1 e z oq => ?_
  refine kk H1 _ ls hL (hH.put z oq rfl rfl rfl (fun _ _ => rfl) (fun b hb => funext fun j => zup_ne f a _ x (Or.inl hb)) ?_) (hF.put oq ha.1)
  unfold zE
  rw [ha.2.2, if_neg (by decide), if_pos rfl]
  show H1[a]? = some (vp_cell _ _)
  rw [e, vp_cell_i, vp_cell_i, arrV_store]
  congr 2
  funext q
  by_cases hq : q = i.toNatClampNeg
  · subst hq
    simp [updV, zup]
  · simp [updV, zup, hq]
theorem z_aast {a t : Nat} {i : Int32} {v : Option Nat} (ha : zIn b0 g a t) (ht : 14 ≤ t ∧ t < 19) (hi : vp_in i (g.2.2.1 a)) (hv : ∀ b, v = some b → zIn b0 g b (zty t 0)) (hd : decode mi.2.1 pc = .ok (.aastore, 1)) (kk : zS l d D b0 mi cs ns (pc + 1) L st (zpR g a i.toNatClampNeg v) f Q) : zS l d D b0 mi cs ns pc L (va_rf v :: .int i :: .ref a :: st) g f Q := by
  refine zS.hp (Nat.le_refl _) (Nat.le_refl _) (fun p e R s m args below meth c H locs ls Qw C hK hR hL hH hF kk => ?_) kk
  have hz : ∃ (r : vw_C) (ci : Nat), zty t 0 = ci ∧ ci < 13 ∧ vwCl[ci]? = some r ∧ (ztys D)[t - 13]? = some (D.2.1 (t - 13), .object r.1) := by
    rcases (show t = 14 ∨ t = 15 ∨ t = 16 ∨ t = 17 ∨ t = 18 by omega) with rfl | rfl | rfl | rfl | rfl <;> exact ⟨_, _, rfl, by decide, rfl, rfl⟩
  obtain ⟨r, ci, hzt, hci, hcl, hz⟩ := hz
  have hlt : i.toNatClampNeg < g.2.2.1 a := Nat.not_le.mp fun q => hi (Or.inr q)
  have h0 : ¬ i < 0 := fun q => hi (Or.inl q)
  have fin : ∀ (H1 : Heap), H1[a]? = some ((vp_cell (D.2.1 (t - 13)) (g.2.2.1 a, .inr (.inr (.inr (.inr (g.2.2.2 a)))))).setSlot i.toNatClampNeg (va_rf v)) → H1.size = H.size → (∀ q, q ≠ a → H1[q]? = H[q]?) → zR D b0 (zpR g a i.toNatClampNeg v) f H1 := by
    intro H1 e z oq
    refine hH.put z oq rfl rfl rfl (fun b hb => funext fun j => zup_ne _ a _ v (Or.inl hb)) (fun _ _ => rfl) ?_
    unfold zE
    rw [show (zpR g a i.toNatClampNeg v).2.1 a = t from ha.2.2, if_neg (by omega), if_neg (by omega)]
    show H1[a]? = some (vp_cell _ _)
    rw [e, vp_cell_q, vp_cell_q, arrV_store]
    congr 2
    funext q
    by_cases hq : q = i.toNatClampNeg
    · subst hq
      simp [updV, zup, zpR]
    · simp [updV, zup, zpR, hq]
  cases v with
  | none =>
    refine va_WaastN (C := r.1) C.1 C.2.1 (hH.at_ref ha (by omega)) ((hK.1.2 (t - 13) _ hz).1 (g.2.2.1 a) (fun j => va_rf (g.2.2.2 a j))) (fun h => by cases h) (by show ¬ (i < 0 ∨ (arrV _ _ _).slots.size ≤ _); rw [arrV_size]; exact hi) rfl rfl hd fun H1 e z oq => ?_
    exact kk H1 _ ls hL (fin H1 e z oq) (hF.put oq ha.1)
  | some v =>
    have hvi := hv v rfl
    rw [hzt] at hvi
    obtain ⟨r', hr', cellV, g1, g2, g3, -⟩ := hH.at_obj hvi hci
    have hcls := (hK.1.1 ci r hcl).2
    obtain ⟨kA, comp, k1, k2, k3, -⟩ := (hK.1.2 (t - 13) _ hz).2
    have hcomp : comp = D.1.1 ci := Option.some.inj (k3.symm.trans hcls.1)
    subst hcomp
    obtain ⟨kC, hkC, -⟩ := hcls.2
    refine W.aast C.1 C.2.1 (hH.at_ref ha (by omega)) (fun q h => by cases h) (fun h => by cases h) k1 k2 rfl hkC ⟨h0, by show _ < (arrV _ _ _).slots.size; rw [arrV_size]; exact hlt⟩ g1 (fun q h => by rw [g3] at h; cases h) (by rw [g2]; exact hkC) (by rw [g2]; exact va_assign hcls) rfl rfl hd fun H1 e z oq => ?_
    exact kk H1 _ ls hL (fin H1 e z oq) (hF.put oq ha.1)
theorem z_aasts {a t v : Nat} {i : Int32} (ha : zIn b0 g a t) (ht : 14 ≤ t ∧ t < 19) (hi : vp_in i (g.2.2.1 a)) (hv : zIn b0 g v (zty t 0)) (hd : decode mi.2.1 pc = .ok (.aastore, 1)) (kk : zS l d D b0 mi cs ns (pc + 1) L st (zpR g a i.toNatClampNeg (some v)) f Q) : zS l d D b0 mi cs ns pc L (.ref v :: .int i :: .ref a :: st) g f Q := z_aast (v := some v) ha ht hi (fun b h => by cases h; exact hv) hd kk
theorem z_aastn {a t : Nat} {i : Int32} (ha : zIn b0 g a t) (ht : 14 ≤ t ∧ t < 19) (hi : vp_in i (g.2.2.1 a)) (hd : decode mi.2.1 pc = .ok (.aastore, 1)) (kk : zS l d D b0 mi cs ns (pc + 1) L st (zpR g a i.toNatClampNeg none) f Q) : zS l d D b0 mi cs ns pc L (.null :: .int i :: .ref a :: st) g f Q := z_aast (v := none) ha ht hi (fun b h => by cases h) hd kk
theorem z_new {idx ci N : Nat} {C0 : String} {T : u_T} (hcl : zCls ci C0 T N) (h1 : Cond.classLink mi.1.cls idx C0 ∈ zTbl) (h2 : Cond.instantiable C0 N ∈ zTbl) (h3 : Cond.initialized C0 ∈ zTbl) (hd : decode mi.2.1 pc = .ok (.new idx, 3)) (kk : zS l d D b0 mi (cs + 1) (ns + N) (pc + 3) L (.ref g.1 :: st) (znG g ci 0) (znI g f) Q) : zS l d D b0 mi cs ns pc L st g f Q := by
  obtain ⟨hc, hci, hN, hin, ty0, hty, hnm, hdef⟩ := hcl
  refine zS.hp (Nat.le_succ _) (Nat.le_add_right _ _) (fun p e R s m args below meth c H locs ls Qw C hK hR hL hH hF kk => ?_) kk
  have hKn := hK.1.1 ci _ hc
  refine W.newcK C.1 C.2.1 C.2.2.2.2.1 (C.2.2.2.2.2.1 _ h1) (C.2.2.2.2.2.1 _ h2) (C.2.2.2.2.2.1 _ h3) rfl hd hR.2.2.1 hR.2.2.2 hKn.2.1 (h := g.1) hH.2.1 fun H1 kC hkC e1 z1 o1 => ?_
  have o2 : ∀ q, q < H.size → H1[q]? = H[q]? := fun q hq => o1 q (by rw [← hH.2.1]; exact hq)
  refine kk H1 locs ls hL (hH.new (by rw [z1, hH.2.1]) o2 ?_) (hF.new o2 hH.1)
  simp only [zE, znG, znI, zu1_at]
  rw [if_pos hci]
  exact ⟨_, hc, (u_born ty0 C.2.2.2.2.2.1 hin hKn hkC e1 hty).to hdef⟩
theorem z_newa {n : Int32} {N : Nat} (hn : ¬ n < 0) (hN : n.toNatClampNeg = N) (hb : N ≤ 1000000) (hac : Cond.arrayClass .int ∈ zTbl) (hd : decode mi.2.1 pc = .ok (.newarray .int, 2)) (kk : zS l d D b0 mi (cs + 1) (ns + N) (pc + 2) L (.ref g.1 :: st) (znG g 13 N) (znI g f) Q) : zS l d D b0 mi cs ns pc L (.int n :: st) g f Q := by
  refine zS.hp (Nat.le_succ _) (Nat.le_add_right _ _) (fun p e R s m args below meth c H locs ls Qw C hK hR hL hH hF kk => ?_) kk
  refine va_newaK (atype := .int) C.1 C.2.1 (C.2.2.2.2.2.1 _ hac) rfl hd rfl hn hN (by show N * 4 ≤ _; omega) hR.2.2.1 hR.2.2.2 (h := g.1) hH.2.1 fun H1 cA e1 z1 o1 hAr hNm => ?_
  have o2 : ∀ q, q < H.size → H1[q]? = H[q]? := fun q hq => o1 q (by rw [← hH.2.1]; exact hq)
  have hcA : cA = D.2.1 0 := Option.some.inj (hNm.symm.trans (hK.1.2 0 (D.2.1 0, .int) rfl).2)
  refine kk H1 locs ls hL (hH.new (by rw [z1, hH.2.1]) o2 ?_) (hF.new o2 hH.1)
  simp only [zE, znG, znI, zu1_at]
  rw [if_pos trivial]
  show H1[g.1]? = some (vp_cell _ _)
  rw [e1, hcA]
  rfl
theorem z_anew {idx t : Nat} {C0 : String} {n : Int32} {N : Nat} (ht : 14 ≤ t ∧ t < 19) (hC : ∀ D : zD, (ztys D)[t - 13]? = some (D.2.1 (t - 13), .object C0)) (hov : C0 ∈ zOver) (hn : ¬ n < 0) (hN : n.toNatClampNeg = N) (hb : N ≤ 1000000) (h1 : Cond.classLink mi.1.cls idx C0 ∈ zTbl) (hd : decode mi.2.1 pc = .ok (.anewarray idx, 3)) (kk : zS l d D b0 mi (cs + 1) (ns + N) (pc + 3) L (.ref g.1 :: st) (znG g t N) (znI g f) Q) : zS l d D b0 mi cs ns pc L (.int n :: st) g f Q := by
  subst hN
  refine zS.hp (Nat.le_succ _) (Nat.le_add_right _ _) (fun p e R s m args below meth c H locs ls Qw C hK hR hL hH hF kk => ?_) kk
  refine W.anew C.1 C.2.1 C.2.2.2.2.1 (C.2.2.2.2.2.1 _ h1) (va_AO.use (hK.2.2.1 _ hov)) rfl hd rfl hn (by omega) hR.2.2.1 hR.2.2.2 fun cA kA comp f1 f2 f3 f4 => ?_
  rw [hH.2.1]
  generalize hH1 : H.push ({ cls := cA, slots := Array.replicate n.toNatClampNeg .null, vm := .none } : Cell) = H1
  have z1 : H1.size = H.size + 1 := by rw [← hH1, Array.size_push]
  have e1 : H1[H.size]? = some (arrV cA n.toNatClampNeg (fun _ => .null)) := by rw [← hH1, Array.getElem?_push_size, ← arrV_new]
  have o1 : ∀ q : Nat, q < H.size → H1[q]? = H[q]? := fun q hq => by rw [← hH1, Array.getElem?_push, if_neg (Nat.ne_of_lt hq)]
  obtain ⟨kA', comp', g1, g2, g3, g4⟩ := (hK.1.2 (t - 13) _ (hC D)).2
  have hcA : cA = D.2.1 (t - 13) := Option.some.inj (f1.symm.trans g4)
  refine kk H1 locs ls hL (hH.new z1 o1 ?_) (hF.new o1 hH.1)
  simp only [zE, znG, znI, zu1_at]
  rw [if_neg (by omega), if_neg (by omega)]
  show H1[g.1]? = some (vp_cell _ _)
  rw [← hH.2.1, e1, hcA]
  rfl
theorem z_objInit {idx a : Nat} (h1 : Cond.methodLink mi.1.cls idx objectInit ∈ zTbl) (h2 : Cond.instanceMethod objectInit ∈ zTbl) (h3 : Cond.code objectInit ⟨#[0xb1]⟩ 1 none ∈ zTbl) (hml : L.length = mi.2.2.1) (hd1 : 1 ≤ d) (hd : decode mi.2.1 pc = .ok (.invokespecial idx, 3)) (kk : zS l d D b0 mi cs ns (pc + 3) L st g f Q) (hr : (st.map fun v => v.category).sum ≤ 8 := by exact Nat.le_of_ble_eq_true rfl) : zS l d D b0 mi cs ns pc L (.ref a :: st) g f Q := by
  refine zS.go (fun p e R s m args below meth c H locs ls Qw C hR hc1 hc2 hL kk => ?_) kk
  exact W.objInit C.1 C.2.1 C.2.2.2.2.1 (C.2.2.2.2.2.1 _ h1) (C.2.2.2.2.2.1 _ h2) (C.2.2.2.2.2.1 _ h3) rfl (by rw [C.2.2.2.1, ← hml]; exact hL.1) rfl hd (Nat.le_trans hd1 hR.1) (by refine Nat.le_trans ?_ hR.2.1; show 2 * 0 + _ + 12 ≤ _; omega) (kk ls hL)
theorem z_max {idx : Nat} {x y : Int32} (h1 : Cond.methodLink mi.1.cls idx Lib.Math.max.name ∈ zTbl) (h2 : Cond.static Lib.Math.max.name ∈ zTbl) (h3 : Cond.initialized "java/lang/Math" ∈ zTbl) (h4 : Cond.code Lib.Math.max.name Lib.Math.max.code 2 (some .int) ∈ zTbl) (hml : L.length = mi.2.2.1) (hd1 : 1 ≤ d) (hd : decode mi.2.1 pc = .ok (.invokestatic idx, 3)) (kk : zS l d D b0 mi cs ns (pc + 3) L (.int (if x < y then y else x) :: st) g f Q) (hr : (st.map fun v => v.category).sum ≤ 8 := by exact Nat.le_of_ble_eq_true rfl) : zS l d D b0 mi cs ns pc L (.int y :: .int x :: st) g f Q := by
  refine zS.go (fun p e R s m args below meth c H locs ls Qw C hR hc1 hc2 hL kk => ?_) kk
  exact va_mmax C.1 C.2.1 (by rw [C.2.2.2.1, ← hml]; exact hL.1.symm) C.2.2.2.2.1 (C.2.2.2.2.2.1 _ h1) (C.2.2.2.2.2.1 _ h2) (C.2.2.2.2.2.1 _ h3) (C.2.2.2.2.2.1 _ h4) (Nat.le_trans hd1 hR.1) (by have := hR.2.1; omega) hc1 hc2 hd (kk ls hL)
theorem z_min {idx : Nat} {x y : Int32} (h1 : Cond.methodLink mi.1.cls idx Lib.Math.min.name ∈ zTbl) (h2 : Cond.static Lib.Math.min.name ∈ zTbl) (h3 : Cond.initialized "java/lang/Math" ∈ zTbl) (h4 : Cond.code Lib.Math.min.name Lib.Math.min.code 2 (some .int) ∈ zTbl) (hml : L.length = mi.2.2.1) (hd1 : 1 ≤ d) (hd : decode mi.2.1 pc = .ok (.invokestatic idx, 3)) (kk : zS l d D b0 mi cs ns (pc + 3) L (.int (if y < x then y else x) :: st) g f Q) (hr : (st.map fun v => v.category).sum ≤ 8 := by exact Nat.le_of_ble_eq_true rfl) : zS l d D b0 mi cs ns pc L (.int y :: .int x :: st) g f Q := by
  refine zS.go (fun p e R s m args below meth c H locs ls Qw C hR hc1 hc2 hL kk => ?_) kk
  exact va_mmin C.1 C.2.1 (by rw [C.2.2.2.1, ← hml]; exact hL.1.symm) C.2.2.2.2.1 (C.2.2.2.2.2.1 _ h1) (C.2.2.2.2.2.1 _ h2) (C.2.2.2.2.2.1 _ h3) (C.2.2.2.2.2.1 _ h4) (Nat.le_trans hd1 hR.1) (by have := hR.2.1; omega) hc1 hc2 hd (kk ls hL)
theorem z_copy {idx a0 a : Nat} {sp dp n : Int32} (hl : Cond.methodLink mi.1.cls idx arraycopyName ∈ zTbl) (hn1 : Cond.native arraycopyName ∈ zTbl) (hs1 : Cond.static arraycopyName ∈ zTbl) (hi1 : Cond.initialized "java/lang/System" ∈ zTbl) (ha0 : zIn b0 g a0 13) (ha : zIn b0 g a 13) (h1 : ¬ sp < 0) (h2 : ¬ dp < 0) (h3 : ¬ n < 0) (h4 : sp.toNatClampNeg + n.toNatClampNeg ≤ g.2.2.1 a0) (h5 : dp.toNatClampNeg + n.toNatClampNeg ≤ g.2.2.1 a) (hml : L.length = mi.2.2.1) (hd1 : 1 ≤ d) (hd : decode mi.2.1 pc = .ok (.invokestatic idx, 3))
    (kk : zS l d D b0 mi cs ns (pc + 3) L st g (zu1 f a (va_cpy (f a0) (f a) sp.toNatClampNeg dp.toNatClampNeg n.toNatClampNeg)) Q) (hr : (st.map fun v => v.category).sum ≤ 8 := by exact Nat.le_of_ble_eq_true rfl) : zS l d D b0 mi cs ns pc L (.int n :: .int dp :: .ref a :: .int sp :: .ref a0 :: st) g f Q := by
  refine zS.hp (Nat.le_refl _) (Nat.le_refl _) (fun p e R s m args below meth c H locs ls Qw C hK hR hL hH hF kk => ?_) kk
  have nn : ∀ z : Int32, ¬ z < 0 → z.toInt = (z.toNatClampNeg : Int) := by
    intro z hz
    have hz0 : (0 : Int) ≤ z.toInt := by
      have := Int32.not_lt.mp hz
      simpa using Int32.le_iff_toInt_le.mp this
    show z.toInt = ((z.toInt.toNat : Nat) : Int)
    omega
  intro T hT X
  have hc0 : H[a0]? = some (vp_cell (D.2.1 0) (g.2.2.1 a0, .inl (f a0))) := hH.at_int ha0
  have hc1 : H[a]? = some (vp_cell (D.2.1 0) (g.2.2.1 a, .inl (f a))) := hH.at_int ha
  obtain ⟨-, k0, hk0, cm0, hkk0⟩ := (hK.1.2 0 (D.2.1 0, .int) rfl).1 (g.2.2.1 a0) (fun j => .int (f a0 j))
  obtain ⟨-, k1, hk1, cm1, hkk1⟩ := (hK.1.2 0 (D.2.1 0, .int) rfl).1 (g.2.2.1 a) (fun j => .int (f a j))
  obtain ⟨vm', X', step⟩ := X.arraycopy C.1 C.2.2.2.2.1 (C.2.2.2.2.2.1 _ hl) (C.2.2.2.2.2.1 _ hn1) (C.2.2.2.2.2.1 _ hs1) (C.2.2.2.2.2.1 _ hi1) (src := a0) (dst := a) (cs := vp_cell (D.2.1 0) (g.2.2.1 a0, .inl (f a0))) (cd := vp_cell (D.2.1 0) (g.2.2.1 a, .inl (f a))) (srcPos := sp) (destPos := dp) (n := n) (by rw [hT]; exact hc0) (by rw [hT]; exact hc1)
    (fun _ h => by cases h) (fun _ h => by cases h) (fun h => by cases h) (fun h => by cases h) hk0 hk1 hkk0 hkk1 (by simp [refKind]) h1 h2 h3
    (by rw [nn sp h1, nn n h3]; show ¬ _ > ((arrV (D.2.1 0) (g.2.2.1 a0) (fun j => .int (f a0 j))).slots.size : Int); rw [arrV_size]; omega)
    (by rw [nn dp h2, nn n h3]; show ¬ _ > ((arrV (D.2.1 0) (g.2.2.1 a) (fun j => .int (f a j))).slots.size : Int); rw [arrV_size]; omega)
    (fun vm₁ _ i hi => by
      have e : (vp_cell (D.2.1 0) (g.2.2.1 a0, .inl (f a0))).slots.getD (sp.toNatClampNeg + i) .null = .int (f a0 (sp.toNatClampNeg + i)) := by
        show (arrV (D.2.1 0) (g.2.2.1 a0) (fun j => .int (f a0 j))).slots.getD _ _ = _
        rw [Array.getD_eq_getD_getElem?, arrV_read _ _ (by omega)]
        rfl
      refine ⟨?_, ?_⟩
      · rw [e]
        rfl
      · rw [e]
        exact trivial)
    (g := F0 m pc ls (.int n :: .int dp :: .ref a :: .int sp :: .ref a0 :: st)) rfl (by rw [C.2.2.2.1, ← hml]; exact hL.1) (rest := st) rfl (by rw [C.2.1]; exact hd) (Nat.le_trans hd1 hR.1) (by refine Nat.le_trans ?_ hR.2.1; have hw : nativeFrameWords "java/lang/System" "arraycopy" 5 ≤ 11 := (by decide +kernel); show 2 * 0 + _ + (nativeFrameWords "java/lang/System" "arraycopy" 5 + 11) ≤ _; omega)
  have e1 : copied (vp_cell (D.2.1 0) (g.2.2.1 a0, .inl (f a0))) (vp_cell (D.2.1 0) (g.2.2.1 a, .inl (f a))) sp dp n = vp_cell (D.2.1 0) (g.2.2.1 a, .inl (va_cpy (f a0) (f a) sp.toNatClampNeg dp.toNatClampNeg n.toNatClampNeg)) := va_copied (fun z => .int z) (D.2.1 0) (D.2.1 0) (f a0) (f a) h4
  rw [e1] at X' step
  have hlt : a < H.size := (Array.getElem?_eq_some_iff.mp hc1).1
  have hheap : ((T.setVm vm').setCell a (vp_cell (D.2.1 0) (g.2.2.1 a, .inl (va_cpy (f a0) (f a) sp.toNatClampNeg dp.toNatClampNeg n.toNatClampNeg)))).heap = H.setIfInBounds a (vp_cell (D.2.1 0) (g.2.2.1 a, .inl (va_cpy (f a0) (f a) sp.toNatClampNeg dp.toNatClampNeg n.toNatClampNeg))) := by rw [← hT]; rfl
  have oq : ∀ q : Nat, q ≠ a → (H.setIfInBounds a (vp_cell (D.2.1 0) (g.2.2.1 a, .inl (va_cpy (f a0) (f a) sp.toNatClampNeg dp.toNatClampNeg n.toNatClampNeg))))[q]? = H[q]? := fun q hq => by simp [Array.getElem?_setIfInBounds, Ne.symm hq]
  obtain ⟨t, a1, b1⟩ := kk _ _ ls hL (hH.put (by simp) oq rfl rfl rfl (fun _ _ => rfl) (fun b hb => zu1_ne f a _ hb) (by
      unfold zE
      rw [ha.2.2, if_neg (by decide), if_pos rfl, zu1_at]
      show (H.setIfInBounds a _)[a]? = some _
      simp [Array.getElem?_setIfInBounds, hlt])) ⟨fun q hq => (oq q (by have := ha.1; omega)).trans (hF.1 q hq), fun q hq => by
      rcases List.mem_append.mp hq with h | h
      · exact hF.2 q h
      · obtain ⟨z, -, hz⟩ := List.mem_map.mp h
        rw [← hz]
        exact ha.1⟩ _ hheap X'
  exact ⟨t, step t a1, b1⟩
end ZHEAP

section ZCALL
variable {l : Launch} {d : Nat} {D : zD} {b0 : Nat} {mi : zMI} {cs ns pc : Nat} {L : List (Option Value)} {st rest : List Value} {g : zG} {f : zI} {Q : Nat → Nat → zKT → Prop}
/-- what is known of a method that is called -/
def zMd (mi' : zMI) (n : Nat) : Prop := Cond.code mi'.1 mi'.2.1 mi'.2.2.1 mi'.2.2.2 ∈ zTbl ∧ Cond.initialized mi'.1.cls ∈ zTbl ∧ (mi'.1.cls ≠ "java/lang/invoke/MethodHandle" ∧ mi'.1.cls ≠ "java/lang/invoke/VarHandle") ∧ (parseMethodDescriptor mi'.1.desc).map (fun d => d.parameters.length) = some n ∧ mi'.2.2.1 ≤ 12 ∧ plainName mi'.1.cls = true
def zmdok (mi' : zMI) (n : Nat) : Bool := decide (mi'.1.cls ≠ "java/lang/invoke/MethodHandle") && decide (mi'.1.cls ≠ "java/lang/invoke/VarHandle") && decide ((parseMethodDescriptor mi'.1.desc).map (fun d => d.parameters.length) = some n) && decide (mi'.2.2.1 ≤ 12) && plainName mi'.1.cls
theorem zmdof {mi' : zMI} {n : Nat} (h1 : Cond.code mi'.1 mi'.2.1 mi'.2.2.1 mi'.2.2.2 ∈ zTbl) (h2 : Cond.initialized mi'.1.cls ∈ zTbl) (h : zmdok mi' n = true) : zMd mi' n := by
  simp only [zmdok, Bool.and_eq_true, decide_eq_true_eq] at h
  exact ⟨h1, h2, ⟨h.1.1.1.1, h.1.1.1.2⟩, h.1.1.2, h.1.2, h.2⟩
theorem zS.call {d' : Nat} {mi' : zMI} {av : List Value} {Q' : zP} {r0 : Nat} (hM : zM l d' D b0 mi' av g f Q')
    (h : ∀ (r : Option Value) (g' : zG) (f' : zI) (mc ms : Nat), zMet l d' D b0 mi' av g f r g' f' mc ms → ∀ (p : Program) (e : Env) (R : Room) (s : State) (m : MethodId) (args : Array Value) (below : List Frame) (meth : Method) (c : Code) (H : Heap) (locs : List Loc) (ls : Array Slot), zCtx mi p s m args meth c → zK D b0 s → zRm d (cs + mc) (ns + ms) R → zL ls L → zR D b0 g f H → zF b0 s.heap H locs → va_Run p l e R s m args below meth c H locs cs ns mc ms (F0 m pc ls st) rest (zQc D b0 r g' f' av.toArray) (fun q => b0 ≤ q))
    (kk : ∀ (r : Option Value) (g' : zG) (f' : zI) (mc ms : Nat), Q' r g' f' mc ms → zS l d D b0 mi (cs + mc) (ns + ms) (pc + 3) L (r.toList ++ rest) g' f' Q) : zS l d D b0 mi cs ns pc L st g f Q := by
  obtain ⟨r, g', f', mc, ms, hQ', hM'⟩ := hM
  refine zS.hp (Nat.le_add_right _ _) (Nat.le_add_right _ _) (fun p e R s m args below meth c H locs ls Qw C hK hR hL hH hF kk => ?_) (kk r g' f' mc ms hQ')
  intro T hT X
  obtain ⟨v, st₀, t, T', Lc, h0, X', hLc, e1, e2, ⟨hv, hR1, hk⟩, stp⟩ := h r g' f' mc ms hM' p e R s m args below meth c H locs ls C hK hR hL hH hF T hT X
  cases hv
  rw [h0] at hk
  obtain ⟨t2, a1, b1⟩ := kk T'.heap (locs ++ Lc) ls hL (by rw [e1]; exact hR1) ⟨fun q hq => by rw [e1]; exact (hk q hq).trans (hF.1 q hq), fun q hq => by
      rcases List.mem_append.mp hq with h | h
      · exact hF.2 q h
      · exact hLc q h⟩ T' rfl X'
  exact ⟨t2, stp t2 a1, b1⟩
theorem zpre {av : List Value} {H : Heap} {s : State} {locs : List Loc} (hH : zR D b0 g f H) (hK : zK D b0 s) (hF : zF b0 s.heap H locs) : PreS s H (zPc D b0 av g f) av :=
  ⟨zblind D b0 av g f, fun U hU hW => ⟨rfl, by rw [hU]; exact hH, hK.warm hW (by rw [hU]; exact hF.1 _ hK.2.2.2.2.1)⟩⟩
theorem z_callS {idx n d' : Nat} {mi' : zMI} {av : List Value} {Q' : zP} (hm : zMd mi' n) (hl : Cond.methodLink mi.1.cls idx mi'.1 ∈ zTbl) (hs : Cond.static mi'.1 ∈ zTbl) (hM : zM l d' D b0 mi' av g f Q') (hst : st = av.reverse ++ rest) (hn : av.length = n) (hd' : d' + 1 ≤ d) (hml : L.length = mi.2.2.1) (hd : decode mi.2.1 pc = .ok (.invokestatic idx, 3))
    (kk : ∀ (r : Option Value) (g' : zG) (f' : zI) (mc ms : Nat), Q' r g' f' mc ms → zS l d D b0 mi (cs + mc) (ns + ms) (pc + 3) L (r.toList ++ rest) g' f' Q) (hr : (rest.map fun v => v.category).sum ≤ 8 := by exact Nat.le_of_ble_eq_true rfl) : zS l d D b0 mi cs ns pc L st g f Q := by
  refine zS.call (r0 := 0) hM (fun r g' f' mc ms hM' p e R s m args below meth c H locs ls C hK hR hL hH hF => ?_) kk
  refine va_runS (ws := zws mi') ⟨C.1, C.2.1, C.2.2.2.1, C.2.2.2.2.1, C.2.2.2.2.2.1⟩ hM' (va_cwS (ws' := zTbl) n C.2.2.2.2.2.1 ?_ rfl rfl rfl ⟨hm.2.2.1.1, hm.2.2.1.2, hm.2.2.2.1⟩ ⟨Nat.le_trans hd' hR.1, by have := hm.2.2.2.2.1; refine Nat.le_trans ?_ hR.2.1; show 8 + (mi'.2.2.1 + 11) + 31 * d' ≤ 31 * d; omega⟩) (zpre hH hK hF) rfl hn (hL.1.trans hml) hst (lv_room hr) hd ⟨hR.2.2.1, hR.2.2.2⟩
  intro w hw
  rcases List.mem_append.mp hw with h | h
  · simp only [List.mem_cons, List.not_mem_nil, or_false] at h
    rcases h with rfl | rfl | rfl
    · exact ⟨hl, zgood _ hl⟩
    · exact ⟨hs, zgood _ hs⟩
    · exact ⟨hm.2.1, zgood _ hm.2.1⟩
  · exact zgoodIn hm.1 w h
theorem z_callV {idx n d' ci a : Nat} {mi' : zMI} {As : List Value} {Q' : zP} (hm : zMd mi' n) (hcl : vwCl[ci]?.map (fun q => q.1) = some mi'.1.cls) (hci : ci < 13) (hl : Cond.methodLink mi.1.cls idx mi'.1 ∈ zTbl) (hin : Cond.instanceMethod mi'.1 ∈ zTbl) (hse : Cond.selects mi'.1.cls mi'.1 mi'.1 ∈ zTbl) (hM : zM l d' D b0 mi' (.ref a :: As) g f Q') (ha : zIn b0 g a ci) (hst : st = As.reverse ++ .ref a :: rest) (hn : As.length = n) (hd' : d' + 1 ≤ d) (hml : L.length = mi.2.2.1) (hd : decode mi.2.1 pc = .ok (.invokevirtual idx, 3))
    (kk : ∀ (r : Option Value) (g' : zG) (f' : zI) (mc ms : Nat), Q' r g' f' mc ms → zS l d D b0 mi (cs + mc) (ns + ms) (pc + 3) L (r.toList ++ rest) g' f' Q) (hr : (rest.map fun v => v.category).sum ≤ 8 := by exact Nat.le_of_ble_eq_true rfl) : zS l d D b0 mi cs ns pc L st g f Q := by
  refine zS.call (r0 := 0) hM (fun r g' f' mc ms hM' p e R s m args below meth c H locs ls C hK hR hL hH hF => ?_) kk
  have hrec : ∃ cellB : Cell, H[a]? = some cellB ∧ cellB.vm.isStatics = false ∧ s.vm.findClass mi'.1.cls = some cellB.cls := by
    cases hq : vwCl[ci]? with
    | none => rw [hq] at hcl; cases hcl
    | some q =>
      rw [hq] at hcl
      have e : q.1 = mi'.1.cls := Option.some.inj hcl
      rw [← e]
      exact va_recv hK.1 (hH.at_obj ha hci).one hq (q0 := 0) rfl
  refine va_runV (ws := zws mi') ⟨C.1, C.2.1, C.2.2.2.1, C.2.2.2.2.1, C.2.2.2.2.2.1⟩ hM' (cwV (ws' := zTbl) n C.2.2.2.2.2.1 ?_ rfl rfl rfl ⟨rfl, hm.2.2.1.1, hm.2.2.1.2, hm.2.2.2.1⟩ ⟨Nat.le_trans hd' hR.1, by have := hm.2.2.2.2.1; refine Nat.le_trans ?_ hR.2.1; show 8 + (mi'.2.2.1 + 11) + 31 * d' ≤ 31 * d; omega⟩) ⟨zblind D b0 _ g f, hrec, (zpre hH hK hF).2⟩ rfl hn (hL.1.trans hml) hst (lv_room hr) hd ⟨hR.2.2.1, hR.2.2.2⟩
  intro w hw
  rcases List.mem_append.mp hw with h | h
  · simp only [List.mem_cons, List.not_mem_nil, or_false] at h
    rcases h with rfl | rfl | rfl | rfl
    · exact ⟨hl, zgood _ hl⟩
    · exact ⟨hin, zgood _ hin⟩
    · exact ⟨hse, zgood _ hse⟩
    · exact ⟨hm.2.1, zgood _ hm.2.1⟩
  · exact zgoodIn hm.1 w h
theorem z_callI {idx n d' a : Nat} {mi' : zMI} {As : List Value} {Q' : zP} (hm : zMd mi' n) (hret : mi'.2.2.2 = none) (hni : mi'.1.name = "<init>") (hl : Cond.methodLink mi.1.cls idx mi'.1 ∈ zTbl) (hin : Cond.instanceMethod mi'.1 ∈ zTbl) (hM : zM l d' D b0 mi' (.ref a :: As) g f Q') (hst : st = As.reverse ++ .ref a :: rest) (hn : As.length = n) (hd' : d' + 1 ≤ d) (hml : L.length = mi.2.2.1) (hd : decode mi.2.1 pc = .ok (.invokespecial idx, 3))
    (kk : ∀ (r : Option Value) (g' : zG) (f' : zI) (mc ms : Nat), Q' r g' f' mc ms → zS l d D b0 mi (cs + mc) (ns + ms) (pc + 3) L (r.toList ++ rest) g' f' Q) (hr : (rest.map fun v => v.category).sum ≤ 8 := by exact Nat.le_of_ble_eq_true rfl) : zS l d D b0 mi cs ns pc L st g f Q := by
  refine zS.call (r0 := 0) hM (fun r g' f' mc ms hM' p e R s m args below meth c H locs ls C hK hR hL hH hF => ?_) kk
  have hM2 : Met l mi'.1 (Cond.code mi'.1 mi'.2.1 mi'.2.2.1 none :: zTbl) (zrm d' mc ms) (zPc D b0 (.ref a :: As) g f) (zQc D b0 r g' f') mc ms (fun q => b0 ≤ q) := by rw [← hret]; exact hM'
  exact va_runI (ws := Cond.code mi'.1 mi'.2.1 mi'.2.2.1 none :: zTbl) ⟨C.1, C.2.1, C.2.2.2.1, C.2.2.2.2.1, C.2.2.2.2.2.1⟩ hM2 (cwI (ws' := zTbl) n C.2.2.2.2.2.1 (by rw [← hret]; exact zgoodIn hm.1) rfl rfl rfl (C.2.2.2.2.2.1 _ hm.2.1) (C.2.2.2.2.2.1 _ hl) (C.2.2.2.2.2.1 _ hin) hni ⟨hm.2.2.1.1, hm.2.2.1.2, hm.2.2.2.1⟩ ⟨Nat.le_trans hd' hR.1, by have := hm.2.2.2.2.1; refine Nat.le_trans ?_ hR.2.1; show 8 + (mi'.2.2.1 + 11) + 31 * d' ≤ 31 * d; omega⟩) (zpre hH hK hF) rfl hn (hL.1.trans hml) hst (lv_room hr) hd ⟨hR.2.2.1, hR.2.2.2⟩
theorem z_callSN {idx n d' : Nat} {mi' : zMI} {host : String} {av : List Value} {Q' : zP} (hm : zMd mi' n) (hl : Cond.methodLinkNest mi.1.cls idx mi'.1 host ∈ zNest) (hs : Cond.static mi'.1 ∈ zTbl) (hM : zM l d' D b0 mi' av g f Q') (hst : st = av.reverse ++ rest) (hn : av.length = n) (hd' : d' + 1 ≤ d) (hml : L.length = mi.2.2.1) (hd : decode mi.2.1 pc = .ok (.invokestatic idx, 3))
    (kk : ∀ (r : Option Value) (g' : zG) (f' : zI) (mc ms : Nat), Q' r g' f' mc ms → zS l d D b0 mi (cs + mc) (ns + ms) (pc + 3) L (r.toList ++ rest) g' f' Q) (hr : (rest.map fun v => v.category).sum ≤ 8 := by exact Nat.le_of_ble_eq_true rfl) : zS l d D b0 mi cs ns pc L st g f Q := by
  refine zS.call (r0 := 0) hM (fun r g' f' mc ms hM' p e R s m args below meth c H locs ls C hK hR hL hH hF => ?_) kk
  exact va_runSN (ws := zws mi') ⟨C.1, C.2.1, C.2.2.2.1, C.2.2.2.2.1, C.2.2.2.2.2.1⟩ hM' ⟨va_cnB (ws' := zTbl) n C.2.2.2.2.2.1 (zgoodIn hm.1) rfl rfl rfl (hK.2.1 _ hl) (C.2.2.2.2.2.1 _ hm.2.1) ⟨hm.2.2.1.1, hm.2.2.1.2, hm.2.2.2.1⟩ ⟨Nat.le_trans hd' hR.1, by have := hm.2.2.2.2.1; refine Nat.le_trans ?_ hR.2.1; show 8 + (mi'.2.2.1 + 11) + 31 * d' ≤ 31 * d; omega⟩, C.2.2.2.2.2.1 _ hs, trivial⟩ (zpre hH hK hF) rfl hn (hL.1.trans hml) hst (lv_room hr) hd ⟨hR.2.2.1, hR.2.2.2⟩
theorem z_callIN {idx n d' a : Nat} {mi' : zMI} {host : String} {As : List Value} {Q' : zP} (hm : zMd mi' n) (hret : mi'.2.2.2 = none) (hni : mi'.1.name = "<init>") (hl : Cond.methodLinkNest mi.1.cls idx mi'.1 host ∈ zNest) (hin : Cond.instanceMethod mi'.1 ∈ zTbl) (hM : zM l d' D b0 mi' (.ref a :: As) g f Q') (hst : st = As.reverse ++ .ref a :: rest) (hn : As.length = n) (hd' : d' + 1 ≤ d) (hml : L.length = mi.2.2.1) (hd : decode mi.2.1 pc = .ok (.invokespecial idx, 3))
    (kk : ∀ (r : Option Value) (g' : zG) (f' : zI) (mc ms : Nat), Q' r g' f' mc ms → zS l d D b0 mi (cs + mc) (ns + ms) (pc + 3) L (r.toList ++ rest) g' f' Q) (hr : (rest.map fun v => v.category).sum ≤ 8 := by exact Nat.le_of_ble_eq_true rfl) : zS l d D b0 mi cs ns pc L st g f Q := by
  refine zS.call (r0 := 0) hM (fun r g' f' mc ms hM' p e R s m args below meth c H locs ls C hK hR hL hH hF => ?_) kk
  have hM2 : Met l mi'.1 (Cond.code mi'.1 mi'.2.1 mi'.2.2.1 none :: zTbl) (zrm d' mc ms) (zPc D b0 (.ref a :: As) g f) (zQc D b0 r g' f') mc ms (fun q => b0 ≤ q) := by rw [← hret]; exact hM'
  exact va_runIN (ws := Cond.code mi'.1 mi'.2.1 mi'.2.2.1 none :: zTbl) ⟨C.1, C.2.1, C.2.2.2.1, C.2.2.2.2.1, C.2.2.2.2.2.1⟩ hM2 ⟨va_cnB (ws' := zTbl) n C.2.2.2.2.2.1 (by rw [← hret]; exact zgoodIn hm.1) rfl rfl rfl (hK.2.1 _ hl) (C.2.2.2.2.2.1 _ hm.2.1) ⟨hm.2.2.1.1, hm.2.2.1.2, hm.2.2.2.1⟩ ⟨Nat.le_trans hd' hR.1, by have := hm.2.2.2.2.1; refine Nat.le_trans ?_ hR.2.1; show 8 + (mi'.2.2.1 + 11) + 31 * d' ≤ 31 * d; omega⟩, hni, C.2.2.2.2.2.1 _ hin⟩ (zpre hH hK hF) rfl hn (hL.1.trans hml) hst (lv_room hr) hd ⟨hR.2.2.1, hR.2.2.2⟩
/-- ends -/
theorem z_iret {Qm : zP} {ty : FieldType} {v : Int32} (hd : decode mi.2.1 pc = .ok (.ireturn, 1)) (hret : mi.2.2.2 = some ty) (hQ : Qm (some (.int v)) g f cs ns) (hn : narrow ty (.int v) = .int v := by rfl) : zS l d D b0 mi cs ns pc L [.int v] g f (zq D b0 Qm) := by
  refine ⟨cs, ns, _, ⟨_, _, _, hQ, rfl⟩, Nat.le_refl _, Nat.le_refl _, fun p e R s m args below meth c H locs ls C hK hR hL hH hF => ?_⟩
  exact W.zret C.1 C.2.1 (C.2.2.1.trans hret) hn (fun t ht hW => ⟨rfl, by rw [ht]; exact hH, fun q hq => by rw [ht]; exact hF.1 q hq⟩) hF.2 hd (hlocks := C.2.2.2.2.2.2.1)
theorem z_aret {Qm : zP} {ty : FieldType} {v : Value} (hd : decode mi.2.1 pc = .ok (.areturn, 1)) (hret : mi.2.2.2 = some ty) (hQ : Qm (some v) g f cs ns) (hty : (∃ n, ty = .object n) ∨ ∃ t, ty = .array t) (hv : zrf v := by first | exact zrf_r _ | exact zrf_o _ | exact Or.inl rfl) : zS l d D b0 mi cs ns pc L [v] g f (zq D b0 Qm) := by
  refine ⟨cs, ns, _, ⟨_, _, _, hQ, rfl⟩, Nat.le_refl _, Nat.le_refl _, fun p e R s m args below meth c H locs ls C hK hR hL hH hF => ?_⟩
  exact W.aret C.1 C.2.1 (C.2.2.1.trans hret) hty hv (fun t ht hW => ⟨rfl, by rw [ht]; exact hH, fun q hq => by rw [ht]; exact hF.1 q hq⟩) hF.2 hd (hlocks := C.2.2.2.2.2.2.1)
theorem z_ret {Qm : zP} (hd : decode mi.2.1 pc = .ok (.return_, 1)) (hret : mi.2.2.2 = none) (hQ : Qm none g f cs ns) : zS l d D b0 mi cs ns pc L [] g f (zq D b0 Qm) := by
  refine ⟨cs, ns, _, ⟨_, _, _, hQ, rfl⟩, Nat.le_refl _, Nat.le_refl _, fun p e R s m args below meth c H locs ls C hK hR hL hH hF => ?_⟩
  exact W.vret C.1 C.2.1 (C.2.2.1.trans hret) (fun t ht hW => ⟨rfl, by rw [ht]; exact hH, fun q hq => by rw [ht]; exact hF.1 q hq⟩) hF.2 hd (hlocks := C.2.2.2.2.2.2.1)
/-- a method out of the walk of its body -/
theorem zent (av : List Value) {n : Nat} (h : av.length ≤ n) (hc : ∀ v ∈ av, v.category = 1) : zL ((lg_sl av ++ List.replicate (n - (lg_sl av).length) Slot.unset).toArray) (av.map some ++ List.replicate (n - av.length) none) := by
  have e : lg_sl av = av.map Slot.val := by
    clear h
    induction av with
    | nil => rfl
    | cons v vs ih =>
      have h1 := hc v List.mem_cons_self
      show (if v.category = 2 then _ else _) ++ lg_sl vs = _
      rw [if_neg (by rw [h1]; decide), ih (fun w hw => hc w (List.mem_cons_of_mem _ hw))]
      rfl
  have hlen : (lg_sl av).length = av.length := by rw [e, List.length_map]
  have hh := lv_entry av (n := n) (by rw [hlen]; exact h)
  refine ⟨by rw [hh.1]; simp; omega, hh.2.1, fun i v hi => ?_⟩
  have hlt : i < av.length := by
    rcases Nat.lt_or_ge i av.length with h | h
    · exact h
    · rw [List.getElem?_append_right (by simpa using h)] at hi
      have := List.eq_of_mem_replicate (List.mem_of_getElem? hi)
      cases this
  rw [List.getElem?_append_left (by simpa using hlt), List.getElem?_map] at hi
  cases hv : av[i]? with
  | none => rw [hv] at hi; cases hi
  | some w =>
    rw [hv] at hi
    have e2 : w = v := Option.some.inj (Option.some.inj hi)
    subst e2
    refine ⟨?_, hc w (List.mem_of_getElem? hv)⟩
    rw [e]
    have h3 := (List.getElem?_eq_some_iff.mp hv).2
    simp [List.getElem?_append_left, hlt, h3]
theorem zM.of {Qm : zP} {n : Nat} {av : List Value} (hm : zMd mi n) (hlen : av.length ≤ mi.2.2.1) (hc : ∀ v ∈ av, v.category = 1) (h : zS l d D b0 mi 0 0 0 (av.map some ++ List.replicate (mi.2.2.1 - av.length) none) [] g f (zq D b0 Qm)) : zM l d D b0 mi av g f Qm := by
  obtain ⟨mc, ms, K, ⟨r, g', f', hQ, rfl⟩, h1, h2, hT⟩ := h
  refine ⟨r, g', f', mc, ms, hQ, ?_⟩
  refine Met.ofW (cc := mi.2.1) (maxL := mi.2.2.1) (ret := mi.2.2.2) hm.2.2.2.2.2 rfl ?_
  intro p e s m args below meth c s₁ B hml hv
  obtain ⟨rfl, hR, hK⟩ := hv
  have hts := atoms_spec (ws := zws mi) B.pre
  rw [lg_entry_eq]
  exact hT p e (zrm d mc ms) s m _ below meth c s.heap [] _ ⟨B.exec, B.bytes, B.returns, hml, findClass_of_methodNamed B.named, fun w hw => hts w (List.mem_cons_of_mem _ hw), B.notSynchronized, (name_of_methodNamed B.named B.method).1⟩ hK ⟨Nat.le_refl _, Nat.le_refl _, Nat.le_refl _, Nat.le_refl _⟩ (zent av hlen hc) hR ⟨fun _ _ => rfl, fun q hq => by cases hq⟩
end ZCALL

