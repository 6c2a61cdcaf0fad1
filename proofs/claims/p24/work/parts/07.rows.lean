/-! rows with an index that is a number, calls with a known answer -/
def zEx (r : Option Value) (g : zG) (f : zI) : zP := fun r' g' f' mc ms => r' = r ∧ g' = g ∧ f' = f ∧ mc = 0 ∧ ms = 0
def zcats : List Value → Prop
  | [] => True
  | v :: vs => v.category = 1 ∧ zcats vs
theorem zcats_all {av : List Value} (h : zcats av) : ∀ v ∈ av, v.category = 1 := by
  induction av with
  | nil => intro v hv; cases hv
  | cons w ws ih =>
    intro v hv
    rcases List.mem_cons.mp hv with rfl | hv
    · exact h.1
    · exact ih h.2 v hv
theorem zcat_o (r : Option Nat) : (va_rf r).category = 1 := (zrf_o r).cat
def zB (p : Prop) [Decidable p] : Int32 := if p then 1 else 0
theorem zB_t {p : Prop} [Decidable p] (h : ¬ zB p = 0) : p := by
  unfold zB at h
  by_cases hp : p
  · exact hp
  · rw [if_neg hp] at h; exact absurd rfl h
theorem zB_f {p : Prop} [Decidable p] (h : zB p = 0) : ¬ p := by
  unfold zB at h
  intro hp
  rw [if_pos hp] at h
  exact absurd h (by decide)
theorem zB1 {p : Prop} [Decidable p] (h : p) : zB p = 1 := if_pos h
theorem zB0 {p : Prop} [Decidable p] (h : ¬ p) : zB p = 0 := if_neg h
section ZX
variable {l : Launch} {d : Nat} {D : zD} {b0 : Nat} {mi : zMI} {cs ns pc : Nat} {L : List (Option Value)} {st rest : List Value} {g : zG} {f : zI} {Q : Nat → Nat → zKT → Prop}
theorem z_ialdE {a j N : Nat} {e : Int32} (ha : zIn b0 g a 13) (hl : g.2.2.1 a = N) (he : e = nI j) (hj : j < N) (hN : N < 2 ^ 31) (hd : decode mi.2.1 pc = .ok (.iaload, 1)) (kk : zS l d D b0 mi cs ns (pc + 1) L (.int (f a j) :: st) g f Q) : zS l d D b0 mi cs ns pc L (.int e :: .ref a :: st) g f Q := by
  subst he
  refine z_iald ha (by rw [hl]; exact vp_in_nI hj hN) hd ?_
  rw [nI_clamp (by omega)]
  exact kk
theorem z_iastE {a j N : Nat} {e x : Int32} (ha : zIn b0 g a 13) (hl : g.2.2.1 a = N) (he : e = nI j) (hj : j < N) (hN : N < 2 ^ 31) (hd : decode mi.2.1 pc = .ok (.iastore, 1)) (kk : zS l d D b0 mi cs ns (pc + 1) L st g (zup f a j x) Q) : zS l d D b0 mi cs ns pc L (.int x :: .int e :: .ref a :: st) g f Q := by
  subst he
  refine z_iast ha (by rw [hl]; exact vp_in_nI hj hN) hd ?_
  rw [nI_clamp (by omega)]
  exact kk
theorem z_aaldE {a t j N : Nat} {e : Int32} (ha : zIn b0 g a t) (ht : 14 ≤ t ∧ t < 19) (hl : g.2.2.1 a = N) (he : e = nI j) (hj : j < N) (hN : N < 2 ^ 31) (hd : decode mi.2.1 pc = .ok (.aaload, 1)) (kk : zS l d D b0 mi cs ns (pc + 1) L (va_rf (g.2.2.2 a j) :: st) g f Q) : zS l d D b0 mi cs ns pc L (.int e :: .ref a :: st) g f Q := by
  subst he
  refine z_aald ha ht (by rw [hl]; exact vp_in_nI hj hN) hd ?_
  rw [nI_clamp (by omega)]
  exact kk
theorem z_aaldEs {a t j N b : Nat} {e : Int32} (ha : zIn b0 g a t) (ht : 14 ≤ t ∧ t < 19) (hl : g.2.2.1 a = N) (he : e = nI j) (hj : j < N) (hN : N < 2 ^ 31) (hb : g.2.2.2 a j = some b) (hd : decode mi.2.1 pc = .ok (.aaload, 1)) (kk : zS l d D b0 mi cs ns (pc + 1) L (.ref b :: st) g f Q) : zS l d D b0 mi cs ns pc L (.int e :: .ref a :: st) g f Q := by
  refine z_aaldE ha ht hl he hj hN hd ?_
  rw [hb]
  exact kk
theorem z_aastE {a t j N : Nat} {e : Int32} {v : Option Nat} (ha : zIn b0 g a t) (ht : 14 ≤ t ∧ t < 19) (hl : g.2.2.1 a = N) (he : e = nI j) (hj : j < N) (hN : N < 2 ^ 31) (hv : ∀ b, v = some b → zIn b0 g b (zty t 0)) (hd : decode mi.2.1 pc = .ok (.aastore, 1)) (kk : zS l d D b0 mi cs ns (pc + 1) L st (zpR g a j v) f Q) : zS l d D b0 mi cs ns pc L (va_rf v :: .int e :: .ref a :: st) g f Q := by
  subst he
  refine z_aast ha ht (by rw [hl]; exact vp_in_nI hj hN) hv hd ?_
  rw [nI_clamp (by omega)]
  exact kk
theorem z_aastEs {a t j N v : Nat} {e : Int32} (ha : zIn b0 g a t) (ht : 14 ≤ t ∧ t < 19) (hl : g.2.2.1 a = N) (he : e = nI j) (hj : j < N) (hN : N < 2 ^ 31) (hv : zIn b0 g v (zty t 0)) (hd : decode mi.2.1 pc = .ok (.aastore, 1)) (kk : zS l d D b0 mi cs ns (pc + 1) L st (zpR g a j (some v)) f Q) : zS l d D b0 mi cs ns pc L (.ref v :: .int e :: .ref a :: st) g f Q :=
  z_aastE (v := some v) ha ht hl he hj hN (fun b h => by cases h; exact hv) hd kk
theorem z_aastEn {a t j N : Nat} {e : Int32} (ha : zIn b0 g a t) (ht : 14 ≤ t ∧ t < 19) (hl : g.2.2.1 a = N) (he : e = nI j) (hj : j < N) (hN : N < 2 ^ 31) (hd : decode mi.2.1 pc = .ok (.aastore, 1)) (kk : zS l d D b0 mi cs ns (pc + 1) L st (zpR g a j none) f Q) : zS l d D b0 mi cs ns pc L (.null :: .int e :: .ref a :: st) g f Q :=
  z_aastE (v := none) ha ht hl he hj hN (fun b h => by cases h) hd kk
theorem z_alenN {a t N : Nat} (ha : zIn b0 g a t) (ht : 13 ≤ t ∧ t < 19) (hl : g.2.2.1 a = N) (hd : decode mi.2.1 pc = .ok (.arraylength, 1)) (kk : zS l d D b0 mi cs ns (pc + 1) L (.int (nI N) :: st) g f Q) : zS l d D b0 mi cs ns pc L (.ref a :: st) g f Q := by
  refine z_alen ha ht hd ?_
  rw [hl]
  exact kk
theorem z_callVi {idx n d' ci a : Nat} {mi' : zMI} {As : List Value} {v : Int32} {g' : zG} {f' : zI} (hm : zMd mi' n) (hcl : vwCl[ci]?.map (fun q => q.1) = some mi'.1.cls) (hci : ci < 13) (hl : Cond.methodLink mi.1.cls idx mi'.1 ∈ zTbl) (hin : Cond.instanceMethod mi'.1 ∈ zTbl) (hse : Cond.selects mi'.1.cls mi'.1 mi'.1 ∈ zTbl) (hM : zM l d' D b0 mi' (.ref a :: As) g f (zEx (some (.int v)) g' f')) (ha : zIn b0 g a ci) (hst : st = As.reverse ++ .ref a :: rest) (hn : As.length = n) (hd' : d' + 1 ≤ d) (hml : L.length = mi.2.2.1) (hd : decode mi.2.1 pc = .ok (.invokevirtual idx, 3))
    (kk : zS l d D b0 mi cs ns (pc + 3) L (.int v :: rest) g' f' Q) (hr : (rest.map fun v => v.category).sum ≤ 8 := by exact Nat.le_of_ble_eq_true rfl) : zS l d D b0 mi cs ns pc L st g f Q :=
  z_callV hm hcl hci hl hin hse hM ha hst hn hd' hml hd (fun r g' f' mc ms hq => by obtain ⟨rfl, rfl, rfl, rfl, rfl⟩ := hq; exact kk) hr
theorem z_callVv {idx n d' ci a : Nat} {mi' : zMI} {As : List Value} {g' : zG} {f' : zI} (hm : zMd mi' n) (hcl : vwCl[ci]?.map (fun q => q.1) = some mi'.1.cls) (hci : ci < 13) (hl : Cond.methodLink mi.1.cls idx mi'.1 ∈ zTbl) (hin : Cond.instanceMethod mi'.1 ∈ zTbl) (hse : Cond.selects mi'.1.cls mi'.1 mi'.1 ∈ zTbl) (hM : zM l d' D b0 mi' (.ref a :: As) g f (zEx none g' f')) (ha : zIn b0 g a ci) (hst : st = As.reverse ++ .ref a :: rest) (hn : As.length = n) (hd' : d' + 1 ≤ d) (hml : L.length = mi.2.2.1) (hd : decode mi.2.1 pc = .ok (.invokevirtual idx, 3))
    (kk : zS l d D b0 mi cs ns (pc + 3) L rest g' f' Q) (hr : (rest.map fun v => v.category).sum ≤ 8 := by exact Nat.le_of_ble_eq_true rfl) : zS l d D b0 mi cs ns pc L st g f Q :=
  z_callV hm hcl hci hl hin hse hM ha hst hn hd' hml hd (fun r g' f' mc ms hq => by obtain ⟨rfl, rfl, rfl, rfl, rfl⟩ := hq; exact kk) hr
theorem z_callSi {idx n d' : Nat} {mi' : zMI} {av : List Value} {v : Int32} {g' : zG} {f' : zI} (hm : zMd mi' n) (hl : Cond.methodLink mi.1.cls idx mi'.1 ∈ zTbl) (hs : Cond.static mi'.1 ∈ zTbl) (hM : zM l d' D b0 mi' av g f (zEx (some (.int v)) g' f')) (hst : st = av.reverse ++ rest) (hn : av.length = n) (hd' : d' + 1 ≤ d) (hml : L.length = mi.2.2.1) (hd : decode mi.2.1 pc = .ok (.invokestatic idx, 3))
    (kk : zS l d D b0 mi cs ns (pc + 3) L (.int v :: rest) g' f' Q) (hr : (rest.map fun v => v.category).sum ≤ 8 := by exact Nat.le_of_ble_eq_true rfl) : zS l d D b0 mi cs ns pc L st g f Q :=
  z_callS hm hl hs hM hst hn hd' hml hd (fun r g' f' mc ms hq => by obtain ⟨rfl, rfl, rfl, rfl, rfl⟩ := hq; exact kk) hr
theorem z_callSNi {idx n d' : Nat} {mi' : zMI} {host : String} {av : List Value} {v : Int32} {g' : zG} {f' : zI} (hm : zMd mi' n) (hl : Cond.methodLinkNest mi.1.cls idx mi'.1 host ∈ zNest) (hs : Cond.static mi'.1 ∈ zTbl) (hM : zM l d' D b0 mi' av g f (zEx (some (.int v)) g' f')) (hst : st = av.reverse ++ rest) (hn : av.length = n) (hd' : d' + 1 ≤ d) (hml : L.length = mi.2.2.1) (hd : decode mi.2.1 pc = .ok (.invokestatic idx, 3))
    (kk : zS l d D b0 mi cs ns (pc + 3) L (.int v :: rest) g' f' Q) (hr : (rest.map fun v => v.category).sum ≤ 8 := by exact Nat.le_of_ble_eq_true rfl) : zS l d D b0 mi cs ns pc L st g f Q :=
  z_callSN hm hl hs hM hst hn hd' hml hd (fun r g' f' mc ms hq => by obtain ⟨rfl, rfl, rfl, rfl, rfl⟩ := hq; exact kk) hr
end ZX
theorem zM.start {l : Launch} {d : Nat} {D : zD} {b0 : Nat} {mi : zMI} {g : zG} {f : zI} {Qm : zP} {n : Nat} {av : List Value} (hm : zMd mi n) (hlen : av.length ≤ mi.2.2.1) (hc : zcats av) (L : List (Option Value)) (hL : av.map some ++ List.replicate (mi.2.2.1 - av.length) none = L) (h : zS l d D b0 mi 0 0 0 L [] g f (zq D b0 Qm)) : zM l d D b0 mi av g f Qm :=
  zM.of hm hlen (zcats_all hc) (by rw [hL]; exact h)
/-- the reference's object: field, place, length of its arrays -/
def rT : List (Nat × Nat × Nat) := [(0, 1, 325000), (2, 2, 8490), (3, 3, 16980), (5, 4, 280000), (6, 5, 560000), (7, 6, 120), (9, 7, 130), (10, 8, 130), (11, 9, 130), (12, 10, 130), (18, 11, 65000), (19, 12, 400), (20, 13, 400), (21, 14, 65000), (22, 15, 65000), (23, 16, 100), (24, 17, 1210), (25, 18, 1210), (26, 19, 1200)]
def RW (b0 : Nat) (g : zG) (o : Nat) : Prop := zIn b0 g o 12 ∧ ∀ q ∈ rT, g.2.2.2 o q.1 = some (o + q.2.1) ∧ zIn b0 g (o + q.2.1) 13 ∧ g.2.2.1 (o + q.2.1) = q.2.2
theorem RW.o {b0 : Nat} {g : zG} {o : Nat} (h : RW b0 g o) : zIn b0 g o 12 := h.1
theorem RW.r {b0 : Nat} {g : zG} {o : Nat} (h : RW b0 g o) (i : Nat) {k j n : Nat} (hi : rT[i]? = some (k, j, n)) : g.2.2.2 o k = some (o + j) := (h.2 _ (List.mem_of_getElem? hi)).1
theorem RW.i {b0 : Nat} {g : zG} {o : Nat} (h : RW b0 g o) (i : Nat) {k j n : Nat} (hi : rT[i]? = some (k, j, n)) : zIn b0 g (o + j) 13 := (h.2 _ (List.mem_of_getElem? hi)).2.1
theorem RW.l {b0 : Nat} {g : zG} {o : Nat} (h : RW b0 g o) (i : Nat) {k j n : Nat} (hi : rT[i]? = some (k, j, n)) : g.2.2.1 (o + j) = n := (h.2 _ (List.mem_of_getElem? hi)).2.2
