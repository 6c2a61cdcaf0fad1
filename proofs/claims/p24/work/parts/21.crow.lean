/-! Rows for the class's methods: each hands on what it makes of the heap's invariant. -/
section ZW
variable {l : Launch} {d : Nat} {D : zD} {b0 : Nat} {mi : zMI} {cs ns pc : Nat} {L : List (Option Value)} {st rest : List Value} {g : zG} {f : zI} {Q : Nat → Nat → zKT → Prop} {X : Nat → Prop}
theorem zw_getF {idx ci k n t' : Nat} {ty : FieldType} {fin : Bool} {a : Nat} (hw : zOK b0 X g) (hf : zFl mi.1.cls idx ci k ty fin t') (ha : zIn b0 g a ci) (hx : ¬ X a) (hq : (ci, k, some n) ∈ zSh) (h9 : t' ≠ 99) (hd : decode mi.2.1 pc = .ok (.getfield idx, 3))
    (kk : g.2.2.2 a k = some (pA g a k) → zIn b0 g (pA g a k) t' → g.2.2.1 (pA g a k) = n → zS l d D b0 mi cs ns (pc + 3) L (.ref (pA g a k) :: st) g f Q) : zS l d D b0 mi cs ns pc L (.ref a :: st) g f Q := by
  obtain ⟨h1, h2, h3⟩ := hw.shz ha hx hq hf.t h9
  exact z_getRs hf h9 ha h1 hd (kk h1 h2 h3)
theorem zw_getFr {idx ci k t' : Nat} {ty : FieldType} {fin : Bool} {a : Nat} (hw : zOK b0 X g) (hf : zFl mi.1.cls idx ci k ty fin t') (ha : zIn b0 g a ci) (hx : ¬ X a) (hq : (ci, k, none) ∈ zSh) (h9 : t' ≠ 99) (hd : decode mi.2.1 pc = .ok (.getfield idx, 3))
    (kk : g.2.2.2 a k = some (pA g a k) → zIn b0 g (pA g a k) t' → zS l d D b0 mi cs ns (pc + 3) L (.ref (pA g a k) :: st) g f Q) : zS l d D b0 mi cs ns pc L (.ref a :: st) g f Q := by
  obtain ⟨h1, h2⟩ := hw.shr ha hx hq hf.t h9
  exact z_getRs hf h9 ha h1 hd (kk h1 h2)
/-- a field that may be null -/
theorem zw_getN {idx ci k t' : Nat} {ty : FieldType} {fin : Bool} {a : Nat} (hw : zOK b0 X g) (hf : zFl mi.1.cls idx ci k ty fin t') (ha : zIn b0 g a ci) (h9 : t' ≠ 99) (hd : decode mi.2.1 pc = .ok (.getfield idx, 3))
    (kk : (∀ b, g.2.2.2 a k = some b → zIn b0 g b t') → zS l d D b0 mi cs ns (pc + 3) L (va_rf (g.2.2.2 a k) :: st) g f Q) : zS l d D b0 mi cs ns pc L (.ref a :: st) g f Q :=
  z_getR hf h9 ha hd (kk (fun b hb => hw.get ha hf.t h9 hb))
theorem zw_getS {idx ci k t' b : Nat} {ty : FieldType} {fin : Bool} {a : Nat} (hw : zOK b0 X g) (hf : zFl mi.1.cls idx ci k ty fin t') (ha : zIn b0 g a ci) (h9 : t' ≠ 99) (hb : g.2.2.2 a k = some b) (hd : decode mi.2.1 pc = .ok (.getfield idx, 3))
    (kk : zIn b0 g b t' → zS l d D b0 mi cs ns (pc + 3) L (.ref b :: st) g f Q) : zS l d D b0 mi cs ns pc L (.ref a :: st) g f Q :=
  z_getRs hf h9 ha hb hd (kk (hw.get ha hf.t h9 hb))
theorem zw_putR {idx ci k t' : Nat} {ty : FieldType} {a : Nat} {v : Option Nat} (hw : zOK b0 X g) (hf : zFl mi.1.cls idx ci k ty false t') (h9 : t' ≠ 99) (hty : (∃ n, ty = .object n) ∨ ∃ t, ty = .array t) (ha : zIn b0 g a ci) (hv : ∀ b, v = some b → zIn b0 g b t') (hq : ∀ q ∈ zSh, ci = q.1 → k ≠ q.2.1) (hd : decode mi.2.1 pc = .ok (.putfield idx, 3))
    (kk : zOK b0 X (zpR g a k v) → zS l d D b0 mi cs ns (pc + 3) L st (zpR g a k v) f Q) : zS l d D b0 mi cs ns pc L (va_rf v :: .ref a :: st) g f Q :=
  z_putR hf h9 hty ha hd (kk (hw.put ha hf.t hv hq))
theorem zw_putRs {idx ci k t' : Nat} {ty : FieldType} {a v : Nat} (hw : zOK b0 X g) (hf : zFl mi.1.cls idx ci k ty false t') (h9 : t' ≠ 99) (hty : (∃ n, ty = .object n) ∨ ∃ t, ty = .array t) (ha : zIn b0 g a ci) (hv : zIn b0 g v t') (hq : ∀ q ∈ zSh, ci = q.1 → k ≠ q.2.1) (hd : decode mi.2.1 pc = .ok (.putfield idx, 3))
    (kk : zOK b0 X (zpR g a k (some v)) → zS l d D b0 mi cs ns (pc + 3) L st (zpR g a k (some v)) f Q) : zS l d D b0 mi cs ns pc L (.ref v :: .ref a :: st) g f Q :=
  zw_putR (v := some v) hw hf h9 hty ha (fun b hb => by cases hb; exact hv) hq hd kk
theorem zw_putRn {idx ci k t' : Nat} {ty : FieldType} {a : Nat} (hw : zOK b0 X g) (hf : zFl mi.1.cls idx ci k ty false t') (h9 : t' ≠ 99) (hty : (∃ n, ty = .object n) ∨ ∃ t, ty = .array t) (ha : zIn b0 g a ci) (hq : ∀ q ∈ zSh, ci = q.1 → k ≠ q.2.1) (hd : decode mi.2.1 pc = .ok (.putfield idx, 3))
    (kk : zOK b0 X (zpR g a k none) → zS l d D b0 mi cs ns (pc + 3) L st (zpR g a k none) f Q) : zS l d D b0 mi cs ns pc L (.null :: .ref a :: st) g f Q :=
  zw_putR (v := none) hw hf h9 hty ha (fun b hb => by cases hb) hq hd kk
/-- a field of an object that is not whole yet -/
theorem zw_putFX {idx ci k t' : Nat} {ty : FieldType} {a : Nat} {v : Option Nat} (hw : zOK b0 X g) (hf : zFl mi.1.cls idx ci k ty true t') (h9 : t' ≠ 99) (hty : (∃ n, ty = .object n) ∨ ∃ t, ty = .array t) (hown : vwCl[ci]?.map (fun q => q.1) = some mi.1.cls) (hini : mi.1.name = "<init>") (ha : zIn b0 g a ci) (hv : ∀ b, v = some b → zIn b0 g b t') (hX : X a ∨ ∀ q ∈ zSh, ci = q.1 → k ≠ q.2.1) (hd : decode mi.2.1 pc = .ok (.putfield idx, 3))
    (kk : zOK b0 X (zpR g a k v) → zS l d D b0 mi cs ns (pc + 3) L st (zpR g a k v) f Q) : zS l d D b0 mi cs ns pc L (va_rf v :: .ref a :: st) g f Q :=
  z_putFR hf h9 hty hown hini ha hd (kk (hw.putG ha (by rw [hf.t]; exact hv) hX))
theorem zw_putFXs {idx ci k t' : Nat} {ty : FieldType} {a v : Nat} (hw : zOK b0 X g) (hf : zFl mi.1.cls idx ci k ty true t') (h9 : t' ≠ 99) (hty : (∃ n, ty = .object n) ∨ ∃ t, ty = .array t) (hown : vwCl[ci]?.map (fun q => q.1) = some mi.1.cls) (hini : mi.1.name = "<init>") (ha : zIn b0 g a ci) (hv : zIn b0 g v t') (hX : X a ∨ ∀ q ∈ zSh, ci = q.1 → k ≠ q.2.1) (hd : decode mi.2.1 pc = .ok (.putfield idx, 3))
    (kk : zOK b0 X (zpR g a k (some v)) → zS l d D b0 mi cs ns (pc + 3) L st (zpR g a k (some v)) f Q) : zS l d D b0 mi cs ns pc L (.ref v :: .ref a :: st) g f Q :=
  zw_putFX (v := some v) hw hf h9 hty hown hini ha (fun b hb => by cases hb; exact hv) hX hd kk
theorem zw_putX {idx ci k t' : Nat} {ty : FieldType} {a : Nat} {v : Option Nat} (hw : zOK b0 X g) (hf : zFl mi.1.cls idx ci k ty false t') (h9 : t' ≠ 99) (hty : (∃ n, ty = .object n) ∨ ∃ t, ty = .array t) (ha : zIn b0 g a ci) (hv : ∀ b, v = some b → zIn b0 g b t') (hX : X a) (hd : decode mi.2.1 pc = .ok (.putfield idx, 3))
    (kk : zOK b0 X (zpR g a k v) → zS l d D b0 mi cs ns (pc + 3) L st (zpR g a k v) f Q) : zS l d D b0 mi cs ns pc L (va_rf v :: .ref a :: st) g f Q :=
  z_putR hf h9 hty ha hd (kk (hw.putX ha hf.t hv hX))
theorem zw_putS {idx ci k t' : Nat} {ty : FieldType} {a v : Nat} (hw : zOK b0 X g) (hf : zFl mi.1.cls idx ci k ty false t') (h9 : t' ≠ 99) (hty : (∃ n, ty = .object n) ∨ ∃ t, ty = .array t) (ha : zIn b0 g a ci) (hv : zIn b0 g v t') (hq : ∀ q ∈ zSh, ci = q.1 → k = q.2.1 → q.2.2 = none) (hd : decode mi.2.1 pc = .ok (.putfield idx, 3))
    (kk : zOK b0 X (zpR g a k (some v)) → zS l d D b0 mi cs ns (pc + 3) L st (zpR g a k (some v)) f Q) : zS l d D b0 mi cs ns pc L (.ref v :: .ref a :: st) g f Q :=
  z_putRs hf h9 hty ha hd (kk (hw.putS ha hf.t hv hq))
theorem zSh_arr : ∀ q ∈ zSh, q.1 < 12 := by decide +kernel
theorem zw_aast {a t j N t' : Nat} {e : Int32} {v : Option Nat} (hw : zOK b0 X g) (ha : zIn b0 g a t) (ht : 14 ≤ t ∧ t < 19) (hl : g.2.2.1 a = N) (he : e = nI j) (hj : j < N) (hN : N < 2 ^ 31) (hz : ∀ k, zty t k = t') (hv : ∀ b, v = some b → zIn b0 g b t') (hd : decode mi.2.1 pc = .ok (.aastore, 1))
    (kk : zOK b0 X (zpR g a j v) → zS l d D b0 mi cs ns (pc + 1) L st (zpR g a j v) f Q) : zS l d D b0 mi cs ns pc L (va_rf v :: .int e :: .ref a :: st) g f Q :=
  z_aastE ha ht hl he hj hN (by rw [hz]; exact hv) hd (kk (hw.put ha (hz j) hv (fun q h h2 => absurd (zSh_arr q h) (by omega))))
theorem zw_aasts {a t j N t' v : Nat} {e : Int32} (hw : zOK b0 X g) (ha : zIn b0 g a t) (ht : 14 ≤ t ∧ t < 19) (hl : g.2.2.1 a = N) (he : e = nI j) (hj : j < N) (hN : N < 2 ^ 31) (hz : ∀ k, zty t k = t') (hv : zIn b0 g v t') (hd : decode mi.2.1 pc = .ok (.aastore, 1))
    (kk : zOK b0 X (zpR g a j (some v)) → zS l d D b0 mi cs ns (pc + 1) L st (zpR g a j (some v)) f Q) : zS l d D b0 mi cs ns pc L (.ref v :: .int e :: .ref a :: st) g f Q :=
  zw_aast (v := some v) hw ha ht hl he hj hN hz (fun b hb => by cases hb; exact hv) hd kk
theorem zw_aastn {a t j N t' : Nat} {e : Int32} (hw : zOK b0 X g) (ha : zIn b0 g a t) (ht : 14 ≤ t ∧ t < 19) (hl : g.2.2.1 a = N) (he : e = nI j) (hj : j < N) (hN : N < 2 ^ 31) (hz : ∀ k, zty t k = t') (hd : decode mi.2.1 pc = .ok (.aastore, 1))
    (kk : zOK b0 X (zpR g a j none) → zS l d D b0 mi cs ns (pc + 1) L st (zpR g a j none) f Q) : zS l d D b0 mi cs ns pc L (.null :: .int e :: .ref a :: st) g f Q :=
  zw_aast (v := none) hw ha ht hl he hj hN hz (fun b hb => by cases hb) hd kk
theorem zw_aald {a t j N t' : Nat} {e : Int32} (hw : zOK b0 X g) (ha : zIn b0 g a t) (ht : 14 ≤ t ∧ t < 19) (hl : g.2.2.1 a = N) (he : e = nI j) (hj : j < N) (hN : N < 2 ^ 31) (hz : ∀ k, zty t k = t') (h9 : t' ≠ 99) (hd : decode mi.2.1 pc = .ok (.aaload, 1))
    (kk : (∀ b, g.2.2.2 a j = some b → zIn b0 g b t') → zS l d D b0 mi cs ns (pc + 1) L (va_rf (g.2.2.2 a j) :: st) g f Q) : zS l d D b0 mi cs ns pc L (.int e :: .ref a :: st) g f Q :=
  z_aaldE ha ht hl he hj hN hd (kk (fun b hb => hw.get ha (hz j) h9 hb))
theorem zw_aalds {a t j N t' b : Nat} {e : Int32} (hw : zOK b0 X g) (ha : zIn b0 g a t) (ht : 14 ≤ t ∧ t < 19) (hl : g.2.2.1 a = N) (he : e = nI j) (hj : j < N) (hN : N < 2 ^ 31) (hz : ∀ k, zty t k = t') (h9 : t' ≠ 99) (hb : g.2.2.2 a j = some b) (hd : decode mi.2.1 pc = .ok (.aaload, 1))
    (kk : zIn b0 g b t' → zS l d D b0 mi cs ns (pc + 1) L (.ref b :: st) g f Q) : zS l d D b0 mi cs ns pc L (.int e :: .ref a :: st) g f Q :=
  z_aaldEs ha ht hl he hj hN hb hd (kk (hw.get ha (hz j) h9 hb))
theorem zw_new {idx ci N : Nat} {C0 : String} {T : u_T} (hw : zOK b0 X g) (hcl : zCls ci C0 T N) (h1 : Cond.classLink mi.1.cls idx C0 ∈ zTbl) (h2 : Cond.instantiable C0 N ∈ zTbl) (h3 : Cond.initialized C0 ∈ zTbl) (hs : ∀ q ∈ zSh, ci ≠ q.1) (hd : decode mi.2.1 pc = .ok (.new idx, 3))
    (kk : zOK b0 X (znG g ci 0) → zLe g (znG g ci 0) → zIn b0 (znG g ci 0) g.1 ci → zS l d D b0 mi (cs + 1) (ns + N) (pc + 3) L (.ref g.1 :: st) (znG g ci 0) (znI g f) Q) : zS l d D b0 mi cs ns pc L st g f Q :=
  z_new hcl h1 h2 h3 hd (kk (hw.new hs) (zLe.new _ _ _) (zIn.self hw.1))
theorem zw_newX {idx ci N : Nat} {C0 : String} {T : u_T} (hw : zOK b0 X g) (hcl : zCls ci C0 T N) (h1 : Cond.classLink mi.1.cls idx C0 ∈ zTbl) (h2 : Cond.instantiable C0 N ∈ zTbl) (h3 : Cond.initialized C0 ∈ zTbl) (hd : decode mi.2.1 pc = .ok (.new idx, 3))
    (kk : zOK b0 (fun a => X a ∨ a = g.1) (znG g ci 0) → zLe g (znG g ci 0) → zIn b0 (znG g ci 0) g.1 ci → zS l d D b0 mi (cs + 1) (ns + N) (pc + 3) L (.ref g.1 :: st) (znG g ci 0) (znI g f) Q) : zS l d D b0 mi cs ns pc L st g f Q :=
  z_new hcl h1 h2 h3 hd (kk hw.newX (zLe.new _ _ _) (zIn.self hw.1))
theorem zw_newa {n : Int32} {N : Nat} (hw : zOK b0 X g) (hn : ¬ n < 0) (hN : n.toNatClampNeg = N) (hb : N ≤ 1000000) (hac : Cond.arrayClass .int ∈ zTbl) (hd : decode mi.2.1 pc = .ok (.newarray .int, 2))
    (kk : zOK b0 X (znG g 13 N) → zLe g (znG g 13 N) → zIn b0 (znG g 13 N) g.1 13 → (znG g 13 N).2.2.1 g.1 = N → zS l d D b0 mi (cs + 1) (ns + N) (pc + 2) L (.ref g.1 :: st) (znG g 13 N) (znI g f) Q) : zS l d D b0 mi cs ns pc L (.int n :: st) g f Q :=
  z_newa hn hN hb hac hd (kk (hw.new (by decide)) (zLe.new _ _ _) (zIn.self hw.1) (zu1_at _ _ _))
theorem zw_anew {idx t : Nat} {C0 : String} {n : Int32} {N : Nat} (hw : zOK b0 X g) (ht : 14 ≤ t ∧ t < 19) (hC : ∀ D : zD, (ztys D)[t - 13]? = some (D.2.1 (t - 13), .object C0)) (hov : C0 ∈ zOver) (hn : ¬ n < 0) (hN : n.toNatClampNeg = N) (hb : N ≤ 1000000) (h1 : Cond.classLink mi.1.cls idx C0 ∈ zTbl) (hd : decode mi.2.1 pc = .ok (.anewarray idx, 3))
    (kk : zOK b0 X (znG g t N) → zLe g (znG g t N) → zIn b0 (znG g t N) g.1 t → (znG g t N).2.2.1 g.1 = N → zS l d D b0 mi (cs + 1) (ns + N) (pc + 3) L (.ref g.1 :: st) (znG g t N) (znI g f) Q) : zS l d D b0 mi cs ns pc L (.int n :: st) g f Q :=
  z_anew ht hC hov hn hN hb h1 hd (kk (hw.new (fun q h h2 => absurd (zSh_arr q h) (by omega))) (zLe.new _ _ _) (zIn.self hw.1) (zu1_at _ _ _))
end ZW
