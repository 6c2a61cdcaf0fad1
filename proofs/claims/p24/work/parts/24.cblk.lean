/-! The class's lasting objects as one block: ints C, references R, by row (the object at c + j) and place. -/
def bT : List (Nat × Nat) := [(11, 0), (13, 120), (6, 0), (14, 120), (14, 121), (13, 121), (13, 121), (13, 121), (14, 121), (4, 0), (13, 240), (14, 240), (13, 240), (5, 0), (18, 1000), (13, 1000), (13, 1000), (8, 0), (16, 4), (10, 0), (15, 100), (3, 0), (13, 1000), (13, 1000), (13, 60), (13, 6), (17, 2)]
def bF : List (Nat × Nat × Nat) := [(0, 0, 1), (0, 2, 2), (0, 3, 9), (0, 4, 13), (0, 5, 26), (0, 5, 26), (2, 0, 3), (2, 4, 4), (2, 5, 5), (2, 6, 6), (2, 7, 7), (2, 8, 8), (9, 0, 10), (9, 3, 11), (9, 4, 12), (13, 0, 23), (13, 1, 24), (13, 3, 25), (17, 1, 14), (17, 8, 15), (17, 9, 17), (17, 10, 20), (17, 12, 21), (17, 13, 22), (19, 0, 16), (21, 0, 18), (21, 4, 19)]
/-- the place of row j in the block, and the row of place i -/
def bP (j : Nat) : Nat := if j < 13 then j else if j < 17 then j + 9 else if j < 26 then j - 4 else j
def bQ (i : Nat) : Nat := if i < 13 then i else if i < 22 then i + 4 else if i < 26 then i - 9 else i
theorem bP_lt {j : Nat} (h : j < 27) : bP j < 27 := by unfold bP; split <;> (try split) <;> (try split) <;> omega
theorem bQ_lt {i : Nat} (h : i < 27) : bQ i < 27 := by unfold bQ; split <;> (try split) <;> (try split) <;> omega
theorem bPQ {i : Nat} (h : i < 27) : bP (bQ i) = i := (show ∀ i, i < 27 → bP (bQ i) = i by decide) i h
theorem bQP {j : Nat} (h : j < 27) : bQ (bP j) = j := (show ∀ j, j < 27 → bQ (bP j) = j by decide) j h
theorem bP_o {j : Nat} (h : j < 17 ∨ j = 26) : bP j < 13 ∨ 22 ≤ bP j ∧ bP j < 27 := by unfold bP; split <;> (try split) <;> (try split) <;> omega
theorem bP_ne {i j : Nat} (hi : i < 27) (hj : j < 27) (h : i ≠ bP j) : bQ i ≠ j := fun q => h (by rw [← q, bPQ hi])
abbrev zRf : Type := Nat → Nat → Option Nat
def gv (c : Nat) (g : zG) (R : zRf) : zG := (g.1, g.2.1, g.2.2.1, fun b => if c ≤ b ∧ b < c + 27 then R (bQ (b - c)) else g.2.2.2 b)
def cv (c : Nat) (f C : zI) : zI := fun b => if c ≤ b ∧ b < c + 27 then C (bQ (b - c)) else f b
/-- the block's cells: classes and lengths -/
def CW (b0 : Nat) (g : zG) (c : Nat) : Prop := b0 ≤ c ∧ c + 27 ≤ g.1 ∧ ∀ (j : Nat) (q : Nat × Nat), bT[j]? = some q → g.2.1 (c + bP j) = q.1 ∧ (13 ≤ q.1 → g.2.2.1 (c + bP j) = q.2)
def CF (c : Nat) (R : zRf) : Prop := ∀ q ∈ bF, R q.1 q.2.1 = some (c + q.2.2)
theorem CW.i {b0 : Nat} {g : zG} {c : Nat} (h : CW b0 g c) (j : Nat) {t n : Nat} (hj : bT[j]? = some (t, n)) : zIn b0 g (c + bP j) t := by
  have hl : j < 27 := (List.getElem?_eq_some_iff.mp hj).1
  exact ⟨Nat.le_trans h.1 (Nat.le_add_right _ _), Nat.lt_of_lt_of_le (by have := bP_lt hl; omega) h.2.1, (h.2.2 j _ hj).1⟩
theorem CW.l {b0 : Nat} {g : zG} {c : Nat} (h : CW b0 g c) (j : Nat) {t n : Nat} (hj : bT[j]? = some (t, n)) (ht : 13 ≤ t) : g.2.2.1 (c + bP j) = n := (h.2.2 j _ hj).2 ht
theorem CW.le {b0 : Nat} {g g' : zG} {c : Nat} (h : CW b0 g c) (k : zLe g g') : CW b0 g' c := by
  refine ⟨h.1, Nat.le_trans h.2.1 k.1, fun j q hj => ?_⟩
  have hl : j < 27 := (List.getElem?_eq_some_iff.mp hj).1
  have := h.2.1
  obtain ⟨k1, k2⟩ := k.2 (c + bP j) (by have := bP_lt hl; omega)
  rw [k1, k2]
  exact h.2.2 j q hj
theorem CW.out {b0 : Nat} {g : zG} {a t c : Nat} (h : CW b0 g c) (ha : zIn b0 g a t) (ht : ∀ q ∈ bT, t ≠ q.1) : ¬ (c ≤ a ∧ a < c + 27) := by
  intro q
  have hl : a - c < 27 := by omega
  have hj : bQ (a - c) < bT.length := bQ_lt hl
  have e := (h.2.2 (bQ (a - c)) _ (List.getElem?_eq_getElem hj)).1
  rw [bPQ hl, show c + (a - c) = a by omega, ha.2.2] at e
  exact ht _ (List.getElem_mem hj) e
theorem gv_at {c : Nat} {g : zG} {R : zRf} {j : Nat} (h : j < 27) : (gv c g R).2.2.2 (c + bP j) = R j := by
  show (if c ≤ c + bP j ∧ c + bP j < c + 27 then R (bQ (c + bP j - c)) else _) = _
  rw [if_pos ⟨Nat.le_add_right _ _, by have := bP_lt h; omega⟩, Nat.add_sub_cancel_left, bQP h]
theorem gv_ai {c : Nat} {g : zG} {R : zRf} {i : Nat} (h : i < 27) : (gv c g R).2.2.2 (c + i) = R (bQ i) := by
  show (if c ≤ c + i ∧ c + i < c + 27 then R (bQ (c + i - c)) else _) = _
  rw [if_pos ⟨Nat.le_add_right _ _, by omega⟩, Nat.add_sub_cancel_left]
theorem gv_out {c : Nat} {g : zG} {R : zRf} {b : Nat} (h : ¬ (c ≤ b ∧ b < c + 27)) : (gv c g R).2.2.2 b = g.2.2.2 b := if_neg h
theorem cv_at {c : Nat} {f C : zI} {j : Nat} (h : j < 27) : cv c f C (c + bP j) = C j := by
  unfold cv
  rw [if_pos ⟨Nat.le_add_right _ _, by have := bP_lt h; omega⟩, Nat.add_sub_cancel_left, bQP h]
theorem cv_ai {c : Nat} {f C : zI} {i : Nat} (h : i < 27) : cv c f C (c + i) = C (bQ i) := by
  unfold cv
  rw [if_pos ⟨Nat.le_add_right _ _, by omega⟩, Nat.add_sub_cancel_left]
theorem cv_out {c : Nat} {f C : zI} {b : Nat} (h : ¬ (c ≤ b ∧ b < c + 27)) : cv c f C b = f b := if_neg h
theorem cv_st {c : Nat} {f C : zI} {j k : Nat} {x : Int32} (h : j < 27) : zup (cv c f C) (c + bP j) k x = cv c f (zup C j k x) := by
  have hb := bP_lt h
  funext b q
  unfold zup cv
  by_cases h1 : b = c + bP j
  · subst h1
    simp [hb, bQP h]
  · rw [if_neg h1]
    by_cases h2 : c ≤ b ∧ b < c + 27
    · rw [if_pos h2, if_pos h2]
      show C (bQ (b - c)) q = if bQ (b - c) = j then (if q = k then x else C (bQ (b - c)) q) else C (bQ (b - c)) q
      rw [if_neg (bP_ne (by omega) h (by omega))]
    · rw [if_neg h2, if_neg h2]
theorem cv_row {c : Nat} {f C : zI} {j : Nat} {r : Nat → Int32} (h : j < 27) : zu1 (cv c f C) (c + bP j) r = cv c f (zu1 C j r) := by
  have hb := bP_lt h
  funext b
  unfold zu1 cv
  by_cases h1 : b = c + bP j
  · subst h1
    simp [hb, bQP h]
  · rw [if_neg h1]
    by_cases h2 : c ≤ b ∧ b < c + 27
    · rw [if_pos h2, if_pos h2]
      show C (bQ (b - c)) = if bQ (b - c) = j then r else C (bQ (b - c))
      rw [if_neg (bP_ne (by omega) h (by omega))]
    · rw [if_neg h2, if_neg h2]
theorem cv_stD {c : Nat} {f C : zI} {a k : Nat} {x : Int32} (h : ¬ (c ≤ a ∧ a < c + 27)) : zup (cv c f C) a k x = cv c (zup f a k x) C := by
  funext b q
  unfold zup cv
  by_cases h1 : b = a
  · subst h1
    simp [h]
  · simp [h1]
theorem gv_st {c : Nat} {g : zG} {R : zRf} {j k : Nat} {v : Option Nat} (h : j < 27) : zpR (gv c g R) (c + bP j) k v = gv c g (zup R j k v) := by
  have hb := bP_lt h
  refine Prod.ext rfl (Prod.ext rfl (Prod.ext rfl ?_))
  show zup (fun b => if c ≤ b ∧ b < c + 27 then R (bQ (b - c)) else g.2.2.2 b) (c + bP j) k v = (fun b => if c ≤ b ∧ b < c + 27 then zup R j k v (bQ (b - c)) else g.2.2.2 b)
  funext b q
  unfold zup
  by_cases h1 : b = c + bP j
  · subst h1
    simp [hb, bQP h]
  · rw [if_neg h1]
    by_cases h2 : c ≤ b ∧ b < c + 27
    · rw [if_pos h2]
      show (if c ≤ b ∧ b < c + 27 then R (bQ (b - c)) else g.2.2.2 b) q = if bQ (b - c) = j then (if q = k then v else R (bQ (b - c)) q) else R (bQ (b - c)) q
      rw [if_pos h2, if_neg (bP_ne (by omega) h (by omega))]
    · rw [if_neg h2]
      show (if c ≤ b ∧ b < c + 27 then R (bQ (b - c)) else g.2.2.2 b) q = g.2.2.2 b q
      rw [if_neg h2]
theorem gv_stD {c : Nat} {g : zG} {R : zRf} {a k : Nat} {v : Option Nat} (h : ¬ (c ≤ a ∧ a < c + 27)) : zpR (gv c g R) a k v = gv c (zpR g a k v) R := by
  refine Prod.ext rfl (Prod.ext rfl (Prod.ext rfl ?_))
  show zup (fun b => if c ≤ b ∧ b < c + 27 then R (bQ (b - c)) else g.2.2.2 b) a k v = (fun b => if c ≤ b ∧ b < c + 27 then R (bQ (b - c)) else zup g.2.2.2 a k v b)
  funext b q
  unfold zup
  by_cases h1 : b = a
  · subst h1
    simp [h]
  · simp [h1]
theorem gv_new {c : Nat} {g : zG} {R : zRf} {t n : Nat} (h : c + 27 ≤ g.1) : znG (gv c g R) t n = gv c (znG g t n) R := by
  refine Prod.ext rfl (Prod.ext rfl (Prod.ext rfl ?_))
  show zu1 (fun b => if c ≤ b ∧ b < c + 27 then R (bQ (b - c)) else g.2.2.2 b) g.1 (fun _ => none) = (fun b => if c ≤ b ∧ b < c + 27 then R (bQ (b - c)) else zu1 g.2.2.2 g.1 (fun _ => none) b)
  funext b
  unfold zu1
  by_cases h1 : b = g.1
  · subst h1
    rw [if_pos rfl, if_neg (by omega), if_pos rfl]
  · simp [h1]
theorem cv_new {c : Nat} {g : zG} {f C : zI} {R : zRf} (h : c + 27 ≤ g.1) : znI (gv c g R) (cv c f C) = cv c (znI g f) C := by
  funext b
  show zu1 (cv c f C) g.1 (fun _ => 0) b = _
  unfold zu1 cv znI zu1
  by_cases h1 : b = g.1
  · subst h1
    rw [if_pos rfl, if_neg (by omega), if_pos rfl]
  · simp [h1]
theorem zLe.gv {c : Nat} {g g' : zG} {R R' : zRf} (h : zLe g g') : zLe (gv c g R) (gv c g' R') := h
theorem zIn.gv {b0 c : Nat} {g : zG} {R : zRf} {a t : Nat} (h : zIn b0 g a t) : zIn b0 (gv c g R) a t := h
section ZC
variable {l : Launch} {d : Nat} {D : zD} {b0 : Nat} {mi : zMI} {cs ns pc : Nat} {L : List (Option Value)} {st rest : List Value} {g : zG} {f C : zI} {R : zRf} {c : Nat} {Q : Nat → Nat → zKT → Prop} {X : Nat → Prop}
theorem zc_getI {idx ci k j n : Nat} {ty : FieldType} {fin : Bool} (hW : CW b0 g c) (hf : zFl mi.1.cls idx ci k ty fin 99) (hj : bT[j]? = some (ci, n)) (hd : decode mi.2.1 pc = .ok (.getfield idx, 3)) (kk : zS l d D b0 mi cs ns (pc + 3) L (.int (C j k) :: st) (gv c g R) (cv c f C) Q) : zS l d D b0 mi cs ns pc L (.ref (c + bP j) :: st) (gv c g R) (cv c f C) Q := by
  refine z_getI hf (hW.i j hj) hd ?_
  rw [cv_at (List.getElem?_eq_some_iff.mp hj).1]
  exact kk
theorem zc_putI {idx ci k j n : Nat} {ty : FieldType} {x : Int32} (hW : CW b0 g c) (hf : zFl mi.1.cls idx ci k ty false 99) (hj : bT[j]? = some (ci, n)) (hd : decode mi.2.1 pc = .ok (.putfield idx, 3)) (kk : zS l d D b0 mi cs ns (pc + 3) L st (gv c g R) (cv c f (zup C j k x)) Q) (hn : narrow ty (.int x) = .int x := by rfl) (hfit : fits ty (.int x) = true := by rfl) : zS l d D b0 mi cs ns pc L (.int x :: .ref (c + bP j) :: st) (gv c g R) (cv c f C) Q := by
  refine z_putI hf (hW.i j hj) hd ?_ hn hfit
  rw [cv_st (List.getElem?_eq_some_iff.mp hj).1]
  exact kk
/-- a reference of the block that is known -/
theorem zc_getF {idx ci k j n t' b : Nat} {ty : FieldType} {fin : Bool} (hW : CW b0 g c) (hf : zFl mi.1.cls idx ci k ty fin t') (hj : bT[j]? = some (ci, n)) (h9 : t' ≠ 99) (hb : R j k = some b) (hd : decode mi.2.1 pc = .ok (.getfield idx, 3)) (kk : zS l d D b0 mi cs ns (pc + 3) L (.ref b :: st) (gv c g R) (cv c f C) Q) : zS l d D b0 mi cs ns pc L (.ref (c + bP j) :: st) (gv c g R) (cv c f C) Q :=
  z_getRs hf h9 (hW.i j hj) (by rw [gv_at (List.getElem?_eq_some_iff.mp hj).1]; exact hb) hd kk
theorem zc_getN {idx ci k j n t' : Nat} {ty : FieldType} {fin : Bool} (hw : zOK b0 X (gv c g R)) (hW : CW b0 g c) (hf : zFl mi.1.cls idx ci k ty fin t') (hj : bT[j]? = some (ci, n)) (h9 : t' ≠ 99) (hd : decode mi.2.1 pc = .ok (.getfield idx, 3)) (kk : (∀ b, R j k = some b → zIn b0 g b t') → zS l d D b0 mi cs ns (pc + 3) L (va_rf (R j k) :: st) (gv c g R) (cv c f C) Q) : zS l d D b0 mi cs ns pc L (.ref (c + bP j) :: st) (gv c g R) (cv c f C) Q := by
  refine zw_getN hw hf (hW.i j hj) h9 hd (fun h => ?_)
  rw [gv_at (List.getElem?_eq_some_iff.mp hj).1] at h ⊢
  exact kk h
theorem zc_getS {idx ci k j n t' b : Nat} {ty : FieldType} {fin : Bool} (hw : zOK b0 X (gv c g R)) (hW : CW b0 g c) (hf : zFl mi.1.cls idx ci k ty fin t') (hj : bT[j]? = some (ci, n)) (h9 : t' ≠ 99) (hb : R j k = some b) (hd : decode mi.2.1 pc = .ok (.getfield idx, 3)) (kk : zIn b0 g b t' → zS l d D b0 mi cs ns (pc + 3) L (.ref b :: st) (gv c g R) (cv c f C) Q) : zS l d D b0 mi cs ns pc L (.ref (c + bP j) :: st) (gv c g R) (cv c f C) Q :=
  zw_getS hw hf (hW.i j hj) h9 (by rw [gv_at (List.getElem?_eq_some_iff.mp hj).1]; exact hb) hd kk
theorem zc_putR {idx ci k j n t' : Nat} {ty : FieldType} {v : Option Nat} (hw : zOK b0 X (gv c g R)) (hW : CW b0 g c) (hf : zFl mi.1.cls idx ci k ty false t') (hj : bT[j]? = some (ci, n)) (h9 : t' ≠ 99) (hty : (∃ n, ty = .object n) ∨ ∃ t, ty = .array t) (hv : ∀ b, v = some b → zIn b0 g b t') (hq : ∀ q ∈ zSh, ci = q.1 → k ≠ q.2.1) (hd : decode mi.2.1 pc = .ok (.putfield idx, 3))
    (kk : zOK b0 X (gv c g (zup R j k v)) → zS l d D b0 mi cs ns (pc + 3) L st (gv c g (zup R j k v)) (cv c f C) Q) : zS l d D b0 mi cs ns pc L (va_rf v :: .ref (c + bP j) :: st) (gv c g R) (cv c f C) Q := by
  refine zw_putR hw hf h9 hty (hW.i j hj) hv hq hd (fun h => ?_)
  rw [gv_st (List.getElem?_eq_some_iff.mp hj).1] at h ⊢
  exact kk h
theorem zc_putRs {idx ci k j n t' v : Nat} {ty : FieldType} (hw : zOK b0 X (gv c g R)) (hW : CW b0 g c) (hf : zFl mi.1.cls idx ci k ty false t') (hj : bT[j]? = some (ci, n)) (h9 : t' ≠ 99) (hty : (∃ n, ty = .object n) ∨ ∃ t, ty = .array t) (hv : zIn b0 g v t') (hq : ∀ q ∈ zSh, ci = q.1 → k ≠ q.2.1) (hd : decode mi.2.1 pc = .ok (.putfield idx, 3))
    (kk : zOK b0 X (gv c g (zup R j k (some v))) → zS l d D b0 mi cs ns (pc + 3) L st (gv c g (zup R j k (some v))) (cv c f C) Q) : zS l d D b0 mi cs ns pc L (.ref v :: .ref (c + bP j) :: st) (gv c g R) (cv c f C) Q :=
  zc_putR (v := some v) hw hW hf hj h9 hty (fun b hb => by cases hb; exact hv) hq hd kk
theorem zc_putRn {idx ci k j n t' : Nat} {ty : FieldType} (hw : zOK b0 X (gv c g R)) (hW : CW b0 g c) (hf : zFl mi.1.cls idx ci k ty false t') (hj : bT[j]? = some (ci, n)) (h9 : t' ≠ 99) (hty : (∃ n, ty = .object n) ∨ ∃ t, ty = .array t) (hq : ∀ q ∈ zSh, ci = q.1 → k ≠ q.2.1) (hd : decode mi.2.1 pc = .ok (.putfield idx, 3))
    (kk : zOK b0 X (gv c g (zup R j k none)) → zS l d D b0 mi cs ns (pc + 3) L st (gv c g (zup R j k none)) (cv c f C) Q) : zS l d D b0 mi cs ns pc L (.null :: .ref (c + bP j) :: st) (gv c g R) (cv c f C) Q :=
  zc_putR (v := none) hw hW hf hj h9 hty (fun b hb => by cases hb) hq hd kk
theorem zc_ld {j n i : Nat} {e : Int32} (hW : CW b0 g c) (hj : bT[j]? = some (13, n)) (hn : n < 2 ^ 31) (he : e = nI i) (hi : i < n) (hd : decode mi.2.1 pc = .ok (.iaload, 1)) (kk : zS l d D b0 mi cs ns (pc + 1) L (.int (C j i) :: st) (gv c g R) (cv c f C) Q) : zS l d D b0 mi cs ns pc L (.int e :: .ref (c + bP j) :: st) (gv c g R) (cv c f C) Q := by
  refine z_ialdE (hW.i j hj) (hW.l j hj (by decide)) he hi hn hd ?_
  rw [cv_at (List.getElem?_eq_some_iff.mp hj).1]
  exact kk
theorem zc_st {j n i : Nat} {e x : Int32} (hW : CW b0 g c) (hj : bT[j]? = some (13, n)) (hn : n < 2 ^ 31) (he : e = nI i) (hi : i < n) (hd : decode mi.2.1 pc = .ok (.iastore, 1)) (kk : zS l d D b0 mi cs ns (pc + 1) L st (gv c g R) (cv c f (zup C j i x)) Q) : zS l d D b0 mi cs ns pc L (.int x :: .int e :: .ref (c + bP j) :: st) (gv c g R) (cv c f C) Q := by
  refine z_iastE (hW.i j hj) (hW.l j hj (by decide)) he hi hn hd ?_
  rw [cv_st (List.getElem?_eq_some_iff.mp hj).1]
  exact kk
theorem zc_len {j t n : Nat} (hW : CW b0 g c) (hj : bT[j]? = some (t, n)) (ht : 13 ≤ t ∧ t < 19) (hd : decode mi.2.1 pc = .ok (.arraylength, 1)) (kk : zS l d D b0 mi cs ns (pc + 1) L (.int (nI n) :: st) (gv c g R) (cv c f C) Q) : zS l d D b0 mi cs ns pc L (.ref (c + bP j) :: st) (gv c g R) (cv c f C) Q :=
  z_alenN (hW.i j hj) ht (hW.l j hj ht.1) hd kk
theorem zc_ald {j t n i t' : Nat} {e : Int32} (hw : zOK b0 X (gv c g R)) (hW : CW b0 g c) (hj : bT[j]? = some (t, n)) (ht : 14 ≤ t ∧ t < 19) (hn : n < 2 ^ 31) (he : e = nI i) (hi : i < n) (hz : ∀ k, zty t k = t') (h9 : t' ≠ 99) (hd : decode mi.2.1 pc = .ok (.aaload, 1))
    (kk : (∀ b, R j i = some b → zIn b0 g b t') → zS l d D b0 mi cs ns (pc + 1) L (va_rf (R j i) :: st) (gv c g R) (cv c f C) Q) : zS l d D b0 mi cs ns pc L (.int e :: .ref (c + bP j) :: st) (gv c g R) (cv c f C) Q := by
  refine zw_aald hw (hW.i j hj) ht (hW.l j hj (by omega)) he hi hn hz h9 hd (fun h => ?_)
  rw [gv_at (List.getElem?_eq_some_iff.mp hj).1] at h ⊢
  exact kk h
theorem zc_alds {j t n i t' b : Nat} {e : Int32} (hw : zOK b0 X (gv c g R)) (hW : CW b0 g c) (hj : bT[j]? = some (t, n)) (ht : 14 ≤ t ∧ t < 19) (hn : n < 2 ^ 31) (he : e = nI i) (hi : i < n) (hz : ∀ k, zty t k = t') (h9 : t' ≠ 99) (hb : R j i = some b) (hd : decode mi.2.1 pc = .ok (.aaload, 1))
    (kk : zIn b0 g b t' → zS l d D b0 mi cs ns (pc + 1) L (.ref b :: st) (gv c g R) (cv c f C) Q) : zS l d D b0 mi cs ns pc L (.int e :: .ref (c + bP j) :: st) (gv c g R) (cv c f C) Q :=
  zw_aalds hw (hW.i j hj) ht (hW.l j hj (by omega)) he hi hn hz h9 (by rw [gv_at (List.getElem?_eq_some_iff.mp hj).1]; exact hb) hd kk
theorem zc_ast {j t n i t' : Nat} {e : Int32} {v : Option Nat} (hw : zOK b0 X (gv c g R)) (hW : CW b0 g c) (hj : bT[j]? = some (t, n)) (ht : 14 ≤ t ∧ t < 19) (hn : n < 2 ^ 31) (he : e = nI i) (hi : i < n) (hz : ∀ k, zty t k = t') (hv : ∀ b, v = some b → zIn b0 g b t') (hd : decode mi.2.1 pc = .ok (.aastore, 1))
    (kk : zOK b0 X (gv c g (zup R j i v)) → zS l d D b0 mi cs ns (pc + 1) L st (gv c g (zup R j i v)) (cv c f C) Q) : zS l d D b0 mi cs ns pc L (va_rf v :: .int e :: .ref (c + bP j) :: st) (gv c g R) (cv c f C) Q := by
  refine zw_aast hw (hW.i j hj) ht (hW.l j hj (by omega)) he hi hn hz hv hd (fun h => ?_)
  rw [gv_st (List.getElem?_eq_some_iff.mp hj).1] at h ⊢
  exact kk h
theorem zc_asts {j t n i t' v : Nat} {e : Int32} (hw : zOK b0 X (gv c g R)) (hW : CW b0 g c) (hj : bT[j]? = some (t, n)) (ht : 14 ≤ t ∧ t < 19) (hn : n < 2 ^ 31) (he : e = nI i) (hi : i < n) (hz : ∀ k, zty t k = t') (hv : zIn b0 g v t') (hd : decode mi.2.1 pc = .ok (.aastore, 1))
    (kk : zOK b0 X (gv c g (zup R j i (some v))) → zS l d D b0 mi cs ns (pc + 1) L st (gv c g (zup R j i (some v))) (cv c f C) Q) : zS l d D b0 mi cs ns pc L (.ref v :: .int e :: .ref (c + bP j) :: st) (gv c g R) (cv c f C) Q :=
  zc_ast (v := some v) hw hW hj ht hn he hi hz (fun b hb => by cases hb; exact hv) hd kk
theorem zc_astn {j t n i t' : Nat} {e : Int32} (hw : zOK b0 X (gv c g R)) (hW : CW b0 g c) (hj : bT[j]? = some (t, n)) (ht : 14 ≤ t ∧ t < 19) (hn : n < 2 ^ 31) (he : e = nI i) (hi : i < n) (hz : ∀ k, zty t k = t') (hd : decode mi.2.1 pc = .ok (.aastore, 1))
    (kk : zOK b0 X (gv c g (zup R j i none)) → zS l d D b0 mi cs ns (pc + 1) L st (gv c g (zup R j i none)) (cv c f C) Q) : zS l d D b0 mi cs ns pc L (.null :: .int e :: .ref (c + bP j) :: st) (gv c g R) (cv c f C) Q :=
  zc_ast (v := none) hw hW hj ht hn he hi hz (fun b hb => by cases hb) hd kk
/-- an object outside the block -/
theorem zd_getI {idx ci k a : Nat} {ty : FieldType} {fin : Bool} (hW : CW b0 g c) (hf : zFl mi.1.cls idx ci k ty fin 99) (ha : zIn b0 g a ci) (ho : ∀ q ∈ bT, ci ≠ q.1) (hd : decode mi.2.1 pc = .ok (.getfield idx, 3)) (kk : zS l d D b0 mi cs ns (pc + 3) L (.int (f a k) :: st) (gv c g R) (cv c f C) Q) : zS l d D b0 mi cs ns pc L (.ref a :: st) (gv c g R) (cv c f C) Q := by
  refine z_getI hf ha.gv hd ?_
  rw [cv_out (hW.out ha ho)]
  exact kk
theorem zd_getN {idx ci k a t' : Nat} {ty : FieldType} {fin : Bool} (hw : zOK b0 X (gv c g R)) (hW : CW b0 g c) (hf : zFl mi.1.cls idx ci k ty fin t') (ha : zIn b0 g a ci) (ho : ∀ q ∈ bT, ci ≠ q.1) (h9 : t' ≠ 99) (hd : decode mi.2.1 pc = .ok (.getfield idx, 3)) (kk : (∀ b, g.2.2.2 a k = some b → zIn b0 g b t') → zS l d D b0 mi cs ns (pc + 3) L (va_rf (g.2.2.2 a k) :: st) (gv c g R) (cv c f C) Q) : zS l d D b0 mi cs ns pc L (.ref a :: st) (gv c g R) (cv c f C) Q := by
  refine zw_getN hw hf ha.gv h9 hd (fun h => ?_)
  rw [gv_out (hW.out ha ho)] at h ⊢
  exact kk h
theorem zd_getS {idx ci k a t' b : Nat} {ty : FieldType} {fin : Bool} (hw : zOK b0 X (gv c g R)) (hW : CW b0 g c) (hf : zFl mi.1.cls idx ci k ty fin t') (ha : zIn b0 g a ci) (ho : ∀ q ∈ bT, ci ≠ q.1) (h9 : t' ≠ 99) (hb : g.2.2.2 a k = some b) (hd : decode mi.2.1 pc = .ok (.getfield idx, 3)) (kk : zIn b0 g b t' → zS l d D b0 mi cs ns (pc + 3) L (.ref b :: st) (gv c g R) (cv c f C) Q) : zS l d D b0 mi cs ns pc L (.ref a :: st) (gv c g R) (cv c f C) Q :=
  zw_getS hw hf ha.gv h9 (by rw [gv_out (hW.out ha ho)]; exact hb) hd kk
theorem zd_new {idx ci N : Nat} {C0 : String} {T : u_T} (hw : zOK b0 X (gv c g R)) (hW : CW b0 g c) (hcl : zCls ci C0 T N) (h1 : Cond.classLink mi.1.cls idx C0 ∈ zTbl) (h2 : Cond.instantiable C0 N ∈ zTbl) (h3 : Cond.initialized C0 ∈ zTbl) (hs : ∀ q ∈ zSh, ci ≠ q.1) (hd : decode mi.2.1 pc = .ok (.new idx, 3))
    (kk : zOK b0 X (gv c (znG g ci 0) R) → zLe g (znG g ci 0) → CW b0 (znG g ci 0) c → zIn b0 (znG g ci 0) g.1 ci → zS l d D b0 mi (cs + 1) (ns + N) (pc + 3) L (.ref g.1 :: st) (gv c (znG g ci 0) R) (cv c (znI g f) C) Q) : zS l d D b0 mi cs ns pc L st (gv c g R) (cv c f C) Q := by
  refine zw_new hw hcl h1 h2 h3 hs hd (fun k1 k2 k3 => ?_)
  rw [gv_new hW.2.1] at k1 k3 ⊢
  rw [cv_new hW.2.1]
  exact kk k1 (zLe.new _ _ _) (hW.le (zLe.new _ _ _)) k3
theorem zd_newX {idx ci N : Nat} {C0 : String} {T : u_T} (hw : zOK b0 X (gv c g R)) (hW : CW b0 g c) (hcl : zCls ci C0 T N) (h1 : Cond.classLink mi.1.cls idx C0 ∈ zTbl) (h2 : Cond.instantiable C0 N ∈ zTbl) (h3 : Cond.initialized C0 ∈ zTbl) (hd : decode mi.2.1 pc = .ok (.new idx, 3))
    (kk : zOK b0 (fun a => X a ∨ a = g.1) (gv c (znG g ci 0) R) → zLe g (znG g ci 0) → CW b0 (znG g ci 0) c → zIn b0 (znG g ci 0) g.1 ci → zS l d D b0 mi (cs + 1) (ns + N) (pc + 3) L (.ref g.1 :: st) (gv c (znG g ci 0) R) (cv c (znI g f) C) Q) : zS l d D b0 mi cs ns pc L st (gv c g R) (cv c f C) Q := by
  refine zw_newX hw hcl h1 h2 h3 hd (fun k1 k2 k3 => ?_)
  have k1 : zOK b0 (fun a => X a ∨ a = g.1) (znG (gv c g R) ci 0) := k1
  rw [gv_new hW.2.1] at k1 k3 ⊢
  rw [cv_new hW.2.1]
  exact kk k1 (zLe.new _ _ _) (hW.le (zLe.new _ _ _)) k3
theorem zd_anew {idx t : Nat} {C0 : String} {n : Int32} {N : Nat} (hw : zOK b0 X (gv c g R)) (hW : CW b0 g c) (ht : 14 ≤ t ∧ t < 19) (hC : ∀ D : zD, (ztys D)[t - 13]? = some (D.2.1 (t - 13), .object C0)) (hov : C0 ∈ zOver) (hn : ¬ n < 0) (hN : n.toNatClampNeg = N) (hb : N ≤ 1000000) (h1 : Cond.classLink mi.1.cls idx C0 ∈ zTbl) (hd : decode mi.2.1 pc = .ok (.anewarray idx, 3))
    (kk : zOK b0 X (gv c (znG g t N) R) → zLe g (znG g t N) → CW b0 (znG g t N) c → zIn b0 (znG g t N) g.1 t → (znG g t N).2.2.1 g.1 = N → zS l d D b0 mi (cs + 1) (ns + N) (pc + 3) L (.ref g.1 :: st) (gv c (znG g t N) R) (cv c (znI g f) C) Q) : zS l d D b0 mi cs ns pc L (.int n :: st) (gv c g R) (cv c f C) Q := by
  refine zw_anew hw ht hC hov hn hN hb h1 hd (fun k1 k2 k3 k4 => ?_)
  rw [gv_new hW.2.1] at k1 k3 ⊢
  rw [cv_new hW.2.1]
  exact kk k1 (zLe.new _ _ _) (hW.le (zLe.new _ _ _)) k3 (zu1_at _ _ _)
end ZC
/-- the end of a method over the block: the answer, rows, the heap outside, at most so many cells and slots -/
def zCy (b0 : Nat) (X : Nat → Prop) (c : Nat) (g : zG) (r : Option Value) (G : zG) (R : zRf) (F C : zI) (c1 c2 : Nat) : zP := fun r' g' f' mc ms => r' = r ∧ g' = gv c G R ∧ f' = cv c F C ∧ mc ≤ c1 ∧ ms ≤ c2 ∧ zOK b0 X (gv c G R) ∧ zLe g G ∧ CW b0 G c
