/-! The reference's constructor. -/
def RWk (b0 : Nat) (g : zG) (o k : Nat) : Prop := zIn b0 g o 12 ∧ g.1 = o + 1 + k ∧ ∀ q ∈ rT.take k, g.2.2.2 o q.1 = some (o + q.2.1) ∧ zIn b0 g (o + q.2.1) 13 ∧ g.2.2.1 (o + q.2.1) = q.2.2
def fz (o : Nat) (f : zI) (k : Nat) : zI := fun b => if o ≤ b ∧ b < o + 1 + k then fun _ => 0 else f b
theorem rT_fld : ∀ k, k < 19 → ∀ q ∈ rT.take k, q.1 ≠ (rT.getD k (0, 0, 0)).1 ∧ q.2.1 < k + 1 := by decide +kernel
theorem RWk.step {b0 : Nat} {g : zG} {o k fk n : Nat} (h : RWk b0 g o k) (hk : rT[k]? = some (fk, k + 1, n)) : RWk b0 (zpR (znG g 13 n) o fk (some g.1)) o (k + 1) := by
  obtain ⟨h1, h2, h3⟩ := h
  have hk19 : k < 19 := by
    have := (List.getElem?_eq_some_iff.mp hk).1
    exact this
  have hkD : rT.getD k (0, 0, 0) = (fk, k + 1, n) := by rw [List.getD_eq_getElem?_getD, hk]; rfl
  have hin : ∀ a t, zIn b0 g a t → zIn b0 (zpR (znG g 13 n) o fk (some g.1)) a t := by
    intro a t ha
    refine ⟨ha.1, Nat.lt_succ_of_lt ha.2.1, ?_⟩
    show zu1 g.2.1 g.1 13 a = t
    rw [zu1_ne _ _ _ (Nat.ne_of_lt ha.2.1)]
    exact ha.2.2
  refine ⟨hin _ _ h1, ?_, ?_⟩
  · show g.1 + 1 = _
    omega
  · intro q hq
    rw [List.take_add_one, hk] at hq
    rcases List.mem_append.mp hq with hq | hq
    · obtain ⟨q1, q2, q3⟩ := h3 q hq
      obtain ⟨r1, r2⟩ := rT_fld k hk19 q hq
      rw [hkD] at r1
      refine ⟨?_, hin _ _ q2, ?_⟩
      · show zup _ o fk (some g.1) o q.1 = _
        rw [zup_ne _ _ _ _ (Or.inr r1)]
        show zu1 g.2.2.2 g.1 _ o q.1 = _
        rw [zu1_ne _ _ _ (by omega)]
        exact q1
      · show zu1 g.2.2.1 g.1 n (o + q.2.1) = _
        rw [zu1_ne _ _ _ (by omega)]
        exact q3
    · have e : q = (fk, k + 1, n) := by simpa using hq
      subst e
      refine ⟨?_, ⟨by have := h1.1; show b0 ≤ o + (k + 1); omega, by show o + (k + 1) < g.1 + 1; omega, ?_⟩, ?_⟩
      · show zup _ o fk (some g.1) o fk = _
        rw [zup_at, h2]
        exact congrArg some (show o + 1 + k = o + (k + 1) by omega)
      · show zu1 g.2.1 g.1 13 (o + (k + 1)) = 13
        rw [show o + (k + 1) = g.1 by omega, zu1_at]
      · show zu1 g.2.2.1 g.1 n (o + (k + 1)) = n
        rw [show o + (k + 1) = g.1 by omega, zu1_at]
theorem RWk.f {b0 : Nat} {g : zG} {o k : Nat} (h : RWk b0 g o k) (f : zI) : znI g (fz o f k) = fz o f (k + 1) := by
  funext b
  unfold znI fz
  by_cases e : b = g.1
  · subst e
    rw [zu1_at, if_pos (by have := h.2.1; omega)]
  · rw [zu1_ne _ _ _ e]
    have := h.2.1
    by_cases c : o ≤ b ∧ b < o + 1 + k
    · rw [if_pos c, if_pos (by omega)]
    · rw [if_neg c, if_neg (by omega)]
theorem RWk.old {b0 : Nat} {g : zG} {o k fk n a : Nat} (h : RWk b0 g o k) (ha : a < o) : (zpR (znG g 13 n) o fk (some g.1)).2.1 a = g.2.1 a ∧ (zpR (znG g 13 n) o fk (some g.1)).2.2.1 a = g.2.2.1 a ∧ (zpR (znG g 13 n) o fk (some g.1)).2.2.2 a = g.2.2.2 a := by
  have := h.2.1
  refine ⟨zu1_ne _ _ _ (by omega), zu1_ne _ _ _ (by omega), ?_⟩
  show zup _ o fk (some g.1) a = _
  rw [zup_r (by omega)]
  exact zu1_ne _ _ _ (by omega)
theorem fz_19 {o : Nat} {f : zI} : fz o f 19 = rv o f (fun _ _ => 0) := by
  funext b
  unfold fz rv
  by_cases c : o ≤ b ∧ b < o + 20
  · rw [if_pos c]
  · rw [if_neg c]
theorem fz_0 {o : Nat} {f : zI} (h : f o = fun _ => 0) : fz o f 0 = f := by
  funext b
  unfold fz
  by_cases c : o ≤ b ∧ b < o + 1 + 0
  · rw [if_pos c, show b = o by omega, h]
  · rw [if_neg c]
def zSame (g g' : zG) (a : Nat) : Prop := g'.2.1 a = g.2.1 a ∧ g'.2.2.1 a = g.2.2.1 a ∧ g'.2.2.2 a = g.2.2.2 a
theorem zSame.rf {g : zG} {a : Nat} : zSame g g a := ⟨rfl, rfl, rfl⟩
theorem zSame.tr {g g1 g2 : zG} {a : Nat} (h : zSame g g1 a) (k : zSame g1 g2 a) : zSame g g2 a := ⟨k.1.trans h.1, k.2.1.trans h.2.1, k.2.2.trans h.2.2⟩
def pini0 : zI := zup (zup (zup (zup (zup (fun _ _ => 0) 2 0 (-9)) 2 1 (-9)) 2 2 (-9)) 2 3 (-9)) 2 4 (-9)
def pinit : zI := zup (pbegin pini0) 2 5 0
