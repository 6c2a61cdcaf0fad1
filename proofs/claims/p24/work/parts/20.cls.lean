/-! The class's heap: types of references, fields that are never null, lengths. -/
/-- class, field, length of the array that it holds: references that are never null, once the object is made -/
def zSh : List (Nat × Nat × Option Nat) := [(0, 0, none), (0, 1, none), (0, 2, none), (3, 0, some 1000), (3, 4, some 1000), (4, 0, some 240), (4, 3, some 240), (4, 4, some 240), (5, 0, some 1000), (5, 1, some 1000), (5, 3, some 1000), (6, 0, some 120), (6, 4, some 121), (6, 5, some 121), (6, 6, some 121), (6, 7, some 121), (6, 8, some 121), (7, 1, none), (8, 1, some 4), (8, 8, none), (8, 9, none), (8, 10, some 60), (8, 12, some 6), (8, 13, none), (10, 0, some 100), (11, 0, some 120), (11, 2, none), (11, 3, none), (11, 4, none), (11, 5, some 2)]
def zOK (b0 : Nat) (X : Nat → Prop) (g : zG) : Prop := b0 ≤ g.1 ∧
  (∀ a k b, b0 ≤ a → a < g.1 → zty (g.2.1 a) k ≠ 99 → g.2.2.2 a k = some b → zIn b0 g b (zty (g.2.1 a) k)) ∧
  (∀ a, b0 ≤ a → a < g.1 → ¬ X a → ∀ q ∈ zSh, g.2.1 a = q.1 → ∃ b, g.2.2.2 a q.2.1 = some b ∧ ∀ n, q.2.2 = some n → g.2.2.1 b = n)
/-- the address that a field holds -/
def pA (g : zG) (a k : Nat) : Nat := (g.2.2.2 a k).getD 0
theorem pA_of {g : zG} {a k b : Nat} (h : g.2.2.2 a k = some b) : g.2.2.2 a k = some (pA g a k) := by
  unfold pA
  rw [h]
  rfl
theorem pA_eq {g : zG} {a k b : Nat} (h : g.2.2.2 a k = some b) : pA g a k = b := by
  unfold pA
  rw [h]
  rfl
theorem zOK.get {b0 : Nat} {X : Nat → Prop} {g : zG} {a t k b t' : Nat} (h : zOK b0 X g) (ha : zIn b0 g a t) (hz : zty t k = t') (h9 : t' ≠ 99) (hb : g.2.2.2 a k = some b) : zIn b0 g b t' := by
  have e := h.2.1 a k b ha.1 ha.2.1 (by rw [ha.2.2, hz]; exact h9) hb
  rw [ha.2.2, hz] at e
  exact e
theorem zOK.shz {b0 : Nat} {X : Nat → Prop} {g : zG} {a t k n t' : Nat} (h : zOK b0 X g) (ha : zIn b0 g a t) (hx : ¬ X a) (hq : (t, k, some n) ∈ zSh) (hz : zty t k = t') (h9 : t' ≠ 99) : g.2.2.2 a k = some (pA g a k) ∧ zIn b0 g (pA g a k) t' ∧ g.2.2.1 (pA g a k) = n := by
  obtain ⟨b, h1, h2⟩ := h.2.2 a ha.1 ha.2.1 hx _ hq ha.2.2
  have e := pA_of h1
  exact ⟨e, h.get ha hz h9 e, by rw [pA_eq h1]; exact h2 n rfl⟩
theorem zOK.shr {b0 : Nat} {X : Nat → Prop} {g : zG} {a t k t' : Nat} (h : zOK b0 X g) (ha : zIn b0 g a t) (hx : ¬ X a) (hq : (t, k, none) ∈ zSh) (hz : zty t k = t') (h9 : t' ≠ 99) : g.2.2.2 a k = some (pA g a k) ∧ zIn b0 g (pA g a k) t' := by
  obtain ⟨b, h1, h2⟩ := h.2.2 a ha.1 ha.2.1 hx _ hq ha.2.2
  have e := pA_of h1
  exact ⟨e, h.get ha hz h9 e⟩
/-- g' has g's cells, with their classes and lengths, and perhaps more -/
def zLe (g g' : zG) : Prop := g.1 ≤ g'.1 ∧ ∀ a, a < g.1 → g'.2.1 a = g.2.1 a ∧ g'.2.2.1 a = g.2.2.1 a
theorem zLe.rf {g : zG} : zLe g g := ⟨Nat.le_refl _, fun _ _ => ⟨rfl, rfl⟩⟩
theorem zLe.tr {g g1 g2 : zG} (h : zLe g g1) (k : zLe g1 g2) : zLe g g2 := ⟨Nat.le_trans h.1 k.1, fun a ha => ⟨(k.2 a (Nat.lt_of_lt_of_le ha h.1)).1.trans (h.2 a ha).1, (k.2 a (Nat.lt_of_lt_of_le ha h.1)).2.trans (h.2 a ha).2⟩⟩
theorem zLe.new (g : zG) (t n : Nat) : zLe g (znG g t n) := ⟨Nat.le_succ _, fun a ha => ⟨zu1_ne _ _ _ (Nat.ne_of_lt ha), zu1_ne _ _ _ (Nat.ne_of_lt ha)⟩⟩
theorem zIn.le {b0 : Nat} {g g' : zG} {a t : Nat} (h : zIn b0 g a t) (k : zLe g g') : zIn b0 g' a t := ⟨h.1, Nat.lt_of_lt_of_le h.2.1 k.1, (k.2 a h.2.1).1.trans h.2.2⟩
theorem zLe.len {b0 : Nat} {g g' : zG} {a t n : Nat} (k : zLe g g') (h : zIn b0 g a t) (e : g.2.2.1 a = n) : g'.2.2.1 a = n := (k.2 a h.2.1).2.trans e
theorem zIn.ne {b0 : Nat} {g : zG} {a b t t' : Nat} (h : zIn b0 g a t) (k : zIn b0 g b t') (e : t ≠ t') : a ≠ b := fun q => e (by rw [← h.2.2, ← k.2.2, q])
theorem zIn.self {b0 : Nat} {g : zG} {t n : Nat} (h : b0 ≤ g.1) : zIn b0 (znG g t n) g.1 t := ⟨h, Nat.lt_succ_self _, zu1_at _ _ _⟩
theorem zOK.mono {b0 : Nat} {X Y : Nat → Prop} {g : zG} (h : zOK b0 X g) (k : ∀ a, X a → Y a) : zOK b0 Y g := ⟨h.1, h.2.1, fun a h1 h2 h3 => h.2.2 a h1 h2 (fun q => h3 (k a q))⟩
/-- a cell of a class without such fields is made -/
theorem zOK.new {b0 : Nat} {X : Nat → Prop} {g : zG} {t n : Nat} (h : zOK b0 X g) (ht : ∀ q ∈ zSh, t ≠ q.1) : zOK b0 X (znG g t n) := by
  refine ⟨Nat.le_succ_of_le h.1, fun a k b h1 h2 h3 h4 => ?_, fun a h1 h2 h3 q hq h4 => ?_⟩
  · by_cases e : a = g.1
    · subst e
      have h4 : zu1 g.2.2.2 g.1 (fun _ => none) g.1 k = some b := h4
      rw [zu1_at] at h4
      cases h4
    · have h2 : a < g.1 + 1 := h2
      have ha : a < g.1 := by omega
      have h3 : zty (zu1 g.2.1 g.1 t a) k ≠ 99 := h3
      have h4 : zu1 g.2.2.2 g.1 (fun _ => none) a k = some b := h4
      show zIn b0 _ b (zty (zu1 g.2.1 g.1 t a) k)
      rw [zu1_ne _ _ _ e] at h3 h4 ⊢
      exact (h.2.1 a k b h1 ha h3 h4).le (zLe.new g t n)
  · by_cases e : a = g.1
    · subst e
      have h4 : zu1 g.2.1 g.1 t g.1 = q.1 := h4
      rw [zu1_at] at h4
      exact absurd h4 (ht q hq)
    · have h2 : a < g.1 + 1 := h2
      have ha : a < g.1 := by omega
      have h4 : zu1 g.2.1 g.1 t a = q.1 := h4
      rw [zu1_ne _ _ _ e] at h4
      obtain ⟨b, k1, k2⟩ := h.2.2 a h1 ha h3 q hq h4
      refine ⟨b, ?_, fun m hm => ?_⟩
      · show zu1 g.2.2.2 g.1 (fun _ => none) a q.2.1 = some b
        rw [zu1_ne _ _ _ e]
        exact k1
      · show zu1 g.2.2.1 g.1 n b = m
        have hb : b ≠ g.1 := by
          have h9 : zty (g.2.1 a) q.2.1 ≠ 99 := by
            rw [h4]
            exact (show ∀ q ∈ zSh, zty q.1 q.2.1 ≠ 99 by decide +kernel) q hq
          exact Nat.ne_of_lt (h.2.1 a q.2.1 b h1 ha h9 k1).2.1
        rw [zu1_ne _ _ _ hb]
        exact k2 m hm
/-- a cell of any class is made: it is not whole yet -/
theorem zOK.newX {b0 : Nat} {X : Nat → Prop} {g : zG} {t n : Nat} (h : zOK b0 X g) : zOK b0 (fun a => X a ∨ a = g.1) (znG g t n) := by
  refine ⟨Nat.le_succ_of_le h.1, fun a k b h1 h2 h3 h4 => ?_, fun a h1 h2 h3 q hq h4 => ?_⟩
  · by_cases e : a = g.1
    · subst e
      have h4 : zu1 g.2.2.2 g.1 (fun _ => none) g.1 k = some b := h4
      rw [zu1_at] at h4
      cases h4
    · have h2 : a < g.1 + 1 := h2
      have ha : a < g.1 := by omega
      have h3 : zty (zu1 g.2.1 g.1 t a) k ≠ 99 := h3
      have h4 : zu1 g.2.2.2 g.1 (fun _ => none) a k = some b := h4
      show zIn b0 _ b (zty (zu1 g.2.1 g.1 t a) k)
      rw [zu1_ne _ _ _ e] at h3 h4 ⊢
      exact (h.2.1 a k b h1 ha h3 h4).le (zLe.new g t n)
  · have e : a ≠ g.1 := fun q => h3 (Or.inr q)
    have h2 : a < g.1 + 1 := h2
    have ha : a < g.1 := by omega
    have h4 : zu1 g.2.1 g.1 t a = q.1 := h4
    rw [zu1_ne _ _ _ e] at h4
    obtain ⟨b, k1, k2⟩ := h.2.2 a h1 ha (fun q => h3 (Or.inl q)) q hq h4
    refine ⟨b, ?_, fun m hm => ?_⟩
    · show zu1 g.2.2.2 g.1 (fun _ => none) a q.2.1 = some b
      rw [zu1_ne _ _ _ e]
      exact k1
    · show zu1 g.2.2.1 g.1 n b = m
      have hb : b ≠ g.1 := by
        have h9 : zty (g.2.1 a) q.2.1 ≠ 99 := by
          rw [h4]
          exact (show ∀ q ∈ zSh, zty q.1 q.2.1 ≠ 99 by decide +kernel) q hq
        exact Nat.ne_of_lt (h.2.1 a q.2.1 b h1 ha h9 k1).2.1
      rw [zu1_ne _ _ _ hb]
      exact k2 m hm
theorem zOK.putG {b0 : Nat} {X : Nat → Prop} {g : zG} {a t k : Nat} {v : Option Nat} (h : zOK b0 X g) (ha : zIn b0 g a t) (hv : ∀ b, v = some b → zIn b0 g b (zty t k)) (hX : X a ∨ ∀ q ∈ zSh, t = q.1 → k ≠ q.2.1) : zOK b0 X (zpR g a k v) := by
  refine ⟨h.1, fun c j b h1 h2 h3 h4 => ?_, fun c h1 h2 h3 q hq h4 => ?_⟩
  · have h4 : zup g.2.2.2 a k v c j = some b := h4
    by_cases e : c = a ∧ j = k
    · obtain ⟨rfl, rfl⟩ := e
      rw [zup_at] at h4
      have := hv b h4
      show zIn b0 g b (zty (g.2.1 c) j)
      rw [ha.2.2]
      exact this
    · rw [zup_ne _ _ _ _ (by omega)] at h4
      exact h.2.1 c j b h1 h2 h3 h4
  · obtain ⟨b, k1, k2⟩ := h.2.2 c h1 h2 h3 q hq h4
    refine ⟨b, ?_, k2⟩
    show zup g.2.2.2 a k v c q.2.1 = some b
    rw [zup_ne _ _ _ _ ?_]
    · exact k1
    · by_cases e : c = a
      · subst e
        rcases hX with hX | hX
        · exact absurd hX h3
        · exact Or.inr (fun q' => hX q hq (ha.2.2.symm.trans h4) q'.symm)
      · exact Or.inl e
theorem zOK.put {b0 : Nat} {X : Nat → Prop} {g : zG} {a t k t' : Nat} {v : Option Nat} (h : zOK b0 X g) (ha : zIn b0 g a t) (hz : zty t k = t') (hv : ∀ b, v = some b → zIn b0 g b t') (hq : ∀ q ∈ zSh, t = q.1 → k ≠ q.2.1) : zOK b0 X (zpR g a k v) := h.putG ha (by rw [hz]; exact hv) (Or.inr hq)
theorem zOK.putX {b0 : Nat} {X : Nat → Prop} {g : zG} {a t k t' : Nat} {v : Option Nat} (h : zOK b0 X g) (ha : zIn b0 g a t) (hz : zty t k = t') (hv : ∀ b, v = some b → zIn b0 g b t') (hX : X a) : zOK b0 X (zpR g a k v) := h.putG ha (by rw [hz]; exact hv) (Or.inl hX)
/-- a field that is never null is written with what fits -/
theorem zOK.putS {b0 : Nat} {X : Nat → Prop} {g : zG} {a t k t' b : Nat} (h : zOK b0 X g) (ha : zIn b0 g a t) (hz : zty t k = t') (hv : zIn b0 g b t') (hq : ∀ q ∈ zSh, t = q.1 → k = q.2.1 → q.2.2 = none) : zOK b0 X (zpR g a k (some b)) := by
  refine ⟨h.1, fun c j b' h1 h2 h3 h4 => ?_, fun c h1 h2 h3 q hq' h4 => ?_⟩
  · have h4 : zup g.2.2.2 a k (some b) c j = some b' := h4
    by_cases e : c = a ∧ j = k
    · obtain ⟨rfl, rfl⟩ := e
      rw [zup_at] at h4
      cases h4
      show zIn b0 g b (zty (g.2.1 c) j)
      rw [ha.2.2, hz]
      exact hv
    · rw [zup_ne _ _ _ _ (by omega)] at h4
      exact h.2.1 c j b' h1 h2 h3 h4
  · obtain ⟨b1, k1, k2⟩ := h.2.2 c h1 h2 h3 q hq' h4
    by_cases e : c = a ∧ q.2.1 = k
    · obtain ⟨rfl, e2⟩ := e
      refine ⟨b, ?_, fun n hn => ?_⟩
      · show zup g.2.2.2 c k (some b) c q.2.1 = some b
        rw [e2]
        exact zup_at _ _ _ _
      · have := hq q hq' (ha.2.2.symm.trans h4) e2.symm
        rw [this] at hn
        cases hn
    · refine ⟨b1, ?_, k2⟩
      show zup g.2.2.2 a k (some b) c q.2.1 = some b1
      rw [zup_ne _ _ _ _ (by omega)]
      exact k1
/-- an object is whole -/
theorem zOK.whole {b0 : Nat} {X Y : Nat → Prop} {g : zG} (h : zOK b0 X g) (hY : ∀ a, X a → ¬ Y a → b0 ≤ a → a < g.1 → ∀ q ∈ zSh, g.2.1 a = q.1 → ∃ b, g.2.2.2 a q.2.1 = some b ∧ ∀ n, q.2.2 = some n → g.2.2.1 b = n) : zOK b0 Y g :=
  ⟨h.1, h.2.1, fun a h1 h2 h3 q hq h4 => by
    by_cases e : X a
    · exact hY a e h3 h1 h2 q hq h4
    · exact h.2.2 a h1 h2 e q hq h4⟩
def zNo : Nat → Prop := fun _ => False
abbrev zSt : Type := zG × zI
def uI (S : zSt) (a k : Nat) (x : Int32) : zSt := (S.1, zup S.2 a k x)
def uR (S : zSt) (a k : Nat) (v : Option Nat) : zSt := (zpR S.1 a k v, S.2)
def uN (S : zSt) (t n : Nat) : zSt := (znG S.1 t n, znI S.1 S.2)
def uC (S : zSt) (a : Nat) (r : Nat → Int32) : zSt := (S.1, zu1 S.2 a r)
/-- the end of a method of the class: the answer, the heap, at most so many cells and slots -/
def zCx (b0 : Nat) (X : Nat → Prop) (g : zG) (r : Option Value) (S : zSt) (c1 c2 : Nat) : zP := fun r' g' f' mc ms => r' = r ∧ g' = S.1 ∧ f' = S.2 ∧ mc ≤ c1 ∧ ms ≤ c2 ∧ zOK b0 X g' ∧ zLe g g'
