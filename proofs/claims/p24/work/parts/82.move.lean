/-! What was there stays related though the trees grow, or what may() notes at expressions, or cells below n0, change. -/
/-- cells Z, of other objects than those that a run, or the trees, consist of -/
def ZZ (n0 : Nat) (g : zG) (Z : Nat → Prop) : Prop := (∀ y, Z y → y < g.1 → (g.2.1 y = 8 ∨ g.2.1 y = 16 ∨ g.2.1 y = 10 ∨ g.2.1 y = 15 ∨ g.2.1 y = 3 ∨ (g.2.1 y = 13 ∧ 1 ≤ y ∧ ¬ g.2.1 (y - 1) = 14))) ∧ (∀ x, n0 ≤ x → x < g.1 → g.2.1 x = 7 → ∀ a, g.2.2.2 x 1 = some a → g.2.1 a = 15 → ¬ Z a)
def EXh (n0 : Nat) (Z : Nat → Prop) (g : zG) (f M : zI) (t : zTs) (G : zG) (F N : zI) (t' : zTs) (np : Nat) : Prop :=
  (zLe g G ∧ ZZ n0 g Z ∧ ∀ y, n0 ≤ y → y < g.1 → ¬ Z y → G.2.2.2 y = g.2.2.2 y ∧ (g.2.1 y ≠ 1 → F y = f y) ∧ ∀ k, k < 8 → F y k = f y k) ∧ (∀ k, k < 7 * np → N 4 k = M 4 k) ∧
  (t.1 ≤ t'.1 ∧ (∀ k, k < 5 * t.1 → N 1 k = M 1 k) ∧ ∀ n, n < t.1 → t'.2.1 n = t.2.1 n ∧ t'.2.2.1 n = t.2.2.1 n ∧ t'.2.2.2 n = t.2.2.2 n)
theorem ZZ.non (n0 : Nat) (g : zG) : ZZ n0 g (fun _ => False) := ⟨fun _ h => absurd h id, fun _ _ _ _ _ _ _ h => h⟩
theorem ZZ.out {b0 n0 : Nat} {g : zG} {Z : Nat → Prop} (h : ZZ n0 g Z) {x k : Nat} (hi : zIn b0 g x k) (hk : k = 0 ∨ k = 1 ∨ k = 2 ∨ k = 7 ∨ k = 9 ∨ k = 14) : ¬ Z x := by
  intro z
  have q := h.1 x z hi.2.1
  rw [hi.2.2] at q
  omega
section EXH
variable {b0 n0 : Nat} {Z : Nat → Prop} {g G : zG} {f F M N : zI} {t t' : zTs} {y : zGs} {n : zNs} {R R' : zRf} {C C' : zI}
def IN2 (b0 n0 : Nat) (X : zCt) : Prop := (∀ e, e < nV X → n0 ≤ sG X e ∧ zIn b0 (qg X) (sG X e) 9) ∧ (∀ r, r < nR X → n0 ≤ rG X r ∧ zIn b0 (qg X) (rG X r) 7)
theorem CO.IN2 {X : zCt} (h : CO b0 n0 X R C) : IN2 b0 n0 X := ⟨fun e he => ⟨(h.2.1 e he).1, (h.2.1 e he).2.1⟩, fun r hr => ⟨(h.2.2.1 r hr).1.1, (h.2.2.1 r hr).1.2.1⟩⟩
theorem EXh.rg {np : Nat} (h : EXh n0 Z g f M t G F N t' np) {x k : Nat} (h0 : n0 ≤ x) (hi : zIn b0 g x k) (hk : k = 0 ∨ k = 1 ∨ k = 2 ∨ k = 7 ∨ k = 9 ∨ k = 14) : G.2.2.2 x = g.2.2.2 x := (h.1.2.2 x h0 hi.2.1 (h.1.2.1.out hi hk)).1
theorem EXh.row {np : Nat} (h : EXh n0 Z g f M t G F N t' np) {x k : Nat} (h0 : n0 ≤ x) (hi : zIn b0 g x k) (hk : k = 0 ∨ k = 2 ∨ k = 7 ∨ k = 9) : F x = f x := (h.1.2.2 x h0 hi.2.1 (h.1.2.1.out hi (by omega))).2.1 (by rw [hi.2.2]; omega)
theorem XR.mv {np : Nat} (h : EXh n0 Z g f M t G F N t' np) (hI : IN2 b0 n0 (g, f, M, t, y, n)) {a b : Int32} {s : Option Nat} (k : XR (g, f, M, t, y, n) a b s) : XR (G, F, N, t', y, n) a b s := by
  rcases k with k | ⟨e, e1, e2, e3, e4⟩
  · exact Or.inl k
  · refine Or.inr ⟨e, e1, e2, e3, ?_⟩
    have hr : G.2.2.2 (y.1 e) = g.2.2.2 (y.1 e) := h.rg (hI.1 e e1).1 (hI.1 e e1).2 (by omega)
    show (b = -9 ∧ G.2.2.2 (y.1 e) 2 = none) ∨ ∃ r, r < n.2.2.1 ∧ b = nI r ∧ 1 ≤ y.2.2.2.2.1 r ∧ G.2.2.2 (y.1 e) 2 = some (y.2.2.1 r)
    rw [hr]; exact e4
theorem CV.mv {np : Nat} (h : EXh n0 Z g f M t G F N t' np) {m : Nat} (hm : m < t.1) {a b : Int32} (k : CV (g, f, M, t, y, n) m a b) : CV (G, F, N, t', y, n) m a b := by
  obtain ⟨h1, h2, h3⟩ := h.2.2.2.2 m hm
  refine ⟨fun v hv => k.1 v ?_, fun hv => k.2 ?_⟩
  · show t.2.2.1 m v
    rw [← h2]; exact hv
  · show t.2.2.2 m
    rw [← h3]; exact hv
theorem FR.mv (h : EXh n0 Z g f M t G F N t' n.2.2.2.2) (hI : IN2 b0 n0 (g, f, M, t, y, n)) {i x : Nat} (k : FR b0 n0 (g, f, M, t, y, n) i x) : FR b0 n0 (G, F, N, t', y, n) i x := by
  obtain ⟨k1, k2, k3, κ, k4, k5, k6, k7, f1, f2, f3, f4⟩ := k
  have k1 : i < n.2.2.2.2 := k1
  have eP : ∀ j, j < 7 → N 4 (7 * i + j) = M 4 (7 * i + j) := fun j hj => h.2.1 _ (by omega)
  have eg : G.2.2.2 x = g.2.2.2 x := h.rg k2 k3 (by omega)
  have ef : F x = f x := h.row k2 k3 (by omega)
  refine ⟨k1, k2, k3.le h.1.1, κ, k4, k5, (eP 0 (by decide)).trans k6, (congrFun ef 0).trans k7, fun q => ?_, fun q => ?_, fun q => ?_, fun q => ?_⟩
  · obtain ⟨m, ν, c1, c2, c3, c4, c5, c6, c7⟩ := f1 q
    have c1 : m < t.1 := c1
    have c5 : M 1 (5 * m) = nI ν := c5
    have c3 : g.2.2.2 x 1 = some (t.2.1 m) := c3
    obtain ⟨h1, -⟩ := h.2.2.2.2 m c1
    refine ⟨m, ν, Nat.lt_of_lt_of_le c1 h.2.2.1, (eP 1 (by decide)).trans c2, ?_, c4, (h.2.2.2.1 _ (by omega)).trans c5, c6, fun q2 => ?_⟩
    · show G.2.2.2 x 1 = some (t'.2.1 m)
      rw [eg, h1]; exact c3
    · obtain ⟨d1, d2⟩ := c7 q2
      show XR _ (N 4 (7 * i + 2)) (N 4 (7 * i + 3)) (G.2.2.2 x 2) ∧ CV _ m (N 4 (7 * i + 2)) (N 4 (7 * i + 3))
      rw [eP 2 (by decide), eP 3 (by decide), eg]
      exact ⟨d1.mv h hI, d2.mv h c1⟩
  · show F x 3 = N 4 (7 * i + 4)
    rw [eP 4 (by decide), ef]; exact f2 q
  · obtain ⟨j, j1, j2, j3⟩ := f3 q
    exact ⟨j, j1, (eP 4 (by decide)).trans j2, (congrFun ef 3).trans j3⟩
  · obtain ⟨r, j1, j2, j3, j4⟩ := f4 q
    exact ⟨r, j1, (eP 4 (by decide)).trans j2, (congrFun eg 4).trans j3, j4⟩
theorem ER1.mv (h : EXh n0 Z g f M t G F N t' n.2.2.2.2) {e : Nat} (hM : ∀ j, j < 3 → N 2 (30 + 3 * e + j) = M 2 (30 + 3 * e + j)) (k : ER1 b0 n0 (g, f, M, t, y, n) e) : ER1 b0 n0 (G, F, N, t', y, n) e := by
  obtain ⟨k1, k2, ⟨v, v1, v2, v3⟩, k4, k5⟩ := k
  have eg : G.2.2.2 (y.1 e) = g.2.2.2 (y.1 e) := h.rg k1 k2 (by omega)
  have ef : F (y.1 e) = f (y.1 e) := h.row k1 k2 (by omega)
  have m0 : N 2 (30 + 3 * e) = M 2 (30 + 3 * e) := hM 0 (by decide)
  refine ⟨k1, k2.le h.1.1, ⟨v, v1, m0.trans v2, (congrFun ef 0).trans v3⟩, (congrFun ef 1).trans (k4.trans (hM 1 (by decide)).symm), ?_⟩
  show (N 2 (30 + 3 * e + 2) = -9 ∧ G.2.2.2 (y.1 e) 3 = none ∧ ∀ v, y.2.1 e v → N 2 (30 + 3 * e) = nI v) ∨ ∃ e1, e1 < e ∧ N 2 (30 + 3 * e + 2) = nI e1 ∧ G.2.2.2 (y.1 e) 3 = some (y.1 e1) ∧ ∀ v, y.2.1 e v → N 2 (30 + 3 * e) = nI v ∨ y.2.1 e1 v
  rw [hM 2 (by decide), eg, m0]
  exact k5
theorem RS1.mv (h : EXh n0 Z g f M t G F N t' n.2.2.2.2) (hI : IN2 b0 n0 (g, f, M, t, y, n)) {r : Nat} (hM : ∀ j, j < 2 → N 2 (3630 + 3 * r + j) = M 2 (3630 + 3 * r + j)) (k : RS1 b0 n0 (g, f, M, t, y, n) r) : RS1 b0 n0 (G, F, N, t', y, n) r := by
  obtain ⟨⟨k1, k2, k3, k4, k5, k6⟩, a, c1, c2, c3, c4, c5⟩ := k
  have eg : G.2.2.2 (y.2.2.1 r) = g.2.2.2 (y.2.2.1 r) := h.rg k1 k2 (by omega)
  have ef : F (y.2.2.1 r) = f (y.2.2.1 r) := h.row k1 k2 (by omega)
  have ea : G.2.2.2 a = g.2.2.2 a := (h.1.2.2 a c2 c3.2.1 (h.1.2.1.2 _ k1 k2.2.1 k2.2.2 a c1 c3.2.2)).1
  refine ⟨⟨k1, k2.le h.1.1, (congrFun ef 0).trans k3, k4, (hM 1 (by decide)).trans k5, (hM 0 (by decide)).trans k6⟩, a, (congrFun eg 1).trans c1, c2, c3.le h.1.1, (h.1.1.2 a c3.2.1).2.trans c4, fun p hp => ?_⟩
  obtain ⟨x, x1, x2, x3, x4⟩ := c5 p hp
  have hlt : y.2.2.2.1 r p < n.2.2.2.2 := x2.1
  have eP : ∀ j, j < 7 → N 4 (7 * y.2.2.2.1 r p + j) = M 4 (7 * y.2.2.2.1 r p + j) := fun j hj => h.2.1 _ (by omega)
  refine ⟨x, (congrFun ea p).trans x1, x2.mv h hI, fun q => (eP 5 (by decide)).trans (x3 q), fun q => ?_⟩
  obtain ⟨r1, r2, r3⟩ := x4 ((eP 0 (by decide)).symm.trans q)
  exact ⟨r1, r2, (eP 4 (by decide)).trans r3⟩
theorem SK1.mv (h : EXh n0 Z g f M t G F N t' n.2.2.2.2) (hI : IN2 b0 n0 (g, f, M, t, y, n)) {p : Nat} (hR : R' 20 p = R 20 p) (k : SK1 b0 n0 (g, f, M, t, y, n) R p) : SK1 b0 n0 (G, F, N, t', y, n) R' p := by
  obtain ⟨x, k1, k2, k3, k4⟩ := k
  have hlt : y.2.2.2.2.2 p < n.2.2.2.2 := k2.1
  have eP : ∀ j, j < 7 → N 4 (7 * y.2.2.2.2.2 p + j) = M 4 (7 * y.2.2.2.2.2 p + j) := fun j hj => h.2.1 _ (by omega)
  exact ⟨x, hR.trans k1, k2.mv h hI, (eP 6 (by decide)).trans k3, (eP 5 (by decide)).trans k4⟩
/-- the cells that a run's core reads are the same in both states -/
def CCc (n : zNs) (M N C C' : zI) : Prop :=
  (C' 19 1 = C 19 1 ∧ C' 19 2 = C 19 2 ∧ (∀ k, 1 ≤ k → k ≤ 6 → k ≠ 4 → C' 21 k = C 21 k) ∧ C' 17 11 = C 17 11) ∧ (∀ r, r < n.2.2.1 → C' 22 r = C 22 r) ∧ (∀ q, q < n.2.2.2.1 → C' 23 q = C 23 q) ∧ (∀ k, k < 60 → C' 24 k = C 24 k) ∧ (∀ k, k < 6 → C' 25 k = C 25 k) ∧ ∀ j, CW2 j → j < 8490 → N 2 j = M 2 j
theorem bcntP_of {C C' : zI} (h : ∀ k, k < 6 → C' 25 k = C 25 k) : bcntP C' = bcntP C := by
  unfold bcntP
  rw [h 0 (by decide), h 1 (by decide), h 2 (by decide), h 3 (by decide), h 4 (by decide), h 5 (by decide)]
set_option maxHeartbeats 1000000 in
theorem CO.mv (h : CO b0 n0 (g, f, M, t, y, n) R C) (hE : EXh n0 Z g f M t G F N t' n.2.2.2.2) (hT : TR b0 n0 G F (N 1) t') (hR : ∀ p, p < n.1 → R' 20 p = R 20 p) (hC : CCc n M N C C') : CO b0 n0 (G, F, N, t', y, n) R' C' := by
  have hI := h.IN2
  obtain ⟨k1, k2, k3, ⟨k4, k5, k6⟩, ⟨⟨c1, c2⟩, c3, ⟨c4, c5⟩, ⟨c6, c7⟩, c8, c9, c10, ⟨c11, c12, c13⟩, ⟨q, q1, q2, q3, q4⟩, c14, c15⟩, k7⟩ := h
  obtain ⟨⟨e191, e192, e21, e17⟩, e22, e23, e24, e25, w⟩ := hC
  have hb : n.2.1 ≤ 1100 ∧ n.2.2.1 ≤ 1000 ∧ n.2.2.2.1 ≤ 1000 ∧ n.2.2.2.2 ≤ 39800 := k7
  refine ⟨hT, fun e he => ?_, fun r hr => ?_, ⟨k4, (w 7 (Or.inl (by omega)) (by omega)).trans k5, fun p hp => (k6 p hp).mv hE hI (hR p hp)⟩, ⟨⟨e191.trans c1, ?_⟩, ?_, ⟨?_, (e21 1 (by decide) (by decide) (by decide)).trans c5⟩, ⟨?_, (e21 5 (by decide) (by decide) (by decide)).trans c7⟩, ?_, fun r hr => ?_, fun j hj => ?_, ⟨?_, ?_, ?_⟩, ⟨q, q1, e17.trans q2, ?_, fun k hk => ?_⟩, ?_, fun a ha => ?_⟩, k7⟩
  · have he' : e < n.2.1 := he
    exact (k2 e he).mv hE (fun j hj => w _ (Or.inr (by omega)) (by omega))
  · have hr' : r < n.2.2.1 := hr
    exact (k3 r hr).mv hE hI (fun j hj => w _ (Or.inr (by omega)) (by omega))
  · exact e192.trans (c2.trans (w 8 (Or.inl (by omega)) (by omega)).symm)
  · exact (w 22 (Or.inr (by omega)) (by omega)).trans c3
  · exact (w 11 (Or.inl (by omega)) (by omega)).trans c4
  · exact (w 23 (Or.inr (by omega)) (by omega)).trans c6
  · exact (w 21 (Or.inr (by omega)) (by omega)).trans c8
  · have hr' : r < n.2.2.1 := hr
    exact (e22 r hr).trans ((c9 r hr).trans (w _ (Or.inr (by omega)) (by omega)).symm)
  · have hj' : j < n.2.2.2.1 := hj
    exact (e23 j hj).trans ((c10 j hj).trans (w _ (Or.inr (by omega)) (by omega)).symm)
  · exact (e21 2 (by decide) (by decide) (by decide)).trans (c11.trans (w 12 (Or.inl (by omega)) (by omega)).symm)
  · exact (e21 3 (by decide) (by decide) (by decide)).trans (c12.trans (w 13 (Or.inl (by omega)) (by omega)).symm)
  · exact (e21 6 (by decide) (by decide) (by decide)).trans (c13.trans (w 14 (Or.inl (by omega)) (by omega)).symm)
  · exact (w 9 (Or.inl (by omega)) (by omega)).trans q3
  · exact (e24 k (by omega)).trans ((q4 k hk).trans (w _ (Or.inr (by omega)) (by omega)).symm)
  · exact (w 10 (Or.inl (by omega)) (by omega)).trans (c14.trans (bcntP_of e25).symm)
  · exact (e25 a ha).trans ((c15 a ha).trans (w _ (Or.inr (by omega)) (by omega)).symm)
theorem BO.mv {np : Nat} (h : BO b0 n0 (g, f, M, t, y, n) R) (hE : EXh n0 Z g f M t G F N t' np) (hW : ∀ j, j < 5 → N 2 j = M 2 j) (h17 : R' 17 0 = R 17 0) (h18 : ∀ p, p < 4 → R' 18 p = R 18 p) : BO b0 n0 (G, F, N, t', y, n) R' := by
  refine ⟨?_, fun p hp => ?_⟩
  · show (N 2 0 = -9 ∧ R' 17 0 = none) ∨ _
    rw [h17]
    refine h.1.imp (fun z => ⟨(hW 0 (by omega)).trans z.1, z.2⟩) ?_
    rintro ⟨m, a, k1, k2, k3, k4, k5, k6, k7, k8, k9⟩
    have k1 : m < t.1 := k1
    have k6 : zIn b0 g a 0 := k6
    obtain ⟨h1, h2, h3⟩ := hE.2.2.2.2 m k1
    refine ⟨m, a, Nat.lt_of_lt_of_le k1 hE.2.2.1, (hW 0 (by omega)).trans k2, ?_, k4, k5, k6.le hE.1.1, ?_, ?_, ?_⟩
    · show ¬ N 1 (5 * m) = _
      rw [hE.2.2.2.1 _ (by omega)]; exact k3
    · show G.2.2.2 a 0 = some (t'.2.1 m)
      rw [hE.rg k5 k6 (by omega), h1]; exact k7
    · show ∀ v, ¬ t'.2.2.1 m v
      rw [h2]; exact k8
    · show ¬ t'.2.2.2 m
      rw [h3]; exact k9
  · show (N 2 (1 + p) = -9 ∧ R' 18 p = none) ∨ _
    rw [h18 p hp]
    refine (h.2 p hp).imp (fun z => ⟨(hW (1 + p) (by omega)).trans z.1, z.2⟩) ?_
    rintro ⟨m, a, k1, k2, k3, k4, k5, k6, k7, k8, k9⟩
    have k1 : m < t.1 := k1
    have k6 : zIn b0 g a 0 := k6
    obtain ⟨h1, h2, h3⟩ := hE.2.2.2.2 m k1
    refine ⟨m, a, Nat.lt_of_lt_of_le k1 hE.2.2.1, (hW (1 + p) (by omega)).trans k2, ?_, k4, k5, k6.le hE.1.1, ?_, ?_, ?_⟩
    · show ¬ N 1 (5 * m) = _
      rw [hE.2.2.2.1 _ (by omega)]; exact k3
    · show G.2.2.2 a 0 = some (t'.2.1 m)
      rw [hE.rg k5 k6 (by omega), h1]; exact k7
    · show ∀ v, t'.2.2.1 m v → v = 23
      rw [h2]; exact k8
    · show ¬ t'.2.2.2 m
      rw [h3]; exact k9
theorem FE.mv {np : Nat} (h : FE (g, f, M, t, y, n) R) (hE : EXh n0 Z g f M t G F N t' np) (hI : IN2 b0 n0 (g, f, M, t, y, n)) (hW : N 2 17 = M 2 17 ∧ N 2 18 = M 2 18 ∧ N 2 19 = M 2 19) (h4 : R' 17 4 = R 17 4) (h5 : R' 17 5 = R 17 5) : FE (G, F, N, t', y, n) R' := by
  obtain ⟨m, a1, a2, a3, a4, a5, a6⟩ := h
  have a1 : m < t.1 := a1
  obtain ⟨h1, -⟩ := hE.2.2.2.2 m a1
  refine ⟨m, Nat.lt_of_lt_of_le a1 hE.2.2.1, hW.1.trans a2, ?_, ?_, ?_, ?_⟩
  · show ¬ N 1 (5 * m) = _
    rw [hE.2.2.2.1 _ (by omega)]; exact a3
  · show R' 17 4 = some (t'.2.1 m)
    rw [h4, h1]; exact a4
  · show XR _ (N 2 18) (N 2 19) (R' 17 5)
    rw [h5, hW.2.1, hW.2.2]; exact a5.mv hE hI
  · show CV _ m (N 2 18) (N 2 19)
    rw [hW.2.1, hW.2.2]; exact CV.mv hE a1 a6
/-- the cells of the focus -/
def CCf (M N C C' : zI) (R R' : zRf) : Prop := (∀ j, j < 24 → N 2 j = M 2 j) ∧ (C' 17 2 = C 17 2 ∧ C' 17 3 = C 17 3 ∧ C' 17 6 = C 17 6 ∧ C' 17 7 = C 17 7) ∧ (R' 17 4 = R 17 4 ∧ R' 17 5 = R 17 5) ∧ R' 17 0 = R 17 0 ∧ ∀ p, p < 4 → R' 18 p = R 18 p
set_option maxHeartbeats 1000000 in
theorem RN.mv (h : RN b0 n0 (g, f, M, t, y, n) R C) (hE : EXh n0 Z g f M t G F N t' n.2.2.2.2) (hT : TR b0 n0 G F (N 1) t') (hR : ∀ p, p < n.1 → R' 20 p = R 20 p) (hC : CCc n M N C C') (hF : CCf M N C C' R R') : RN b0 n0 (G, F, N, t', y, n) R' C' := by
  obtain ⟨h1, h2, h3, st, s1, s2, s3, hS⟩ := h
  obtain ⟨w, ⟨z2, z3, z6, z7⟩, ⟨r4, r5⟩, r0, r18⟩ := hF
  have hI := h1.IN2
  have wM : ∀ j, j < 24 → (qM (G, F, N, t', y, n)) 2 j = (qM (g, f, M, t, y, n)) 2 j := w
  refine ⟨h1.mv hE hT hR hC, h2.mv hE (fun j hj => w j (by omega)) r0 r18, z2.trans (h3.trans (w 5 (by omega)).symm), st, s1, z3.trans s2, (w 6 (by omega)).trans s3, ?_⟩
  rcases hS with hS | hS | hS | hS | hS | hS
  · obtain ⟨a1, a2, a3, a4, a5, a6, a7⟩ := hS
    refine Or.inl ⟨(w 5 (by omega)).trans a1, a2, (w 16 (by omega)).trans a3, a4, r4.trans a5, z6.trans (a6.trans (w 20 (by omega)).symm), a7.imp id ?_⟩
    rintro ⟨p1, p2, p3⟩
    have p2 : n.1 = 1 := p2
    have hlt : y.2.2.2.2.2 0 < n.2.2.2.2 := by
      obtain ⟨x, -, x2, -⟩ := h1.2.2.2.1.2.2 0 (by show 0 < n.1; omega)
      exact x2.1
    exact ⟨p1, p2, (hE.2.1 (7 * y.2.2.2.2.2 0) (by omega)).trans p3⟩
  · obtain ⟨a1, a2, a3, a4, a5⟩ := hS
    exact Or.inr (Or.inl ⟨(w 5 (by omega)).trans a1, a2, (w 16 (by omega)).trans a3, a4.mv hE hI ⟨w 17 (by omega), w 18 (by omega), w 19 (by omega)⟩ r4 r5, a5⟩)
  · obtain ⟨a1, a2, a3, a4, a5⟩ := hS
    exact Or.inr (Or.inr (Or.inl ⟨(w 5 (by omega)).trans a1, (w 16 (by omega)).trans a2, a3, r4.trans a4, z6.trans (a5.trans (w 20 (by omega)).symm)⟩))
  · obtain ⟨a1, a2, a3, a4, a5, ⟨a, a6, a7⟩, a8⟩ := hS
    exact Or.inr (Or.inr (Or.inr (Or.inl ⟨(w 5 (by omega)).trans a1, (w 16 (by omega)).trans a2, r4.trans a3, z6.trans (a4.trans (w 20 (by omega)).symm), z7.trans (a5.trans (w 15 (by omega)).symm), ⟨a, a6, (w 15 (by omega)).trans a7⟩, a8⟩)))
  · exact Or.inr (Or.inr (Or.inr (Or.inr (Or.inl ⟨(w 5 (by omega)).trans hS.1, (w 16 (by omega)).trans hS.2⟩))))
  · exact Or.inr (Or.inr (Or.inr (Or.inr (Or.inr ⟨(w 5 (by omega)).trans hS.1, (w 16 (by omega)).trans hS.2⟩))))
/-- the trees as they were, in a heap that grew, where cells below n0, or of Z, or notes of may(), changed -/
theorem TR.mv {T : Nat → Int32} (h : TR b0 n0 g f T t) (hx : zLe g G ∧ ZZ n0 g Z ∧ ∀ y, n0 ≤ y → y < g.1 → ¬ Z y → G.2.2.2 y = g.2.2.2 y ∧ (g.2.1 y ≠ 1 → F y = f y) ∧ ∀ k, k < 8 → F y k = f y k) : TR b0 n0 G F T t := by
  refine ⟨h.1, fun n hn => ?_⟩
  rcases h.2 n hn with h | ⟨k, h1, h2, ⟨c1, c2, c3, c4⟩, d, p, o1, o2, o3⟩
  · exact Or.inl h
  · obtain ⟨eg, -, ef⟩ := hx.2.2 _ c1 c2.2.1 (hx.2.1.out c2 (by omega))
    have e0 : F (t.2.1 n) 0 = f (t.2.1 n) 0 := ef 0 (by decide)
    have e1 : F (t.2.1 n) 1 = f (t.2.1 n) 1 := ef 1 (by decide)
    refine Or.inr ⟨k, h1, h2, ⟨c1, c2.le hx.1, by rw [e0]; exact c3, by rw [e1]; exact c4⟩, d, fun i hi => ?_, fun q => ?_, fun q => ?_, fun q => ?_⟩
    · have := p i hi
      unfold PN at this ⊢
      rw [eg]
      exact this
    · rw [eg]; exact o1 q
    · rw [eg]; exact o2 q
    · obtain ⟨⟨h1, h2, h3, h4, h5, h6⟩, qs, q1, q2, q3, q4⟩ := o3 q
      have e1 : G.2.2.2 (t.2.1 n + 1) = g.2.2.2 (t.2.1 n + 1) := (hx.2.2 _ (by omega) h3.2.1 (hx.2.1.out h3 (by omega))).1
      have nz : ¬ Z (t.2.1 n + 2) := by
        intro z
        have q := hx.2.1.1 _ z h4.2.1
        rw [h4.2.2, show t.2.1 n + 2 - 1 = t.2.1 n + 1 by omega, h3.2.2] at q
        omega
      have e2 : F (t.2.1 n + 2) = f (t.2.1 n + 2) := (hx.2.2 _ (by omega) h4.2.1 nz).2.1 (by rw [h4.2.2]; decide)
      refine ⟨⟨by rw [eg]; exact h1, by rw [eg]; exact h2, h3.le hx.1, h4.le hx.1, (hx.1.2 _ h3.2.1).2.trans h5, (hx.1.2 _ h4.2.1).2.trans h6⟩, qs, q1, q2, fun q hq => ?_, fun w hw k => by rw [e1]; exact q4 w hw k⟩
      obtain ⟨d1, d2, d3, w, b, v, d4⟩ := q3 q hq
      refine ⟨d1, d2, d3, w, b, v, ?_⟩
      rw [e1, e2]
      exact d4
end EXH
