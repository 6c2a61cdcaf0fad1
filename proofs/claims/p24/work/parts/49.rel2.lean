/-! What was there stays related. -/
theorem EXT.rf (X : zCt) : EXT X X := ⟨⟨zXt.rf, fun _ _ => rfl⟩, fun _ _ => rfl, ⟨rfl, rfl⟩, ⟨Nat.le_refl _, Nat.le_refl _, Nat.le_refl _, Nat.le_refl _⟩, fun _ _ => ⟨rfl, rfl⟩, fun _ _ => ⟨rfl, rfl, rfl⟩⟩
theorem EXT.tr {X Y Z : zCt} (h : EXT X Y) (k : EXT Y Z) : EXT X Z := by
  obtain ⟨⟨a1, a2⟩, a3, ⟨a4, a5⟩, ⟨a6, a7, a8, a9⟩, a10, a11⟩ := h
  obtain ⟨⟨b1, b2⟩, b3, ⟨b4, b5⟩, ⟨b6, b7, b8, b9⟩, b10, b11⟩ := k
  refine ⟨⟨a1.tr b1, fun y hy => (b2 y (Nat.lt_of_lt_of_le hy a1.1.1)).trans (a2 y hy)⟩, fun k hk => (b3 k (by omega)).trans (a3 k hk), ⟨b4.trans a4, b5.trans a5⟩, ⟨by omega, by omega, by omega, by omega⟩, fun e he => ?_, fun r hr => ?_⟩
  · exact ⟨((b10 e (by omega)).1).trans (a10 e he).1, ((b10 e (by omega)).2).trans (a10 e he).2⟩
  · exact ⟨((b11 r (by omega)).1).trans (a11 r hr).1, ((b11 r (by omega)).2.1).trans (a11 r hr).2.1, ((b11 r (by omega)).2.2).trans (a11 r hr).2.2⟩
theorem zIn.xt {b0 : Nat} {g G : zG} {a t : Nat} (h : zIn b0 g a t) (k : zXt g G) : zIn b0 G a t := h.le k.1
theorem zXt.rw {b0 : Nat} {g G : zG} {a t : Nat} (k : zXt g G) (h : zIn b0 g a t) : G.2.2.2 a = g.2.2.2 a := k.2 a h.2.1
/-- the scopes of envs, and resumptions, lie in the heap -/
def IN (b0 : Nat) (X : zCt) : Prop := (∀ e, e < nV X → zIn b0 (qg X) (sG X e) 9) ∧ (∀ r, r < nR X → zIn b0 (qg X) (rG X r) 7)
theorem XR.ext {b0 : Nat} {X Y : zCt} (h : EXT X Y) (hI : IN b0 X) {x y : Int32} {s : Option Nat} (k : XR X x y s) : XR Y x y s := by
  obtain ⟨⟨a1, a2⟩, a3, ⟨a4, a5⟩, ⟨a6, a7, a8, a9⟩, a10, a11⟩ := h
  rcases k with k | ⟨e, e1, e2, e3, e4⟩
  · exact Or.inl k
  · refine Or.inr ⟨e, by omega, e2, by rw [(a10 e e1).1]; exact e3, ?_⟩
    rw [(a10 e e1).1, a1.rw (hI.1 e e1)]
    rcases e4 with e4 | ⟨r, r1, r2, r3, r4⟩
    · exact Or.inl e4
    · exact Or.inr ⟨r, by omega, r2, by rw [(a11 r r1).2.2]; exact r3, by rw [(a11 r r1).1]; exact r4⟩
theorem CV.ext {X Y : zCt} (h : EXT X Y) {n : Nat} {x y : Int32} (k : CV X n x y) : CV Y n x y := by
  obtain ⟨⟨a1, a2⟩, a3, ⟨a4, a5⟩, ⟨a6, a7, a8, a9⟩, a10, a11⟩ := h
  have e1 : bD Y = bD X := by show (qt Y).2.2.1 = _; rw [a5]
  have e2 : rS Y = rS X := by show (qt Y).2.2.2 = _; rw [a5]
  refine ⟨fun v hv => ?_, fun hv => k.2 (by rw [← e2]; exact hv)⟩
  rw [e1] at hv
  obtain ⟨e, q1, q2, q3⟩ := k.1 v hv
  exact ⟨e, q1, by omega, by rw [(a10 e q2).2]; exact q3⟩
theorem FR.ext {b0 n0 : Nat} {X Y : zCt} (h : EXT X Y) (hI : IN b0 X) {i x : Nat} (k : FR b0 n0 X i x) : FR b0 n0 Y i x := by
  have h' := h
  obtain ⟨⟨a1, a2⟩, a3, ⟨a4, a5⟩, ⟨a6, a7, a8, a9⟩, a10, a11⟩ := h
  obtain ⟨k1, k2, k3, κ, k4, k5, k6, k7, f1, f2, f3, f4⟩ := k
  have eP : ∀ j, j < 7 → (qM Y) 4 (7 * i + j) = (qM X) 4 (7 * i + j) := fun j hj => a3 _ (by omega)
  have eg : (qg Y).2.2.2 x = (qg X).2.2.2 x := a1.rw k3
  have ef : (qf Y) x = (qf X) x := a2 x k3.2.1
  have eN : nN Y = nN X := by show (qt Y).1 = _; rw [a5]
  have eE : nE Y = nE X := by show (qt Y).2.1 = _; rw [a5]
  refine ⟨by omega, k2, k3.xt a1, κ, k4, k5, (eP 0 (by decide)).trans k6, by rw [ef]; exact k7, fun q => ?_, fun q => ?_, fun q => ?_, fun q => ?_⟩
  · obtain ⟨n, ν, c1, c2, c3, c4, c5, c6, c7⟩ := f1 q
    refine ⟨n, ν, by rw [eN]; exact c1, (eP 1 (by decide)).trans c2, by rw [eg, eE]; exact c3, c4, by rw [a4]; exact c5, c6, fun q2 => ?_⟩
    obtain ⟨d1, d2⟩ := c7 q2
    rw [eP 2 (by decide), eP 3 (by decide), eg]
    exact ⟨d1.ext h' hI, d2.ext h'⟩
  · rw [eP 4 (by decide), ef]; exact f2 q
  · obtain ⟨j, j1, j2, j3⟩ := f3 q
    exact ⟨j, by omega, (eP 4 (by decide)).trans j2, by rw [ef]; exact j3⟩
  · obtain ⟨r, j1, j2, j3, j4⟩ := f4 q
    exact ⟨r, by omega, (eP 4 (by decide)).trans j2, by rw [eg, (a11 r j1).1]; exact j3, fun q2 => by rw [(a11 r j1).2.2]; exact j4 q2⟩
theorem ER1.ext {b0 n0 : Nat} {X Y : zCt} (h : EXT X Y) {e : Nat} (he : e < nV X) (hM : ∀ j, j < 3 → (qM Y) 2 (30 + 3 * e + j) = (qM X) 2 (30 + 3 * e + j)) (k : ER1 b0 n0 X e) : ER1 b0 n0 Y e := by
  obtain ⟨⟨a1, a2⟩, a3, ⟨a4, a5⟩, ⟨a6, a7, a8, a9⟩, a10, a11⟩ := h
  obtain ⟨k1, k2, ⟨v, v1, v2, v3⟩, k4, k5⟩ := k
  have es : sG Y e = sG X e := (a10 e he).1
  have el : eL Y e = eL X e := (a10 e he).2
  have eg : (qg Y).2.2.2 (sG X e) = (qg X).2.2.2 (sG X e) := a1.rw k2
  have ef : (qf Y) (sG X e) = (qf X) (sG X e) := a2 _ k2.2.1
  have m0 : (qM Y) 2 (30 + 3 * e) = (qM X) 2 (30 + 3 * e) := hM 0 (by decide)
  refine ⟨by rw [es]; exact k1, by rw [es]; exact k2.xt a1, ⟨v, v1, by rw [m0]; exact v2, by rw [es, ef]; exact v3⟩, by rw [es, ef, hM 1 (by decide)]; exact k4, ?_⟩
  rw [hM 2 (by decide), es, eg, el, m0]
  rcases k5 with k5 | ⟨e1, c1, c2, c3, c4⟩
  · exact Or.inl k5
  · exact Or.inr ⟨e1, c1, c2, by rw [(a10 e1 (by omega)).1]; exact c3, fun v hv => by rw [(a10 e1 (by omega)).2]; exact c4 v hv⟩
theorem RS1.ext {b0 n0 : Nat} {X Y : zCt} (h : EXT X Y) (hI : IN b0 X) {r : Nat} (hr : r < nR X) (hM : ∀ j, j < 2 → (qM Y) 2 (3630 + 3 * r + j) = (qM X) 2 (3630 + 3 * r + j)) (k : RS1 b0 n0 X r) : RS1 b0 n0 Y r := by
  have h' := h
  obtain ⟨⟨a1, a2⟩, a3, ⟨a4, a5⟩, ⟨a6, a7, a8, a9⟩, a10, a11⟩ := h
  obtain ⟨⟨k1, k2, k3, k4, k5, k6⟩, a, c1, c2, c3, c4, c5⟩ := k
  obtain ⟨er, ec, em⟩ := a11 r hr
  have eg : (qg Y).2.2.2 (rG X r) = (qg X).2.2.2 (rG X r) := a1.rw k2
  have ef : (qf Y) (rG X r) = (qf X) (rG X r) := a2 _ k2.2.1
  have m0 : (qM Y) 2 (3630 + 3 * r) = (qM X) 2 (3630 + 3 * r) := hM 0 (by decide)
  refine ⟨⟨by rw [er]; exact k1, by rw [er]; exact k2.xt a1, by rw [er, ef]; exact k3, by rw [em]; exact k4, by rw [em, hM 1 (by decide)]; exact k5, by rw [em, ec, m0]; exact k6⟩, a, by rw [er, eg]; exact c1, c2, c3.xt a1, by rw [em]; exact (a1.1.2 a c3.2.1).2.trans c4, fun p hp => ?_⟩
  rw [em] at hp
  obtain ⟨x, x1, x2, x3, x4⟩ := c5 p hp
  have hlt := x2.1
  have eP : ∀ j, j < 7 → (qM Y) 4 (7 * cI X r p + j) = (qM X) 4 (7 * cI X r p + j) := fun j hj => a3 _ (by omega)
  refine ⟨x, by rw [a1.rw c3]; exact x1, by rw [ec]; exact x2.ext h' hI, fun q => by rw [ec, eP 5 (by decide)]; exact x3 q, fun q => ?_⟩
  rw [ec] at q ⊢
  rw [eP 4 (by decide)]
  exact x4 ((eP 0 (by decide)).symm.trans q)
theorem SK1.ext {b0 n0 : Nat} {X Y : zCt} {R R' : zRf} (h : EXT X Y) (hI : IN b0 X) {p : Nat} (hR : R' 20 p = R 20 p) (hf : fI Y p = fI X p) (hf1 : ¬ p = 0 → fI Y (p - 1) = fI X (p - 1)) (k : SK1 b0 n0 X R p) : SK1 b0 n0 Y R' p := by
  obtain ⟨x, k1, k2, k3, k4⟩ := k
  have hlt := k2.1
  have eP : ∀ j, j < 7 → (qM Y) 4 (7 * fI X p + j) = (qM X) 4 (7 * fI X p + j) := fun j hj => h.2.1 _ (by omega)
  refine ⟨x, hR.trans k1, by rw [hf]; exact k2.ext h hI, by rw [hf, eP 6 (by decide)]; exact k3, ?_⟩
  rw [hf, eP 5 (by decide), k4]
  by_cases q : p = 0
  · rw [if_pos q, if_pos q]
  · rw [if_neg q, if_neg q, hf1 q]
theorem HN.ext {b0 n0 : Nat} {g G : zG} {f F : zI} {T : Nat → Int32} {t : zTs} {n e : Nat} (hx : zXt g G) (hf : ∀ y, y < g.1 → g.2.1 y ≠ 1 → F y = f y) (hi : zIn b0 g e 1) (h : HN b0 n0 g f T t n e) : HN b0 n0 G F T t n e := by
  obtain ⟨⟨h1, h2, h3, h4, h5, h6⟩, qs, c1, c2, c3, c4⟩ := h
  have eg : G.2.2.2 e = g.2.2.2 e := hx.rw hi
  have e1 : G.2.2.2 (e + 1) = g.2.2.2 (e + 1) := hx.rw h3
  have e2 : F (e + 2) = f (e + 2) := hf _ h4.2.1 (by rw [h4.2.2]; decide)
  refine ⟨⟨by rw [eg]; exact h1, by rw [eg]; exact h2, h3.xt hx, h4.xt hx, (hx.1.2 _ h3.2.1).2.trans h5, (hx.1.2 _ h4.2.1).2.trans h6⟩, qs, c1, c2, fun q hq => ?_, fun w hw k => by rw [e1]; exact c4 w hw k⟩
  obtain ⟨d1, d2, d3, w, b, v, d4⟩ := c3 q hq
  refine ⟨d1, d2, d3, w, b, v, ?_⟩
  rw [e1, e2]
  exact d4
theorem TR.ext {b0 n0 : Nat} {g G : zG} {f F : zI} {T : Nat → Int32} {t : zTs} (hx : zXt g G) (hf : ∀ y, y < g.1 → g.2.1 y ≠ 1 → F y = f y) (hf1 : ∀ y, y < g.1 → ∀ k, k < 8 → F y k = f y k) (h : TR b0 n0 g f T t) : TR b0 n0 G F T t := by
  refine ⟨h.1, fun n hn => ?_⟩
  rcases h.2 n hn with h | ⟨k, h1, h2, ⟨c1, c2, c3, c4⟩, d, p, o1, o2, o3⟩
  · exact Or.inl h
  · have eg : G.2.2.2 (t.2.1 n) = g.2.2.2 (t.2.1 n) := hx.rw c2
    have e0 : F (t.2.1 n) 0 = f (t.2.1 n) 0 := hf1 _ c2.2.1 0 (by decide)
    have e1 : F (t.2.1 n) 1 = f (t.2.1 n) 1 := hf1 _ c2.2.1 1 (by decide)
    refine Or.inr ⟨k, h1, h2, ⟨c1, c2.xt hx, by rw [e0]; exact c3, by rw [e1]; exact c4⟩, d, fun i hi => ?_, fun q => ?_, fun q => ?_, fun q => (o3 q).ext hx hf c2⟩
    · have := p i hi
      unfold PN at this ⊢
      rw [eg]
      exact this
    · rw [eg]; exact o1 q
    · rw [eg]; exact o2 q
