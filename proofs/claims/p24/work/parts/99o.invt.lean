/-! The relation between the calls. -/
section INVT
variable {b0 n0 : Nat} {Z : Nat → Prop} {g G : zG} {f F M N : zI} {t t' : zTs} {R R' : zRf} {C C' : zI}
theorem EN.mvz {T : Nat → Int32} {k n : Nat} (h : EN b0 n0 g f T t k n) (hx : zLe g G ∧ ZZ n0 g Z ∧ ∀ y, n0 ≤ y → y < g.1 → ¬ Z y → G.2.2.2 y = g.2.2.2 y ∧ (g.2.1 y ≠ 1 → F y = f y) ∧ ∀ k, k < 8 → F y k = f y k) : EN b0 n0 G F T t k n := by
  obtain ⟨⟨c1, c2, c3, c4⟩, d, p, o1, o2, o3⟩ := h
  obtain ⟨eg, -, ef⟩ := hx.2.2 _ c1 c2.2.1 (hx.2.1.out c2 (by omega))
  have e0 : F (t.2.1 n) 0 = f (t.2.1 n) 0 := ef 0 (by decide)
  have e1 : F (t.2.1 n) 1 = f (t.2.1 n) 1 := ef 1 (by decide)
  refine ⟨⟨c1, c2.le hx.1, by rw [e0]; exact c3, by rw [e1]; exact c4⟩, d, fun i hi => ?_, fun q => ?_, fun q => ?_, fun q => ?_⟩
  · have := p i hi
    unfold PN at this ⊢
    rw [eg]
    exact this
  · rw [eg]; exact o1 q
  · rw [eg]; exact o2 q
  · obtain ⟨⟨h1, h2, h3, h4, h5, h6⟩, qs, q1, q2, q3, q4⟩ := o3 q
    have e1 : G.2.2.2 (t.2.1 n + 1) = g.2.2.2 (t.2.1 n + 1) := (hx.2.2 _ (by omega) h3.2.1 (hx.2.1.out h3 (by omega))).1
    have nz : ¬ Z (t.2.1 n + 2) := by
      intro z
      have q := hx.2.1.1 _ z h4.2.1
      rw [h4.2.2, show t.2.1 n + 2 - 1 = t.2.1 n + 1 by omega, h3.2.2] at q
      omega
    have e2 : F (t.2.1 n + 2) = f (t.2.1 n + 2) := (hx.2.2 _ (by omega) h4.2.1 nz).2.1 (by rw [h4.2.2]; decide)
    refine ⟨⟨by rw [eg]; exact h1, by rw [eg]; exact h2, h3.le hx.1, h4.le hx.1, (hx.1.2 _ h3.2.1).2.trans h5, (hx.1.2 _ h4.2.1).2.trans h6⟩, qs, q1, q2, fun q hq => ?_, fun w hw k => by rw [e1]; exact q4 w hw k⟩
    obtain ⟨d1, d2, d3, w, b, v, d4⟩ := q3 q hq
    refine ⟨d1, d2, d3, w, b, v, ?_⟩
    rw [e1, e2]
    exact d4
theorem BD.mv {r0 a : Nat} (h : BD b0 n0 g f M t r0 a) (ha : n0 ≤ a ∧ zIn b0 g a 0) (hx : zLe g G ∧ ZZ n0 g Z ∧ ∀ y, n0 ≤ y → y < g.1 → ¬ Z y → G.2.2.2 y = g.2.2.2 y ∧ (g.2.1 y ≠ 1 → F y = f y) ∧ ∀ k, k < 8 → F y k = f y k) (hu : t.1 ≤ 65000) (hN : ∀ j, j < 5 * t.1 → N 1 j = M 1 j) (h11 : ∀ j, j < t.1 → N 11 j = M 11 j) (htt : t.1 ≤ t'.1) (ho : ∀ i, i < t.1 → t'.2.1 i = t.2.1 i ∧ t'.2.2.1 i = t.2.2.1 i ∧ t'.2.2.2 i = t.2.2.2 i) : BD b0 n0 G F N t' r0 a := by
  obtain ⟨e, A, k, ⟨e1, e2, e3⟩, ⟨a1, a2, a3, a4, a5⟩, h1, h2, h3⟩ := h
  have rA : G.2.2.2 A = g.2.2.2 A := (hx.2.2 A a2 a3.2.1 (hx.2.1.out a3 (by omega))).1
  have ra : G.2.2.2 a = g.2.2.2 a := (hx.2.2 a ha.1 ha.2.2.1 (hx.2.1.out ha.2 (by omega))).1
  refine ⟨e, A, k, ⟨e1, by omega, (h11 _ (by omega)).trans e3⟩, ⟨by rw [ra]; exact a1, a2, a3.le hx.1, (hx.1.2 _ a3.2.1).2.trans a4, a5⟩, fun i hi => ?_, fun m b c d => ?_, fun m b c => ?_⟩
  · obtain ⟨m, b1, b2, b3, b4⟩ := h1 i hi
    refine ⟨m, b1, b2, by rw [hN _ (by omega)]; exact b3, ?_⟩
    rw [rA, (ho m (by omega)).1]; exact b4
  · rw [hN _ (by omega)] at d
    obtain ⟨i, b1, b2⟩ := h2 m b c d
    refine ⟨i, b1, ?_⟩
    rw [rA, (ho m (by omega)).1]; exact b2
  · rcases h3 m b c with z | ⟨κ, z1, z2, z3, z4⟩
    · obtain ⟨z0, b', y1, y2, y3, y4⟩ := z
      exact Or.inl ⟨(hN _ (by omega)).trans z0, b', y1, y2, (hN _ (by omega)).trans y3, by rw [hN _ (by omega)]; exact y4⟩
    · have z5 := (z3.mvz hx).more (T' := N 1) (t' := (e, t'.2)) z2 z1 c (by show e ≤ 65536; omega) (Nat.le_refl _) (fun j hj => hN j (by have : j < 5 * e := hj; omega)) (fun i hi => ho i (by have : i < e := hi; omega))
      refine Or.inr ⟨κ, z1, (hN _ (by omega)).trans z2, z5, fun q => ?_⟩
      obtain ⟨h, y1, y2, y3⟩ := z4 q
      exact ⟨h, y1, y2, (hN _ (by omega)).trans y3⟩
/-- the main expression's listing -/
def ML (b0 n0 : Nat) (g : zG) (f M : zI) (t : zTs) (r0 a : Nat) : Prop := ∃ A N e, g.2.2.2 a 2 = some A ∧ (n0 ≤ A ∧ 2 ≤ A ∧ g.2.1 (A - 2) = 0) ∧ zIn b0 g A 13 ∧ g.2.2.1 A = N ∧ N < 240 ∧ e ≤ t.1 ∧ LAY (M 1) e r0 N (f A)
theorem ML.mv {r0 a : Nat} (h : ML b0 n0 g f M t r0 a) (ha : n0 ≤ a ∧ zIn b0 g a 0) (hx : zLe g G ∧ ZZ n0 g Z ∧ ∀ y, n0 ≤ y → y < g.1 → ¬ Z y → G.2.2.2 y = g.2.2.2 y ∧ (g.2.1 y ≠ 1 → F y = f y) ∧ ∀ k, k < 8 → F y k = f y k) (hz : ∀ A, (g.2.2.2 a 2 = some A ∧ zIn b0 g A 13 ∧ 2 ≤ A ∧ g.2.1 (A - 2) = 0) → ¬ Z A) (hN : ∀ j, j < 5 * t.1 → N 1 j = M 1 j) (htt : t.1 ≤ t'.1) : ML b0 n0 G F N t' r0 a := by
  obtain ⟨A, n, e, h1, ⟨h2, ha2, hb2⟩, h3, h4, h5, h6, h7⟩ := h
  have h32 := h3.2.1
  have ra : G.2.2.2 a = g.2.2.2 a := (hx.2.2 a ha.1 ha.2.2.1 (hx.2.1.out ha.2 (by omega))).1
  have rA : F A = f A := (hx.2.2 A h2 h3.2.1 (hz A ⟨h1, h3, ha2, hb2⟩)).2.1 (by rw [h3.2.2]; decide)
  exact ⟨A, n, e, by rw [ra]; exact h1, ⟨h2, ha2, (hx.1.2 (A - 2) (by omega)).1.trans hb2⟩, h3.le hx.1, (hx.1.2 _ h3.2.1).2.trans h4, h5, by omega, h7.of (fun c hc => hN c (by omega)) (fun i _ => by rw [rA])⟩
/-- what the bodies hold -/
def BOD (b0 n0 : Nat) (g : zG) (f M : zI) (t : zTs) (R : zRf) : Prop := (∀ a, R 17 0 = some a → ∃ r0, M 2 0 = nI r0 ∧ r0 < t.1 ∧ (n0 ≤ a ∧ zIn b0 g a 0) ∧ BD b0 n0 g f M t r0 a ∧ ML b0 n0 g f M t r0 a) ∧ ∀ p, p < 4 → ∀ a, R 18 p = some a → ∃ r0, M 2 (1 + p) = nI r0 ∧ r0 < t.1 ∧ (n0 ≤ a ∧ zIn b0 g a 0) ∧ BD b0 n0 g f M t r0 a
/-- a listing lies in no image -/
theorem Zi.lst {a A : Nat} (h : RA b0 g a) (hA : zIn b0 g A 13 ∧ 2 ≤ A ∧ g.2.1 (A - 2) = 0) : ¬ Zi a A := by
  obtain ⟨⟨a1, a2, a3, a4, a5, a6, a7, a8, a9⟩, -⟩ := h
  obtain ⟨h1, h2, h3⟩ := hA
  rintro ⟨z1, z2⟩
  have hs : A = a ∨ A = a + 1 ∨ A = a + 2 ∨ A = a + 3 ∨ A = a + 4 ∨ A = a + 5 ∨ A = a + 6 ∨ A = a + 7 ∨ A = a + 8 := by omega
  have t := h1.2.2
  rcases hs with rfl | rfl | rfl | rfl | rfl | rfl | rfl | rfl | rfl
  · have := a1.2.2; omega
  · have := a2.2.2; omega
  · have := a3.2.2; omega
  · have := a4.2.2; omega
  · have := a5.2.2; omega
  · have := a4.2.2; rw [show a + 5 - 2 = a + 3 by omega] at h3; omega
  · have := a5.2.2; rw [show a + 6 - 2 = a + 4 by omega] at h3; omega
  · have := a6.2.2; rw [show a + 7 - 2 = a + 5 by omega] at h3; omega
  · have := a7.2.2; rw [show a + 8 - 2 = a + 6 by omega] at h3; omega
end INVT
