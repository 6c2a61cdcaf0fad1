/-! load, in both. -/
section LOADS
variable {b0 n0 c k : Nat} {g G : zG} {f F M N P : zI} {t t' : zTs} {y : zGs} {n : zNs} {R R' : zRf} {C C' : zI}
/-- another main expression -/
theorem BO.main {r0 a : Nat} (h : BO b0 n0 (g, f, M, t, y, n) R) (h1 : N 1 = M 1) (h2 : ∀ j, 1 ≤ j → j < 5 → N 2 j = M 2 j) (h20 : N 2 0 = nI r0) (h17 : R' 17 0 = some a) (h18 : ∀ q, q < 4 → R' 18 q = R 18 q) (hr : r0 < t.1 ∧ ¬ N 1 (5 * r0) = nI 16) (ha : n0 ≤ a ∧ zIn b0 g a 0 ∧ g.2.2.2 a 0 = some (t.2.1 r0)) (hb : (∀ v, ¬ t.2.2.1 r0 v) ∧ ¬ t.2.2.2 r0) : BO b0 n0 (g, f, N, t, y, n) R' := by
  refine ⟨Or.inr ⟨r0, a, hr.1, h20, hr.2, h17, ha.1, ha.2.1, ha.2.2, hb.1, hb.2⟩, fun q hq => ?_⟩
  show (N 2 (1 + q) = -9 ∧ R' 18 q = none) ∨ ∃ m a, m < t.1 ∧ N 2 (1 + q) = nI m ∧ ¬ N 1 (5 * m) = nI 16 ∧ R' 18 q = some a ∧ n0 ≤ a ∧ zIn b0 g a 0 ∧ g.2.2.2 a 0 = some (t.2.1 m) ∧ (∀ v, t.2.2.1 m v → v = 23) ∧ ¬ t.2.2.2 m
  rw [h2 (1 + q) (by omega) (by omega), h18 q hq, h1]
  exact h.2 q hq
theorem BOD.main {r0 a : Nat} (h : BOD b0 n0 g f M t R) (h1 : N 1 = M 1) (h11 : N 11 = M 11) (h2 : ∀ j, 1 ≤ j → j < 5 → N 2 j = M 2 j) (h20 : N 2 0 = nI r0) (h17 : R' 17 0 = some a) (h18 : ∀ q, q < 4 → R' 18 q = R 18 q) (hr : r0 < t.1) (ha : n0 ≤ a ∧ zIn b0 g a 0) (hb : BD b0 n0 g f N t r0 a) (hm : ML b0 n0 g f N t r0 a) : BOD b0 n0 g f N t R' := by
  refine ⟨fun a' ha' => ?_, fun q hq a' ha' => ?_⟩
  · obtain rfl : a = a' := Option.some.inj (h17.symm.trans ha')
    exact ⟨r0, h20, hr, ha, hb, hm⟩
  · rw [h18 q hq] at ha'
    obtain ⟨r1, a1, a2, a3, a4⟩ := h.2 q hq a' ha'
    exact ⟨r1, (h2 (1 + q) (by omega) (by omega)).trans a1, a2, a3, a4.of h1 h11⟩
/-- the images stay, whatever is read, and whatever runs -/
theorem WR.imgs (h : WR b0 n0 c k (g, R, f, C) M t y n) (hk : 120 * k ≤ 64800) (hg : zLe g G ∧ ∀ y, y < g.1 → G.2.2.2 y = g.2.2.2 y ∧ F y = f y) (hR : R' 26 = R 26) (hM : N 3 = M 3 ∧ N 5 = M 5) (hM0 : N 0 4 = M 0 4) (hM1 : ∀ j, j < 5 * t.1 → N 1 j = M 1 j) (hM11 : ∀ j, j < t.1 → N 11 j = M 11 j) (htt : t.1 ≤ t'.1) (ho : ∀ i, i < t.1 → t'.2.1 i = t.2.1 i ∧ t'.2.2.1 i = t.2.2.1 i ∧ t'.2.2.2 i = t.2.2.2 i) (hT : TR b0 n0 G F (N 1) t') :
    (IMG b0 n0 G F N t' R' (201 * (k + 1)) 0 ∧ IMG b0 n0 G F N t' R' (201 * (k + 1)) 1) ∧ N 0 4 = FB R' ∧ IMB b0 n0 G F N t' R' 0 ∧ IMB b0 n0 G F N t' R' 1 := by
  obtain ⟨-, -, ⟨⟨-, u2⟩, -⟩, -, ⟨⟨i1, i2⟩, i3, i4, i5⟩, -⟩ := h
  have u2 : t.1 ≤ 120 * k := u2
  have hx : zLe g G ∧ ZZ n0 g (fun _ => False) ∧ ∀ y, n0 ≤ y → y < g.1 → ¬ False → G.2.2.2 y = g.2.2.2 y ∧ (g.2.1 y ≠ 1 → F y = f y) ∧ ∀ k, k < 8 → F y k = f y k := ⟨hg.1, ZZ.non n0 _, fun y _ hy _ => ⟨(hg.2 y hy).1, fun _ => (hg.2 y hy).2, fun k _ => by rw [(hg.2 y hy).2]⟩⟩
  have hb : 201 * k ≤ 201 * (k + 1) := by omega
  have hra : ∀ i a, R 26 i = some a → RA b0 g a → ∀ j, j < 9 → G.2.2.2 (a + j) = g.2.2.2 (a + j) ∧ F (a + j) = f (a + j) := fun i a _ ha j hj => by
    obtain ⟨⟨-, -, -, -, -, -, -, -, a9⟩, -⟩ := ha
    exact hg.2 _ (by have := a9.2.1; omega)
  have him : ∀ i, i < 2 → IMG b0 n0 g f M t R (201 * k) i → IMG b0 n0 G F N t' R' (201 * (k + 1)) i := fun i _ hi => hi.mv hb hx ⟨htt, hM1, ho⟩ hT (fun k _ => congrFun hM.1 _) (fun k _ => congrFun hM.2 _) (hra i) (congrFun hR i)
  have himb : ∀ i, i < 2 → IMG b0 n0 g f M t R (201 * k) i → IMB b0 n0 g f M t R i → IMB b0 n0 G F N t' R' i := fun i _ hi hb a ha => by
    rw [hR] at ha
    rcases hi with z | ⟨a', z1, z2, -⟩
    · rw [z] at ha; cases ha
    · obtain rfl : a' = a := Option.some.inj (z1.symm.trans ha)
      have hrr := hra i a' ha z2
      have eI : ∀ j, 17 ≤ j → j < 26 → iR G a' j = iR g a' j := fun j h1 h2 => (hrr (j - 17) (by omega)).1
      refine ⟨by rw [hR]; exact (hb a' ha).1, ?_⟩
      refine (hb a' ha).2.mv hx (fun _ _ _ _ _ z => z) (by omega) ?_ ?_ htt ho ?_ (congrFun (eI 17 (by omega) (by omega)) 0) (fun p _ => congrFun (eI 18 (by omega) (by omega)) p)
      · exact fun j hj => hM1 j hj
      · exact fun j hj => hM11 j hj
      · exact fun j _ => congrFun hM.1 _
  refine ⟨⟨him 0 (by omega) i1, him 1 (by omega) i2⟩, ?_, himb 0 (by omega) i1 i4, himb 1 (by omega) i2 i5⟩
  unfold FB
  rw [hR, hM0]; exact i3
end LOADS
