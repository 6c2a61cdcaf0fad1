/-! The relation between the calls, as a whole. -/
/-- every expression's arrays -/
def EOs (b0 : Nat) (g : zG) (c : Nat) : Prop := ∀ a, zIn b0 g a 1 → ∀ b, (g.2.2.2 a 5 = some b ∨ g.2.2.2 a 6 = some b) → g.2.2.1 b = 7 ∧ ¬ (c ≤ b ∧ b < c + 27) ∧ b < g.1
theorem EOs.EO {b0 c : Nat} {g : zG} (h : EOs b0 g c) : EO b0 g c := fun a ha => ⟨fun b hb => ⟨(h a ha b (Or.inl hb)).1, (h a ha b (Or.inl hb)).2.1⟩, fun b hb => ⟨(h a ha b (Or.inr hb)).1, (h a ha b (Or.inr hb)).2.1⟩⟩
/-- the images' bodies -/
def IMB (b0 n0 : Nat) (g : zG) (f M : zI) (t : zTs) (R : zRf) (i : Nat) : Prop := ∀ a, R 26 i = some a → ¬ R 26 (1 - i) = some a ∧ BOD b0 n0 g f (iM M i) t (iR g a)
/-- between two calls, k calls in -/
def WR (b0 n0 c k : Nat) (S : bSt) (M : zI) (t : zTs) (y : zGs) (n : zNs) : Prop :=
  ((c + 27 ≤ n0 ∧ b0 ≤ S.1.1 ∧ n0 ≤ S.1.1) ∧ EOs b0 S.1 c ∧ RC n0 S.1) ∧ ((∃ len tx, TX len tx S.2.2.2 M ∧ S.2.2.2 0 1 = nI len) ∧ (∀ j, iv 7 (S.2.2.2 6 j)) ∧ S.2.1 8 0 = none) ∧ ((M 0 1 = nI t.1 ∧ t.1 ≤ 120 * k) ∧ FRS n0 0 S.1 M t) ∧
  (RQ b0 n0 (S.1, S.2.2.1, M, t, y, n) S.2.1 S.2.2.2 (201 * k) ∧ MN S.2.1 S.2.2.2 ∧ GL (201 * k) S.2.2.2 M) ∧ ((IMG b0 n0 S.1 S.2.2.1 M t S.2.1 (201 * k) 0 ∧ IMG b0 n0 S.1 S.2.2.1 M t S.2.1 (201 * k) 1) ∧ M 0 4 = FB S.2.1 ∧ IMB b0 n0 S.1 S.2.2.1 M t S.2.1 0 ∧ IMB b0 n0 S.1 S.2.2.1 M t S.2.1 1) ∧ BOD b0 n0 S.1 S.2.2.1 M t S.2.1
section WRS
variable {b0 n0 c k : Nat} {Z : Nat → Prop} {g G : zG} {f F M N : zI} {t t' : zTs} {y : zGs} {n : zNs} {R R' : zRf} {C C' : zI}
theorem BOD.mv (h : BOD b0 n0 g f M t R) (hx : zLe g G ∧ ZZ n0 g Z ∧ ∀ y, n0 ≤ y → y < g.1 → ¬ Z y → G.2.2.2 y = g.2.2.2 y ∧ (g.2.1 y ≠ 1 → F y = f y) ∧ ∀ k, k < 8 → F y k = f y k) (hz : ∀ a A, n0 ≤ a → zIn b0 g a 0 → (g.2.2.2 a 2 = some A ∧ zIn b0 g A 13 ∧ 2 ≤ A ∧ g.2.1 (A - 2) = 0) → ¬ Z A) (hu : t.1 ≤ 65000) (hN : ∀ j, j < 5 * t.1 → N 1 j = M 1 j) (h11 : ∀ j, j < t.1 → N 11 j = M 11 j) (htt : t.1 ≤ t'.1) (ho : ∀ i, i < t.1 → t'.2.1 i = t.2.1 i ∧ t'.2.2.1 i = t.2.2.1 i ∧ t'.2.2.2 i = t.2.2.2 i)
    (h2 : ∀ j, j < 5 → N 2 j = M 2 j) (h17 : R' 17 0 = R 17 0) (h18 : ∀ p, p < 4 → R' 18 p = R 18 p) : BOD b0 n0 G F N t' R' := by
  refine ⟨fun a ha => ?_, fun p hp a ha => ?_⟩
  · rw [h17] at ha
    obtain ⟨r0, a1, a2, ⟨a3, a4⟩, a5, a6⟩ := h.1 a ha
    exact ⟨r0, (h2 0 (by omega)).trans a1, by omega, ⟨a3, a4.le hx.1⟩, a5.mv ⟨a3, a4⟩ hx hu hN h11 htt ho, a6.mv ⟨a3, a4⟩ hx (fun A hA => hz a A a3 a4 hA) hN htt⟩
  · rw [h18 p hp] at ha
    obtain ⟨r0, a1, a2, ⟨a3, a4⟩, a5⟩ := h.2 p hp a ha
    exact ⟨r0, (h2 (1 + p) (by omega)).trans a1, by omega, ⟨a3, a4.le hx.1⟩, a5.mv ⟨a3, a4⟩ hx hu hN h11 htt ho⟩
/-- a call that makes new objects only, reads a text perhaps, and leaves the run -/
theorem WR.read (h : WR b0 n0 c k (g, R, f, C) M t y n) (hk : 120 * k ≤ 64800) (hg : zLe g G ∧ ∀ y, y < g.1 → G.2.2.2 y = g.2.2.2 y ∧ F y = f y) (hnew : ∀ x, g.1 ≤ x → x < G.1 → G.2.1 x ≠ 7 ∧ (G.2.1 x = 1 → ∀ b, (G.2.2.2 x 5 = some b ∨ G.2.2.2 x 6 = some b) → G.2.2.1 b = 7 ∧ g.1 ≤ b ∧ b < G.1)) (hcg : c + 27 ≤ g.1)
    (hC : ∀ r, r = 0 ∨ r = 1 ∨ 13 ≤ r → C' r = C r) (h6 : ∀ j, iv 7 (C' 6 j)) (hR : ∀ r, r = 17 ∨ r = 20 ∨ r = 26 → R' r = R r) (h8 : R' 8 0 = none)
    (hM : ∀ r, r = 3 ∨ r = 4 ∨ r = 5 ∨ r = 6 ∨ 16 ≤ r → N r = M r) (hM0 : N 0 8 = M 0 8 ∧ N 0 4 = M 0 4 ∧ N 0 27 = M 0 27) (hM2 : ∀ j, j = 0 ∨ 5 ≤ j → N 2 j = M 2 j) (hM1 : ∀ j, j < 5 * t.1 → N 1 j = M 1 j) (hM11 : ∀ j, j < t.1 → N 11 j = M 11 j)
    (htt : t.1 ≤ t'.1 ∧ t'.1 ≤ 120 * (k + 1)) (ho : ∀ i, i < t.1 → t'.2.1 i = t.2.1 i ∧ t'.2.2.1 i = t.2.2.1 i ∧ t'.2.2.2 i = t.2.2.2 i) (hN01 : N 0 1 = nI t'.1) (hT : TR b0 n0 G F (N 1) t') (hFR : FRS n0 0 G N t') (hBO : BO b0 n0 (G, F, N, t', y, n) R') (hBD : BOD b0 n0 G F N t' R') :
    WR b0 n0 c (k + 1) (G, R', F, C') N t' y n := by
  obtain ⟨⟨⟨w1, w2, w3⟩, w4, w5⟩, ⟨⟨len, tx, v1, v2⟩, v3, v4⟩, ⟨⟨u1, u2⟩, u3⟩, ⟨q1, q2, q3⟩, ⟨⟨i1, i2⟩, i3, i4, i5⟩, hbd⟩ := h
  have w2 : b0 ≤ g.1 := w2
  have w3 : n0 ≤ g.1 := w3
  have u2 : t.1 ≤ 120 * k := u2
  have hx : zLe g G ∧ ZZ n0 g (fun _ => False) ∧ ∀ y, n0 ≤ y → y < g.1 → ¬ False → G.2.2.2 y = g.2.2.2 y ∧ (g.2.1 y ≠ 1 → F y = f y) ∧ ∀ k, k < 8 → F y k = f y k := ⟨hg.1, ZZ.non n0 _, fun y _ hy _ => ⟨(hg.2 y hy).1, fun _ => (hg.2 y hy).2, fun k _ => by rw [(hg.2 y hy).2]⟩⟩
  have hb : 201 * k ≤ 201 * (k + 1) := by omega
  have eR26 : R' 26 = R 26 := hR 26 (by omega)
  have eR17 : R' 17 = R 17 := hR 17 (by omega)
  have eC : ∀ r, 13 ≤ r → C' r = C r := fun r h => hC r (by omega)
  have hra : ∀ i a, R 26 i = some a → RA b0 g a → ∀ j, j < 9 → G.2.2.2 (a + j) = g.2.2.2 (a + j) ∧ F (a + j) = f (a + j) := fun i a _ ha j hj => by
    obtain ⟨⟨-, -, -, -, -, -, -, -, a9⟩, -⟩ := ha
    exact hg.2 _ (by have := a9.2.1; omega)
  have him : ∀ i, i < 2 → IMG b0 n0 g f M t R (201 * k) i → IMG b0 n0 G F N t' R' (201 * (k + 1)) i := fun i _ hi => hi.mv hb hx ⟨htt.1, hM1, ho⟩ hT (fun k _ => congrFun (hM 3 (by omega)) _) (fun k _ => congrFun (hM 5 (by omega)) _) (hra i) (congrFun eR26 i)
  have himb : ∀ i, i < 2 → IMG b0 n0 g f M t R (201 * k) i → IMB b0 n0 g f M t R i → IMB b0 n0 G F N t' R' i := fun i _ hi hb a ha => by
    rw [eR26] at ha
    rcases hi with z | ⟨a', z1, z2, -⟩
    · rw [z] at ha; cases ha
    · obtain rfl : a' = a := Option.some.inj (z1.symm.trans ha)
      have hrr := hra i a' ha z2
      have eI : ∀ j, 17 ≤ j → j < 26 → iR G a' j = iR g a' j := fun j h1 h2 => (hrr (j - 17) (by omega)).1
      refine ⟨by rw [eR26]; exact (hb a' ha).1, ?_⟩
      refine (hb a' ha).2.mv hx (fun _ _ _ _ _ z => z) (by omega) ?_ ?_ htt.1 ho ?_ (congrFun (eI 17 (by omega) (by omega)) 0) (fun p _ => congrFun (eI 18 (by omega) (by omega)) p)
      · exact fun j hj => hM1 j hj
      · exact fun j hj => hM11 j hj
      · exact fun j _ => congrFun (hM 3 (by omega)) _
  refine ⟨⟨⟨w1, by show b0 ≤ G.1; have := hg.1.1; omega, by show n0 ≤ G.1; have := hg.1.1; omega⟩, fun a ha b hbb => ?_, fun x x0 x1 x7 => ?_⟩, ⟨⟨len, tx, v1.at (hC 1 (by omega)) hM0.1 (hM 6 (by omega)), ?_⟩, h6, h8⟩, ⟨⟨hN01, htt.2⟩, hFR⟩, ⟨?_, q2.mv (congrFun eR17 0) (congrFun (eC 17 (by omega)) 2), ?_⟩, ⟨⟨him 0 (by omega) i1, him 1 (by omega) i2⟩, ?_, himb 0 (by omega) i1 i4, himb 1 (by omega) i2 i5⟩, hBD⟩
  · have ha1 : a < G.1 := ha.2.1
    by_cases q : a < g.1
    · have hg2 : G.2.2.2 a = g.2.2.2 a := (hg.2 a q).1
      have hbb : G.2.2.2 a 5 = some b ∨ G.2.2.2 a 6 = some b := hbb
      rw [hg2] at hbb
      obtain ⟨z1, z2, z3⟩ := w4 a ⟨ha.1, q, (hg.1.2 a q).1.symm.trans ha.2.2⟩ b hbb
      exact ⟨(hg.1.2 b z3).2.trans z1, z2, Nat.lt_of_lt_of_le z3 hg.1.1⟩
    · obtain ⟨z1, z2, z3⟩ := (hnew a (by omega) ha1).2 ha.2.2 b hbb
      exact ⟨z1, fun z => by omega, z3⟩
  · have x1 : x < G.1 := x1
    have x7 : G.2.1 x = 7 := x7
    show G.2.2.2 x 1 = some (x - 1)
    by_cases q : x < g.1
    · rw [(hg.2 x q).1]
      exact w5 x x0 q ((hg.1.2 x q).1.symm.trans x7)
    · exact absurd x7 (hnew x (by omega) x1).1
  · show C' 0 1 = nI len
    rw [hC 0 (by omega)]; exact v2
  · refine q1.mv2 (Z := fun _ => False) ⟨hx, fun k _ => congrFun (hM 4 (by omega)) k, htt.1, hM1, ho⟩ hT (fun p _ => congrFun (hR 20 (by omega)) p) ⟨⟨congrFun (eC 19 (by omega)) 1, congrFun (eC 19 (by omega)) 2, fun k _ _ _ => congrFun (eC 21 (by omega)) k, congrFun (eC 17 (by omega)) 11⟩, fun r _ => congrFun (eC 22 (by omega)) r, fun r _ => congrFun (eC 23 (by omega)) r, fun r _ => congrFun (eC 24 (by omega)) r, fun r _ => congrFun (eC 25 (by omega)) r, fun j hj _ => hM2 j (by unfold CW2 at hj; omega)⟩ ⟨fun j h5 _ => hM2 j (by omega), ⟨congrFun (eC 17 (by omega)) 2, congrFun (eC 17 (by omega)) 3, congrFun (eC 17 (by omega)) 6, congrFun (eC 17 (by omega)) 7⟩, ⟨congrFun eR17 4, congrFun eR17 5⟩, congrFun eR17 0⟩ hBO ?_
    have hU : UC (201 * k) C := q1.2.2.1
    intro r
    obtain ⟨u, z1, z2⟩ := hU r
    exact ⟨u, by omega, by show C' 22 r = nI u; rw [eC 22 (by omega)]; exact z2⟩
  · exact (GL.of q3 (congrFun (eC 13 (by omega)) 4) (eC 16 (by omega)) hM0.2.2 (hM 19 (by omega))).mono hb
  · show N 0 4 = FB R'
    unfold FB
    rw [eR26, hM0.2.1]; exact i3
end WRS
