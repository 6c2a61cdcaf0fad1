/-! Calls that move the run. -/
section RUNS
variable {b0 n0 c k : Nat} {g G : zG} {f F M N : zI} {t : zTs} {y y' : zGs} {n n' : zNs} {R R' : zRf} {C C' : zI}
/-- what a call of the run leaves, between the calls -/
theorem WR.runs (h : WR b0 n0 c k (g, R, f, C) M t y n) (hk : 120 * k ≤ 64800) (hK : KF (g, R, f, C) (G, R', F, C')) (hM : MF M N) (hRQ : RQ b0 n0 (G, F, N, t, y', n') R' C' (201 * (k + 1))) (hMN : MN R' C') (hG : GL (201 * (k + 1)) C' N) : WR b0 n0 c (k + 1) (G, R', F, C') N t y' n' := by
  have h' := h
  obtain ⟨⟨⟨w1, w2, w3⟩, w4, w5⟩, ⟨⟨len, tx, v1, v2⟩, v3, v4⟩, ⟨⟨u1, u2⟩, u3⟩, ⟨q1, q2, q3⟩, -, hbd⟩ := h
  have v1 : TX len tx C M := v1
  have v2 : C 0 1 = nI len := v2
  have v3 : ∀ j, iv 7 (C 6 j) := v3
  have u2 : t.1 ≤ 120 * k := u2
  have w3 : n0 ≤ g.1 := w3
  have w2 : b0 ≤ g.1 := w2
  have w4 : EOs b0 g c := w4
  have w5 : RC n0 g := w5
  obtain ⟨kx, kf, kC, kR, kR17, kn⟩ := hK
  have kx : zXt g G := kx
  have kf : ∀ y, y < g.1 → F y = f y := kf
  have kC : ∀ r, r < 13 ∨ 26 ≤ r → C' r = C r := kC
  have kR : ∀ r, r ≠ 14 → r ≠ 17 → r ≠ 20 → R' r = R r := kR
  have kR17 : ∀ j, j ≠ 4 → j ≠ 5 → R' 17 j = R 17 j := kR17
  have kn : ∀ x, g.1 ≤ x → x < G.1 → G.2.1 x ≠ 0 ∧ G.2.1 x ≠ 1 ∧ (G.2.1 x = 7 → G.2.2.2 x 1 = some (x - 1)) := kn
  obtain ⟨mA, mB, mC⟩ := hM
  have gg := kx.1.1
  have hgH : zLe g G ∧ ∀ y, y < g.1 → G.2.2.2 y = g.2.2.2 y ∧ F y = f y := ⟨kx.1, fun y hy => ⟨kx.2 y hy, kf y hy⟩⟩
  have hx : zLe g G ∧ ZZ n0 g (fun _ => False) ∧ ∀ y, n0 ≤ y → y < g.1 → ¬ False → G.2.2.2 y = g.2.2.2 y ∧ (g.2.1 y ≠ 1 → F y = f y) ∧ ∀ k, k < 8 → F y k = f y k := ⟨hgH.1, ZZ.non n0 _, fun y _ hy _ => ⟨(hgH.2 y hy).1, fun _ => (hgH.2 y hy).2, fun k _ => by rw [(hgH.2 y hy).2]⟩⟩
  have e1 : N 1 = M 1 := mA 1 (by decide) (by decide) (by decide) (by decide) (by decide) (by decide) (by decide)
  have e11 : N 11 = M 11 := mA 11 (by decide) (by decide) (by decide) (by decide) (by decide) (by decide) (by decide)
  have hT : TR b0 n0 G F (N 1) t := hRQ.base.1.1
  have him := h'.imgs (G := G) (F := F) (N := N) (R' := R') (t' := t) hk hgH (kR 26 (by decide) (by decide) (by decide)) ⟨mA 3 (by decide) (by decide) (by decide) (by decide) (by decide) (by decide) (by decide), mA 5 (by decide) (by decide) (by decide) (by decide) (by decide) (by decide) (by decide)⟩ (mB 4 (by decide) (by decide)) (fun j _ => congrFun e1 j) (fun j _ => congrFun e11 j) (Nat.le_refl _) (fun _ _ => ⟨rfl, rfl, rfl⟩) hT
  have hBD : BOD b0 n0 G F N t R' := hbd.mv hx (fun _ _ _ _ _ z => z) (by omega) (fun j _ => congrFun e1 j) (fun j _ => congrFun e11 j) (Nat.le_refl _) (fun _ _ => ⟨rfl, rfl, rfl⟩) mC (kR17 0 (by decide) (by decide)) (fun p _ => congrFun (kR 18 (by decide) (by decide) (by decide)) p)
  refine ⟨⟨⟨w1, by show b0 ≤ G.1; omega, by show n0 ≤ G.1; omega⟩, fun a ha b hb => ?_, fun x x0 x1 x7 => ?_⟩, ⟨⟨len, tx, v1.at (kC 1 (by omega)) (mB 8 (by decide) (by decide)) (mA 6 (by decide) (by decide) (by decide) (by decide) (by decide) (by decide) (by decide)), ?_⟩, fun j => ?_, ?_⟩, ⟨⟨(mB 1 (by decide) (by decide)).trans u1, by omega⟩, u3.le hgH.1 (fun j _ => congrFun e1 j)⟩, ⟨hRQ, hMN, hG⟩, him, hBD⟩
  · have ha1 := ha.2.1
    have ha2 := ha.2.2
    have ha1 : a < G.1 := ha1
    have ha2 : G.2.1 a = 1 := ha2
    by_cases z : a < g.1
    · have hb : G.2.2.2 a 5 = some b ∨ G.2.2.2 a 6 = some b := hb
      rw [kx.2 a z] at hb
      obtain ⟨y1, y2, y3⟩ := w4 a ⟨ha.1, z, (kx.1.2 a z).1.symm.trans ha2⟩ b hb
      exact ⟨(kx.1.2 b y3).2.trans y1, y2, by show b < G.1; omega⟩
    · exact absurd ha2 (kn a (by omega) ha1).2.1
  · have x1 : x < G.1 := x1
    have x7 : G.2.1 x = 7 := x7
    show G.2.2.2 x 1 = some (x - 1)
    by_cases z : x < g.1
    · rw [kx.2 x z]
      exact w5 x x0 z ((kx.1.2 x z).1.symm.trans x7)
    · exact (kn x (by omega) x1).2.2 x7
  · show C' 0 1 = nI len
    rw [kC 0 (by omega)]; exact v2
  · show iv 7 (C' 6 j)
    rw [kC 6 (by omega)]; exact v3 j
  · show R' 8 0 = none
    rw [kR 8 (by decide) (by decide) (by decide)]; exact v4
end RUNS
