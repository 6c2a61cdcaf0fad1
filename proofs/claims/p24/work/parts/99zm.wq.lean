/-! The relation between the calls, without images (out of WR's rows, by program). -/
def WQ (b0 n0 c k : Nat) (S : bSt) (M : zI) (t : zTs) (y : zGs) (n : zNs) : Prop :=
  ((c + 27 ≤ n0 ∧ b0 ≤ S.1.1 ∧ n0 ≤ S.1.1) ∧ EOs b0 S.1 c ∧ RC n0 S.1) ∧ ((∃ len tx, TX len tx S.2.2.2 M ∧ S.2.2.2 0 1 = nI len) ∧ (∀ j, iv 7 (S.2.2.2 6 j)) ∧ S.2.1 8 0 = none) ∧ ((M 0 1 = nI t.1 ∧ t.1 ≤ 120 * k) ∧ FRS n0 0 S.1 M t) ∧
  (RQ b0 n0 (S.1, S.2.2.1, M, t, y, n) S.2.1 S.2.2.2 (201 * k) ∧ MN S.2.1 S.2.2.2 ∧ GL (201 * k) S.2.2.2 M) ∧ True ∧ BOD b0 n0 S.1 S.2.2.1 M t S.2.1
theorem WR.toQ {b0 n0 c k : Nat} {S : bSt} {M : zI} {t : zTs} {y : zGs} {n : zNs} (h : WR b0 n0 c k S M t y n) : WQ b0 n0 c k S M t y n := ⟨h.1, h.2.1, h.2.2.1, h.2.2.2.1, trivial, h.2.2.2.2.2⟩
section QS0
variable {b0 n0 c k k' : Nat} {Z : Nat → Prop} {g G : zG} {f F M N : zI} {t t' : zTs} {y : zGs} {n : zNs} {R R' : zRf} {C C' : zI}
/-- a call that makes new objects only, reads a text perhaps, and leaves the run -/
theorem WQ.read (h : WQ b0 n0 c k (g, R, f, C) M t y n) (hk : 120 * k ≤ 64800) (hg : zLe g G ∧ ∀ y, y < g.1 → G.2.2.2 y = g.2.2.2 y ∧ F y = f y) (hnew : ∀ x, g.1 ≤ x → x < G.1 → G.2.1 x ≠ 7 ∧ (G.2.1 x = 1 → ∀ b, (G.2.2.2 x 5 = some b ∨ G.2.2.2 x 6 = some b) → G.2.2.1 b = 7 ∧ g.1 ≤ b ∧ b < G.1)) (hcg : c + 27 ≤ g.1)
    (hC : ∀ r, r = 0 ∨ r = 1 ∨ 13 ≤ r → C' r = C r) (h6 : ∀ j, iv 7 (C' 6 j)) (hR : ∀ r, r = 17 ∨ r = 20 ∨ r = 26 → R' r = R r) (h8 : R' 8 0 = none)
    (hM : ∀ r, r = 3 ∨ r = 4 ∨ r = 5 ∨ r = 6 ∨ 16 ≤ r → N r = M r) (hM0 : N 0 8 = M 0 8 ∧ N 0 4 = M 0 4 ∧ N 0 27 = M 0 27) (hM2 : ∀ j, j = 0 ∨ 5 ≤ j → N 2 j = M 2 j) (hM1 : ∀ j, j < 5 * t.1 → N 1 j = M 1 j) (hM11 : ∀ j, j < t.1 → N 11 j = M 11 j)
    (htt : t.1 ≤ t'.1 ∧ t'.1 ≤ 120 * (k + 1)) (ho : ∀ i, i < t.1 → t'.2.1 i = t.2.1 i ∧ t'.2.2.1 i = t.2.2.1 i ∧ t'.2.2.2 i = t.2.2.2 i) (hN01 : N 0 1 = nI t'.1) (hT : TR b0 n0 G F (N 1) t') (hFR : FRS n0 0 G N t') (hBO : BO b0 n0 (G, F, N, t', y, n) R') (hBD : BOD b0 n0 G F N t' R') :
    WQ b0 n0 c (k + 1) (G, R', F, C') N t' y n := by
  obtain ⟨⟨⟨w1, w2, w3⟩, w4, w5⟩, ⟨⟨len, tx, v1, v2⟩, v3, v4⟩, ⟨⟨u1, u2⟩, u3⟩, ⟨q1, q2, q3⟩, -, hbd⟩ := h
  have w2 : b0 ≤ g.1 := w2
  have w3 : n0 ≤ g.1 := w3
  have u2 : t.1 ≤ 120 * k := u2
  have hx : zLe g G ∧ ZZ n0 g (fun _ => False) ∧ ∀ y, n0 ≤ y → y < g.1 → ¬ False → G.2.2.2 y = g.2.2.2 y ∧ (g.2.1 y ≠ 1 → F y = f y) ∧ ∀ k, k < 8 → F y k = f y k := ⟨hg.1, ZZ.non n0 _, fun y _ hy _ => ⟨(hg.2 y hy).1, fun _ => (hg.2 y hy).2, fun k _ => by rw [(hg.2 y hy).2]⟩⟩
  have hb : 201 * k ≤ 201 * (k + 1) := by omega
  have eR26 : R' 26 = R 26 := hR 26 (by omega)
  have eR17 : R' 17 = R 17 := hR 17 (by omega)
  have eC : ∀ r, 13 ≤ r → C' r = C r := fun r h => hC r (by omega)
  refine ⟨⟨⟨w1, by show b0 ≤ G.1; have := hg.1.1; omega, by show n0 ≤ G.1; have := hg.1.1; omega⟩, fun a ha b hbb => ?_, fun x x0 x1 x7 => ?_⟩, ⟨⟨len, tx, v1.at (hC 1 (by omega)) hM0.1 (hM 6 (by omega)), ?_⟩, h6, h8⟩, ⟨⟨hN01, htt.2⟩, hFR⟩, ⟨?_, q2.mv (congrFun eR17 0) (congrFun (eC 17 (by omega)) 2), ?_⟩, trivial, hBD⟩
  · have ha1 : a < G.1 := ha.2.1
    by_cases q : a < g.1
    · have hg2 : G.2.2.2 a = g.2.2.2 a := (hg.2 a q).1
      have hbb : G.2.2.2 a 5 = some b ∨ G.2.2.2 a 6 = some b := hbb
      rw [hg2] at hbb
      obtain ⟨z1, z2, z3⟩ := w4 a ⟨ha.1, q, (hg.1.2 a q).1.symm.trans ha.2.2⟩ b hbb
      exact ⟨(hg.1.2 b z3).2.trans z1, z2, Nat.lt_of_lt_of_le z3 hg.1.1⟩
    · obtain ⟨z1, z2, z3⟩ := (hnew a (by omega) ha1).2 ha.2.2 b hbb
      exact ⟨z1, fun z => by omega, z3⟩
  · have x1 : x < G.1 := x1
    have x7 : G.2.1 x = 7 := x7
    show G.2.2.2 x 1 = some (x - 1)
    by_cases q : x < g.1
    · rw [(hg.2 x q).1]
      exact w5 x x0 q ((hg.1.2 x q).1.symm.trans x7)
    · exact absurd x7 (hnew x (by omega) x1).1
  · show C' 0 1 = nI len
    rw [hC 0 (by omega)]; exact v2
  · refine q1.mv2 (Z := fun _ => False) ⟨hx, fun k _ => congrFun (hM 4 (by omega)) k, htt.1, hM1, ho⟩ hT (fun p _ => congrFun (hR 20 (by omega)) p) ⟨⟨congrFun (eC 19 (by omega)) 1, congrFun (eC 19 (by omega)) 2, fun k _ _ _ => congrFun (eC 21 (by omega)) k, congrFun (eC 17 (by omega)) 11⟩, fun r _ => congrFun (eC 22 (by omega)) r, fun r _ => congrFun (eC 23 (by omega)) r, fun r _ => congrFun (eC 24 (by omega)) r, fun r _ => congrFun (eC 25 (by omega)) r, fun j hj _ => hM2 j (by unfold CW2 at hj; omega)⟩ ⟨fun j h5 _ => hM2 j (by omega), ⟨congrFun (eC 17 (by omega)) 2, congrFun (eC 17 (by omega)) 3, congrFun (eC 17 (by omega)) 6, congrFun (eC 17 (by omega)) 7⟩, ⟨congrFun eR17 4, congrFun eR17 5⟩, congrFun eR17 0⟩ hBO ?_
    have hU : UC (201 * k) C := q1.2.2.1
    intro r
    obtain ⟨u, z1, z2⟩ := hU r
    exact ⟨u, by omega, by show C' 22 r = nI u; rw [eC 22 (by omega)]; exact z2⟩
  · exact (GL.of q3 (congrFun (eC 13 (by omega)) 4) (eC 16 (by omega)) hM0.2.2 (hM 19 (by omega))).mono hb
end QS0
section QS4
variable {b0 n0 c k : Nat} {g G : zG} {f F M N P : zI} {t t' : zTs} {y : zGs} {n : zNs} {R R' : zRf} {C C' : zI} {z : Int32}
/-- what was read is let go -/
theorem WQ.letgo (h : WQ b0 n0 c k (g, R, f, C) M t y n) (hk : 120 * k ≤ 64800) (hK : KB (g, R, f, brdC C z) (G, R', F, C')) (hMB : MB t.1 (ppar0 M) P) (v : Int32) : WQ b0 n0 c (k + 1) (G, R', F, C') (zup (zup P 11 t.1 v) 0 1 (M 0 1)) t y n := by
  have h' := h
  obtain ⟨⟨⟨w1, w2, w3⟩, w4, w5⟩, ⟨-, v3, v4⟩, ⟨⟨u1, u2⟩, u3⟩, ⟨q1, q2, q3⟩, -, hbd⟩ := h
  have u2 : t.1 ≤ 120 * k := u2
  have w3 : n0 ≤ g.1 := w3
  obtain ⟨a1, a2, a3, a4, a5, a6⟩ := hK.wr
  obtain ⟨N, eN⟩ : ∃ N, N = zup (zup P 11 t.1 v) 0 1 (M 0 1) := ⟨_, rfl⟩
  rw [← eN]
  have nr : ∀ r, r ≠ 0 → r ≠ 1 → r ≠ 7 → r ≠ 8 → r ≠ 9 → r ≠ 10 → r ≠ 11 → N r = M r := fun r b0 b1 b7 b8 b9 b10 b11 => by
    rw [eN, zup_r b0, zup_r b11, hMB.1 r b0 b1 b7 b8 b9 b10, ppar0_r b0]
  have n0' : ∀ j, j ≠ 1 → j ≠ 13 → j ≠ 14 → j ≠ 15 → j ≠ 16 → j ≠ 17 → N 0 j = M 0 j := fun j b1 b2 b3 b4 b5 b6 => by
    rw [eN, zup_ne _ _ _ _ (Or.inr b1), zup_r (by decide), hMB.2.1 j b1 b2 b3 b4 b5 b6, ppar0_0 b2 b3 b4 b5]
  have n1 : ∀ j, j < 5 * t.1 → N 1 j = M 1 j := fun j hj => by
    rw [eN, zup_r (by decide), zup_r (by decide), hMB.2.2 j hj, ppar0_r (by decide)]
  have n11 : ∀ j, j < t.1 → N 11 j = M 11 j := fun j hj => by
    rw [eN, zup_r (by decide), zup_ne _ _ _ _ (by omega), hMB.1 11 (by decide) (by decide) (by decide) (by decide) (by decide) (by decide), ppar0_r (by decide)]
  have hx : zLe g G ∧ ZZ n0 g (fun _ => False) ∧ ∀ y, n0 ≤ y → y < g.1 → ¬ False → G.2.2.2 y = g.2.2.2 y ∧ (g.2.1 y ≠ 1 → F y = f y) ∧ ∀ k, k < 8 → F y k = f y k := ⟨a1.1, ZZ.non n0 _, fun y _ hy _ => ⟨(a1.2 y hy).1, fun _ => (a1.2 y hy).2, fun k _ => by rw [(a1.2 y hy).2]⟩⟩
  have n2 : N 2 = M 2 := nr 2 (by decide) (by decide) (by decide) (by decide) (by decide) (by decide) (by decide)
  have hT0 : TR b0 n0 g f (M 1) t := q1.base.1.1
  have hT : TR b0 n0 G F (N 1) t := TR.join hT0 hx n1 ⟨Nat.le_refl _, by omega⟩ (fun _ _ => ⟨rfl, rfl, rfl⟩) (fun i a b => by omega)
  exact WQ.read h' hk a1 (fun x b d => ⟨(a2 x b d).1, (a2 x b d).2.2⟩) (by omega) (fun r hr => a3 r (by omega)) a4 (fun r hr => a5 r (by omega) (by omega) (by omega)) (a6.trans v4) (fun r hr => nr r (by omega) (by omega) (by omega) (by omega) (by omega) (by omega) (by omega)) ⟨n0' 8 (by decide) (by decide) (by decide) (by decide) (by decide) (by decide), n0' 4 (by decide) (by decide) (by decide) (by decide) (by decide) (by decide), n0' 27 (by decide) (by decide) (by decide) (by decide) (by decide) (by decide)⟩ (fun j _ => congrFun n2 j) n1 n11 ⟨Nat.le_refl _, by omega⟩ (fun _ _ => ⟨rfl, rfl, rfl⟩) (by rw [eN, zup_at]; exact u1) hT (u3.le a1.1 n1)
    (q1.base.2.1.mv (np := 0) ⟨hx, fun k hk => absurd hk (by omega), Nat.le_refl _, n1, fun _ _ => ⟨rfl, rfl, rfl⟩⟩ (fun j _ => congrFun n2 j) (congrFun (a5 17 (by decide) (by decide) (by decide)) 0) (fun p _ => congrFun (a5 18 (by decide) (by decide) (by decide)) p))
    (hbd.mv hx (fun _ _ _ _ _ z => z) (by omega) n1 n11 (Nat.le_refl _) (fun _ _ => ⟨rfl, rfl, rfl⟩) (fun j _ => congrFun n2 j) (congrFun (a5 17 (by decide) (by decide) (by decide)) 0) (fun p _ => congrFun (a5 18 (by decide) (by decide) (by decide)) p))
/-- fault -/
theorem WQ.fault (h : WQ b0 n0 c k (g, R, f, C) M t y n) (hk : 120 * k ≤ 64800) {len : Nat} (hlen : C 0 1 = nI len) (hl : len ≤ 120) (x : Int32) :
    (¬ (x < 0 ∨ 1 < x) → pparseV M x) ∧ (bfault g R f C len x).2 = (pfault M x).1 ∧ WQ b0 n0 c (k + 1) (bfault g R f C len x).1 (pfault M x).2 t y n := by
  have h' := h
  obtain ⟨⟨⟨w1, w2, w3⟩, w4, w5⟩, ⟨⟨len', tx, v1, v2⟩, v3, v4⟩, ⟨⟨u1, u2⟩, u3⟩, ⟨q1, q2, q3⟩, -, hbd⟩ := h
  have v2 : C 0 1 = nI len' := v2
  have hl' := v1.1
  obtain rfl : len' = len := (nI_eq (by omega) (by omega)).mp (v2.symm.trans hlen)
  have u2 : t.1 ≤ 120 * k := u2
  have key : ∀ x : Int32, (x = 0 ∨ x = 1) → pparseV M x ∧ (bread g R f C len' x).2 = (pparse M x).2 0 15 ∧ WQ b0 n0 c (k + 1) (bread g R f C len' x).1 (zup (pparse M x).2 0 1 (M 0 1)) t y n := fun x hx01 => by
    have hz : (if x = 0 then (0 : Int32) else 8388608) = if x = 1 then 8388608 else 0 := by
      rcases hx01 with rfl | rfl <;> rfl
    obtain ⟨p1, p2, p3, p4, p5, p6⟩ := PARSE (b0 := b0) (n0 := n0) (g := g) (R := R) (f := f) (C := C) (M := M) (t := t) (how := x) (z := x) v1 ⟨w2, w3⟩ v4 v3 u1 (by omega) hz
    have e2 : (pparse M x).2 = zup (pparN (pparM M x)) 11 t.1 (pparN (pparM M x) 0 1) := by
      unfold pparse
      rw [u1, tn_nI (by omega)]
    refine ⟨p1, ?_, ?_⟩
    · rw [e2, zup_r (by decide)]; exact p5
    · rw [e2]
      exact h'.letgo hk p2 p3 _
  by_cases q : x < 0 ∨ 1 < x
  · have e1 : pfault M x = (-1, M) := if_pos q
    have e2 : bfault g R f C len' x = ((g, R, f, C), -1) := bfault_n (fun z => by rw [z] at q; exact absurd q (by decide)) (fun z => by rw [z] at q; exact absurd q (by decide))
    rw [e1, e2]
    refine ⟨fun z => absurd q z, rfl, ?_⟩
    exact h'.read hk ⟨zLe.rf, fun _ _ => ⟨rfl, rfl⟩⟩ (fun x a b => by omega) (by have : n0 ≤ g.1 := w3; omega) (fun _ _ => rfl) v3 (fun _ _ => rfl) v4 (fun _ _ => rfl) ⟨rfl, rfl, rfl⟩ (fun _ _ => rfl) (fun _ _ => rfl) (fun _ _ => rfl) ⟨Nat.le_refl _, by omega⟩ (fun _ _ => ⟨rfl, rfl, rfl⟩) u1 q1.base.1.1 u3 q1.base.2.1 hbd
  · have e1 : pfault M x = ((pparse M x).2 0 15, zup (pparse M x).2 0 1 (M 0 1)) := if_neg q
    have hx01 : x = 0 ∨ x = 1 := by
      have h1 := Int32.not_lt.mp (fun z => q (Or.inl z))
      have h2 := Int32.not_lt.mp (fun z => q (Or.inr z))
      rw [Int32.le_iff_toInt_le] at h1 h2
      have e0 : (0 : Int32).toInt = 0 := by decide
      have e1 : (1 : Int32).toInt = 1 := by decide
      rw [e0] at h1
      rw [e1] at h2
      have : x.toInt = 0 ∨ x.toInt = 1 := by omega
      rcases this with z | z
      · exact Or.inl (Int32.toInt_inj.mp (z.trans e0.symm))
      · exact Or.inr (Int32.toInt_inj.mp (z.trans e1.symm))
    obtain ⟨k1, k2, k3⟩ := key x hx01
    have e2 : bfault g R f C len' x = bread g R f C len' x := by
      rcases hx01 with rfl | rfl
      · exact bfault_0 rfl
      · exact bfault_1 rfl
    rw [e1, e2]
    generalize pparse M x = P at k2 k3 ⊢
    generalize bread g R f C len' x = Q at k2 k3 ⊢
    generalize pparseV M x = V at k1 ⊢
    exact ⟨fun _ => k1, k2, k3⟩
end QS4
section QS9
variable {b0 n0 c k k' : Nat} {Z : Nat → Prop} {g G : zG} {f F M N : zI} {t t' : zTs} {y : zGs} {n : zNs} {R R' : zRf} {C C' : zI}
/-- the same, where the text changes -/
theorem WQ.gen (h : WQ b0 n0 c k (g, R, f, C) M t y n) (hkk : k ≤ k') (hk : 120 * k ≤ 64800) (hg : zLe g G ∧ ∀ y, y < g.1 → G.2.2.2 y = g.2.2.2 y ∧ F y = f y) (hnew : ∀ x, g.1 ≤ x → x < G.1 → G.2.1 x ≠ 7 ∧ (G.2.1 x = 1 → ∀ b, (G.2.2.2 x 5 = some b ∨ G.2.2.2 x 6 = some b) → G.2.2.1 b = 7 ∧ g.1 ≤ b ∧ b < G.1)) (hcg : c + 27 ≤ g.1)
    (hTX : ∃ len tx, TX len tx C' N ∧ C' 0 1 = nI len) (hC : ∀ r, 13 ≤ r → C' r = C r) (h6 : ∀ j, iv 7 (C' 6 j)) (hR : ∀ r, r = 17 ∨ r = 20 ∨ r = 26 → R' r = R r) (h8 : R' 8 0 = none)
    (hM : ∀ r, r = 4 ∨ 16 ≤ r → N r = M r) (hM0 : True ∧ N 0 27 = M 0 27) (hM2 : ∀ j, j = 0 ∨ 5 ≤ j → N 2 j = M 2 j) (hM1 : ∀ j, j < 5 * t.1 → N 1 j = M 1 j) (hM11 : ∀ j, j < t.1 → N 11 j = M 11 j)
    (htt : t.1 ≤ t'.1 ∧ t'.1 ≤ 120 * k') (ho : ∀ i, i < t.1 → t'.2.1 i = t.2.1 i ∧ t'.2.2.1 i = t.2.2.1 i ∧ t'.2.2.2 i = t.2.2.2 i) (hN01 : N 0 1 = nI t'.1) (hT : TR b0 n0 G F (N 1) t') (hFR : FRS n0 0 G N t') (hBO : BO b0 n0 (G, F, N, t', y, n) R') (hBD : BOD b0 n0 G F N t' R') :
    WQ b0 n0 c k' (G, R', F, C') N t' y n := by
  obtain ⟨⟨⟨w1, w2, w3⟩, w4, w5⟩, ⟨⟨len, tx, v1, v2⟩, v3, v4⟩, ⟨⟨u1, u2⟩, u3⟩, ⟨q1, q2, q3⟩, -, hbd⟩ := h
  have w2 : b0 ≤ g.1 := w2
  have w3 : n0 ≤ g.1 := w3
  have u2 : t.1 ≤ 120 * k := u2
  have hx : zLe g G ∧ ZZ n0 g (fun _ => False) ∧ ∀ y, n0 ≤ y → y < g.1 → ¬ False → G.2.2.2 y = g.2.2.2 y ∧ (g.2.1 y ≠ 1 → F y = f y) ∧ ∀ k, k < 8 → F y k = f y k := ⟨hg.1, ZZ.non n0 _, fun y _ hy _ => ⟨(hg.2 y hy).1, fun _ => (hg.2 y hy).2, fun k _ => by rw [(hg.2 y hy).2]⟩⟩
  have hb : 201 * k ≤ 201 * k' := by omega
  have eR26 : R' 26 = R 26 := hR 26 (by omega)
  have eR17 : R' 17 = R 17 := hR 17 (by omega)
  have eC : ∀ r, 13 ≤ r → C' r = C r := fun r h => hC r (by omega)
  refine ⟨⟨⟨w1, by show b0 ≤ G.1; have := hg.1.1; omega, by show n0 ≤ G.1; have := hg.1.1; omega⟩, fun a ha b hbb => ?_, fun x x0 x1 x7 => ?_⟩, ⟨hTX, h6, h8⟩, ⟨⟨hN01, htt.2⟩, hFR⟩, ⟨?_, q2.mv (congrFun eR17 0) (congrFun (eC 17 (by omega)) 2), ?_⟩, trivial, hBD⟩
  · have ha1 : a < G.1 := ha.2.1
    by_cases q : a < g.1
    · have hg2 : G.2.2.2 a = g.2.2.2 a := (hg.2 a q).1
      have hbb : G.2.2.2 a 5 = some b ∨ G.2.2.2 a 6 = some b := hbb
      rw [hg2] at hbb
      obtain ⟨z1, z2, z3⟩ := w4 a ⟨ha.1, q, (hg.1.2 a q).1.symm.trans ha.2.2⟩ b hbb
      exact ⟨(hg.1.2 b z3).2.trans z1, z2, Nat.lt_of_lt_of_le z3 hg.1.1⟩
    · obtain ⟨z1, z2, z3⟩ := (hnew a (by omega) ha1).2 ha.2.2 b hbb
      exact ⟨z1, fun z => by omega, z3⟩
  · have x1 : x < G.1 := x1
    have x7 : G.2.1 x = 7 := x7
    show G.2.2.2 x 1 = some (x - 1)
    by_cases q : x < g.1
    · rw [(hg.2 x q).1]
      exact w5 x x0 q ((hg.1.2 x q).1.symm.trans x7)
    · exact absurd x7 (hnew x (by omega) x1).1
  · refine q1.mv2 (Z := fun _ => False) ⟨hx, fun k _ => congrFun (hM 4 (by omega)) k, htt.1, hM1, ho⟩ hT (fun p _ => congrFun (hR 20 (by omega)) p) ⟨⟨congrFun (eC 19 (by omega)) 1, congrFun (eC 19 (by omega)) 2, fun k _ _ _ => congrFun (eC 21 (by omega)) k, congrFun (eC 17 (by omega)) 11⟩, fun r _ => congrFun (eC 22 (by omega)) r, fun r _ => congrFun (eC 23 (by omega)) r, fun r _ => congrFun (eC 24 (by omega)) r, fun r _ => congrFun (eC 25 (by omega)) r, fun j hj _ => hM2 j (by unfold CW2 at hj; omega)⟩ ⟨fun j h5 _ => hM2 j (by omega), ⟨congrFun (eC 17 (by omega)) 2, congrFun (eC 17 (by omega)) 3, congrFun (eC 17 (by omega)) 6, congrFun (eC 17 (by omega)) 7⟩, ⟨congrFun eR17 4, congrFun eR17 5⟩, congrFun eR17 0⟩ hBO ?_
    have hU : UC (201 * k) C := q1.2.2.1
    intro r
    obtain ⟨u, z1, z2⟩ := hU r
    exact ⟨u, by omega, by show C' 22 r = nI u; rw [eC 22 (by omega)]; exact z2⟩
  · exact (GL.of q3 (congrFun (eC 13 (by omega)) 4) (eC 16 (by omega)) hM0.2 (hM 19 (by omega))).mono hb
/-- nothing but the text and what is defined changed -/
theorem WQ.sm (h : WQ b0 n0 c k (g, R, f, C) M t y n) (hkk : k ≤ k') (hk : 120 * k ≤ 64800) (hTX : ∃ len tx, TX len tx C' N ∧ C' 0 1 = nI len) (hC : ∀ r, 2 ≤ r → C' r = C r) (hR : ∀ r, r ≠ 18 → R' r = R r) (hM : ∀ r, r ≠ 0 → r ≠ 2 → r ≠ 6 → r ≠ 12 → r ≠ 13 → N r = M r) (hM0 : ∀ j, j ≠ 8 → N 0 j = M 0 j) (hM2 : ∀ j, j = 0 ∨ 5 ≤ j → N 2 j = M 2 j) (hBO : BO b0 n0 (g, f, N, t, y, n) R') (hBD : BOD b0 n0 g f N t R') : WQ b0 n0 c k' (g, R', f, C') N t y n := by
  have h' := h
  obtain ⟨⟨⟨w1, w2, w3⟩, w4, w5⟩, ⟨-, v3, v4⟩, ⟨⟨u1, u2⟩, u3⟩, ⟨q1, q2, q3⟩, -, hbd⟩ := h
  have w3 : n0 ≤ g.1 := w3
  have u2 : t.1 ≤ 120 * k := u2
  have v3 : ∀ j, iv 7 (C 6 j) := v3
  have hT0 : TR b0 n0 g f (M 1) t := q1.base.1.1
  have n1 : N 1 = M 1 := hM 1 (by decide) (by decide) (by decide) (by decide) (by decide)
  exact h'.gen hkk hk ⟨zLe.rf, fun _ _ => ⟨rfl, rfl⟩⟩ (fun x a b => by omega) (by omega) hTX (fun r hr => hC r (by omega)) (fun j => by rw [hC 6 (by omega)]; exact v3 j) (fun r hr => hR r (by omega)) (by rw [hR 8 (by decide)]; exact v4) (fun r hr => hM r (by omega) (by omega) (by omega) (by omega) (by omega)) ⟨trivial, hM0 27 (by decide)⟩ hM2 (fun j _ => congrFun n1 j) (fun j _ => congrFun (hM 11 (by decide) (by decide) (by decide) (by decide) (by decide)) j) ⟨Nat.le_refl _, by omega⟩ (fun _ _ => ⟨rfl, rfl, rfl⟩) ((hM0 1 (by decide)).trans u1) (by rw [n1]; exact hT0) (u3.le zLe.rf (fun j _ => congrFun n1 j)) hBO hBD
/-- wipe -/
theorem WQ.wipe (h : WQ b0 n0 c k (g, R, f, C) M t y n) (hkk : k ≤ k') (hk : 120 * k ≤ 64800) : C 0 1 = M 0 8 ∧ WQ b0 n0 c k' (g, R, f, zup C 0 1 0) (zup M 0 8 0) t y n := by
  have h' := h
  obtain ⟨-, ⟨⟨len, tx, v1, v2⟩, -⟩, -, ⟨q1, -⟩, -, hbd⟩ := h
  have v2 : C 0 1 = nI len := v2
  have n1 : ∀ r, r ≠ 0 → zup M 0 8 0 r = M r := fun r hr => zup_r hr
  refine ⟨v2.trans v1.2.1.symm, h'.sm hkk hk ⟨0, tx, ⟨Nat.zero_le _, zup_at _ _ _ _, fun i hi => absurd hi (Nat.not_lt_zero i)⟩, zup_at _ _ _ _⟩ (fun r hr => zup_r (by omega)) (fun _ _ => rfl) (fun r a _ _ _ _ => n1 r a) (fun j hj => zup_ne _ _ _ _ (Or.inr hj)) (fun j _ => congrFun (n1 2 (by decide)) j) (q1.base.2.1.sm (n1 1 (by decide)) (fun j _ => congrFun (n1 2 (by decide)) j)) (hbd.sm (n1 1 (by decide)) (n1 11 (by decide)) (fun j _ => congrFun (n1 2 (by decide)) j))⟩
/-- write -/
theorem WQ.write (h : WQ b0 n0 c k (g, R, f, C) M t y n) (hkk : k ≤ k') (hk : 120 * k ≤ 64800) (x : Int32) : iv 121 (C 0 1) ∧ (bwrite C x).1 = (pwrite M x).1 ∧ WQ b0 n0 c k' (g, R, f, (bwrite C x).2) (pwrite M x).2 t y n := by
  have h' := h
  obtain ⟨-, ⟨⟨len, tx, v1, v2⟩, -⟩, -, ⟨q1, -⟩, -, hbd⟩ := h
  have v2 : C 0 1 = nI len := v2
  have hl := v1.1
  have m8 : M 0 8 = nI len := v1.2.1
  have hsame : WQ b0 n0 c k' (g, R, f, C) M t y n := h'.sm hkk hk ⟨len, tx, v1, v2⟩ (fun _ _ => rfl) (fun _ _ => rfl) (fun _ _ _ _ _ _ => rfl) (fun _ _ => rfl) (fun _ _ => rfl) q1.base.2.1 hbd
  refine ⟨by rw [v2]; exact iv_nI (by omega) (by decide), ?_⟩
  by_cases q : x < 32 ∨ 126 < x
  · rw [bwrite_b q, show pwrite M x = (-1, M) from if_pos q]
    exact ⟨rfl, hsame⟩
  · by_cases q2 : len < 120
    · have e1 : C 0 1 < 120 := by rw [v2]; exact nI_lt (b := 120) q2 (by decide)
      have e2 : ¬ M 0 8 = 120 := by rw [m8]; exact fun z => absurd ((nI_eq (b := 120) (by omega) (by decide)).mp z) (by omega)
      have e3 : pwrite M x = (M 0 8 + 1, zup (zup M 6 (tn (M 0 8)) x) 0 8 (M 0 8 + 1)) := (if_neg q).trans (if_neg e2)
      rw [bwrite_w q e1, e3, v2, m8, tn_nI (by omega), show nI len + 1 = nI (len + 1) from ixA (a := len) (b := 1) rfl (ixC 1)]
      obtain ⟨xx, hxx⟩ : ∃ xx, x = nI xx ∧ 32 ≤ xx ∧ xx ≤ 126 := by
        have h1 := Int32.not_lt.mp (fun z => q (Or.inl z))
        obtain ⟨i, i1, i2⟩ := nI_of (x := x) (fun z => by
          rw [Int32.lt_iff_toInt_lt] at z
          rw [Int32.le_iff_toInt_le] at h1
          have e0 : (0 : Int32).toInt = 0 := by decide
          have e32 : (32 : Int32).toInt = 32 := by decide
          rw [e0] at z; rw [e32] at h1; omega)
        refine ⟨i, i2, ?_, ?_⟩
        · rcases Nat.lt_or_ge i 32 with z | z
          · exact absurd (Or.inl (by rw [i2]; exact nI_lt (b := 32) z (by decide))) q
          · exact z
        · rcases Nat.lt_or_ge 126 i with z | z
          · exact absurd (Or.inr (by rw [i2]; exact (nI_ltI (a := 126) (by decide) (by omega)).mpr z)) q
          · exact z
      obtain ⟨hx1, hx2, hx3⟩ := hxx
      have n1 : ∀ r, r ≠ 0 → r ≠ 6 → zup (zup M 6 len x) 0 8 (nI (len + 1)) r = M r := fun r a b => by rw [zup_r a, zup_r b]
      show nI (len + 1) = nI (len + 1) ∧ WQ b0 n0 c k' (g, R, f, zup (zup C 1 len x) 0 1 (nI (len + 1))) (zup (zup M 6 len x) 0 8 (nI (len + 1))) t y n
      refine ⟨rfl, h'.sm hkk hk ⟨len + 1, fun i => if i = len then xx else tx i, ⟨by omega, zup_at _ _ _ _, fun i hi => ?_⟩, zup_at _ _ _ _⟩ (fun r hr => by rw [zup_r (by omega), zup_r (by omega)]) (fun _ _ => rfl) (fun r a _ b _ _ => n1 r a b) (fun j hj => by rw [zup_ne _ _ _ _ (Or.inr hj), zup_r (by decide)]) (fun j _ => congrFun (n1 2 (by decide) (by decide)) j) (q1.base.2.1.sm (n1 1 (by decide) (by decide)) (fun j _ => congrFun (n1 2 (by decide) (by decide)) j)) (hbd.sm (n1 1 (by decide) (by decide)) (n1 11 (by decide) (by decide)) (fun j _ => congrFun (n1 2 (by decide) (by decide)) j))⟩
      show zup (zup C 1 len x) 0 1 (nI (len + 1)) 1 i = nI (if i = len then xx else tx i) ∧ zup (zup M 6 len x) 0 8 (nI (len + 1)) 6 i = nI (if i = len then xx else tx i) ∧ 32 ≤ (if i = len then xx else tx i) ∧ (if i = len then xx else tx i) ≤ 126
      rw [zup_r (show (1 : Nat) ≠ 0 by decide), zup_r (show (6 : Nat) ≠ 0 by decide)]
      by_cases z : i = len
      · subst z
        rw [zup_at, zup_at, if_pos rfl]
        exact ⟨hx1, hx1, hx2, hx3⟩
      · rw [zup_ne _ _ _ _ (Or.inr z), zup_ne _ _ _ _ (Or.inr z), if_neg z]
        exact v1.2.2 i (by omega)
    · obtain rfl : len = 120 := by omega
      have e1 : ¬ C 0 1 < 120 := by rw [v2]; decide
      have e2 : M 0 8 = 120 := m8
      have e3 : pwrite M x = (-3, M) := (if_neg q).trans (if_pos e2)
      rw [bwrite_f q e1, e3]
      exact ⟨rfl, hsame⟩
end QS9
section QS16
variable {b0 n0 c k : Nat} {g G : zG} {f F M N P : zI} {t t' : zTs} {y : zGs} {n : zNs} {R R' : zRf} {C C' : zI}
/-- define -/
theorem WQ.define (h : WQ b0 n0 c k (g, R, f, C) M t y n) (hk : 120 * (k + 1) ≤ 64800) {len : Nat} (hlen : C 0 1 = nI len) (hl : len ≤ 120) (x : Int32) :
    (¬ (x < 0 ∨ 3 < x) → pparseV M 1) ∧ ∃ m t', breadV (bread g R f C len 1) m ∧ (bdefine g R f C len x m).2 = (pdefine M x).1 ∧ WQ b0 n0 c (k + 1) (bdefine g R f C len x m).1 (pdefine M x).2 t' y n := by
  have h' := h
  obtain ⟨⟨⟨w1, w2, w3⟩, w4, w5⟩, ⟨⟨len', tx, v1, v2⟩, v3, v4⟩, ⟨⟨u1, u2⟩, u3⟩, ⟨q1, q2, q3⟩, -, hbd⟩ := h
  have v2 : C 0 1 = nI len' := v2
  have hl' := v1.1
  obtain rfl : len' = len := (nI_eq (by omega) (by omega)).mp (v2.symm.trans hlen)
  have u2 : t.1 ≤ 120 * k := u2
  have w3 : n0 ≤ g.1 := w3
  have w2 : b0 ≤ g.1 := w2
  obtain ⟨p1, p2, p3, p4, p5, p6⟩ := PARSE (b0 := b0) (n0 := n0) (g := g) (R := R) (f := f) (C := C) (M := M) (t := t) (how := 1) (z := 1) v1 ⟨w2, w3⟩ v4 v3 u1 (by omega) rfl
  refine ⟨fun _ => p1, ?_⟩
  have e2 : (pparse M 1).2 = zup (pparN (pparM M 1)) 11 t.1 (pparN (pparM M 1) 0 1) := by
    unfold pparse
    rw [u1, tn_nI (by omega)]
  have e1 : (pparse M 1).1 = if pparN (pparM M 1) 0 15 = -9 then nI t.1 else -9 := by
    unfold pparse
    rw [u1]
  obtain ⟨Q, eQ⟩ : ∃ Q, Q = bread g R f C len' 1 := ⟨_, rfl⟩
  rw [← eQ] at p2 p5 p6 ⊢
  obtain ⟨P, eP⟩ : ∃ P, P = pparN (pparM M 1) := ⟨_, rfl⟩
  rw [← eP] at e1 e2 p3 p5 p6
  obtain ⟨W, eW⟩ : ∃ W, W = pparse M 1 := ⟨_, rfl⟩
  have epd : pdefine M x = if x < 0 ∨ 3 < x then (-1, M) else if W.1 = -9 then (-2, zup W.2 0 1 (M 0 1)) else (W.2 0 16, zup W.2 2 (1 + tn x) W.1) := by rw [eW]; rfl
  rw [← eW] at e1 e2
  have hnine : ¬ nI t.1 = -9 := (iv_nI (N := 65000) (by omega) (by decide)).nn (by decide)
  by_cases q : x < 0 ∨ 3 < x
  · have ebd : ∀ m, bdefine g R f C len' x m = ((g, R, f, C), -1) := fun m => bdefine_b (fun z => by
      rcases q with q | q
      · exact z.1 q
      · have z2 := z.2
        rw [Int32.lt_iff_toInt_lt] at z2 q
        have e3 : (3 : Int32).toInt = 3 := by decide
        have e4 : (4 : Int32).toInt = 4 := by decide
        rw [e3] at q
        rw [e4] at z2
        omega)
    rw [epd, if_pos q]
    by_cases q9 : Q.2 = -9
    · obtain ⟨t', m, s1, s2, s3, s4, -, s6, -⟩ := p6 q9
      refine ⟨m, t, fun _ => ⟨s6, by omega, ?_⟩, by rw [ebd], ?_⟩
      · rw [(s4.2.2.2 s1).2.1]; rfl
      · rw [ebd]
        exact h'.read (by omega) ⟨zLe.rf, fun _ _ => ⟨rfl, rfl⟩⟩ (fun x a b => by omega) (by omega) (fun _ _ => rfl) v3 (fun _ _ => rfl) v4 (fun _ _ => rfl) ⟨rfl, rfl, rfl⟩ (fun _ _ => rfl) (fun _ _ => rfl) (fun _ _ => rfl) ⟨Nat.le_refl _, by omega⟩ (fun _ _ => ⟨rfl, rfl, rfl⟩) u1 q1.base.1.1 u3 q1.base.2.1 hbd
    · refine ⟨0, t, fun z => absurd z q9, by rw [ebd], ?_⟩
      rw [ebd]
      exact h'.read (by omega) ⟨zLe.rf, fun _ _ => ⟨rfl, rfl⟩⟩ (fun x a b => by omega) (by omega) (fun _ _ => rfl) v3 (fun _ _ => rfl) v4 (fun _ _ => rfl) ⟨rfl, rfl, rfl⟩ (fun _ _ => rfl) (fun _ _ => rfl) (fun _ _ => rfl) ⟨Nat.le_refl _, by omega⟩ (fun _ _ => ⟨rfl, rfl, rfl⟩) u1 q1.base.1.1 u3 q1.base.2.1 hbd
  obtain ⟨j, hj, rfl⟩ : ∃ j, j < 4 ∧ x = nI j := by
    obtain ⟨j, j1, j2⟩ := nI_of (fun z => q (Or.inl z))
    have hj : j < 4 := by
      rcases Nat.lt_or_ge j 4 with z | z
      · exact z
      · exact absurd (Or.inr (by rw [j2]; exact (nI_ltI (a := 3) (by decide) (by omega)).mpr (by omega))) q
    exact ⟨j, hj, j2⟩
  have hpx : ¬ nI j < 0 ∧ nI j < 4 := ⟨nI_pos (by omega), nI_lt (b := 4) hj (by decide)⟩
  rw [epd, if_neg q]
  by_cases q9 : Q.2 = -9
  · obtain ⟨t', m, s1, s2, s3, s4, s5, s6, s7, s8, s9, -, s11, s12⟩ := p6 q9
    obtain ⟨⟨G, R', F, C'⟩, z⟩ := Q
    have q9 : z = -9 := q9
    subst q9
    have s6 : C' 2 1 = nI m := s6
    have hp15 : P 0 15 = -9 := p5.symm
    have eW1 : W.1 = nI t.1 := by rw [e1, if_pos hp15]
    rw [if_neg (by rw [eW1]; exact hnine), eW1]
    have ebd : bdefine g R f C len' (nI j) m = ((bbdG G R' m, zup R' 18 (tn (nI j)) (some (G.1 + 1)), bbdF G R' F m, C'), nI m) := bdefine_d eQ.symm hpx rfl
    rw [tn_nI (by omega)] at ebd ⊢
    refine ⟨m, t', ?_⟩
    rw [ebd]
    obtain ⟨N, eN⟩ : ∃ N, N = zup W.2 2 (1 + j) (nI t.1) := ⟨_, rfl⟩
    rw [← eN]
    obtain ⟨a1, a2, a3, a4, a5, a6⟩ := KB.wr p2
    have nP : ∀ r, r ≠ 2 → r ≠ 11 → N r = P r := fun r r2 r11 => by rw [eN, zup_r r2, e2, zup_r r11]
    have nr : ∀ r, r ≠ 0 → r ≠ 1 → r ≠ 2 → r ≠ 7 → r ≠ 8 → r ≠ 9 → r ≠ 10 → r ≠ 11 → N r = M r := fun r b0 b1 b2 b7 b8 b9 b10 b11 => by
      rw [nP r b2 b11, p3.1 r b0 b1 b7 b8 b9 b10, ppar0_r b0]
    have n2 : ∀ i, i ≠ 1 + j → N 2 i = M 2 i := fun i hi => by
      rw [eN, zup_ne _ _ _ _ (Or.inr hi), e2, zup_r (by decide), p3.1 2 (by decide) (by decide) (by decide) (by decide) (by decide) (by decide), ppar0_r (by decide)]
    have n2p : N 2 (1 + j) = nI t.1 := by rw [eN, zup_at]
    have n00 : ∀ i, i ≠ 1 → i ≠ 13 → i ≠ 14 → i ≠ 15 → i ≠ 16 → i ≠ 17 → N 0 i = M 0 i := fun i b1 b2 b3 b4 b5 b6 => by
      rw [nP 0 (by decide) (by decide), p3.2.1 i b1 b2 b3 b4 b5 b6, ppar0_0 b2 b3 b4 b5]
    have n1 : ∀ i, i < 5 * t.1 → N 1 i = M 1 i := fun i hi => by
      rw [nP 1 (by decide) (by decide), p3.2.2 i hi, ppar0_r (by decide)]
    have n11 : ∀ i, i < t.1 → N 11 i = M 11 i := fun i hi => by
      rw [eN, zup_r (by decide), e2, zup_ne _ _ _ _ (by omega), p3.1 11 (by decide) (by decide) (by decide) (by decide) (by decide) (by decide), ppar0_r (by decide)]
    have n11t : N 11 t.1 = nI t'.1 := by rw [eN, zup_r (by decide), e2, zup_at]; exact s7
    have hNds : NDS b0 n0 t.1 G F R' N t' [] m := by
      have s4 : NDS b0 n0 t.1 G F R' P t' [] m := s4
      unfold NDS at s4 ⊢
      rw [nP 1 (by decide) (by decide)]; exact s4
    have hFrs : FRS g.1 t.1 G N t' := by
      have s5 : FRS g.1 t.1 G P t' := s5
      unfold FRS at s5 ⊢
      rw [nP 1 (by decide) (by decide)]; exact s5
    have hT0 : TR b0 n0 g f (M 1) t := q1.base.1.1
    have hCl : ∀ m, t.1 ≤ m → m < t'.1 → N 1 (5 * m) = nI 16 → ∃ b, t.1 ≤ b ∧ b < t'.1 ∧ N 1 (5 * m + 2) = nI b ∧ ¬ N 1 (5 * b) = nI 16 := fun m c1 c2 c3 => by
      have z0 : tn (M 0 1) = t.1 := by rw [u1]; exact tn_nI (by omega)
      have z1 : tn (P 0 1) = t'.1 := by rw [s7]; exact tn_nI (by omega)
      rw [nP 1 (by decide) (by decide)] at c3 ⊢
      have z2 := CLAUS p1 (by rw [← eP]; exact hp15) m (by omega)
      rw [← eP] at z2
      obtain ⟨b, b1, b2, b3, b4⟩ := z2 (by omega) c3
      exact ⟨b, by omega, by omega, b3, b4⟩
    obtain ⟨d1, d2, d3, d4⟩ := BODY hT0 u3 ⟨w2, w3⟩ p2 n1 ⟨s1, by omega, by omega⟩ (by omega) hNds hFrs s9 n11t hCl
    obtain ⟨x1, x2, x3, ⟨x4, x5, x6⟩, x7, x8, x9, x10⟩ := bbd_all (g := G) (R := R') (f := F) (n := m)
    have hgG : g.1 ≤ G.1 := a1.1.1
    obtain ⟨H, eH⟩ : ∃ H, H = bbdG G R' m := ⟨_, rfl⟩
    obtain ⟨K, eK⟩ : ∃ K, K = bbdF G R' F m := ⟨_, rfl⟩
    rw [← eH] at x1 x3 x4 x5 x6 x7 x8 x9 x10 d1 d2 d3 d4 ⊢
    rw [← eK] at x2 d1 d3 ⊢
    have hgH : zLe g H ∧ ∀ y, y < g.1 → H.2.2.2 y = g.2.2.2 y ∧ K y = f y := ⟨a1.1.tr x1.1, fun y hy => ⟨(x1.2 y (by omega)).trans (a1.2 y hy).1, (x2 y (by omega)).trans (a1.2 y hy).2⟩⟩
    have hx : zLe g H ∧ ZZ n0 g (fun _ => False) ∧ ∀ y, n0 ≤ y → y < g.1 → ¬ False → H.2.2.2 y = g.2.2.2 y ∧ (g.2.1 y ≠ 1 → K y = f y) ∧ ∀ k, k < 8 → K y k = f y k := ⟨hgH.1, ZZ.non n0 _, fun y _ hy _ => ⟨(hgH.2 y hy).1, fun _ => (hgH.2 y hy).2, fun k _ => by rw [(hgH.2 y hy).2]⟩⟩
    -- the old bodies, moved
    obtain ⟨N0, eN0⟩ : ∃ N0, N0 = zup N 2 (1 + j) (M 2 (1 + j)) := ⟨_, rfl⟩
    have m1 : N 1 = N0 1 := by rw [eN0, zup_r (by decide)]
    have m11 : N 11 = N0 11 := by rw [eN0, zup_r (by decide)]
    have m2 : ∀ i, i ≠ 1 + j → N 2 i = N0 2 i := fun i hi => by rw [eN0, zup_ne _ _ _ _ (Or.inr hi)]
    have m2' : ∀ i, i < 5 → N0 2 i = M 2 i := fun i _ => by
      by_cases z : i = 1 + j
      · rw [z, eN0, zup_at]
      · rw [← m2 i z]; exact n2 i z
    have hBO0 : BO b0 n0 (H, K, N0, t', y, n) R' := q1.base.2.1.mv (np := 0) ⟨hx, fun k hk => absurd hk (by omega), by omega, fun i hi => by rw [← m1]; exact n1 i hi, s9⟩ m2' (congrFun (a5 17 (by decide) (by decide) (by decide)) 0) (fun p _ => congrFun (a5 18 (by decide) (by decide) (by decide)) p)
    have hBD0 : BOD b0 n0 H K N0 t' R' := hbd.mv hx (fun _ _ _ _ _ z => z) (by omega) (fun i hi => by rw [← m1]; exact n1 i hi) (fun i hi => by rw [← m11]; exact n11 i hi) (by omega) s9 m2' (congrFun (a5 17 (by decide) (by decide) (by decide)) 0) (fun p _ => congrFun (a5 18 (by decide) (by decide) (by decide)) p)
    have hroot : ¬ N 1 (5 * t.1) = nI 16 := (hNds.2.2.2 s1).2.2
    have hab : n0 ≤ G.1 + 1 ∧ zIn b0 H (G.1 + 1) 0 := ⟨by omega, by omega, by omega, x5⟩
    have hrb : (∀ v, t'.2.2.1 t.1 v → v = 23) ∧ ¬ t'.2.2.2 t.1 := ⟨fun v hv => ml_x (s11 v hv), fun hv => (s12 hv) (by show R' 8 0 = none; exact a6.trans v4)⟩
    have hBO : BO b0 n0 (H, K, N, t', y, n) (zup R' 18 j (some (G.1 + 1))) := BO.def (X := (H, K, N, t', y, n)) hj hBO0 m1 (fun i _ hi => m2 i hi) n2p (zup_ne _ _ _ _ (by omega)) (fun q _ hq => zup_ne _ _ _ _ (Or.inr hq)) (zup_at _ _ _ _) ⟨s1, hroot⟩ ⟨hab.1, hab.2, d4⟩ hrb
    have hBD : BOD b0 n0 H K N t' (zup R' 18 j (some (G.1 + 1))) := BOD.def hj hBD0 m1 m11 (fun i _ hi => m2 i hi) n2p (zup_ne _ _ _ _ (by omega)) (fun q _ hq => zup_ne _ _ _ _ (Or.inr hq)) (zup_at _ _ _ _) s1 hab d3
    refine ⟨fun _ => ⟨s6, by omega, ?_⟩, ?_, ?_⟩
    · show R' 3 0 = some ((R' 3 0).getD 0)
      have z : R' 3 0 = some (t'.2.1 t.1) := (hNds.2.2.2 s1).2.1
      rw [z]; rfl
    · show nI m = W.2 0 16
      rw [e2, zup_r (by decide)]; exact s8.symm
    · refine h'.read (by omega) hgH (fun x b d => ?_) (by omega) (fun r hr => a3 r (by omega)) a4 (fun r hr => ?_) ?_ (fun r hr => nr r (by omega) (by omega) (by omega) (by omega) (by omega) (by omega) (by omega) (by omega)) ⟨n00 8 (by decide) (by decide) (by decide) (by decide) (by decide) (by decide), n00 4 (by decide) (by decide) (by decide) (by decide) (by decide) (by decide), n00 27 (by decide) (by decide) (by decide) (by decide) (by decide) (by decide)⟩ (fun i hi => n2 i (by omega)) n1 n11 ⟨by omega, by omega⟩ s9 ?_ d1 d2 hBO hBD
      · by_cases z : x < G.1
        · have zt : H.2.1 x = G.2.1 x := (x1.1.2 x z).1
          rw [zt]
          refine ⟨(a2 x b z).1, fun h1 bb hb => ?_⟩
          rw [x1.2 x z] at hb
          obtain ⟨y1, y2, y3⟩ := (a2 x b z).2.2 h1 bb hb
          exact ⟨(x1.1.2 bb y3).2.trans y1, y2, by omega⟩
        · have hxx : x = G.1 ∨ x = G.1 + 1 ∨ x = G.1 + 2 := by omega
          have ht : H.2.1 x = 14 ∨ H.2.1 x = 0 ∨ H.2.1 x = 13 := by
            rcases hxx with rfl | rfl | rfl
            · exact Or.inl x4
            · exact Or.inr (Or.inl x5)
            · exact Or.inr (Or.inr x6)
          exact ⟨by omega, fun h1 => by omega⟩
      · rw [zup_r (by omega)]; exact a5 r (by omega) (by omega) (by omega)
      · rw [zup_r (by decide)]; exact a6.trans v4
      · show N 0 1 = nI t'.1
        rw [nP 0 (by decide) (by decide)]; exact s7
  · have hp15 : ¬ P 0 15 = -9 := fun z => q9 (p5.trans z)
    have eW1 : W.1 = -9 := by rw [e1, if_neg hp15]
    have ebd : bdefine g R f C len' (nI j) 0 = (Q.1, -2) := bdefine_s eQ.symm hpx q9
    rw [if_pos eW1]
    refine ⟨0, t, fun z => absurd z q9, by rw [ebd], ?_⟩
    rw [ebd, e2]
    obtain ⟨⟨G, R', F, C'⟩, z⟩ := Q
    exact h'.letgo (by omega) p2 p3 _
end QS16
section QS20
variable {b0 n0 c k : Nat} {g : zG} {f M : zI} {t : zTs} {y : zGs} {n : zNs} {R : zRf} {C : zI}
theorem WQ.load (h : WQ b0 n0 c k (g, R, f, C) M t y n) (hk : 120 * (k + 1) ≤ 64800) {len : Nat} (hlen : C 0 1 = nI len) (hl : len ≤ 120) :
    pparseV M 0 ∧ ∃ m t' n', bloadV b0 c (bread g R f C len 0) m 1000 ∧ (bload g R f C len m 1000).2 = (pload M).1 ∧ (bload g R f C len m 1000).1.2.1 26 = R 26 ∧ WQ b0 n0 c (k + 1) (bload g R f C len m 1000).1 (pload M).2 t' y n' := by
  have h' := h
  obtain ⟨⟨⟨w1, w2, w3⟩, w4, w5⟩, ⟨⟨len', tx, v1, v2⟩, v3, v4⟩, ⟨⟨u1, u2⟩, u3⟩, ⟨q1, q2, q3⟩, -, hbd⟩ := h
  have v2 : C 0 1 = nI len' := v2
  have hl' := v1.1
  obtain rfl : len' = len := (nI_eq (by omega) (by omega)).mp (v2.symm.trans hlen)
  have u2 : t.1 ≤ 120 * k := u2
  have w3 : n0 ≤ g.1 := w3
  have w2 : b0 ≤ g.1 := w2
  have w4 : EOs b0 g c := w4
  have w5 : RC n0 g := w5
  obtain ⟨p1, p2, p3, p4, p5, p6⟩ := PARSE (b0 := b0) (n0 := n0) (g := g) (R := R) (f := f) (C := C) (M := M) (t := t) (how := 0) (z := 0) v1 ⟨w2, w3⟩ v4 v3 u1 (by omega) rfl
  refine ⟨p1, ?_⟩
  have e2 : (pparse M 0).2 = zup (pparN (pparM M 0)) 11 t.1 (pparN (pparM M 0) 0 1) := by
    unfold pparse
    rw [u1, tn_nI (by omega)]
  have e1 : (pparse M 0).1 = if pparN (pparM M 0) 0 15 = -9 then nI t.1 else -9 := by
    unfold pparse
    rw [u1]
  obtain ⟨Q, eQ⟩ : ∃ Q, Q = bread g R f C len' 0 := ⟨_, rfl⟩
  rw [← eQ] at p2 p5 p6 ⊢
  obtain ⟨P, eP⟩ : ∃ P, P = pparN (pparM M 0) := ⟨_, rfl⟩
  rw [← eP] at e1 e2 p3 p5 p6
  obtain ⟨W, eW⟩ : ∃ W, W = pparse M 0 := ⟨_, rfl⟩
  have epd : pload M = if W.1 = -9 then (-2, zup W.2 0 1 (M 0 1)) else (W.2 0 16, pbegin (zup W.2 2 0 W.1)) := by rw [eW]; rfl
  rw [← eW] at e1 e2
  have hnine : ¬ nI t.1 = -9 := (iv_nI (N := 65000) (by omega) (by decide)).nn (by decide)
  rw [epd]
  by_cases q9 : Q.2 = -9
  · obtain ⟨t', m, s1, s2, s3, s4, s5, s6, s7, s8, s9, s10, s11, s12⟩ := p6 q9
    obtain ⟨⟨G, R', F, C'⟩, z⟩ := Q
    have q9 : z = -9 := q9
    subst q9
    have s6 : C' 2 1 = nI m := s6
    have hp15 : P 0 15 = -9 := p5.symm
    have eW1 : W.1 = nI t.1 := by rw [e1, if_pos hp15]
    rw [if_neg (by rw [eW1]; exact hnine), eW1]
    have ebd : bload g R f C len' m 1000 = (bload2 (G, R', F, C') m 1000, nI m) := bload_d eQ.symm rfl
    obtain ⟨N, eN⟩ : ∃ N, N = zup W.2 2 0 (nI t.1) := ⟨_, rfl⟩
    rw [← eN]
    obtain ⟨a1, a2, a3, a4, a5, a6⟩ := KB.wr p2
    have nP : ∀ r, r ≠ 2 → r ≠ 11 → N r = P r := fun r r2 r11 => by rw [eN, zup_r r2, e2, zup_r r11]
    have nr : ∀ r, r ≠ 0 → r ≠ 1 → r ≠ 2 → r ≠ 7 → r ≠ 8 → r ≠ 9 → r ≠ 10 → r ≠ 11 → N r = M r := fun r b0 b1 b2 b7 b8 b9 b10 b11 => by
      rw [nP r b2 b11, p3.1 r b0 b1 b7 b8 b9 b10, ppar0_r b0]
    have n2 : ∀ i, i ≠ 0 → N 2 i = M 2 i := fun i hi => by
      rw [eN, zup_ne _ _ _ _ (Or.inr hi), e2, zup_r (by decide), p3.1 2 (by decide) (by decide) (by decide) (by decide) (by decide) (by decide), ppar0_r (by decide)]
    have n2p : N 2 0 = nI t.1 := by rw [eN, zup_at]
    have n00 : ∀ i, i ≠ 1 → i ≠ 13 → i ≠ 14 → i ≠ 15 → i ≠ 16 → i ≠ 17 → N 0 i = M 0 i := fun i b1 b2 b3 b4 b5 b6 => by
      rw [nP 0 (by decide) (by decide), p3.2.1 i b1 b2 b3 b4 b5 b6, ppar0_0 b2 b3 b4 b5]
    have n1 : ∀ i, i < 5 * t.1 → N 1 i = M 1 i := fun i hi => by
      rw [nP 1 (by decide) (by decide), p3.2.2 i hi, ppar0_r (by decide)]
    have n11 : ∀ i, i < t.1 → N 11 i = M 11 i := fun i hi => by
      rw [eN, zup_r (by decide), e2, zup_ne _ _ _ _ (by omega), p3.1 11 (by decide) (by decide) (by decide) (by decide) (by decide) (by decide), ppar0_r (by decide)]
    have n11t : N 11 t.1 = nI t'.1 := by rw [eN, zup_r (by decide), e2, zup_at]; exact s7
    have hNds : NDS b0 n0 t.1 G F R' N t' [] m := by
      have s4 : NDS b0 n0 t.1 G F R' P t' [] m := s4
      unfold NDS at s4 ⊢
      rw [nP 1 (by decide) (by decide)]; exact s4
    have hFrs : FRS g.1 t.1 G N t' := by
      have s5 : FRS g.1 t.1 G P t' := s5
      unfold FRS at s5 ⊢
      rw [nP 1 (by decide) (by decide)]; exact s5
    have hT0 : TR b0 n0 g f (M 1) t := q1.base.1.1
    have hCl : ∀ m, t.1 ≤ m → m < t'.1 → N 1 (5 * m) = nI 16 → ∃ b, t.1 ≤ b ∧ b < t'.1 ∧ N 1 (5 * m + 2) = nI b ∧ ¬ N 1 (5 * b) = nI 16 := fun m c1 c2 c3 => by
      have z0 : tn (M 0 1) = t.1 := by rw [u1]; exact tn_nI (by omega)
      have z1 : tn (P 0 1) = t'.1 := by rw [s7]; exact tn_nI (by omega)
      rw [nP 1 (by decide) (by decide)] at c3 ⊢
      have z2 := CLAUS p1 (by rw [← eP]; exact hp15) m (by omega)
      rw [← eP] at z2
      obtain ⟨b, b1, b2, b3, b4⟩ := z2 (by omega) c3
      exact ⟨b, by omega, by omega, b3, b4⟩
    obtain ⟨d1, d2, d3, d4⟩ := BODY hT0 u3 ⟨w2, w3⟩ p2 n1 ⟨s1, by omega, by omega⟩ (by omega) hNds hFrs s9 n11t hCl
    obtain ⟨x1, x2, x3, ⟨x4, x5, x6⟩, x7, x8, x9, x10⟩ := bbd_all (g := G) (R := R') (f := F) (n := m)
    have hgG : g.1 ≤ G.1 := a1.1.1
    have hroot0 : R' 3 0 = some (t'.2.1 t.1) := (hNds.2.2.2 s1).2.1
    have eE : bloadE (G, R', F, C') = t'.2.1 t.1 := by
      show (R' 3 0).getD 0 = _
      rw [hroot0]; rfl
    obtain ⟨H, eH⟩ : ∃ H, H = bbdG G R' m := ⟨_, rfl⟩
    obtain ⟨K, eK⟩ : ∃ K, K = bbdF G R' F m := ⟨_, rfl⟩
    rw [← eH] at x1 x3 x4 x5 x6 x7 x8 x9 x10 d1 d2 d3 d4
    rw [← eK] at x2 d1 d3
    -- the listing
    have hWt : WTx (N 1) t'.1 t.1 len' := by rw [nP 1 (by decide) (by decide)]; exact s10
    obtain ⟨l1, l2, l3⟩ := LISTS (R := R') (C := C') d1 hWt hl
    obtain ⟨NL, eNL⟩ : ∃ NL, NL = llistN H R' K C' (t'.2.1 t.1) 1000 := ⟨_, rfl⟩
    obtain ⟨LL, eL'⟩ : ∃ LL, LL = llist H R' K C' (t'.2.1 t.1) 1000 := ⟨_, rfl⟩
    obtain ⟨RL, CL⟩ := LL
    have eL := eL'.symm
    have l13 : llistN H R' K C' (t'.2.1 t.1) 1000 < 240 := l1.2.2
    rw [← eNL] at l13 l3
    rw [eL] at l2 l3
    obtain ⟨H1, eH1⟩ : ∃ H1, H1 = zpR (znG H 13 NL) (G.1 + 1) 2 (some H.1) := ⟨_, rfl⟩
    obtain ⟨K1, eK1⟩ : ∃ K1, K1 = zu1 (znI H K) H.1 (fun k => if k < NL then CL 10 k else 0) := ⟨_, rfl⟩
    obtain ⟨RX, eRX⟩ : ∃ RX, RX = zup RL 17 0 (some (G.1 + 1)) := ⟨_, rfl⟩
    have eb2 : bload2 (G, R', F, C') m 1000 = (H1, (bbegin H1 RX CL).1, K1, (bbegin H1 RX CL).2) := by
      have f1 : bload1 (G, R', F, C') m 1000 = H1 := by
        unfold bload1 bloadN
        rw [eE]
        show zpR (znG (bbdG G R' m) 13 (llistN (bbdG G R' m) R' (bbdF G R' F m) C' (t'.2.1 t.1) 1000)) (G.1 + 1) 2 (some (bbdG G R' m).1) = H1
        rw [← eH, ← eK, ← eNL, eH1]
      have f2 : bloadL (G, R', F, C') m 1000 = (RL, CL) := by
        unfold bloadL
        rw [eE]
        show llist (bbdG G R' m) R' (bbdF G R' F m) C' (t'.2.1 t.1) 1000 = _
        rw [← eH, ← eK, eL]
      have f3 : bloadN (G, R', F, C') m 1000 = NL := by
        unfold bloadN
        rw [eE]
        show llistN (bbdG G R' m) R' (bbdF G R' F m) C' (t'.2.1 t.1) 1000 = _
        rw [← eH, ← eK, ← eNL]
      have f4 : bloadG (G, R', F, C') m = H := by rw [eH]; rfl
      have f5 : bloadF (G, R', F, C') m = K := by rw [eK]; rfl
      unfold bload2
      rw [f1, f2, f3, f4, f5]
      show (H1, (bbegin H1 (zup RL 17 0 (some (G.1 + 1))) CL).1, zu1 (znI H K) H.1 (fun k => if k < NL then CL 10 k else 0), (bbegin H1 (zup RL 17 0 (some (G.1 + 1))) CL).2) = _
      rw [← eRX, ← eK1]
    -- the heap
    have h1s : H1.1 = H.1 + 1 := by rw [eH1]; rfl
    have h1t : H1.2.1 = zu1 H.2.1 H.1 13 ∧ H1.2.2.1 = zu1 H.2.2.1 H.1 NL := by rw [eH1]; exact ⟨rfl, rfl⟩
    have h1r : ∀ y, y ≠ G.1 + 1 → y < H.1 → H1.2.2.2 y = H.2.2.2 y := fun y hy hy2 => by
      rw [eH1, zpR_o hy]
      show zu1 H.2.2.2 H.1 _ y = _
      rw [zu1_ne _ _ _ (by omega)]
    have h1f : ∀ j, j ≠ 2 → H1.2.2.2 (G.1 + 1) j = H.2.2.2 (G.1 + 1) j := fun j hj => by
      rw [eH1]
      show zup (zu1 H.2.2.2 H.1 _) (G.1 + 1) 2 _ (G.1 + 1) j = _
      rw [zup_ne _ _ _ _ (Or.inr hj), zu1_ne _ _ _ (by omega)]
    have h1l : zLe H H1 := ⟨by omega, fun a ha => by rw [h1t.1, h1t.2, zu1_ne _ _ _ (by omega), zu1_ne _ _ _ (by omega)]; exact ⟨rfl, rfl⟩⟩
    have k1f : ∀ y, y < H.1 → K1 y = K y := fun y hy => by
      rw [eK1, zu1_ne _ _ _ (by omega)]
      unfold znI
      rw [zu1_ne _ _ _ (by omega)]
    have hc1 : ∀ y, y < H.1 → y ≠ G.1 + 1 → H1.2.2.2 y = H.2.2.2 y ∧ K1 y = K y := fun y hy z => ⟨h1r y z hy, k1f y hy⟩
    have hT1 : TR b0 n0 H1 K1 (N 1) t' := d1.xt2 d2 x5 h1l hc1
    have hF1 : FRS n0 0 H1 N t' := d2.le h1l (fun _ _ => rfl)
    have hD1 : BD b0 n0 H1 K1 N t' t.1 (G.1 + 1) := d3.xt2 d1.1 d2 x5 h1l hc1 (h1f 1 (by decide))
    have hgH : zLe g H1 ∧ ∀ y, y < g.1 → H1.2.2.2 y = g.2.2.2 y ∧ K1 y = f y := ⟨(a1.1.tr x1.1).tr h1l, fun y hy => ⟨(h1r y (by omega) (by omega)).trans ((x1.2 y (by omega)).trans (a1.2 y hy).1), (k1f y (by omega)).trans ((x2 y (by omega)).trans (a1.2 y hy).2)⟩⟩
    have hx : zLe g H1 ∧ ZZ n0 g (fun _ => False) ∧ ∀ y, n0 ≤ y → y < g.1 → ¬ False → H1.2.2.2 y = g.2.2.2 y ∧ (g.2.1 y ≠ 1 → K1 y = f y) ∧ ∀ k, k < 8 → K1 y k = f y k := ⟨hgH.1, ZZ.non n0 _, fun y _ hy _ => ⟨(hgH.2 y hy).1, fun _ => (hgH.2 y hy).2, fun k _ => by rw [(hgH.2 y hy).2]⟩⟩
    have hEH : EOs b0 H c := fun a ha b hb => by
      have ha1 := ha.2.1
      have ha2 := ha.2.2
      by_cases z : a < g.1
      · have hcell : H.2.2.2 a = g.2.2.2 a := (x1.2 a (by omega)).trans (a1.2 a z).1
        rw [hcell] at hb
        obtain ⟨y1, y2, y3⟩ := w4 a ⟨ha.1, z, ((a1.1.tr x1.1).2 a z).1.symm.trans ha2⟩ b hb
        exact ⟨((a1.1.tr x1.1).2 b y3).2.trans y1, y2, by omega⟩
      · by_cases z2 : a < G.1
        · rw [x1.2 a z2] at hb
          obtain ⟨y1, y2, y3⟩ := (a2 a (by omega) z2).2.2 ((x1.1.2 a z2).1.symm.trans ha2) b hb
          exact ⟨(x1.1.2 b y3).2.trans y1, fun z => by omega, by omega⟩
        · have hxx : a = G.1 ∨ a = G.1 + 1 ∨ a = G.1 + 2 := by omega
          rcases hxx with rfl | rfl | rfl
          · rw [x4] at ha2; omega
          · rw [x5] at ha2; omega
          · rw [x6] at ha2; omega
    have h1tt : ∀ a, a < H.1 → H1.2.1 a = H.2.1 a := fun a ha => (h1l.2 a ha).1
    have h1tn : H1.2.1 H.1 = 13 := by rw [h1t.1, zu1_at]
    have hE1 : EOs b0 H1 c := fun a ha b hb => by
      have ha1 := ha.2.1
      have ha2 := ha.2.2
      by_cases z : a = H.1
      · rw [z, h1tn] at ha2; omega
      · have z2 : a < H.1 := by omega
        have z3 : a ≠ G.1 + 1 := fun q => by rw [h1tt a z2, q, x5] at ha2; omega
        rw [h1r a z3 z2] at hb
        obtain ⟨y1, y2, y3⟩ := hEH a ⟨ha.1, z2, (h1tt a z2).symm.trans ha2⟩ b hb
        exact ⟨(h1l.2 b y3).2.trans y1, y2, by omega⟩
    have hRC1 : RC n0 H1 := fun x y0 y1 y7 => by
      by_cases z : x = H.1
      · rw [z, h1tn] at y7; omega
      · have z2 : x < H.1 := by omega
        rw [h1tt x z2] at y7
        by_cases z3 : x < g.1
        · rw [(hgH.2 x z3).1]
          exact w5 x y0 z3 (((a1.1.tr x1.1).2 x z3).1.symm.trans y7)
        · by_cases z4 : x < G.1
          · exact absurd ((x1.1.2 x z4).1.symm.trans y7) (a2 x (by omega) z4).1
          · have hxx : x = G.1 ∨ x = G.1 + 1 ∨ x = G.1 + 2 := by omega
            rcases hxx with rfl | rfl | rfl
            · rw [x4] at y7; omega
            · rw [x5] at y7; omega
            · rw [x6] at y7; omega
    -- the old bodies, moved
    obtain ⟨N0, eN0⟩ : ∃ N0, N0 = zup N 2 0 (M 2 0) := ⟨_, rfl⟩
    have m1 : N 1 = N0 1 := by rw [eN0, zup_r (by decide)]
    have m11 : N 11 = N0 11 := by rw [eN0, zup_r (by decide)]
    have m2 : ∀ i, 1 ≤ i → i < 5 → N 2 i = N0 2 i := fun i hi _ => by rw [eN0, zup_ne _ _ _ _ (by omega)]
    have m2' : ∀ i, i < 5 → N0 2 i = M 2 i := fun i hi => by
      by_cases z : i = 0
      · rw [z, eN0, zup_at]
      · rw [← m2 i (by omega) hi]; exact n2 i z
    have r17 : R' 17 0 = R 17 0 := congrFun (a5 17 (by decide) (by decide) (by decide)) 0
    have r18 : ∀ p, p < 4 → R' 18 p = R 18 p := fun p _ => congrFun (a5 18 (by decide) (by decide) (by decide)) p
    have hBO0 : BO b0 n0 (H1, K1, N0, t', y, n) R' := q1.base.2.1.mv (np := 0) ⟨hx, fun k hk => absurd hk (by omega), by omega, fun i hi => by rw [← m1]; exact n1 i hi, s9⟩ m2' r17 r18
    have hBD0 : BOD b0 n0 H1 K1 N0 t' R' := hbd.mv hx (fun _ _ _ _ _ z => z) (by omega) (fun i hi => by rw [← m1]; exact n1 i hi) (fun i hi => by rw [← m11]; exact n11 i hi) (by omega) s9 m2' r17 r18
    have lR : ∀ r, r ≠ 11 → RL r = R' r := l2.1
    have lC : ∀ r, r ≠ 9 → r ≠ 10 → r ≠ 12 → CL r = C' r := l2.2
    have rx17 : RX 17 0 = some (G.1 + 1) := by rw [eRX, zup_at]
    have rxr : ∀ r, r ≠ 11 → r ≠ 17 → RX r = R' r := fun r a b => by rw [eRX, zup_r b]; exact lR r a
    have hroot : ¬ N 1 (5 * t.1) = nI 16 := (hNds.2.2.2 s1).2.2
    have hzb : zIn b0 H1 (G.1 + 1) 0 := ⟨by omega, by omega, by rw [h1tt _ (by omega)]; exact x5⟩
    have hrb : (∀ v, ¬ t'.2.2.1 t.1 v) ∧ ¬ t'.2.2.2 t.1 := ⟨fun v hv => ml_0 (s11 v hv), fun hv => (s12 hv) (by show R' 8 0 = none; exact a6.trans v4)⟩
    have hBO : BO b0 n0 (H1, K1, N, t', y, n) RX := hBO0.main m1 m2 n2p rx17 (fun q _ => by rw [rxr 18 (by decide) (by decide)]) ⟨s1, hroot⟩ ⟨by omega, hzb, (h1f 0 (by decide)).trans d4⟩ hrb
    have hML : ML b0 n0 H1 K1 N t' t.1 (G.1 + 1) := ⟨H.1, NL, t'.1, by rw [eH1]; exact zup_at _ _ _ _, ⟨by omega, by omega, by rw [h1tt _ (by omega), show H.1 - 2 = G.1 + 1 by omega]; exact x5⟩, ⟨by omega, by omega, h1tn⟩, by rw [h1t.2, zu1_at], l13, Nat.le_refl _, l3.of (fun _ _ => rfl) (fun i hi => by rw [eK1, zu1_at, if_pos hi])⟩
    have hBD : BOD b0 n0 H1 K1 N t' RX := hBD0.main m1 m11 m2 n2p rx17 (fun q _ => by rw [rxr 18 (by decide) (by decide)]) s1 ⟨by omega, hzb⟩ hD1 hML
    have hb : 201 * k ≤ 201 * (k + 1) := by omega
    have hUC : UC (201 * (k + 1)) CL := fun r => by
      have hU : UC (201 * k) C := q1.2.2.1
      obtain ⟨u, z1, z2⟩ := hU r
      exact ⟨u, by omega, by rw [lC 22 (by decide) (by decide) (by decide), a3 22 (by omega)]; exact z2⟩
    have hGL : GL (201 * (k + 1)) CL N := (GL.of q3 (by rw [lC 13 (by decide) (by decide) (by decide), a3 13 (by omega)]) (by rw [lC 16 (by decide) (by decide) (by decide), a3 16 (by omega)]) (n00 27 (by decide) (by decide) (by decide) (by decide) (by decide) (by decide)) (nr 19 (by decide) (by decide) (by decide) (by decide) (by decide) (by decide) (by decide) (by decide))).mono hb
    obtain ⟨⟨-, -, kC, kR, kR17, -⟩, ⟨mA, mB, mC⟩, hRQ, hGL2⟩ := CO.begins (y := y) (n := n) hT1 hBO rx17 hUC hGL
    have kC : ∀ r, r < 13 ∨ 26 ≤ r → (bbegin H1 RX CL).2 r = CL r := kC
    have kR : ∀ r, r ≠ 14 → r ≠ 17 → r ≠ 20 → (bbegin H1 RX CL).1 r = RX r := kR
    have kR17 : ∀ j, j ≠ 4 → j ≠ 5 → (bbegin H1 RX CL).1 17 j = RX 17 j := kR17
    have q1' : pbegin N 1 = N 1 := mA 1 (by decide) (by decide) (by decide) (by decide) (by decide) (by decide) (by decide)
    have q11 : pbegin N 11 = N 11 := mA 11 (by decide) (by decide) (by decide) (by decide) (by decide) (by decide) (by decide)
    have hBDf : BOD b0 n0 H1 K1 (pbegin N) t' (bbegin H1 RX CL).1 := by
      have z := hBD.sm (N := pbegin N) q1' q11 mC
      refine ⟨fun a ha => z.1 a ?_, fun p hp a ha => z.2 p hp a ?_⟩
      · rw [← kR17 0 (by decide) (by decide)]; exact ha
      · rw [← kR 18 (by decide) (by decide) (by decide)]; exact ha
    refine ⟨m, t', (0, 0, 0, 0, 0), fun _ => ⟨⟨s6, by omega, by show R' 3 0 = some ((R' 3 0).getD 0); rw [hroot0]; rfl⟩, ?_, ?_⟩, ?_, ?_, ?_⟩
    · show EO b0 (bbdG G R' m) c
      rw [← eH]; exact hEH.EO
    · show llistV (bbdG G R' m) R' (bbdF G R' F m) C' (bloadE (G, R', F, C')) 1000
      rw [eE, ← eH, ← eK]; exact l1
    · rw [ebd]
      show nI m = W.2 0 16
      rw [e2, zup_r (by decide)]; exact s8.symm
    · rw [ebd, eb2]
      show (bbegin H1 RX CL).1 26 = R 26
      rw [kR 26 (by decide) (by decide) (by decide), rxr 26 (by decide) (by decide), a5 26 (by decide) (by decide) (by decide)]
    · rw [ebd, eb2]
      refine ⟨⟨⟨w1, by show b0 ≤ H1.1; omega, by show n0 ≤ H1.1; omega⟩, hE1, hRC1⟩, ⟨⟨len', tx, v1.at ?_ ?_ ?_, ?_⟩, fun j => ?_, ?_⟩, ⟨⟨?_, by omega⟩, hF1.le zLe.rf (fun j _ => congrFun q1' j)⟩, ⟨hRQ, fun z => ?_, hGL2⟩, trivial, hBDf⟩
      · show (bbegin H1 RX CL).2 1 = C 1
        rw [kC 1 (by omega), lC 1 (by decide) (by decide) (by decide), a3 1 (by omega)]
      · show pbegin N 0 8 = M 0 8
        rw [mB 8 (by decide) (by decide), n00 8 (by decide) (by decide) (by decide) (by decide) (by decide) (by decide)]
      · show pbegin N 6 = M 6
        rw [mA 6 (by decide) (by decide) (by decide) (by decide) (by decide) (by decide) (by decide), nr 6 (by decide) (by decide) (by decide) (by decide) (by decide) (by decide) (by decide) (by decide)]
      · show (bbegin H1 RX CL).2 0 1 = nI len'
        rw [kC 0 (by omega), lC 0 (by decide) (by decide) (by decide), a3 0 (by omega)]; exact v2
      · show iv 7 ((bbegin H1 RX CL).2 6 j)
        rw [kC 6 (by omega), lC 6 (by decide) (by decide) (by decide)]; exact a4 j
      · show (bbegin H1 RX CL).1 8 0 = none
        rw [kR 8 (by decide) (by decide) (by decide), rxr 8 (by decide) (by decide)]; exact a6.trans v4
      · show pbegin N 0 1 = nI t'.1
        rw [mB 1 (by decide) (by decide), nP 0 (by decide) (by decide)]; exact s7
      · have z : (bbegin H1 RX CL).1 17 0 = none := z
        rw [kR17 0 (by decide) (by decide), rx17] at z; cases z
  · have hp15 : ¬ P 0 15 = -9 := fun z => q9 (p5.trans z)
    have eW1 : W.1 = -9 := by rw [e1, if_neg hp15]
    have ebd : bload g R f C len' 0 1000 = (Q.1, -2) := bload_s eQ.symm q9
    rw [if_pos eW1]
    refine ⟨0, t, n, fun z => absurd z q9, by rw [ebd], ?_, ?_⟩
    · rw [ebd]
      obtain ⟨⟨G, R', F, C'⟩, z⟩ := Q
      exact (KB.wr p2).2.2.2.2.1 26 (by decide) (by decide) (by decide)
    rw [ebd, e2]
    obtain ⟨⟨G, R', F, C'⟩, z⟩ := Q
    exact h'.letgo (by omega) p2 p3 _
end QS20
section QS24
variable {b0 n0 c k : Nat} {g G : zG} {f F M N : zI} {t : zTs} {y y' : zGs} {n n' : zNs} {R R' : zRf} {C C' : zI}
/-- what a call of the run leaves, between the calls -/
theorem WQ.runs (h : WQ b0 n0 c k (g, R, f, C) M t y n) (hk : 120 * k ≤ 64800) (hK : KF (g, R, f, C) (G, R', F, C')) (hM : MF M N) (hRQ : RQ b0 n0 (G, F, N, t, y', n') R' C' (201 * (k + 1))) (hMN : MN R' C') (hG : GL (201 * (k + 1)) C' N) : WQ b0 n0 c (k + 1) (G, R', F, C') N t y' n' := by
  have h' := h
  obtain ⟨⟨⟨w1, w2, w3⟩, w4, w5⟩, ⟨⟨len, tx, v1, v2⟩, v3, v4⟩, ⟨⟨u1, u2⟩, u3⟩, ⟨q1, q2, q3⟩, -, hbd⟩ := h
  have v1 : TX len tx C M := v1
  have v2 : C 0 1 = nI len := v2
  have v3 : ∀ j, iv 7 (C 6 j) := v3
  have u2 : t.1 ≤ 120 * k := u2
  have w3 : n0 ≤ g.1 := w3
  have w2 : b0 ≤ g.1 := w2
  have w4 : EOs b0 g c := w4
  have w5 : RC n0 g := w5
  obtain ⟨kx, kf, kC, kR, kR17, kn⟩ := hK
  have kx : zXt g G := kx
  have kf : ∀ y, y < g.1 → F y = f y := kf
  have kC : ∀ r, r < 13 ∨ 26 ≤ r → C' r = C r := kC
  have kR : ∀ r, r ≠ 14 → r ≠ 17 → r ≠ 20 → R' r = R r := kR
  have kR17 : ∀ j, j ≠ 4 → j ≠ 5 → R' 17 j = R 17 j := kR17
  have kn : ∀ x, g.1 ≤ x → x < G.1 → G.2.1 x ≠ 0 ∧ G.2.1 x ≠ 1 ∧ (G.2.1 x = 7 → G.2.2.2 x 1 = some (x - 1)) := kn
  obtain ⟨mA, mB, mC⟩ := hM
  have gg := kx.1.1
  have hgH : zLe g G ∧ ∀ y, y < g.1 → G.2.2.2 y = g.2.2.2 y ∧ F y = f y := ⟨kx.1, fun y hy => ⟨kx.2 y hy, kf y hy⟩⟩
  have hx : zLe g G ∧ ZZ n0 g (fun _ => False) ∧ ∀ y, n0 ≤ y → y < g.1 → ¬ False → G.2.2.2 y = g.2.2.2 y ∧ (g.2.1 y ≠ 1 → F y = f y) ∧ ∀ k, k < 8 → F y k = f y k := ⟨hgH.1, ZZ.non n0 _, fun y _ hy _ => ⟨(hgH.2 y hy).1, fun _ => (hgH.2 y hy).2, fun k _ => by rw [(hgH.2 y hy).2]⟩⟩
  have e1 : N 1 = M 1 := mA 1 (by decide) (by decide) (by decide) (by decide) (by decide) (by decide) (by decide)
  have e11 : N 11 = M 11 := mA 11 (by decide) (by decide) (by decide) (by decide) (by decide) (by decide) (by decide)
  have hT : TR b0 n0 G F (N 1) t := hRQ.base.1.1
  have hBD : BOD b0 n0 G F N t R' := hbd.mv hx (fun _ _ _ _ _ z => z) (by omega) (fun j _ => congrFun e1 j) (fun j _ => congrFun e11 j) (Nat.le_refl _) (fun _ _ => ⟨rfl, rfl, rfl⟩) mC (kR17 0 (by decide) (by decide)) (fun p _ => congrFun (kR 18 (by decide) (by decide) (by decide)) p)
  refine ⟨⟨⟨w1, by show b0 ≤ G.1; omega, by show n0 ≤ G.1; omega⟩, fun a ha b hb => ?_, fun x x0 x1 x7 => ?_⟩, ⟨⟨len, tx, v1.at (kC 1 (by omega)) (mB 8 (by decide) (by decide)) (mA 6 (by decide) (by decide) (by decide) (by decide) (by decide) (by decide) (by decide)), ?_⟩, fun j => ?_, ?_⟩, ⟨⟨(mB 1 (by decide) (by decide)).trans u1, by omega⟩, u3.le hgH.1 (fun j _ => congrFun e1 j)⟩, ⟨hRQ, hMN, hG⟩, trivial, hBD⟩
  · have ha1 := ha.2.1
    have ha2 := ha.2.2
    have ha1 : a < G.1 := ha1
    have ha2 : G.2.1 a = 1 := ha2
    by_cases z : a < g.1
    · have hb : G.2.2.2 a 5 = some b ∨ G.2.2.2 a 6 = some b := hb
      rw [kx.2 a z] at hb
      obtain ⟨y1, y2, y3⟩ := w4 a ⟨ha.1, z, (kx.1.2 a z).1.symm.trans ha2⟩ b hb
      exact ⟨(kx.1.2 b y3).2.trans y1, y2, by show b < G.1; omega⟩
    · exact absurd ha2 (kn a (by omega) ha1).2.1
  · have x1 : x < G.1 := x1
    have x7 : G.2.1 x = 7 := x7
    show G.2.2.2 x 1 = some (x - 1)
    by_cases z : x < g.1
    · rw [kx.2 x z]
      exact w5 x x0 z ((kx.1.2 x z).1.symm.trans x7)
    · exact (kn x (by omega) x1).2.2 x7
  · show C' 0 1 = nI len
    rw [kC 0 (by omega)]; exact v2
  · show iv 7 (C' 6 j)
    rw [kC 6 (by omega)]; exact v3 j
  · show R' 8 0 = none
    rw [kR 8 (by decide) (by decide) (by decide)]; exact v4
end QS24
section QS28
variable {b0 n0 c k : Nat} {g : zG} {f M : zI} {t : zTs} {y : zGs} {n : zNs} {R : zRf} {C : zI}
theorem WQ.same (h : WQ b0 n0 c k (g, R, f, C) M t y n) (hk : 120 * k ≤ 64800) : WQ b0 n0 c (k + 1) (g, R, f, C) M t y n := by
  have h' := h
  obtain ⟨-, -, -, ⟨q1, q2, q3⟩, -⟩ := h
  exact h'.runs hk (KF.rf _) (MF.rf _) (RQ.mono q1 (by omega)) q2 (GL.mono q3 (by omega))
theorem WQ.run (h : WQ b0 n0 c k (g, R, f, C) M t y n) (hk : 120 * k ≤ 64800) (x : Int32) : (¬ (x < 1 ∨ 200 < x) → C 17 2 = 1 → brunV b0 c (tn x) (g, R, f, C)) ∧ (¬ (x < 1 ∨ 200 < x) → M 2 5 = 1 → prunV (tn x) M) ∧ (¬ (x < 1 ∨ 200 < x) → brunc (tn x) (g, R, f, C) ≤ 11256 ∧ brunk (tn x) (g, R, f, C) ≤ 335) ∧ (brunM g R f C x).2 = (prun M x).1 ∧ ∃ y' n', WQ b0 n0 c (k + 1) (brunM g R f C x).1 (prun M x).2 t y' n' := by
  have h' := h
  obtain ⟨⟨⟨w1, w2, w3⟩, -⟩, -, -, ⟨q1, q2, q3⟩, -⟩ := h
  obtain ⟨a1, a2, a3, a4, a5, a6, y', n', a7, a8⟩ := RQ.run q1 q3 ⟨w2, w3⟩ (by omega) w1 x
  refine ⟨a1, a2, a3, a4, y', n', ?_⟩
  have hMN : MN (brunM g R f C x).1.2.1 (brunM g R f C x).1.2.2.2 := by
    by_cases z : x < 1 ∨ 200 < x
    · rw [brunM_b z]; exact q2
    · by_cases z2 : C 17 2 = 1
      · intro z3
        have z4 : (brunM g R f C x).1.2.1 17 0 = R 17 0 := a5.2.2.2.2.1 0 (by decide) (by decide)
        have z5 : C 17 2 = 0 := q2 (z4.symm.trans z3)
        exact absurd (z5.symm.trans z2) (by decide)
      · rw [brunM_s z z2]; exact q2
  generalize brunM g R f C x = Q at a5 a7 a8 hMN ⊢
  obtain ⟨⟨G, R', F, C'⟩, v⟩ := Q
  exact h'.runs hk a5 a6 (RQ.mono a7 (by omega)) hMN (GL.mono a8 (by omega))
theorem WQ.answer (h : WQ b0 n0 c k (g, R, f, C) M t y n) (hk : 120 * k ≤ 64800) (v : Int32) : (banswer R C v).1 = (panswer M v).1 ∧ WQ b0 n0 c (k + 1) (g, (banswer R C v).2.1, f, (banswer R C v).2.2) (panswer M v).2 t y n := by
  have h' := h
  obtain ⟨⟨⟨w1, w2, w3⟩, -⟩, -, -, ⟨q1, q2, q3⟩, -⟩ := h
  obtain ⟨a4, a5, a6, a7, a8⟩ := RQ.answer q1 q3 v
  refine ⟨a4, ?_⟩
  have hMN : MN (banswer R C v).2.1 (banswer R C v).2.2 := by
    by_cases z2 : C 17 2 = 3
    · intro z3
      have z4 : (banswer R C v).2.1 17 0 = R 17 0 := a5.2.2.2.2.1 0 (by decide) (by decide)
      have z5 : C 17 2 = 0 := q2 (z4.symm.trans z3)
      exact absurd (z5.symm.trans z2) (by decide)
    · rw [banswer_f z2]; exact q2
  exact h'.runs hk a5 a6 (RQ.mono a7 (by omega)) hMN (GL.mono a8 (by omega))
theorem WQ.drop (h : WQ b0 n0 c k (g, R, f, C) M t y n) (hk : 120 * k ≤ 64800) (v : Int32) : (bdrop g R f C v n.1).2 = (pdrop M v).1 ∧ (M 2 5 = 3 → iv 39999 (pdr1 M 2 21)) ∧ ∃ y' n', WQ b0 n0 c (k + 1) (bdrop g R f C v n.1).1 (pdrop M v).2 t y' n' := by
  have h' := h
  obtain ⟨⟨⟨w1, w2, w3⟩, -⟩, -, -, ⟨q1, q2, q3⟩, -⟩ := h
  obtain ⟨a4, a3, a5, a6, y', n', a7, a8⟩ := RQ.drop q1 q3 ⟨w2, w3⟩ v
  refine ⟨a4, a3, y', n', ?_⟩
  have hMN : MN (bdrop g R f C v n.1).1.2.1 (bdrop g R f C v n.1).1.2.2.2 := by
    by_cases z2 : C 17 2 = 3
    · intro z3
      have z4 : (bdrop g R f C v n.1).1.2.1 17 0 = R 17 0 := a5.2.2.2.2.1 0 (by decide) (by decide)
      have z5 : C 17 2 = 0 := q2 (z4.symm.trans z3)
      exact absurd (z5.symm.trans z2) (by decide)
    · rw [bdrop_f z2]; exact q2
  generalize bdrop g R f C v n.1 = Q at a5 a7 a8 hMN ⊢
  obtain ⟨⟨G, R', F, C'⟩, v⟩ := Q
  exact h'.runs hk a5 a6 (RQ.mono a7 (by omega)) hMN (GL.mono a8 (by omega))
end QS28
section QS35
variable {b0 n0 c k : Nat} {g : zG} {f F M N : zI} {t : zTs} {y : zGs} {n : zNs} {R : zRf} {C : zI}
theorem WQ.BK0 (h : WQ b0 n0 c k (g, R, f, C) M t y n) (h65 : t.1 ≤ 65000) : BK b0 n0 g f M t 0 (R 17 0) ∧ ∀ p, p < 4 → BK b0 n0 g f M t (1 + p) (R 18 p) := by
  obtain ⟨-, -, -, ⟨q1, -, -⟩, -, hbd⟩ := h
  obtain ⟨b1, b2⟩ := q1.base.2.1
  obtain ⟨d1, d2⟩ := hbd
  constructor
  · rcases b1 with z | ⟨r0, a, z1, z2, z3, z4, z5, z6, z7, -⟩
    · exact Or.inl z
    · have z1 : r0 < t.1 := z1
      have z2 : M 2 0 = nI r0 := z2
      obtain ⟨r1, e1, e2, e3, e4, -⟩ := d1 a z4
      obtain rfl : r0 = r1 := (nI_eq (by omega) (by omega)).mp (z2.symm.trans e1)
      exact Or.inr ⟨r0, a, z1, z2, z3, z4, z6, z7, e4⟩
  · intro p hp
    rcases b2 p hp with z | ⟨r0, a, z1, z2, z3, z4, z5, z6, z7, -⟩
    · exact Or.inl z
    · have z1 : r0 < t.1 := z1
      have z2 : M 2 (1 + p) = nI r0 := z2
      obtain ⟨r1, e1, e2, e3, e4⟩ := d2 p hp a z4
      obtain rfl : r0 = r1 := (nI_eq (by omega) (by omega)).mp (z2.symm.trans e1)
      exact Or.inr ⟨r0, a, z1, z2, z3, z4, z6, z7, e4⟩
/-- where may works, between two calls -/
theorem WQ.mcx (h : WQ b0 n0 c k (g, R, f, C) M t y n) (h65 : t.1 ≤ 65000) : MCX b0 n0 g f M t R (mLs M) ∧ (∀ k, k < 5 → BDL g M t (mLs M) (rk R k)) ∧ (∀ m ∈ mLs M, ¬ M 1 (5 * m) = nI 16 → inBs g R (t.2.1 m)) ∧ (mLs M).length ≤ 600 ∧
    (∀ k, k < 5 → BK b0 n0 g f M t k (rk R k)) ∧ ∀ k r0, k < 5 → M 2 k = nI r0 → r0 < t.1 → ∃ e, M 11 r0 = nI e ∧ r0 < e ∧ e ≤ t.1 := by
  have hBK := BK.all (h.BK0 h65)
  have hFR : FRS n0 0 g M t := h.2.2.1.2
  have hiv : ∀ k r0 e, M 2 k = nI r0 → r0 < 65000 → M 11 r0 = nI e → e ≤ 65000 → ∀ m, (m ∈ mLk M k ↔ r0 ≤ m ∧ m < e) := fun k r0 e a b d1 d2 m => by
    rw [mLk_mem, a, tn_nI (by omega), d1, tn_nI (by omega)]
    exact ⟨fun z => z.2, fun z => ⟨(iv_nI (N := 65000) b (by decide)).nn (by decide), z⟩⟩
  have hin : ∀ k, k < 5 → ∀ m, m ∈ mLk M k → m ∈ mLs M := fun k hk m hm => mLs_mem.mpr ⟨k, hk, hm⟩
  have hbd : ∀ k, k < 5 → ∀ m, m ∈ mLk M k → ∃ r0 e, r0 < t.1 ∧ M 2 k = nI r0 ∧ M 11 r0 = nI e ∧ e ≤ t.1 ∧ r0 ≤ m ∧ m < e ∧ ((M 1 (5 * m) = nI 16 ∧ ∃ b, r0 ≤ b ∧ b < e ∧ M 1 (5 * m + 2) = nI b ∧ ¬ M 1 (5 * b) = nI 16) ∨ ∃ κ, κ ≤ 15 ∧ M 1 (5 * m) = nI κ ∧ EN b0 n0 g f (M 1) (e, t.2) κ m ∧ (κ = 14 → ∃ h, r0 ≤ h ∧ h < m ∧ M 1 (5 * m + 4) = nI h)) := fun k hk m hm => by
    rcases hBK k hk with z | ⟨r0, a, z1, z2, z3, z4, z5, z6, z7⟩
    · exact absurd z.1 (mLk_mem.mp hm).1
    · obtain ⟨e, A, kk, ⟨⟨e1, e4⟩, e2, e3⟩, -, -, -, h5⟩ := z7
      have hm' := (hiv k r0 e z2 (by omega) e3 (by omega) m).mp hm
      exact ⟨r0, e, z1, z2, e3, e2, hm'.1, hm'.2, h5 m hm'.1 hm'.2⟩
  have hBO : BOm g M t R := fun p hp => by
    have z := (h.BK0 h65).2 p hp
    rcases z with z | ⟨r0, a, z1, z2, z3, z4, z5, z6, z7⟩
    · exact Or.inl z
    · exact Or.inr ⟨r0, a, by omega, z2, z3, z4, z6⟩
  refine ⟨⟨fun m hm => ?_, hBO, fun m hm h16 => ?_, fun m hm m' hm' h16 h16' he => ?_⟩, fun k hk => ?_, fun m hm h16 => ?_, ?_, hBK, fun k r0 hk a b => ?_⟩
  · obtain ⟨k, hk, hmk⟩ := mLs_mem.mp hm
    obtain ⟨r0, e, r1, r2, r3, r4, r5, r6, r7⟩ := hbd k hk m hmk
    have inn : ∀ j, r0 ≤ j → j < e → j ∈ mLs M ∧ j < 65000 := fun j j1 j2 => ⟨hin k hk j ((hiv k r0 e r2 (by omega) r3 (by omega) j).mpr ⟨j1, j2⟩), by omega⟩
    refine ⟨by omega, ?_⟩
    rcases r7 with ⟨s1, b, s2, s3, s4, s5⟩ | ⟨κ, s1, s2, s3, s4⟩
    · exact Or.inl ⟨s1, b, (inn b s2 s3).1, (inn b s2 s3).2, s4, s5⟩
    · refine Or.inr ⟨κ, s1, s2, fun i hi => ?_, s3.2.1.2.1, fun q => ?_, fun q => ?_, fun q => ?_⟩
      · have := ari_le3 κ (by omega)
        obtain ⟨m', m1, m2, m3, -⟩ := (s3.2.2.1 i (by omega)).1 hi
        have m2 : m' < e := m2
        exact ⟨m', (inn m' (by omega) m2).1, (inn m' (by omega) m2).2, m3⟩
      · obtain ⟨p, p1, p2⟩ := s3.2.1.2.2 q
        refine ⟨p, p1, p2, ?_⟩
        rcases (h.BK0 h65).2 p p1 with z | ⟨x0, a, z1, z2, z3, z4, z5, z6, z7⟩
        · exact Or.inl z.1
        · obtain ⟨e', A, kk, ⟨⟨e1, e4⟩, e2, e3⟩, -⟩ := z7
          exact Or.inr ⟨x0, hin (1 + p) (by omega) x0 ((hiv (1 + p) x0 e' z2 (by omega) e3 (by omega) x0).mpr ⟨Nat.le_refl _, e1⟩), by omega, z2⟩
      · obtain ⟨h, h1, h2, h3⟩ := s4 q
        exact ⟨h, (inn h h1 (by omega)).1, (inn h h1 (by omega)).2, h3⟩
      · subst q
        have hHN := s3.2.2.2.2.2 rfl
        refine ⟨plpV_of (T := M 1) rfl (by omega) r6 hHN, ?_⟩
        obtain ⟨-, qs, c1, c2, c3, -⟩ := hHN
        refine ⟨qs, c1, c2, fun q hq => ?_⟩
        obtain ⟨x1, x2, -⟩ := c3 q hq
        have x2 : q < e := x2
        exact inn q (by omega) x2
  · obtain ⟨k, hk, hmk⟩ := mLs_mem.mp hm
    obtain ⟨r0, e, r1, r2, r3, r4, r5, r6, r7⟩ := hbd k hk m hmk
    refine ⟨(hFR.1 m (Nat.zero_le _) (by omega) h16).2.2.1, ?_⟩
    rcases r7 with ⟨s1, -⟩ | ⟨κ, s1, s2, s3, s4⟩
    · exact absurd s1 h16
    · exact ⟨κ, e, s1, s2, r6, by omega, s3⟩
  · have lt : ∀ m ∈ mLs M, m < t.1 := fun m hm => by
      obtain ⟨k, hk, hmk⟩ := mLs_mem.mp hm
      obtain ⟨r0, e, r1, r2, r3, r4, r5, r6, -⟩ := hbd k hk m hmk
      omega
    rcases Nat.lt_trichotomy m m' with q | q | q
    · have := hFR.2 m m' (Nat.zero_le _) q (lt m' hm') h16 h16'; omega
    · exact q
    · have := hFR.2 m' m (Nat.zero_le _) q (lt m hm) h16' h16; omega
  · intro a ha i hi
    rcases hBK k hk with z | ⟨r0, a', z1, z2, z3, z4, z5, z6, z7⟩
    · rw [z.2] at ha; cases ha
    · obtain rfl : a' = a := Option.some.inj (z4.symm.trans ha)
      obtain ⟨e, A, kk, ⟨⟨e1, e4⟩, e2, e3⟩, ⟨a1, a2, a3, a4, a5⟩, h1, h2, h3⟩ := z7
      rw [pA_eq a1, a4] at hi
      obtain ⟨m, m1, m2, m3, m4⟩ := h1 i hi
      refine ⟨m, hin k hk m ((hiv k r0 e z2 (by omega) e3 (by omega) m).mpr ⟨m1, m2⟩), m3, ?_⟩
      rw [pA_eq a1, pA_eq m4]
  · obtain ⟨k, hk, hmk⟩ := mLs_mem.mp hm
    have hb : inB g (rk R k) (t.2.1 m) := by
      rcases hBK k hk with z | ⟨r0, a, z1, z2, z3, z4, z5, z6, z7⟩
      · exact absurd z.1 (mLk_mem.mp hmk).1
      · obtain ⟨e, A, kk, ⟨⟨e1, e4⟩, e2, e3⟩, ⟨a1, a2, a3, a4, a5⟩, h1, h2, h3⟩ := z7
        have hm' := (hiv k r0 e z2 (by omega) e3 (by omega) m).mp hmk
        obtain ⟨i, i1, i2⟩ := h2 m hm'.1 hm'.2 h16
        refine ⟨a, z4, i, ?_, ?_⟩
        · rw [pA_eq a1, a4]; exact i1
        · rw [pA_eq a1, pA_eq i2]
    unfold rk at hb
    by_cases q : k = 0
    · rw [if_pos q] at hb; exact Or.inl hb
    · rw [if_neg q] at hb; exact Or.inr ⟨k - 1, by omega, hb⟩
  · have one : ∀ k, k < 5 → (mLk M k).length ≤ 120 := fun k hk => by
      unfold mLk
      by_cases q : M 2 k = -9
      · rw [if_pos q]; exact Nat.zero_le _
      · rw [if_neg q, List.length_map, List.length_range]
        rcases hBK k hk with z | ⟨r0, a, z1, z2, z3, z4, z5, z6, z7⟩
        · exact absurd z.1 q
        · obtain ⟨e, A, kk, ⟨⟨e1, e4⟩, e2, e3⟩, -⟩ := z7
          rw [z2, tn_nI (by omega), e3, tn_nI (by omega)]; omega
    unfold mLs
    rw [List.length_append, List.length_append, List.length_append, List.length_append]
    have := one 0 (by decide)
    have := one 1 (by decide)
    have := one 2 (by decide)
    have := one 3 (by decide)
    have := one 4 (by decide)
    omega
  · rcases hBK k hk with z | ⟨x0, a', z1, z2, z3, z4, z5, z6, z7⟩
    · have z1 := z.1
      rw [a] at z1
      exact absurd z1 ((iv_nI (N := 65000) (by omega) (by decide)).nn (by decide))
    · obtain rfl : x0 = r0 := (nI_eq (by omega) (by omega)).mp (z2.symm.trans a)
      obtain ⟨e, A, kk, ⟨⟨e1, e4⟩, e2, e3⟩, -⟩ := z7
      exact ⟨e, e3, e1, e2⟩
/-- notes change, the rest stays -/
theorem WQ.mayW (h : WQ b0 n0 c k (g, R, f, C) M t y n) (hk : 120 * k ≤ 64800) (hF : FEQ g f F) (hN : psame M N) : WQ b0 n0 c (k + 1) (g, R, F, C) N t y n := by
  obtain ⟨⟨⟨w1, w2, w3⟩, w4, w5⟩, ⟨⟨len, tx, v1, v2⟩, v3, v4⟩, ⟨⟨u1, u2⟩, u3⟩, ⟨q1, q2, q3⟩, -, hbd⟩ := h
  have u2 : t.1 ≤ 120 * k := u2
  have hb : 201 * k ≤ 201 * (k + 1) := by omega
  have nr : ∀ r, r ≠ 14 → r ≠ 15 → N r = M r := hN
  have hx : zLe g g ∧ ZZ n0 g (fun _ => False) ∧ ∀ y, n0 ≤ y → y < g.1 → ¬ False → g.2.2.2 y = g.2.2.2 y ∧ (g.2.1 y ≠ 1 → F y = f y) ∧ ∀ k, k < 8 → F y k = f y k := ⟨zLe.rf, ZZ.non n0 _, fun y _ _ _ => ⟨rfl, (hF y).1, (hF y).2⟩⟩
  have e1 : N 1 = M 1 := nr 1 (by decide) (by decide)
  have e11 : N 11 = M 11 := nr 11 (by decide) (by decide)
  have e2 : N 2 = M 2 := nr 2 (by decide) (by decide)
  have e0 : N 0 = M 0 := nr 0 (by decide) (by decide)
  have hT : TR b0 n0 g F (N 1) t := by
    rw [e1]; exact TR.mv (Z := fun _ => False) q1.base.1.1 hx
  have hQ : RQ b0 n0 (g, F, N, t, y, n) R C (201 * (k + 1)) := q1.mv (Z := fun _ => False) ⟨hx, fun j _ => congrFun (nr 4 (by decide) (by decide)) j, Nat.le_refl _, fun j _ => congrFun e1 j, fun _ _ => ⟨rfl, rfl, rfl⟩⟩ hT (fun _ _ => rfl) ⟨⟨rfl, rfl, fun _ _ _ _ => rfl, rfl⟩, fun _ _ => rfl, fun _ _ => rfl, fun _ _ => rfl, fun _ _ => rfl, fun j _ _ => congrFun e2 j⟩ ⟨fun j _ => congrFun e2 j, ⟨rfl, rfl, rfl, rfl⟩, ⟨rfl, rfl⟩, rfl, fun _ _ => rfl⟩ (UC.mono q1.2.2.1 hb)
  have hBD : BOD b0 n0 g F N t R := hbd.mv hx (fun _ _ _ _ _ z => z) (by omega) (fun j _ => congrFun e1 j) (fun j _ => congrFun e11 j) (Nat.le_refl _) (fun _ _ => ⟨rfl, rfl, rfl⟩) (fun j _ => congrFun e2 j) rfl (fun _ _ => rfl)
  exact ⟨⟨⟨w1, w2, w3⟩, w4, w5⟩, ⟨⟨len, tx, v1.at rfl (congrFun e0 8) (nr 6 (by decide) (by decide)), v2⟩, v3, v4⟩, ⟨⟨(congrFun e0 1).trans u1, by omega⟩, u3.le zLe.rf (fun j _ => congrFun e1 j)⟩, ⟨hQ, q2, GL.mono (GL.of q3 rfl rfl (congrFun e0 27) (nr 19 (by decide) (by decide))) hb⟩, trivial, hBD⟩
end QS35
section QS41
variable {b0 n0 c k : Nat} {g : zG} {f M : zI} {t : zTs} {y : zGs} {n : zNs} {R : zRf} {C : zI}
theorem WQ.mayV (h : WQ b0 n0 c k (g, R, f, C) M t y n) (hk : 120 * k ≤ 64800) : pallV M ∧ (∀ k, k < 4 → BAo b0 g c (R 18 k)) ∧ BAo b0 g c (R 17 0) := by
  have h65 : t.1 ≤ 65000 := by
    have := h.2.2.1.1.2
    omega
  obtain ⟨hC, hB, hcov, hlen, hBK, hE⟩ := h.mcx h65
  have hTR : TR b0 n0 g f (M 1) t := h.2.2.2.1.1.base.1.1
  have hEO : EO b0 g c := EOs.EO h.1.2.1
  have hcn : c + 27 ≤ n0 := h.1.1.1
  have hBA : ∀ k, k < 5 → BAo b0 g c (rk R k) := fun k hk b hb => by
    rcases hBK k hk with z | ⟨r0, a, z1, z2, z3, z4, z5, z6, z7⟩
    · rw [z.2] at hb; cases hb
    · obtain rfl : a = b := Option.some.inj (z4.symm.trans hb)
      obtain ⟨e, A, kk, ⟨⟨e1, e4⟩, e2, e3⟩, ⟨a1, a2, a3, a4, a5⟩, h1, h2, h3⟩ := z7
      rw [pA_eq a1]
      refine ⟨a1, a3, rfl, by omega, by omega, fun i hi => ?_⟩
      obtain ⟨m, m1, m2, m3, m4⟩ := h1 i (by omega)
      rw [pA_eq m4]
      refine ⟨m4, hEO _ ?_⟩
      rcases hTR.2 m (by omega) with w | ⟨κ, w1, w2, w3⟩
      · exact absurd w m3
      · exact w3.1.2.1
  refine ⟨fun k hk h9 => ?_, fun k hk => by rw [← rk_s R]; exact hBA (k + 1) (by omega), hBA 0 (by decide)⟩
  rcases hBK k hk with z | ⟨r0, a, z1, z2, z3, z4, z5, z6, z7⟩
  · exact absurd z.1 h9
  · obtain ⟨e, A, kk, ⟨⟨e1, e4⟩, e2, e3⟩, -⟩ := z7
    rw [z2, tn_nI (by omega), e3, tn_nI (by omega)]
    refine ⟨iv_nI (by omega) (by decide), iv_nI (by omega) (by decide), by omega, fun m m1 m2 => ?_⟩
    refine (hC.1 m (mLs_mem.mpr ⟨k, hk, mLk_mem.mpr ⟨h9, ?_⟩⟩)).pnV
    rw [z2, tn_nI (by omega), e3, tn_nI (by omega)]
    exact ⟨m1, m2⟩
theorem WQ.may (h : WQ b0 n0 c k (g, R, f, C) M t y n) (hk : 120 * k ≤ 64800) (p a v : Int32) :
    pmayV M ∧ (¬ (p < -1 ∨ 3 < p) → ¬ proot M p = -9 → iv 65000 (proot M p)) ∧ gfixV g R 39000 (gclear g R f) ∧ (bmay g R f 39000 p a v).1 = (pmay M p a v).1 ∧ FEQ g f (bmay g R f 39000 p a v).2 ∧ WQ b0 n0 c (k + 1) (g, R, (bmay g R f 39000 p a v).2, C) (pmay M p a v).2 t y n := by
  have h65 : t.1 ≤ 65000 := by
    have := h.2.2.1.1.2
    omega
  obtain ⟨v1, -, -⟩ := h.mayV hk
  obtain ⟨hC, hB, hcov, hlen, hBK, hE⟩ := h.mcx h65
  obtain ⟨m1, m2, m3, m4, m5⟩ := MAYS hC (fun k hk => by rw [← rk_s R]; exact hB (k + 1) (by omega)) (hB 0 (by decide)) hcov hlen (fun k hk h9 m a b => mLs_mem.mpr ⟨k, hk, mLk_mem.mpr ⟨h9, a, b⟩⟩) (fun m hm => by
    obtain ⟨k, k1, k2⟩ := mLs_mem.mp hm
    exact ⟨k, k1, mLk_mem.mp k2⟩)
  have hW := h.mayW hk m3 m4
  obtain ⟨F, eF⟩ : ∃ F, F = gfix g R 39000 (gclear g R f) := ⟨_, rfl⟩
  obtain ⟨N, eN⟩ : ∃ N, N = pmayM M := ⟨_, rfl⟩
  have hroot : ¬ (p < -1 ∨ 3 < p) → ∃ k, k < 5 ∧ proot M p = M 2 k ∧ (if p = -1 then R 17 0 else R 18 (tn p)) = rk R k := fun hp => by
    unfold proot
    by_cases q : p = -1
    · rw [if_pos q, if_pos q]
      exact ⟨0, by decide, rfl, rfl⟩
    · have hp4 : iv 4 p := iv_of (n := 3) (by decide) (fun z => z.elim (fun z => zpm1 hp q z) (fun z => hp (Or.inr z)))
      have := hp4.1
      rw [if_neg q, if_neg q]
      exact ⟨tn p + 1, by omega, by rw [Nat.add_comm], by rw [rk_s]⟩
  refine ⟨⟨v1, m1⟩, fun hp h9 => ?_, m2, ?_⟩
  · obtain ⟨k, k1, k2, -⟩ := hroot hp
    rw [k2] at h9 ⊢
    rcases hBK k k1 with z | ⟨r0, a', z1, z2, -⟩
    · exact absurd z.1 h9
    · rw [z2]; exact iv_nI (by omega) (by decide)
  · by_cases hg : (p < -1 ∨ 3 < p) ∨ (a < 0 ∨ 5 < a) ∨ (v < 0 ∨ 3 < v)
    · rw [bmay_b (fun z => may_args.mp z hg), show pmay M p a v = (-1, M) from if_pos hg]
      exact ⟨rfl, FEQ.rf, h.same hk⟩
    · have hg2 := may_args.mpr hg
      obtain ⟨k, k1, k2, k3⟩ := hroot (fun z => hg (Or.inl z))
      rcases hBK k k1 with z | ⟨r0, b, z1, z2, z3, z4, z5, z6, z7⟩
      · rw [bmay_n hg2 (k3.trans z.2), show pmay M p a v = (-2, M) from (if_neg hg).trans (if_pos (k2.trans z.1))]
        exact ⟨rfl, FEQ.rf, h.same hk⟩
      · have h9 : ¬ proot M p = -9 := by rw [k2, z2]; exact (iv_nI (N := 65000) (by omega) (by decide)).nn (by decide)
        rw [bmay_s hg2 (k3.trans z4), show pmay M p a v = (((pmayM M 14 (tn (proot M p))) >>> ((4 * a + v) &&& 31)) &&& 1, pmayM M) from (if_neg hg).trans (if_neg h9), k2, z2, tn_nI (by omega), pA_eq z6]
        have hm : r0 ∈ mLs M := mLs_mem.mpr ⟨k, k1, mLk_mem.mpr ⟨by rw [← k2]; exact h9, by
          obtain ⟨e, A, kk, ⟨⟨e1, e4⟩, e2, e3⟩, -⟩ := z7
          rw [z2, tn_nI (by omega), e3, tn_nI (by omega)]
          exact ⟨Nat.le_refl _, e1⟩⟩⟩
        rw [m5 r0 hm z3]
        rw [← eF] at hW m3 ⊢
        refine ⟨?_, m3, hW⟩
        have ha : iv 6 a := iv_of (n := 5) (by decide) (fun z => hg (Or.inr (Or.inl z)))
        have hv : iv 4 v := iv_of (n := 3) (by decide) (fun z => hg (Or.inr (Or.inr z)))
        rw [ha.2, hv.2]
        exact may_bit ha.1 hv.1
end QS41
section QS46
variable {b0 n0 c k : Nat} {g : zG} {f M : zI} {t : zTs} {y : zGs} {n : zNs} {R : zRf} {C : zI}
theorem WQ.blo (h : WQ b0 n0 c k (g, R, f, C) M t y n) (hk : 120 * k ≤ 64800) {len : Nat} (hlen : C 0 1 = nI len) (hl : len ≤ 120) (z : Int32) (hz : z = 0 ∨ z = 1) : zLe g (bread g R f C len z).1.1 ∧ ∀ a, a < g.1 → (bread g R f C len z).1.1.2.2.2 a = g.2.2.2 a ∧ (bread g R f C len z).1.2.2.1 a = f a := by
  obtain ⟨⟨⟨w1, w2, w3⟩, w4, w5⟩, ⟨⟨len', tx, v1, v2⟩, v3, v4⟩, ⟨⟨u1, u2⟩, u3⟩, -⟩ := h
  have v2 : C 0 1 = nI len' := v2
  have hl' := v1.1
  have u2 : t.1 ≤ 120 * k := u2
  obtain rfl : len' = len := (nI_eq (by omega) (by omega)).mp (v2.symm.trans hlen)
  obtain ⟨-, p2, -⟩ := PARSE (b0 := b0) (n0 := n0) (g := g) (R := R) (f := f) (C := C) (M := M) (t := t) (how := z) (z := z) v1 ⟨w2, w3⟩ v4 v3 u1 (by omega) (by rcases hz with rfl | rfl <;> rfl)
  obtain ⟨a1, -⟩ := KB.wr (G := (bread g R f C len' z).1.1) (R' := (bread g R f C len' z).1.2.1) (F := (bread g R f C len' z).1.2.2.1) (C' := (bread g R f C len' z).1.2.2.2) p2
  exact a1
theorem WQ.row0 (h : WQ b0 n0 c k (g, R, f, C) M t y n) (hk : 120 * k ≤ 64800) {len : Nat} (hlen : C 0 1 = nI len) (hl : len ≤ 120) (z : Int32) (hz : z = 0 ∨ z = 1) : (bread g R f C len z).1.2.2.2 0 1 = C 0 1 := by
  obtain ⟨⟨⟨w1, w2, w3⟩, w4, w5⟩, ⟨⟨len', tx, v1, v2⟩, v3, v4⟩, ⟨⟨u1, u2⟩, u3⟩, -⟩ := h
  have v2 : C 0 1 = nI len' := v2
  have hl' := v1.1
  have u2 : t.1 ≤ 120 * k := u2
  obtain rfl : len' = len := (nI_eq (by omega) (by omega)).mp (v2.symm.trans hlen)
  obtain ⟨-, p2, -⟩ := PARSE (b0 := b0) (n0 := n0) (g := g) (R := R) (f := f) (C := C) (M := M) (t := t) (how := z) (z := z) v1 ⟨w2, w3⟩ v4 v3 u1 (by omega) (by rcases hz with rfl | rfl <;> rfl)
  obtain ⟨-, -, a3, -⟩ := KB.wr (G := (bread g R f C len' z).1.1) (R' := (bread g R f C len' z).1.2.1) (F := (bread g R f C len' z).1.2.2.1) (C' := (bread g R f C len' z).1.2.2.2) p2
  exact congrFun (a3 0 (Or.inl rfl)) 1
theorem WQ.row0_fault (h : WQ b0 n0 c k (g, R, f, C) M t y n) (hk : 120 * k ≤ 64800) {len : Nat} (hlen : C 0 1 = nI len) (hl : len ≤ 120) (x : Int32) : (bfault g R f C len x).1.2.2.2 0 1 = C 0 1 := by
  by_cases x0 : x = 0
  · rw [bfault_0 x0]
    exact h.row0 hk hlen hl 0 (Or.inl rfl)
  · by_cases x1 : x = 1
    · rw [bfault_1 x1]
      exact h.row0 hk hlen hl 1 (Or.inr rfl)
    · rw [bfault_n x0 x1]
theorem WQ.row0_define (h : WQ b0 n0 c k (g, R, f, C) M t y n) (hk : 120 * k ≤ 64800) {len : Nat} (hlen : C 0 1 = nI len) (hl : len ≤ 120) (x : Int32) (m : Nat) : (bdefine g R f C len x m).1.2.2.2 0 1 = C 0 1 := by
  by_cases q : ¬ x < 0 ∧ x < 4
  · by_cases q9 : (bread g R f C len 1).2 = -9
    · rw [bdefine_d rfl q q9]
      exact h.row0 hk hlen hl 1 (Or.inr rfl)
    · rw [bdefine_s rfl q q9]
      exact h.row0 hk hlen hl 1 (Or.inr rfl)
  · rw [bdefine_b q]
theorem bbegin_0 {g : zG} {R : zRf} {C : zI} : (bbegin g R C).2 0 1 = C 0 1 := by
  unfold bbegin
  split
  · rfl
  · show kfill (zup (zup (zup (zup (zup (zup (zup (zup (zup (zup (zup C 17 2 1) 17 3 0) 17 6 0) 19 1 0) 19 2 0) 21 1 0) 21 2 0) 21 3 0) 21 5 0) 21 6 0) 17 11 0) 25 6 0 0 1 = C 0 1
    unfold kfill
    rw [zu1_ne _ _ _ (by decide)]
    iterate 11 (rw [zup_r (show (0 : Nat) ≠ _ by decide)])
theorem brest_00 {g : zG} {R : zRf} {C : zI} : (brest g R C).2.2 0 1 = C 0 1 := by
  unfold brest
  split
  · rfl
  · exact bbegin_0
theorem bkeep_C {c : Nat} {g : zG} {R : zRf} {f C : zI} {x : Int32} {n : Nat} : (bkeep c g R f C x n).1.2.2.2 = C := by
  unfold bkeep
  split <;> rfl
/-- the text is the reference's, and that is as it was -/
theorem WQ.row0_of {k' : Nat} {G : zG} {F N : zI} {t' : zTs} {y' : zGs} {n' : zNs} {R' : zRf} {C' : zI} (h : WQ b0 n0 c k (g, R, f, C) M t y n) (h' : WQ b0 n0 c k' (G, R', F, C') N t' y' n') (e : N 0 8 = M 0 8) : C' 0 1 = C 0 1 := by
  obtain ⟨-, ⟨⟨len, tx, v1, v2⟩, -⟩, -⟩ := h
  obtain ⟨-, ⟨⟨len', tx', v1', v2'⟩, -⟩, -⟩ := h'
  have v2 : C 0 1 = nI len := v2
  have v2' : C' 0 1 = nI len' := v2'
  have w : M 0 8 = nI len := v1.2.1
  have w' : N 0 8 = nI len' := v1'.2.1
  rw [v2, v2', ← w, ← w', e]
theorem WQ.lo_fault (h : WQ b0 n0 c k (g, R, f, C) M t y n) (hk : 120 * k ≤ 64800) (hF : CF c R) {len : Nat} (hlen : C 0 1 = nI len) (hl : len ≤ 120) (x : Int32) : CF c (bfault g R f C len x).1.2.1 ∧ ∀ a, a < g.1 → (bfault g R f C len x).1.1.2.2.2 a = g.2.2.2 a ∧ (bfault g R f C len x).1.2.2.1 a = f a := by
  by_cases x0 : x = 0
  · rw [bfault_0 x0]
    exact ⟨hF.read, (h.blo hk hlen hl 0 (Or.inl rfl)).2⟩
  · by_cases x1 : x = 1
    · rw [bfault_1 x1]
      exact ⟨hF.read, (h.blo hk hlen hl 1 (Or.inr rfl)).2⟩
    · rw [bfault_n x0 x1]
      exact ⟨hF, fun _ _ => ⟨rfl, rfl⟩⟩
theorem WQ.lo_define (h : WQ b0 n0 c k (g, R, f, C) M t y n) (hk : 120 * k ≤ 64800) (hF : CF c R) {len : Nat} (hlen : C 0 1 = nI len) (hl : len ≤ 120) (x : Int32) (m : Nat) : CF c (bdefine g R f C len x m).1.2.1 ∧ ∀ a, a < g.1 → (bdefine g R f C len x m).1.1.2.2.2 a = g.2.2.2 a ∧ (bdefine g R f C len x m).1.2.2.1 a = f a := by
  obtain ⟨b1, b2⟩ := h.blo hk hlen hl 1 (Or.inr rfl)
  have hR : CF c (bread g R f C len 1).1.2.1 := hF.read
  by_cases q : ¬ x < 0 ∧ x < 4
  · by_cases q9 : (bread g R f C len 1).2 = -9
    · rw [bdefine_d rfl q q9]
      obtain ⟨x1, x2, -⟩ := bbd_all (g := (bread g R f C len 1).1.1) (R := (bread g R f C len 1).1.2.1) (f := (bread g R f C len 1).1.2.2.1) (n := m)
      refine ⟨hR.upj (by decide), fun a ha => ?_⟩
      have ha2 : a < (bread g R f C len 1).1.1.1 := Nat.lt_of_lt_of_le ha b1.1
      exact ⟨(x1.2 a ha2).trans (b2 a ha).1, (x2 a ha2).trans (b2 a ha).2⟩
    · rw [bdefine_s rfl q q9]
      exact ⟨hR, b2⟩
  · rw [bdefine_b q]
    exact ⟨hF, fun _ _ => ⟨rfl, rfl⟩⟩
theorem WQ.lo_load (h : WQ b0 n0 c k (g, R, f, C) M t y n) (hk : 120 * k ≤ 64800) (hF : CF c R) {len : Nat} (hlen : C 0 1 = nI len) (hl : len ≤ 120) (m j : Nat) : CF c (bload g R f C len m j).1.2.1 ∧ ∀ a, a < g.1 → (bload g R f C len m j).1.1.2.2.2 a = g.2.2.2 a ∧ (bload g R f C len m j).1.2.2.1 a = f a := by
  obtain ⟨b1, b2⟩ := h.blo hk hlen hl 0 (Or.inl rfl)
  have hR : CF c (bread g R f C len 0).1.2.1 := hF.read
  by_cases q9 : (bread g R f C len 0).2 = -9
  · rw [bload_d rfl q9]
    obtain ⟨x1, x2, x3, -⟩ := bbd_all (g := (bread g R f C len 0).1.1) (R := (bread g R f C len 0).1.2.1) (f := (bread g R f C len 0).1.2.2.1) (n := m)
    refine ⟨?_, fun a ha => ?_⟩
    · show CF c (bbegin _ (zup (bloadL (bread g R f C len 0).1 m j).1 17 0 _) _).1
      exact CF.beg (CF.up (CF.lst0 hR) (by decide))
    · have ha2 : a < (bread g R f C len 0).1.1.1 := Nat.lt_of_lt_of_le ha b1.1
      constructor
      · refine Eq.trans ?_ ((x1.2 a ha2).trans (b2 a ha).1)
        show (zpR (znG (bloadG (bread g R f C len 0).1 m) 13 _) ((bread g R f C len 0).1.1.1 + 1) 2 _).2.2.2 a = _
        rw [zpR_o (by omega)]
        exact zu1_ne _ _ _ (by have := x1.1.1; show a ≠ (bbdG (bread g R f C len 0).1.1 (bread g R f C len 0).1.2.1 m).1; omega)
      · refine Eq.trans ?_ ((x2 a ha2).trans (b2 a ha).2)
        show zu1 (zu1 (bloadF (bread g R f C len 0).1 m) (bloadG (bread g R f C len 0).1 m).1 _) (bloadG (bread g R f C len 0).1 m).1 _ a = _
        have hne : a ≠ (bloadG (bread g R f C len 0).1 m).1 := by have := x1.1.1; show a ≠ (bbdG (bread g R f C len 0).1.1 (bread g R f C len 0).1.2.1 m).1; omega
        rw [zu1_ne _ _ _ hne, zu1_ne _ _ _ hne]
        rfl
  · rw [bload_s rfl q9]
    exact ⟨hR, b2⟩
/-- a run's numbers, as calls ask for them -/
theorem WQ.nums (h : WQ b0 n0 c k (g, R, f, C) M t y n) : C 19 1 = nI n.1 ∧ n.1 ≤ 100 ∧ vd 40000 (M 2 7) ∧ iv 1200 (M 2 11) ∧ iv 39999 (pdr1 M 2 21) ∧ ∃ len, C 0 1 = nI len ∧ M 0 8 = nI len ∧ len ≤ 120 := by
  obtain ⟨-, ⟨⟨len, tx, v1, v2⟩, -⟩, -, ⟨q1, -⟩, -⟩ := h
  have hCO := q1.base.1
  have hbd : n.2.1 ≤ 1100 ∧ n.2.2.1 ≤ 1000 ∧ n.2.2.2.1 ≤ 1000 ∧ n.2.2.2.2 ≤ 39800 := hCO.2.2.2.2.2
  have e7 : M 2 7 = (if n.1 = 0 then -9 else nI (y.2.2.2.2.2 (n.1 - 1))) := hCO.2.2.2.1.2.1
  have e11 : M 2 11 = nI n.2.2.1 := hCO.2.2.2.2.1.2.2.1.1
  have e21 : M 2 21 = nI n.2.2.2.2 := hCO.2.2.2.2.1.2.2.2.2.1
  refine ⟨hCO.2.2.2.2.1.1.1, hCO.2.2.2.1.1, ?_, by rw [e11]; exact iv_nI (by omega) (by decide), ?_, len, v2, v1.2.1, v1.1⟩
  · by_cases q : n.1 = 0
    · rw [e7, if_pos q]; exact Or.inl rfl
    · rw [e7, if_neg q]
      obtain ⟨x, -, x2, -⟩ := hCO.2.2.2.1.2.2 (n.1 - 1) (by show n.1 - 1 < n.1; omega)
      have x2 : y.2.2.2.2.2 (n.1 - 1) < n.2.2.2.2 := x2.1
      exact Or.inr (iv_nI (by omega) (by decide))
  · have e : pdr1 M 2 21 = M 2 21 := by
      unfold pdr1 pmakeRes
      try dsimp only
      rw [zup_ne _ _ _ _ (by omega), zup_ne _ _ _ _ (by omega), zup_ne _ _ _ _ (by omega), zup_ne _ _ _ _ (by omega), zup_ne _ _ _ _ (by omega), zup_ne _ _ _ _ (by omega)]
    rw [e, e21]; exact iv_nI (by omega) (by decide)
end QS46
