/-! define, in both. -/
section DEFN
variable {b0 n0 c k : Nat} {g G : zG} {f F M N P : zI} {t t' : zTs} {y : zGs} {n : zNs} {R R' : zRf} {C C' : zI}
theorem BD.of {r0 a : Nat} (h : BD b0 n0 g f M t r0 a) (h1 : N 1 = M 1) (h11 : N 11 = M 11) : BD b0 n0 g f N t r0 a := by
  unfold BD at h ⊢
  rw [h1, h11]; exact h
theorem ML.of {r0 a : Nat} (h : ML b0 n0 g f M t r0 a) (h1 : N 1 = M 1) : ML b0 n0 g f N t r0 a := by
  unfold ML at h ⊢
  rw [h1]; exact h
/-- one body more -/
theorem BO.def {X : zCt} {p r0 a : Nat} (hp : p < 4) (h : BO b0 n0 (g, f, M, t, y, n) R) (h1 : N 1 = M 1) (h2 : ∀ j, j < 5 → j ≠ 1 + p → N 2 j = M 2 j) (h2p : N 2 (1 + p) = nI r0) (h17 : R' 17 0 = R 17 0) (h18 : ∀ q, q < 4 → q ≠ p → R' 18 q = R 18 q) (h18p : R' 18 p = some a) (hr : r0 < t.1 ∧ ¬ N 1 (5 * r0) = nI 16) (ha : n0 ≤ a ∧ zIn b0 g a 0 ∧ g.2.2.2 a 0 = some (t.2.1 r0)) (hb : (∀ v, t.2.2.1 r0 v → v = 23) ∧ ¬ t.2.2.2 r0) : BO b0 n0 (g, f, N, t, y, n) R' := by
  refine ⟨?_, fun q hq => ?_⟩
  · show (N 2 0 = -9 ∧ R' 17 0 = none) ∨ ∃ m a, m < t.1 ∧ N 2 0 = nI m ∧ ¬ N 1 (5 * m) = nI 16 ∧ R' 17 0 = some a ∧ n0 ≤ a ∧ zIn b0 g a 0 ∧ g.2.2.2 a 0 = some (t.2.1 m) ∧ (∀ v, ¬ t.2.2.1 m v) ∧ ¬ t.2.2.2 m
    rw [h2 0 (by omega) (by omega), h17, h1]
    exact h.1
  · show (N 2 (1 + q) = -9 ∧ R' 18 q = none) ∨ ∃ m a, m < t.1 ∧ N 2 (1 + q) = nI m ∧ ¬ N 1 (5 * m) = nI 16 ∧ R' 18 q = some a ∧ n0 ≤ a ∧ zIn b0 g a 0 ∧ g.2.2.2 a 0 = some (t.2.1 m) ∧ (∀ v, t.2.2.1 m v → v = 23) ∧ ¬ t.2.2.2 m
    by_cases z : q = p
    · subst z
      exact Or.inr ⟨r0, a, hr.1, h2p, hr.2, h18p, ha.1, ha.2.1, ha.2.2, hb.1, hb.2⟩
    · rw [h2 (1 + q) (by omega) (by omega), h18 q hq z, h1]
      exact h.2 q hq
theorem BOD.def {p r0 a : Nat} (hp : p < 4) (h : BOD b0 n0 g f M t R) (h1 : N 1 = M 1) (h11 : N 11 = M 11) (h2 : ∀ j, j < 5 → j ≠ 1 + p → N 2 j = M 2 j) (h2p : N 2 (1 + p) = nI r0) (h17 : R' 17 0 = R 17 0) (h18 : ∀ q, q < 4 → q ≠ p → R' 18 q = R 18 q) (h18p : R' 18 p = some a) (hr : r0 < t.1) (ha : n0 ≤ a ∧ zIn b0 g a 0) (hb : BD b0 n0 g f N t r0 a) : BOD b0 n0 g f N t R' := by
  refine ⟨fun a' ha' => ?_, fun q hq a' ha' => ?_⟩
  · rw [h17] at ha'
    obtain ⟨r1, a1, a2, a3, a4, a5⟩ := h.1 a' ha'
    exact ⟨r1, (h2 0 (by omega) (by omega)).trans a1, a2, a3, a4.of h1 h11, a5.of h1⟩
  · by_cases z : q = p
    · subst z
      obtain rfl : a = a' := Option.some.inj (h18p.symm.trans ha')
      exact ⟨r0, h2p, hr, ha, hb⟩
    · rw [h18 q hq z] at ha'
      obtain ⟨r1, a1, a2, a3, a4⟩ := h.2 q hq a' ha'
      exact ⟨r1, (h2 (1 + q) (by omega) (by omega)).trans a1, a2, a3, a4.of h1 h11⟩
/-- define -/
theorem WR.define (h : WR b0 n0 c k (g, R, f, C) M t y n) (hk : 120 * (k + 1) ≤ 64800) {len : Nat} (hlen : C 0 1 = nI len) (hl : len ≤ 120) (x : Int32) :
    (¬ (x < 0 ∨ 3 < x) → pparseV M 1) ∧ ∃ m t', breadV (bread g R f C len 1) m ∧ (bdefine g R f C len x m).2 = (pdefine M x).1 ∧ WR b0 n0 c (k + 1) (bdefine g R f C len x m).1 (pdefine M x).2 t' y n := by
  have h' := h
  obtain ⟨⟨⟨w1, w2, w3⟩, w4, w5⟩, ⟨⟨len', tx, v1, v2⟩, v3, v4⟩, ⟨⟨u1, u2⟩, u3⟩, ⟨q1, q2, q3⟩, -, hbd⟩ := h
  have v2 : C 0 1 = nI len' := v2
  have hl' := v1.1
  obtain rfl : len' = len := (nI_eq (by omega) (by omega)).mp (v2.symm.trans hlen)
  have u2 : t.1 ≤ 120 * k := u2
  have w3 : n0 ≤ g.1 := w3
  have w2 : b0 ≤ g.1 := w2
  obtain ⟨p1, p2, p3, p4, p5, p6⟩ := PARSE (b0 := b0) (n0 := n0) (g := g) (R := R) (f := f) (C := C) (M := M) (t := t) (how := 1) (z := 1) v1 ⟨w2, w3⟩ v4 v3 u1 (by omega) rfl
  refine ⟨fun _ => p1, ?_⟩
  have e2 : (pparse M 1).2 = zup (pparN (pparM M 1)) 11 t.1 (pparN (pparM M 1) 0 1) := by
    unfold pparse
    rw [u1, tn_nI (by omega)]
  have e1 : (pparse M 1).1 = if pparN (pparM M 1) 0 15 = -9 then nI t.1 else -9 := by
    unfold pparse
    rw [u1]
  obtain ⟨Q, eQ⟩ : ∃ Q, Q = bread g R f C len' 1 := ⟨_, rfl⟩
  rw [← eQ] at p2 p5 p6 ⊢
  obtain ⟨P, eP⟩ : ∃ P, P = pparN (pparM M 1) := ⟨_, rfl⟩
  rw [← eP] at e1 e2 p3 p5 p6
  obtain ⟨W, eW⟩ : ∃ W, W = pparse M 1 := ⟨_, rfl⟩
  have epd : pdefine M x = if x < 0 ∨ 3 < x then (-1, M) else if W.1 = -9 then (-2, zup W.2 0 1 (M 0 1)) else (W.2 0 16, zup W.2 2 (1 + tn x) W.1) := by rw [eW]; rfl
  rw [← eW] at e1 e2
  have hnine : ¬ nI t.1 = -9 := (iv_nI (N := 65000) (by omega) (by decide)).nn (by decide)
  by_cases q : x < 0 ∨ 3 < x
  · have ebd : ∀ m, bdefine g R f C len' x m = ((g, R, f, C), -1) := fun m => bdefine_b (fun z => by
      rcases q with q | q
      · exact z.1 q
      · have z2 := z.2
        rw [Int32.lt_iff_toInt_lt] at z2 q
        have e3 : (3 : Int32).toInt = 3 := by decide
        have e4 : (4 : Int32).toInt = 4 := by decide
        rw [e3] at q
        rw [e4] at z2
        omega)
    rw [epd, if_pos q]
    by_cases q9 : Q.2 = -9
    · obtain ⟨t', m, s1, s2, s3, s4, -, s6, -⟩ := p6 q9
      refine ⟨m, t, fun _ => ⟨s6, by omega, ?_⟩, by rw [ebd], ?_⟩
      · rw [(s4.2.2.2 s1).2.1]; rfl
      · rw [ebd]
        exact h'.read (by omega) ⟨zLe.rf, fun _ _ => ⟨rfl, rfl⟩⟩ (fun x a b => by omega) (by omega) (fun _ _ => rfl) v3 (fun _ _ => rfl) v4 (fun _ _ => rfl) ⟨rfl, rfl, rfl⟩ (fun _ _ => rfl) (fun _ _ => rfl) (fun _ _ => rfl) ⟨Nat.le_refl _, by omega⟩ (fun _ _ => ⟨rfl, rfl, rfl⟩) u1 q1.base.1.1 u3 q1.base.2.1 hbd
    · refine ⟨0, t, fun z => absurd z q9, by rw [ebd], ?_⟩
      rw [ebd]
      exact h'.read (by omega) ⟨zLe.rf, fun _ _ => ⟨rfl, rfl⟩⟩ (fun x a b => by omega) (by omega) (fun _ _ => rfl) v3 (fun _ _ => rfl) v4 (fun _ _ => rfl) ⟨rfl, rfl, rfl⟩ (fun _ _ => rfl) (fun _ _ => rfl) (fun _ _ => rfl) ⟨Nat.le_refl _, by omega⟩ (fun _ _ => ⟨rfl, rfl, rfl⟩) u1 q1.base.1.1 u3 q1.base.2.1 hbd
  obtain ⟨j, hj, rfl⟩ : ∃ j, j < 4 ∧ x = nI j := by
    obtain ⟨j, j1, j2⟩ := nI_of (fun z => q (Or.inl z))
    have hj : j < 4 := by
      rcases Nat.lt_or_ge j 4 with z | z
      · exact z
      · exact absurd (Or.inr (by rw [j2]; exact (nI_ltI (a := 3) (by decide) (by omega)).mpr (by omega))) q
    exact ⟨j, hj, j2⟩
  have hpx : ¬ nI j < 0 ∧ nI j < 4 := ⟨nI_pos (by omega), nI_lt (b := 4) hj (by decide)⟩
  rw [epd, if_neg q]
  by_cases q9 : Q.2 = -9
  · obtain ⟨t', m, s1, s2, s3, s4, s5, s6, s7, s8, s9, -, s11, s12⟩ := p6 q9
    obtain ⟨⟨G, R', F, C'⟩, z⟩ := Q
    have q9 : z = -9 := q9
    subst q9
    have s6 : C' 2 1 = nI m := s6
    have hp15 : P 0 15 = -9 := p5.symm
    have eW1 : W.1 = nI t.1 := by rw [e1, if_pos hp15]
    rw [if_neg (by rw [eW1]; exact hnine), eW1]
    have ebd : bdefine g R f C len' (nI j) m = ((bbdG G R' m, zup R' 18 (tn (nI j)) (some (G.1 + 1)), bbdF G R' F m, C'), nI m) := bdefine_d eQ.symm hpx rfl
    rw [tn_nI (by omega)] at ebd ⊢
    refine ⟨m, t', ?_⟩
    rw [ebd]
    obtain ⟨N, eN⟩ : ∃ N, N = zup W.2 2 (1 + j) (nI t.1) := ⟨_, rfl⟩
    rw [← eN]
    obtain ⟨a1, a2, a3, a4, a5, a6⟩ := KB.wr p2
    have nP : ∀ r, r ≠ 2 → r ≠ 11 → N r = P r := fun r r2 r11 => by rw [eN, zup_r r2, e2, zup_r r11]
    have nr : ∀ r, r ≠ 0 → r ≠ 1 → r ≠ 2 → r ≠ 7 → r ≠ 8 → r ≠ 9 → r ≠ 10 → r ≠ 11 → N r = M r := fun r b0 b1 b2 b7 b8 b9 b10 b11 => by
      rw [nP r b2 b11, p3.1 r b0 b1 b7 b8 b9 b10, ppar0_r b0]
    have n2 : ∀ i, i ≠ 1 + j → N 2 i = M 2 i := fun i hi => by
      rw [eN, zup_ne _ _ _ _ (Or.inr hi), e2, zup_r (by decide), p3.1 2 (by decide) (by decide) (by decide) (by decide) (by decide) (by decide), ppar0_r (by decide)]
    have n2p : N 2 (1 + j) = nI t.1 := by rw [eN, zup_at]
    have n00 : ∀ i, i ≠ 1 → i ≠ 13 → i ≠ 14 → i ≠ 15 → i ≠ 16 → i ≠ 17 → N 0 i = M 0 i := fun i b1 b2 b3 b4 b5 b6 => by
      rw [nP 0 (by decide) (by decide), p3.2.1 i b1 b2 b3 b4 b5 b6, ppar0_0 b2 b3 b4 b5]
    have n1 : ∀ i, i < 5 * t.1 → N 1 i = M 1 i := fun i hi => by
      rw [nP 1 (by decide) (by decide), p3.2.2 i hi, ppar0_r (by decide)]
    have n11 : ∀ i, i < t.1 → N 11 i = M 11 i := fun i hi => by
      rw [eN, zup_r (by decide), e2, zup_ne _ _ _ _ (by omega), p3.1 11 (by decide) (by decide) (by decide) (by decide) (by decide) (by decide), ppar0_r (by decide)]
    have n11t : N 11 t.1 = nI t'.1 := by rw [eN, zup_r (by decide), e2, zup_at]; exact s7
    have hNds : NDS b0 n0 t.1 G F R' N t' [] m := by
      have s4 : NDS b0 n0 t.1 G F R' P t' [] m := s4
      unfold NDS at s4 ⊢
      rw [nP 1 (by decide) (by decide)]; exact s4
    have hFrs : FRS g.1 t.1 G N t' := by
      have s5 : FRS g.1 t.1 G P t' := s5
      unfold FRS at s5 ⊢
      rw [nP 1 (by decide) (by decide)]; exact s5
    have hT0 : TR b0 n0 g f (M 1) t := q1.base.1.1
    have hCl : ∀ m, t.1 ≤ m → m < t'.1 → N 1 (5 * m) = nI 16 → ∃ b, t.1 ≤ b ∧ b < t'.1 ∧ N 1 (5 * m + 2) = nI b ∧ ¬ N 1 (5 * b) = nI 16 := fun m c1 c2 c3 => by
      have z0 : tn (M 0 1) = t.1 := by rw [u1]; exact tn_nI (by omega)
      have z1 : tn (P 0 1) = t'.1 := by rw [s7]; exact tn_nI (by omega)
      rw [nP 1 (by decide) (by decide)] at c3 ⊢
      have z2 := CLAUS p1 (by rw [← eP]; exact hp15) m (by omega)
      rw [← eP] at z2
      obtain ⟨b, b1, b2, b3, b4⟩ := z2 (by omega) c3
      exact ⟨b, by omega, by omega, b3, b4⟩
    obtain ⟨d1, d2, d3, d4⟩ := BODY hT0 u3 ⟨w2, w3⟩ p2 n1 ⟨s1, by omega, by omega⟩ (by omega) hNds hFrs s9 n11t hCl
    obtain ⟨x1, x2, x3, ⟨x4, x5, x6⟩, x7, x8, x9, x10⟩ := bbd_all (g := G) (R := R') (f := F) (n := m)
    have hgG : g.1 ≤ G.1 := a1.1.1
    obtain ⟨H, eH⟩ : ∃ H, H = bbdG G R' m := ⟨_, rfl⟩
    obtain ⟨K, eK⟩ : ∃ K, K = bbdF G R' F m := ⟨_, rfl⟩
    rw [← eH] at x1 x3 x4 x5 x6 x7 x8 x9 x10 d1 d2 d3 d4 ⊢
    rw [← eK] at x2 d1 d3 ⊢
    have hgH : zLe g H ∧ ∀ y, y < g.1 → H.2.2.2 y = g.2.2.2 y ∧ K y = f y := ⟨a1.1.tr x1.1, fun y hy => ⟨(x1.2 y (by omega)).trans (a1.2 y hy).1, (x2 y (by omega)).trans (a1.2 y hy).2⟩⟩
    have hx : zLe g H ∧ ZZ n0 g (fun _ => False) ∧ ∀ y, n0 ≤ y → y < g.1 → ¬ False → H.2.2.2 y = g.2.2.2 y ∧ (g.2.1 y ≠ 1 → K y = f y) ∧ ∀ k, k < 8 → K y k = f y k := ⟨hgH.1, ZZ.non n0 _, fun y _ hy _ => ⟨(hgH.2 y hy).1, fun _ => (hgH.2 y hy).2, fun k _ => by rw [(hgH.2 y hy).2]⟩⟩
    -- the old bodies, moved
    obtain ⟨N0, eN0⟩ : ∃ N0, N0 = zup N 2 (1 + j) (M 2 (1 + j)) := ⟨_, rfl⟩
    have m1 : N 1 = N0 1 := by rw [eN0, zup_r (by decide)]
    have m11 : N 11 = N0 11 := by rw [eN0, zup_r (by decide)]
    have m2 : ∀ i, i ≠ 1 + j → N 2 i = N0 2 i := fun i hi => by rw [eN0, zup_ne _ _ _ _ (Or.inr hi)]
    have m2' : ∀ i, i < 5 → N0 2 i = M 2 i := fun i _ => by
      by_cases z : i = 1 + j
      · rw [z, eN0, zup_at]
      · rw [← m2 i z]; exact n2 i z
    have hBO0 : BO b0 n0 (H, K, N0, t', y, n) R' := q1.base.2.1.mv (np := 0) ⟨hx, fun k hk => absurd hk (by omega), by omega, fun i hi => by rw [← m1]; exact n1 i hi, s9⟩ m2' (congrFun (a5 17 (by decide) (by decide) (by decide)) 0) (fun p _ => congrFun (a5 18 (by decide) (by decide) (by decide)) p)
    have hBD0 : BOD b0 n0 H K N0 t' R' := hbd.mv hx (fun _ _ _ _ _ z => z) (by omega) (fun i hi => by rw [← m1]; exact n1 i hi) (fun i hi => by rw [← m11]; exact n11 i hi) (by omega) s9 m2' (congrFun (a5 17 (by decide) (by decide) (by decide)) 0) (fun p _ => congrFun (a5 18 (by decide) (by decide) (by decide)) p)
    have hroot : ¬ N 1 (5 * t.1) = nI 16 := (hNds.2.2.2 s1).2.2
    have hab : n0 ≤ G.1 + 1 ∧ zIn b0 H (G.1 + 1) 0 := ⟨by omega, by omega, by omega, x5⟩
    have hrb : (∀ v, t'.2.2.1 t.1 v → v = 23) ∧ ¬ t'.2.2.2 t.1 := ⟨fun v hv => ml_x (s11 v hv), fun hv => (s12 hv) (by show R' 8 0 = none; exact a6.trans v4)⟩
    have hBO : BO b0 n0 (H, K, N, t', y, n) (zup R' 18 j (some (G.1 + 1))) := BO.def (X := (H, K, N, t', y, n)) hj hBO0 m1 (fun i _ hi => m2 i hi) n2p (zup_ne _ _ _ _ (by omega)) (fun q _ hq => zup_ne _ _ _ _ (Or.inr hq)) (zup_at _ _ _ _) ⟨s1, hroot⟩ ⟨hab.1, hab.2, d4⟩ hrb
    have hBD : BOD b0 n0 H K N t' (zup R' 18 j (some (G.1 + 1))) := BOD.def hj hBD0 m1 m11 (fun i _ hi => m2 i hi) n2p (zup_ne _ _ _ _ (by omega)) (fun q _ hq => zup_ne _ _ _ _ (Or.inr hq)) (zup_at _ _ _ _) s1 hab d3
    refine ⟨fun _ => ⟨s6, by omega, ?_⟩, ?_, ?_⟩
    · show R' 3 0 = some ((R' 3 0).getD 0)
      have z : R' 3 0 = some (t'.2.1 t.1) := (hNds.2.2.2 s1).2.1
      rw [z]; rfl
    · show nI m = W.2 0 16
      rw [e2, zup_r (by decide)]; exact s8.symm
    · refine h'.read (by omega) hgH (fun x b d => ?_) (by omega) (fun r hr => a3 r (by omega)) a4 (fun r hr => ?_) ?_ (fun r hr => nr r (by omega) (by omega) (by omega) (by omega) (by omega) (by omega) (by omega) (by omega)) ⟨n00 8 (by decide) (by decide) (by decide) (by decide) (by decide) (by decide), n00 4 (by decide) (by decide) (by decide) (by decide) (by decide) (by decide), n00 27 (by decide) (by decide) (by decide) (by decide) (by decide) (by decide)⟩ (fun i hi => n2 i (by omega)) n1 n11 ⟨by omega, by omega⟩ s9 ?_ d1 d2 hBO hBD
      · by_cases z : x < G.1
        · have zt : H.2.1 x = G.2.1 x := (x1.1.2 x z).1
          rw [zt]
          refine ⟨(a2 x b z).1, fun h1 bb hb => ?_⟩
          rw [x1.2 x z] at hb
          obtain ⟨y1, y2, y3⟩ := (a2 x b z).2.2 h1 bb hb
          exact ⟨(x1.1.2 bb y3).2.trans y1, y2, by omega⟩
        · have hxx : x = G.1 ∨ x = G.1 + 1 ∨ x = G.1 + 2 := by omega
          have ht : H.2.1 x = 14 ∨ H.2.1 x = 0 ∨ H.2.1 x = 13 := by
            rcases hxx with rfl | rfl | rfl
            · exact Or.inl x4
            · exact Or.inr (Or.inl x5)
            · exact Or.inr (Or.inr x6)
          exact ⟨by omega, fun h1 => by omega⟩
      · rw [zup_r (by omega)]; exact a5 r (by omega) (by omega) (by omega)
      · rw [zup_r (by decide)]; exact a6.trans v4
      · show N 0 1 = nI t'.1
        rw [nP 0 (by decide) (by decide)]; exact s7
  · have hp15 : ¬ P 0 15 = -9 := fun z => q9 (p5.trans z)
    have eW1 : W.1 = -9 := by rw [e1, if_neg hp15]
    have ebd : bdefine g R f C len' (nI j) 0 = (Q.1, -2) := bdefine_s eQ.symm hpx q9
    rw [if_pos eW1]
    refine ⟨0, t, fun z => absurd z q9, by rw [ebd], ?_⟩
    rw [ebd, e2]
    obtain ⟨⟨G, R', F, C'⟩, z⟩ := Q
    exact h'.letgo (by omega) p2 p3 _
end DEFN
