/-! Calls that read a text. -/
section READC
variable {b0 n0 c k : Nat} {g G : zG} {f F M N P : zI} {t t' : zTs} {y : zGs} {n : zNs} {R R' : zRf} {C C' : zI} {z : Int32}
theorem brdC_r {r : Nat} (h2 : r ≠ 2) (h7 : r ≠ 7) : brdC C z r = C r := by
  unfold brdC
  rw [zup_r h7, zup_r h2, zup_r h2, zup_r h2, zup_r h2]
theorem ppar0_r {r : Nat} (h : r ≠ 0) : ppar0 M r = M r := by
  unfold ppar0
  rw [zup_r h, zup_r h, zup_r h, zup_r h]
theorem ppar0_0 {j : Nat} (a : j ≠ 13) (b : j ≠ 14) (c : j ≠ 15) (d : j ≠ 16) : ppar0 M 0 j = M 0 j := by
  unfold ppar0
  rw [zup_ne _ _ _ _ (Or.inr d), zup_ne _ _ _ _ (Or.inr a), zup_ne _ _ _ _ (Or.inr c), zup_ne _ _ _ _ (Or.inr b)]
/-- what reading leaves, in the class, as WR.read wants it -/
theorem KB.wr (hK : KB (g, R, f, brdC C z) (G, R', F, C')) : (zLe g G ∧ ∀ y, y < g.1 → G.2.2.2 y = g.2.2.2 y ∧ F y = f y) ∧ (∀ x, g.1 ≤ x → x < G.1 → G.2.1 x ≠ 7 ∧ G.2.1 x ≠ 0 ∧ (G.2.1 x = 1 → ∀ b, (G.2.2.2 x 5 = some b ∨ G.2.2.2 x 6 = some b) → G.2.2.1 b = 7 ∧ g.1 ≤ b ∧ b < G.1)) ∧ (∀ r, r = 0 ∨ r = 1 ∨ 8 ≤ r → C' r = C r) ∧ (∀ j, iv 7 (C' 6 j)) ∧ (∀ r, r ≠ 3 → r ≠ 4 → r ≠ 8 → R' r = R r) ∧ R' 8 0 = R 8 0 := by
  obtain ⟨⟨k1, k2⟩, k3, k4, k5, k6, k7, k8⟩ := hK
  refine ⟨⟨k1, k2⟩, fun x a b => ?_, fun r hr => (k3 r (by omega) (by omega) (by omega) (by omega)).trans (brdC_r (by omega) (by omega)), k8, k4, k5⟩
  have q : G.2.1 x = 1 ∨ G.2.1 x = 13 ∨ G.2.1 x = 14 := k6 x a b
  refine ⟨by omega, by omega, fun h1 bb hb => ?_⟩
  rcases k7 x a b h1 with ⟨z1, z2⟩ | ⟨z1, z2, z3, z4, z5⟩
  · have z1 : G.2.2.2 x 5 = none := z1
    have z2 : G.2.2.2 x 6 = none := z2
    rw [z1, z2] at hb
    rcases hb with hb | hb <;> cases hb
  · have z1 : G.2.2.2 x 5 = some (x + 1) := z1
    have z2 : G.2.2.2 x 6 = some (x + 2) := z2
    have z5 : x + 2 < G.1 := z5
    rw [z1, z2] at hb
    rcases hb with hb | hb
    · obtain rfl := Option.some.inj hb
      exact ⟨z3, by omega, by omega⟩
    · obtain rfl := Option.some.inj hb
      exact ⟨z4, by omega, by omega⟩
theorem FRS.le (h : FRS n0 0 g M t) (hg : zLe g G) (hN : ∀ j, j < 5 * t.1 → N 1 j = M 1 j) : FRS n0 0 G N t := by
  refine ⟨fun i a b h16 => ?_, fun i i' a b d h16 h16' => ?_⟩
  · rw [hN _ (by omega)] at h16 ⊢
    obtain ⟨z1, z2, z3, z4⟩ := h.1 i a b h16
    refine ⟨z1, Nat.lt_of_lt_of_le z2 hg.1, (hg.2 _ z2).1.trans z3, fun q => ?_⟩
    obtain ⟨y1, y2, y3⟩ := z4 q
    exact ⟨Nat.lt_of_lt_of_le y1 hg.1, (hg.2 _ (by omega)).1.trans y2, (hg.2 _ y1).1.trans y3⟩
  · rw [hN _ (by omega)] at h16 h16'
    exact h.2 i i' a b d h16 h16'
/-- what was read is let go -/
theorem WR.letgo (h : WR b0 n0 c k (g, R, f, C) M t y n) (hk : 120 * k ≤ 64800) (hK : KB (g, R, f, brdC C z) (G, R', F, C')) (hMB : MB t.1 (ppar0 M) P) (v : Int32) : WR b0 n0 c (k + 1) (G, R', F, C') (zup (zup P 11 t.1 v) 0 1 (M 0 1)) t y n := by
  have h' := h
  obtain ⟨⟨⟨w1, w2, w3⟩, w4, w5⟩, ⟨-, v3, v4⟩, ⟨⟨u1, u2⟩, u3⟩, ⟨q1, q2, q3⟩, -, hbd⟩ := h
  have u2 : t.1 ≤ 120 * k := u2
  have w3 : n0 ≤ g.1 := w3
  obtain ⟨a1, a2, a3, a4, a5, a6⟩ := hK.wr
  obtain ⟨N, eN⟩ : ∃ N, N = zup (zup P 11 t.1 v) 0 1 (M 0 1) := ⟨_, rfl⟩
  rw [← eN]
  have nr : ∀ r, r ≠ 0 → r ≠ 1 → r ≠ 7 → r ≠ 8 → r ≠ 9 → r ≠ 10 → r ≠ 11 → N r = M r := fun r b0 b1 b7 b8 b9 b10 b11 => by
    rw [eN, zup_r b0, zup_r b11, hMB.1 r b0 b1 b7 b8 b9 b10, ppar0_r b0]
  have n0' : ∀ j, j ≠ 1 → j ≠ 13 → j ≠ 14 → j ≠ 15 → j ≠ 16 → j ≠ 17 → N 0 j = M 0 j := fun j b1 b2 b3 b4 b5 b6 => by
    rw [eN, zup_ne _ _ _ _ (Or.inr b1), zup_r (by decide), hMB.2.1 j b1 b2 b3 b4 b5 b6, ppar0_0 b2 b3 b4 b5]
  have n1 : ∀ j, j < 5 * t.1 → N 1 j = M 1 j := fun j hj => by
    rw [eN, zup_r (by decide), zup_r (by decide), hMB.2.2 j hj, ppar0_r (by decide)]
  have n11 : ∀ j, j < t.1 → N 11 j = M 11 j := fun j hj => by
    rw [eN, zup_r (by decide), zup_ne _ _ _ _ (by omega), hMB.1 11 (by decide) (by decide) (by decide) (by decide) (by decide) (by decide), ppar0_r (by decide)]
  have hx : zLe g G ∧ ZZ n0 g (fun _ => False) ∧ ∀ y, n0 ≤ y → y < g.1 → ¬ False → G.2.2.2 y = g.2.2.2 y ∧ (g.2.1 y ≠ 1 → F y = f y) ∧ ∀ k, k < 8 → F y k = f y k := ⟨a1.1, ZZ.non n0 _, fun y _ hy _ => ⟨(a1.2 y hy).1, fun _ => (a1.2 y hy).2, fun k _ => by rw [(a1.2 y hy).2]⟩⟩
  have n2 : N 2 = M 2 := nr 2 (by decide) (by decide) (by decide) (by decide) (by decide) (by decide) (by decide)
  have hT0 : TR b0 n0 g f (M 1) t := q1.base.1.1
  have hT : TR b0 n0 G F (N 1) t := TR.join hT0 hx n1 ⟨Nat.le_refl _, by omega⟩ (fun _ _ => ⟨rfl, rfl, rfl⟩) (fun i a b => by omega)
  exact WR.read h' hk a1 (fun x b d => ⟨(a2 x b d).1, (a2 x b d).2.2⟩) (by omega) (fun r hr => a3 r (by omega)) a4 (fun r hr => a5 r (by omega) (by omega) (by omega)) (a6.trans v4) (fun r hr => nr r (by omega) (by omega) (by omega) (by omega) (by omega) (by omega) (by omega)) ⟨n0' 8 (by decide) (by decide) (by decide) (by decide) (by decide) (by decide), n0' 4 (by decide) (by decide) (by decide) (by decide) (by decide) (by decide), n0' 27 (by decide) (by decide) (by decide) (by decide) (by decide) (by decide)⟩ (fun j _ => congrFun n2 j) n1 n11 ⟨Nat.le_refl _, by omega⟩ (fun _ _ => ⟨rfl, rfl, rfl⟩) (by rw [eN, zup_at]; exact u1) hT (u3.le a1.1 n1)
    (q1.base.2.1.mv (np := 0) ⟨hx, fun k hk => absurd hk (by omega), Nat.le_refl _, n1, fun _ _ => ⟨rfl, rfl, rfl⟩⟩ (fun j _ => congrFun n2 j) (congrFun (a5 17 (by decide) (by decide) (by decide)) 0) (fun p _ => congrFun (a5 18 (by decide) (by decide) (by decide)) p))
    (hbd.mv hx (fun _ _ _ _ _ z => z) (by omega) n1 n11 (Nat.le_refl _) (fun _ _ => ⟨rfl, rfl, rfl⟩) (fun j _ => congrFun n2 j) (congrFun (a5 17 (by decide) (by decide) (by decide)) 0) (fun p _ => congrFun (a5 18 (by decide) (by decide) (by decide)) p))
/-- fault -/
theorem WR.fault (h : WR b0 n0 c k (g, R, f, C) M t y n) (hk : 120 * k ≤ 64800) {len : Nat} (hlen : C 0 1 = nI len) (hl : len ≤ 120) (x : Int32) :
    (¬ (x < 0 ∨ 1 < x) → pparseV M x) ∧ (bfault g R f C len x).2 = (pfault M x).1 ∧ WR b0 n0 c (k + 1) (bfault g R f C len x).1 (pfault M x).2 t y n := by
  have h' := h
  obtain ⟨⟨⟨w1, w2, w3⟩, w4, w5⟩, ⟨⟨len', tx, v1, v2⟩, v3, v4⟩, ⟨⟨u1, u2⟩, u3⟩, ⟨q1, q2, q3⟩, -, hbd⟩ := h
  have v2 : C 0 1 = nI len' := v2
  have hl' := v1.1
  obtain rfl : len' = len := (nI_eq (by omega) (by omega)).mp (v2.symm.trans hlen)
  have u2 : t.1 ≤ 120 * k := u2
  have key : ∀ x : Int32, (x = 0 ∨ x = 1) → pparseV M x ∧ (bread g R f C len' x).2 = (pparse M x).2 0 15 ∧ WR b0 n0 c (k + 1) (bread g R f C len' x).1 (zup (pparse M x).2 0 1 (M 0 1)) t y n := fun x hx01 => by
    have hz : (if x = 0 then (0 : Int32) else 8388608) = if x = 1 then 8388608 else 0 := by
      rcases hx01 with rfl | rfl <;> rfl
    obtain ⟨p1, p2, p3, p4, p5, p6⟩ := PARSE (b0 := b0) (n0 := n0) (g := g) (R := R) (f := f) (C := C) (M := M) (t := t) (how := x) (z := x) v1 ⟨w2, w3⟩ v4 v3 u1 (by omega) hz
    have e2 : (pparse M x).2 = zup (pparN (pparM M x)) 11 t.1 (pparN (pparM M x) 0 1) := by
      unfold pparse
      rw [u1, tn_nI (by omega)]
    refine ⟨p1, ?_, ?_⟩
    · rw [e2, zup_r (by decide)]; exact p5
    · rw [e2]
      exact h'.letgo hk p2 p3 _
  by_cases q : x < 0 ∨ 1 < x
  · have e1 : pfault M x = (-1, M) := if_pos q
    have e2 : bfault g R f C len' x = ((g, R, f, C), -1) := bfault_n (fun z => by rw [z] at q; exact absurd q (by decide)) (fun z => by rw [z] at q; exact absurd q (by decide))
    rw [e1, e2]
    refine ⟨fun z => absurd q z, rfl, ?_⟩
    exact h'.read hk ⟨zLe.rf, fun _ _ => ⟨rfl, rfl⟩⟩ (fun x a b => by omega) (by have : n0 ≤ g.1 := w3; omega) (fun _ _ => rfl) v3 (fun _ _ => rfl) v4 (fun _ _ => rfl) ⟨rfl, rfl, rfl⟩ (fun _ _ => rfl) (fun _ _ => rfl) (fun _ _ => rfl) ⟨Nat.le_refl _, by omega⟩ (fun _ _ => ⟨rfl, rfl, rfl⟩) u1 q1.base.1.1 u3 q1.base.2.1 hbd
  · have e1 : pfault M x = ((pparse M x).2 0 15, zup (pparse M x).2 0 1 (M 0 1)) := if_neg q
    have hx01 : x = 0 ∨ x = 1 := by
      have h1 := Int32.not_lt.mp (fun z => q (Or.inl z))
      have h2 := Int32.not_lt.mp (fun z => q (Or.inr z))
      rw [Int32.le_iff_toInt_le] at h1 h2
      have e0 : (0 : Int32).toInt = 0 := by decide
      have e1 : (1 : Int32).toInt = 1 := by decide
      rw [e0] at h1
      rw [e1] at h2
      have : x.toInt = 0 ∨ x.toInt = 1 := by omega
      rcases this with z | z
      · exact Or.inl (Int32.toInt_inj.mp (z.trans e0.symm))
      · exact Or.inr (Int32.toInt_inj.mp (z.trans e1.symm))
    obtain ⟨k1, k2, k3⟩ := key x hx01
    have e2 : bfault g R f C len' x = bread g R f C len' x := by
      rcases hx01 with rfl | rfl
      · exact bfault_0 rfl
      · exact bfault_1 rfl
    rw [e1, e2]
    generalize pparse M x = P at k2 k3 ⊢
    generalize bread g R f C len' x = Q at k2 k3 ⊢
    generalize pparseV M x = V at k1 ⊢
    exact ⟨fun _ => k1, k2, k3⟩
end READC
