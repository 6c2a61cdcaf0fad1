/-! What a run leaves open was foretold: a step as a whole; many steps; answers. -/
section TLD
variable {X M N : zI} {L : List Nat} {lab hN : Nat → Nat} {cA cB : Nat → Int32} {np nr κ i : Nat} {v : Int32}
theorem pcomes_VC (hS : SCX X L lab) (h : PO X L lab M hN cA cB np nr i) (hv : pcomesV M (nI i)) : VC X L lab hN cA cB np nr (pcomes M (nI i) v) := by
  obtain ⟨v0, v1, v2, v5, v6, v7, v9, v10, v11, v12, v14⟩ := hv
  obtain ⟨-, κ, k1, k2, k3, k4⟩ := h.1.2.2.2.1 i h.2.1
  have p0 : pof M (nI i) 0 = nI κ := (h.cell (k := 0) (by decide)).trans k3
  have hs : κ = 1 ∨ κ = 2 ∨ κ = 3 ∨ κ = 4 ∨ κ = 5 ∨ κ = 6 ∨ κ = 7 ∨ κ = 8 ∨ κ = 9 ∨ κ = 10 ∨ κ = 11 ∨ κ = 12 ∨ κ = 13 ∨ κ = 14 := by omega
  rcases hs with rfl | rfl | rfl | rfl | rfl | rfl | rfl | rfl | rfl | rfl | rfl | rfl | rfl | rfl
  · rw [pcomes_1 p0]; exact VC.mk1 (h.c1 hS k3 (v1 p0).2.1)
  · rw [pcomes_2 p0]; exact VC.mk1 (h.1.val _)
  · rw [pcomes_3 p0]
    refine VC.mk1 ?_
    by_cases q : v = 0
    · rw [if_pos q]; exact h.c3 hS k3 (Or.inl rfl) (j := 2) (by decide)
    · rw [if_neg q]; exact h.c3 hS k3 (Or.inl rfl) (j := 1) (by decide)
  · rw [pcomes_4 p0]
    exact VC.mk1 (h.c3 hS k3 (Or.inr rfl) (j := 1) (by decide))
  · rw [pcomes_5 p0]; exact VC.mk1 (h.c5 hS k3 (v5 p0).2)
  · rw [pcomes_6 p0]; exact VC.mk1 (h.c6 v)
  · rw [pcomes_7 p0]; exact VC.mk1 (h.c7 hS k3 (v7 p0).2)
  · rw [pcomes_8 p0]; exact VC.mk1 (h.1.val _)
  · rw [pcomes_9 p0]; exact VC.mk1 (h.c9 hS k3 (v9 p0).2)
  · rw [pcomes_10 p0]; exact VC.mk1 (h.c10 hS k3 (v10 p0))
  · rw [pcomes_11 p0]; exact h.c11 hS k3 (v11 p0)
  · rw [pcomes_12 p0]; exact VC.mk1 (h.c12 hS k3 (v12 p0))
  · rw [pcomes_13 p0]; exact VC.mk1 (h.1.val _)
  · rw [pcomes_14 p0]; exact h.c14 hS k3 (v14 p0)
/-- a step that fails -/
theorem IV.fail (h : IV X L lab M hN cA cB np nr) (h1 : N 1 = M 1) (h4 : N 4 = M 4) (h2 : ∀ k, k ≠ 5 → k ≠ 7 → k ≠ 16 → N 2 k = M 2 k) (h7 : OXP np (N 2 7)) (h5 : N 2 5 = 4) (h16 : N 2 16 = 0) : IVS X L lab N :=
  ⟨hN, cA, cB, np, nr, h.top h1 h4 (fun k hk => h2 k (by omega) (by omega) (by omega)) (fun r _ => ⟨h2 _ (by omega) (by omega) (by omega), h2 _ (by omega) (by omega) (by omega)⟩) h7, fun z => absurd (h16.symm.trans z) (by decide), fun z => absurd (h5.symm.trans z) (by decide)⟩
/-- the count goes up -/
theorem IVS.six (h : IVS X L lab M) (x : Int32) : IVS X L lab (pcheck (zup M 2 6 x)) := by
  obtain ⟨hN, cA, cB, np, nr, a, b, c⟩ := h
  have hnr := a.2.1.2.2.2
  have z2 : ∀ k, k ≠ 6 → zup M 2 6 x 2 k = M 2 k := fun k hk => zup_ne _ _ _ _ (Or.inr hk)
  have zr : ∀ r, r ≠ 2 → zup M 2 6 x r = M r := fun r hr => zup_r hr
  unfold pcheck
  by_cases q : zup M 2 6 x 2 5 = 1 ∧ zup M 2 6 x 2 6 = 1000
  · rw [if_pos q]
    refine ⟨hN, cA, cB, np, nr, a.same ?_ ?_ (fun k hk => ?_) (fun r _ => ⟨?_, ?_⟩), fun z => ?_, fun z => ?_⟩
    · rw [zup_r (by decide), zup_r (by decide)]; exact zr 1 (by decide)
    · rw [zup_r (by decide), zup_r (by decide)]; exact zr 4 (by decide)
    · rw [zup_ne _ _ _ _ (by omega), zup_ne _ _ _ _ (by omega)]; exact z2 k (by omega)
    · rw [zup_ne _ _ _ _ (by omega), zup_ne _ _ _ _ (by omega)]; exact z2 _ (by omega)
    · rw [zup_ne _ _ _ _ (by omega), zup_ne _ _ _ _ (by omega)]; exact z2 _ (by omega)
    · rw [zup_at] at z; exact absurd z (by decide)
    · rw [zup_ne _ _ _ _ (by omega), zup_at] at z; exact absurd z (by decide)
  · rw [if_neg q]
    refine ⟨hN, cA, cB, np, nr, a.same (zr 1 (by decide)) (zr 4 (by decide)) (fun k hk => z2 k (by omega)) (fun r _ => ⟨z2 _ (by omega), z2 _ (by omega)⟩), fun z => ?_, fun z => ?_⟩
    · rw [z2 7 (by decide), z2 17 (by decide), z2 19 (by decide)]
      exact b ((z2 16 (by decide)).symm.trans z)
    · rw [z2 15 (by decide)]
      exact c ((z2 5 (by decide)).symm.trans z)
/-- a step from an expression -/
theorem IVS.e (hS : SCX X L lab) (h : IVS X L lab M) (h5 : M 2 5 = 1) (h16 : M 2 16 = 2) (hv : popensV M) : ((popens M).1 = 0 → (popens M).2 = M) ∧ (¬ (popens M).1 = 0 → IVS X L lab (popens M).2) := by
  obtain ⟨v1, v2, v3, v4, v5⟩ := hv
  obtain ⟨hN, cA, cB, np, nr, a, b, c⟩ := h
  have hnp := a.2.1.2.1
  have hnr := a.2.1.2.2.2
  obtain ⟨n, b1, b2, b3, b4, b5, b6⟩ := b h16
  have n65 := hS.lt b1
  obtain ⟨κ, c1, c2⟩ : ∃ κ, κ ≤ 15 ∧ X 1 (5 * n) = nI κ := by
    obtain ⟨⟨-, hR⟩, -⟩ := hS.1 n b1
    rcases hR with ⟨z, -⟩ | ⟨κ, k1, k2, -⟩
    · exact absurd z b3
    · exact ⟨κ, k1, k2⟩
  have ek : pkind M (M 2 17) = nI κ := by rw [b2, pkind_n (by omega), a.1.1]; exact c2
  have ke : ∀ j, j < 100 → (nI κ = nI j ↔ κ = j) := fun j hj => nI_eq (by omega) (by omega)
  unfold popens
  rw [ek]
  by_cases q0 : nI κ = 0
  · rw [if_pos q0]
    exact ⟨fun z => absurd (show (1 : Int32) = 0 from z) (by decide), fun _ => a.val _⟩
  rw [if_neg q0]
  by_cases q1 : nI κ = 1
  · rw [if_pos q1]
    exact ⟨fun z => absurd (show (1 : Int32) = 0 from z) (by decide), fun _ => a.val _⟩
  rw [if_neg q1]
  have hκ : 2 ≤ κ := by
    have h0 : ¬ κ = 0 := fun z => q0 (by rw [z]; rfl)
    have h1 : ¬ κ = 1 := fun z => q1 (by rw [z]; rfl)
    omega
  by_cases qd : pdepth M = 100
  · rw [if_pos qd]
    exact ⟨fun _ => rfl, fun z => absurd rfl z⟩
  rw [if_neg qd]
  refine ⟨fun z => absurd (show (1 : Int32) = 0 from z) (by decide), fun _ => ?_⟩
  obtain ⟨-, -, f3, -, -, -, -, -, -, -, -, -, f13, f14, f15⟩ := frk_h κ (by omega)
  have hfr : pframeOf (nI κ) = nI (frk κ) := (sgn_k κ (by omega) hκ).2.1
  obtain ⟨m', d1, d2, d3, d4, d5, d6, d7⟩ := hS.part b1 c2 c1 (i := 0) (f3 hκ)
  -- the push, wherever it begins
  have go : ∀ (P : zI) (x : Int32), P 1 = M 1 → P 4 = M 4 → (∀ k, k < 23 → P 2 k = M 2 k) → IV X L lab P hN cA cB np nr → (κ = 14 → x = M 2 19) → IVS X L lab (popP P (M 2 17) x) := fun P x p1 p4 p2 hP hx => by
    have hpk : pkind P (M 2 17) = nI κ := (congrFun p1 _).trans ek
    have hpv : pushV P := ⟨by rw [p2 21 (by decide)]; exact v5, by rw [p2 7 (by decide)]; exact v3⟩
    have e18 := p2 18 (by decide)
    have e19 := p2 19 (by decide)
    have e7 := p2 7 (by decide)
    obtain ⟨g1, g2, g3, g4, g5⟩ := hP.push hpv (κ := frk κ) (k := pframeOf (pkind P (M 2 17))) (n := M 2 17) (e := P 2 18) (s := P 2 19) (x := x) (α := X 14 m') (β := X 15 m') (by rw [hpk]; exact hfr) (f14 hκ) (by have := f15 hκ; omega) ⟨fun _ => ⟨n, κ, 0, b1, b2, hκ, c1, c2, Or.inr ⟨rfl, rfl⟩, fun _ z => by rw [e19]; exact b6 z, by rw [d3, tn_nI (by omega)], by rw [d3, tn_nI (by omega)], by rw [e7]; exact b4, by rw [e7]; exact b5, fun z => by
      obtain rfl := f13 z
      obtain ⟨-, -, -, l2, -⟩ := hS.1 n b1
      obtain ⟨o, -, -, o3⟩ := l2 c2
      have l0 : ¬ lab n = 0 := by omega
      exact ⟨l0, by rw [hx rfl]; exact b6 l0⟩⟩, fun z => by have := f15 hκ; omega, fun z => by have := f15 hκ; omega⟩
    have u2 : ∀ k, k ≠ 17 → popP P (M 2 17) x 2 k = ppush P (pframeOf (pkind P (M 2 17))) (M 2 17) (P 2 18) (P 2 19) x 2 k := fun k hk => zup_ne _ _ _ _ (Or.inr hk)
    have ur : ∀ r, r ≠ 2 → popP P (M 2 17) x r = ppush P (pframeOf (pkind P (M 2 17))) (M 2 17) (P 2 18) (P 2 19) x r := fun r hr => zup_r hr
    refine ⟨hN, _, _, np + 1, nr, g1.same (ur 1 (by decide)) (ur 4 (by decide)) (fun k hk => u2 k (by omega)) (fun r _ => ⟨u2 _ (by omega), u2 _ (by omega)⟩), fun _ => ⟨m', d1, ?_, d5, ?_, ?_, ?_⟩, fun z => ?_⟩
    · show zup _ 2 17 _ 2 17 = _
      rw [zup_at, b2]
      exact (ppart_n (k := 1) (by omega) (by decide)).trans (by rw [← b2, g1.1.1]; exact d3)
    · rw [u2 7 (by decide), g3, g4]; exact sle.rf
    · rw [u2 7 (by decide), g3, g5]; exact sle.rf
    · rw [u2 19 (by decide), ppush_2 (by decide) (by decide) (by decide), e19, d4]; exact b6
    · rw [u2 5 (by decide), ppush_2 (by decide) (by decide) (by decide), p2 5 (by decide), h5] at z
      exact absurd z (by decide)
  try dsimp only
  by_cases q12 : nI κ = 12
  · rw [if_pos q12]
    have v4' := v4 (ek.trans q12)
    have hlt := v4'.1
    have o2 : ∀ k, k < 23 ∨ (k < 7230 ∧ k ≠ 23) → pop1 M 2 k = M 2 k := fun k hk => by
      unfold pop1
      try dsimp only
      rw [zup_ne _ _ _ _ (by omega), zup_ne _ _ _ _ (by omega)]
    have or_ : ∀ r, r ≠ 2 → pop1 M r = M r := fun r hr => by
      unfold pop1
      try dsimp only
      rw [zup_r hr, zup_r hr]
    exact go (pop1 M) _ (or_ 1 (by decide)) (or_ 4 (by decide)) (fun k hk => o2 k (Or.inl hk)) (a.same (or_ 1 (by decide)) (or_ 4 (by decide)) (fun k hk => o2 k (by omega)) (fun r _ => ⟨o2 _ (by omega), o2 _ (by omega)⟩)) (fun z => by
      have := (ke 12 (by decide)).mp q12
      omega)
  · rw [if_neg q12]
    refine go M _ rfl rfl (fun _ _ => rfl) a (fun z => ?_)
    unfold popE
    rw [if_pos (show pkind M (M 2 17) = 14 by rw [ek, z]; rfl)]
/-- a step -/
theorem IVS.step (hS : SCX X L lab) (h : IVS X L lab M) (h5 : M 2 5 = 1) (hv : pstepV M) : IVS X L lab (pstep M) := by
  by_cases h16 : M 2 16 = 2
  · obtain ⟨w1, w2⟩ := h.e hS h5 h16 (hv.1 h16)
    rw [pstep_e h16]
    by_cases q : (popens M).1 = 0
    · rw [if_pos q, w1 q]
      obtain ⟨hN, cA, cB, np, nr, a, -⟩ := h
      exact a.fail (N := zup (zup M 2 5 4) 2 16 0) (by rw [zup_r (by decide), zup_r (by decide)]) (by rw [zup_r (by decide), zup_r (by decide)]) (fun k k1 k2 k3 => by rw [zup_ne _ _ _ _ (Or.inr k3), zup_ne _ _ _ _ (Or.inr k1)]) (by rw [zup_ne _ _ _ _ (by omega), zup_ne _ _ _ _ (by omega)]; exact a.2.2.1) (by rw [zup_ne _ _ _ _ (by omega), zup_at]) (zup_at _ _ _ _)
    · rw [if_neg q]
      exact (w2 q).six _
  · obtain ⟨v1, v2⟩ := hv.2 h16
    rw [pstep_v h16]
    obtain ⟨hN, cA, cB, np, nr, a, -⟩ := h
    have hnp := a.2.1.2.1
    rcases a.2.2.1 with z | ⟨i, i1, i2⟩
    · exact absurd z (v1.nn (by decide))
    · have p5 : pof M (M 2 7) 5 = M 4 (7 * i + 5) := by rw [i2]; exact pof_n (k := 5) (by omega) (by decide)
      have z2 : ∀ k, k ≠ 7 → pcl1 M 2 k = M 2 k := fun k hk => zup_ne _ _ _ _ (Or.inr hk)
      have zr : ∀ r, r ≠ 2 → pcl1 M r = M r := fun r hr => zup_r hr
      have z7 : pcl1 M 2 7 = M 4 (7 * i + 5) := (zup_at _ _ _ _).trans p5
      have hO : OXP np (M 4 (7 * i + 5)) := (a.2.2.2.1 i i1).1.imp id (fun ⟨b, b1, b2⟩ => ⟨b, by omega, b2⟩)
      have a1 : IV X L lab (pcl1 M) hN cA cB np nr := a.top (zr 1 (by decide)) (zr 4 (by decide)) (fun k hk => z2 k (by omega)) (fun r _ => ⟨z2 _ (by omega), z2 _ (by omega)⟩) (by rw [z7]; exact hO)
      have hP : PO X L lab (pcl1 M) hN cA cB np nr i := ⟨a1, i1, by rw [z7, zr 4 (by decide)], (z2 5 (by decide)).trans h5⟩
      rw [i2] at v2
      have hVC := pcomes_VC (v := pcl1 M 2 20) hS hP v2
      rw [← i2] at hVC
      rcases pcomes_01 (pcl1 M) (M 2 7) (pcl1 M 2 20) with q | q
      · rw [pcloses_0 q]
        rw [if_pos rfl]
        have b := hVC.2 q
        obtain ⟨N, eN⟩ : ∃ N, N = (pcomes (pcl1 M) (M 2 7) (pcl1 M 2 20)).2 := ⟨_, rfl⟩
        rw [← eN] at b ⊢
        exact b.fail (N := zup (zup (zup N 2 7 (M 2 7)) 2 5 4) 2 16 0) (by rw [zup_r (by decide), zup_r (by decide), zup_r (by decide)]) (by rw [zup_r (by decide), zup_r (by decide), zup_r (by decide)]) (fun k k1 k2 k3 => by rw [zup_ne _ _ _ _ (Or.inr k3), zup_ne _ _ _ _ (Or.inr k1), zup_ne _ _ _ _ (Or.inr k2)]) (by rw [zup_ne _ _ _ _ (by omega), zup_ne _ _ _ _ (by omega), zup_at]; exact a.2.2.1) (by rw [zup_ne _ _ _ _ (by omega), zup_at]) (zup_at _ _ _ _)
      · rw [pcloses_1 q]
        rw [if_neg (show ¬ (1 : Int32) = 0 by decide)]
        exact (hVC.1 q).six _
/-- an answer -/
theorem IVS.ans (h : IVS X L lab M) (v : Int32) : IVS X L lab (panswer M v).2 := by
  unfold panswer
  by_cases q : M 2 5 = 3
  · rw [if_pos q]
    obtain ⟨hN, cA, cB, np, nr, a, -⟩ := h
    have hnr := a.2.1.2.2.2
    have b : IV X L lab (zup M 2 15 (-9)) hN cA cB np nr := a.same (zup_r (by decide)) (zup_r (by decide)) (fun k hk => zup_ne _ _ _ _ (by omega)) (fun r _ => ⟨zup_ne _ _ _ _ (by omega), zup_ne _ _ _ _ (by omega)⟩)
    have e := (b.val v).six (pbecome (zup M 2 15 (-9)) v 2 6)
    have e2 : zup (pbecome (zup M 2 15 (-9)) v) 2 6 (pbecome (zup M 2 15 (-9)) v 2 6) = pbecome (zup M 2 15 (-9)) v := zup_self rfl
    rw [e2] at e
    exact e
  · rw [if_neg q]; exact h
end TLD
