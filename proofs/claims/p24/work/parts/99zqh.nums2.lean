/-! The numbers of a run fit together: what holds of them between two steps. -/
def DP (T : Nat → Int32) (i : Nat) : Prop := ∃ d, d < 100 ∧ T (7 * i + 6) = nI (d + 1) ∧ ((T (7 * i + 5) = -9 ∧ d = 0) ∨ ∃ b, b < i ∧ T (7 * i + 5) = nI b ∧ T (7 * b + 6) = nI d ∧ 1 ≤ d)
/-- frames in the pool, the greatest depth, uses, uses again, performed, made -/
def NW (np w u v p r s : Nat) (M : zI) : Prop := (M 2 21 = nI np ∧ np ≤ 40000 ∧ OXP np (M 2 7) ∧ ∀ i, i < np → DP (M 4) i) ∧ (M 2 8 = nI w ∧ w ≤ 100) ∧ (M 2 12 = nI u ∧ M 2 13 = nI v) ∧ (M 2 10 = nI p ∧ M 2 11 = nI r ∧ M 2 6 = nI s) ∧ ∀ q, q < 1200 → M 2 (7230 + q) = 0 ∨ M 2 (7230 + q) = 1
/-- what a step leads to, from numbers u v p r -/
def NS (u v p r s : Nat) (N : zI) : Prop := ∃ np w u' v' p' r', NW np w u' v' p' r' s N ∧ (u' = u ∧ v' = v ∨ u' = u + 1 ∧ v' ≤ v + 1) ∧
  ((p' = p ∧ r' = r ∧ ¬ N 2 5 = 3) ∨ (p' = p + 1 ∧ r' = r + 1 ∧ ¬ N 2 5 = 3) ∨ (p' = p + 1 ∧ r' = r)) ∧ ¬ N 2 5 = 5
section NUM
variable {M N : zI} {np w u v p r s d i : Nat} {x : Int32}
theorem NW.top (h : NW np w u v p r s M) (h4 : N 4 = M 4) (h2 : ∀ k, (8 ≤ k ∧ k ≤ 13 ∧ k ≠ 9) ∨ k = 6 ∨ k = 21 ∨ (7230 ≤ k ∧ k < 8430) → N 2 k = M 2 k) (h7 : OXP np (N 2 7)) : NW np w u v p r s N := by
  obtain ⟨⟨a1, a2, a3, a4⟩, ⟨b1, b2⟩, ⟨c1, c2⟩, ⟨d1, d2, d6⟩, e⟩ := h
  exact ⟨⟨(h2 21 (by omega)).trans a1, a2, h7, by rw [h4]; exact a4⟩, ⟨(h2 8 (by omega)).trans b1, b2⟩, ⟨(h2 12 (by omega)).trans c1, (h2 13 (by omega)).trans c2⟩, ⟨(h2 10 (by omega)).trans d1, (h2 11 (by omega)).trans d2, (h2 6 (by omega)).trans d6⟩, fun q hq => by rw [h2 _ (by omega)]; exact e q hq⟩
theorem NW.same (h : NW np w u v p r s M) (h4 : N 4 = M 4) (h2 : ∀ k, (6 ≤ k ∧ k ≤ 13 ∧ k ≠ 9) ∨ k = 21 ∨ (7230 ≤ k ∧ k < 8430) → N 2 k = M 2 k) : NW np w u v p r s N :=
  h.top h4 (fun k hk => h2 k (by omega)) (by rw [h2 7 (by omega)]; exact h.1.2.2.1)
theorem NW.depth (h : NW np w u v p r s M) : ∃ d, d ≤ 100 ∧ pdepth M = nI d ∧ ((d = 0 ∧ M 2 7 = -9) ∨ (1 ≤ d ∧ ∃ i, i < np ∧ M 2 7 = nI i ∧ M 4 (7 * i + 6) = nI d)) := by
  obtain ⟨⟨a1, a2, a3, a4⟩, -⟩ := h
  rcases a3 with z | ⟨i, i1, i2⟩
  · exact ⟨0, by omega, by unfold pdepth; rw [if_pos z]; rfl, Or.inl ⟨rfl, z⟩⟩
  · obtain ⟨d, d1, d2, -⟩ := a4 i i1
    refine ⟨d + 1, by omega, ?_, Or.inr ⟨by omega, i, i1, i2, d2⟩⟩
    unfold pdepth
    rw [i2, if_neg ((iv_nI (N := 40000) (by omega) (by decide)).nn (by decide))]
    exact (pof_n (k := 6) (by omega) (by decide)).trans d2
/-- a frame is pushed -/
theorem NW.push (h : NW np w u v p r s M) (hv : pushV M) (hd : pdepth M = nI d) (hd9 : d < 100) (k n e z x : Int32) : ∃ w', NW (np + 1) w' u v p r s (ppush M k n e z x) ∧ pdepth (ppush M k n e z x) = nI (d + 1) ∧ np < 39999 := by
  have h' := h
  obtain ⟨d', e1, e2, e3⟩ := h.depth
  obtain ⟨⟨a1, a2, a3, a4⟩, ⟨b1, b2⟩, ⟨c1, c2⟩, ⟨d1, d2, d6⟩, f⟩ := h
  obtain rfl : d' = d := (nI_eq (by omega) (by omega)).mp (e2.symm.trans hd)
  have ht : tn (M 2 21) = np := by rw [a1]; exact tn_nI (by omega)
  have hnp : np < 39999 := by have := hv.1.1; omega
  obtain ⟨i, i1, i2, i3⟩ : ∃ i, M 2 7 = (if d' = 0 then -9 else nI i) ∧ (¬ d' = 0 → i < np) ∧ (¬ d' = 0 → M 4 (7 * i + 6) = nI d') := by
    rcases e3 with ⟨y, z2⟩ | ⟨y, i, z2, z3, z4⟩
    · exact ⟨0, by rw [if_pos y]; exact z2, fun q => absurd y q, fun q => absurd y q⟩
    · exact ⟨i, by rw [if_neg (by omega)]; exact z3, fun _ => z2, fun _ => z4⟩
  have eN := ppush_N (k := k) (n := n) (e := e) (s := z) (x := x) a1 (by omega) i1 i2 i3
  obtain ⟨w0, w1, w2, w3, w4, w5, w6⟩ := ppushN_n (M := M) (k := k) (n := n) (e := e) (s := z) (x := x) (np := np) (d := d')
  rw [← eN] at w5 w6
  have q8 : ppush M k n e z x 2 8 = (if M 2 8 < nI (d' + 1) then nI (d' + 1) else M 2 8) := by rw [eN]; exact ppushN_28
  have q7 : ppush M k n e z x 2 7 = nI np := by rw [eN]; exact ppushN_27
  have hdep : pdepth (ppush M k n e z x) = nI (d' + 1) := by
    unfold pdepth
    rw [q7, if_neg ((iv_nI (N := 40000) (by omega) (by decide)).nn (by decide))]
    exact (pof_n (k := 6) (by omega) (by decide)).trans w6
  have hold : ∀ j, j < 7 * np → ppush M k n e z x 4 j = M 4 j := fun j hj => ppush_o (by rw [ht]; exact hj)
  refine ⟨if w < d' + 1 then d' + 1 else w, ⟨⟨ppush_21.trans (ixA a1 (ixC 1)), by omega, Or.inr ⟨np, Nat.lt_succ_self _, q7⟩, fun j hj => ?_⟩, ⟨?_, ?_⟩, ⟨(ppush_2 (by decide) (by decide) (by decide)).trans c1, (ppush_2 (by decide) (by decide) (by decide)).trans c2⟩, ⟨(ppush_2 (by decide) (by decide) (by decide)).trans d1, (ppush_2 (by decide) (by decide) (by decide)).trans d2, (ppush_2 (by decide) (by decide) (by decide)).trans d6⟩, fun q hq => ?_⟩, hdep, hnp⟩
  · by_cases q : j = np
    · subst q
      refine ⟨d', by omega, w6, ?_⟩
      rcases e3 with ⟨y, z2⟩ | ⟨y, i', z2, z3, z4⟩
      · exact Or.inl ⟨w5.trans z2, y⟩
      · exact Or.inr ⟨i', z2, w5.trans z3, (hold _ (by omega)).trans z4, y⟩
    · obtain ⟨y, y1, y2, y3⟩ := a4 j (by omega)
      refine ⟨y, y1, (hold _ (by omega)).trans y2, ?_⟩
      rw [hold _ (by omega)]
      refine y3.imp id ?_
      rintro ⟨b, z1, z2, z3, z4⟩
      exact ⟨b, z1, z2, (hold _ (by omega)).trans z3, z4⟩
  · rw [q8, b1]
    by_cases q : w < d' + 1
    · rw [if_pos q, if_pos (nI_lt q (by omega))]
    · rw [if_neg q, if_neg (nI_nlt (by omega) (by omega))]
  · split
    · omega
    · exact b2
  · rw [ppush_2 (by omega) (by omega) (by omega)]; exact f q hq
/-- nothing but the focus changes -/
theorem NW.val (h : NW np w u v p r s M) (x : Int32) : NW np w u v p r s (pbecome M x) := h.same (pbecome_r (by decide)) (fun k hk => pbecome_2 (by omega) (by omega) (by omega))
theorem NW.foc (h : NW np w u v p r s M) (z e y : Int32) : NW np w u v p r s (pfocusOn M z e y) := h.same (pfocus_r (by decide)) (fun k hk => pfocus_2 (by omega))
theorem NW.bind (h : NW np w u v p r s M) (e c x : Int32) (hv : iv 1200 (M 2 22)) : NW np w u v p r s (pbindTo M e c x) ∧ pbindTo M e c x 2 5 = M 2 5 := by
  have hb := pbind_N (M := M) (e := e) (c := c) (v := x) hv.2 hv.1
  have ht := hv.1
  rw [hb]
  exact ⟨h.same (pbindN_r (by decide)) (fun k hk => pbindN_o (by omega) (by omega)), pbindN_o (by omega) (by omega)⟩
theorem NS.same (h : NW np w u v p r s N) (h5 : ¬ N 2 5 = 3 ∧ ¬ N 2 5 = 5) : NS u v p r s N := ⟨np, w, u, v, p, r, h, Or.inl ⟨rfl, rfl⟩, Or.inl ⟨rfl, rfl, h5.1⟩, h5.2⟩
theorem NS.val (h : NW np w u v p r s M) (x : Int32) : NS u v p r s (pbecome M x) := by
  refine NS.same (h.val x) ?_
  rw [pbecome_v.2.2]
  by_cases q : M 2 7 = -9
  · rw [if_pos q]; decide
  · rw [if_neg q]; decide
theorem NS.foc (h : NW np w u v p r s M) (h5 : M 2 5 = 1) (z e y : Int32) : NS u v p r s (pfocusOn M z e y) := by
  refine NS.same (h.foc z e y) ?_
  rw [pfocus_2 (by omega), h5]; decide
/-- a finalizer is executed -/
theorem NW.exec (h : NW np w u v p r s M) (hv : pexecV M x) (hd : pdepth M = nI d) (hd9 : d < 100) (h5 : M 2 5 = 1) (y : Int32) : NS u v p r s (pexec M x y) := by
  obtain ⟨v1, v2, v3, v4, v5⟩ := hv
  obtain ⟨q, hq⟩ : ∃ q, q = tn (pof M x 4) := ⟨_, rfl⟩
  have hlt : q < 1200 := by rw [hq]; exact v3.1
  obtain ⟨N, eN⟩ : ∃ N, N = zup (zup M 2 (7230 + q) 1) 2 14 (zup M 2 (7230 + q) 1 2 14 + 1) := ⟨_, rfl⟩
  have e2 : ∀ k, k ≠ 14 → k ≠ 7230 + q → N 2 k = M 2 k := fun k k1 k2 => by rw [eN, zup_ne _ _ _ _ (by omega), zup_ne _ _ _ _ (by omega)]
  have e4 : N 4 = M 4 := by rw [eN, zup_r (by decide), zup_r (by decide)]
  obtain ⟨⟨a1, a2, a3, a4⟩, ⟨b1, b2⟩, ⟨c1, c2⟩, ⟨d1, d2, d6⟩, f⟩ := h
  have hN : NW np w u v p r s N := by
    refine ⟨⟨(e2 21 (by decide) (by omega)).trans a1, a2, by rw [e2 7 (by decide) (by omega)]; exact a3, by rw [e4]; exact a4⟩, ⟨(e2 8 (by decide) (by omega)).trans b1, b2⟩, ⟨(e2 12 (by decide) (by omega)).trans c1, (e2 13 (by decide) (by omega)).trans c2⟩, ⟨(e2 10 (by decide) (by omega)).trans d1, (e2 11 (by decide) (by omega)).trans d2, (e2 6 (by decide) (by omega)).trans d6⟩, fun j hj => ?_⟩
    by_cases z : j = q
    · subst z
      rw [eN, zup_ne _ _ _ _ (by omega), zup_at]; exact Or.inr rfl
    · rw [e2 _ (by omega) (by omega)]; exact f j hj
  have hdN : pdepth N = nI d := by
    rw [← hd]
    unfold pdepth pof
    rw [e2 7 (by decide) (by omega), e4]
  have hpv : pushV N := ⟨by rw [e2 21 (by decide) (by omega)]; exact v5.1, by rw [e2 7 (by decide) (by omega)]; exact v5.2⟩
  obtain ⟨w', g1, -⟩ := hN.push hpv hdN hd9 13 (-9) (-9) (-9) y
  have ed : pexec M x y = pfocusOn (ppush N 13 (-9) (-9) (-9) y) (ppart (ppush N 13 (-9) (-9) (-9) y) (pof (ppush N 13 (-9) (-9) (-9) y) x 1) 2) (pof (ppush N 13 (-9) (-9) (-9) y) x 2) (pof (ppush N 13 (-9) (-9) (-9) y) x 3) := by
    rw [eN, hq]; rfl
  rw [ed]
  exact NS.foc g1 ((ppush_2 (by decide) (by decide) (by decide)).trans ((e2 5 (by decide) (by omega)).trans h5)) _ _ _
/-- an operation is performed -/
theorem NW.perf (h : NW np w u v p r s M) (h5 : M 2 5 = 1) {a y : Int32} (hv : pperfV M a) (hd : pdepth M = nI d) (hd9 : d < 100) : NS u v p r s (pperf M a y) := by
  obtain ⟨v1, v2, v3⟩ := hv
  have ta : tn a < 6 := v1.1
  obtain ⟨⟨a1, a2, a3, a4⟩, ⟨b1, b2⟩, ⟨c1, c2⟩, ⟨d1, d2, d6⟩, f⟩ := h
  have f2 : ∀ k, k < 24 ∨ 30 ≤ k → k ≠ 10 → pf1 M a 2 k = M 2 k := fun k k1 k2 => by
    unfold pf1
    try dsimp only
    rw [zup_ne _ _ _ _ (by omega), zup_ne _ _ _ _ (by omega)]
  have f10 : pf1 M a 2 10 = nI (p + 1) := by
    unfold pf1
    try dsimp only
    rw [zup_ne _ _ _ _ (by omega), zup_at]
    exact ixA d1 (ixC 1)
  have fr : ∀ r, r ≠ 2 → pf1 M a r = M r := fun r hr => by
    unfold pf1
    try dsimp only
    rw [zup_r hr, zup_r hr]
  have g2 : ∀ k, pf3 M a 2 k = pf1 M a 2 k := fun k => by
    unfold pf3
    rw [zup_ne _ _ _ _ (by omega)]
  have gr : ∀ r, r ≠ 0 → pf3 M a r = pf1 M a r := fun r hr => by
    unfold pf3
    rw [zup_r hr]
  have h3 : NW np w u v (p + 1) r s (pf3 M a) := by
    have e4 : pf3 M a 4 = M 4 := (gr 4 (by decide)).trans (fr 4 (by decide))
    have e2 : ∀ k, k < 24 ∨ 30 ≤ k → k ≠ 10 → pf3 M a 2 k = M 2 k := fun k k1 k2 => (g2 k).trans (f2 k k1 k2)
    exact ⟨⟨(e2 21 (by omega) (by omega)).trans a1, a2, by rw [e2 7 (by omega) (by omega)]; exact a3, by rw [e4]; exact a4⟩, ⟨(e2 8 (by omega) (by omega)).trans b1, b2⟩, ⟨(e2 12 (by omega) (by omega)).trans c1, (e2 13 (by omega) (by omega)).trans c2⟩, ⟨(g2 10).trans f10, (e2 11 (by omega) (by omega)).trans d2, (e2 6 (by omega) (by omega)).trans d6⟩, fun q hq => by rw [e2 _ (by omega) (by omega)]; exact f q hq⟩
  have hfd : ∀ (k : Nat) (m x s : Int32), OXP np x → ¬ (phA (pf1 M a) a k m x s).1 = -9 → ∃ i, i < np ∧ (phA (pf1 M a) a k m x s).1 = nI i := by
    intro k
    induction k with
    | zero => intro m x s _ h; exact absurd rfl h
    | succ k ih =>
      intro m x s hx hn
      unfold phA at hn ⊢
      by_cases h9 : x = -9
      · rw [if_pos h9] at hn; exact absurd rfl hn
      · rw [if_neg h9] at hn ⊢
        rcases hx with hx | ⟨i, i1, rfl⟩
        · exact absurd hx h9
        have p5 : pof (pf1 M a) (nI i) 5 = M 4 (7 * i + 5) := (pof_n (k := 5) (by omega) (by decide)).trans (congrFun (fr 4 (by decide)) _)
        have hO : OXP np (pof (pf1 M a) (nI i) 5) := by
          rw [p5]
          obtain ⟨dd, -, -, z | ⟨b, z1, z2, -⟩⟩ := a4 i i1
          · exact Or.inl z.1
          · exact Or.inr ⟨b, by omega, z2⟩
        by_cases c : pof (pf1 M a) (nI i) 0 = 12 ∧ ¬ pclause (pf1 M a) (pof (pf1 M a) (nI i) 1) a = -9
        · rw [if_pos c] at hn ⊢
          by_cases c0 : pmk (pf1 M a) a (nI i) m = 0
          · rw [if_pos c0]; exact ⟨i, i1, rfl⟩
          · rw [if_neg c0] at hn ⊢; exact ih _ _ _ hO hn
        · rw [if_neg c] at hn ⊢; exact ih _ _ _ hO hn
  unfold pperf
  by_cases q : pfh M a = -9
  · rw [if_pos q]
    refine ⟨np, w, u, v, p + 1, r, h3.same ?_ (fun k hk => ?_), Or.inl ⟨rfl, rfl⟩, Or.inr (Or.inr ⟨rfl, rfl⟩), ?_⟩
    · rw [zup_r (by decide), zup_r (by decide), zup_r (by decide), zup_r (by decide)]
    · rw [zup_ne _ _ _ _ (by omega), zup_ne _ _ _ _ (by omega), zup_ne _ _ _ _ (by omega), zup_ne _ _ _ _ (by omega)]
    · rw [zup_ne _ _ _ _ (by omega), zup_ne _ _ _ _ (by omega), zup_ne _ _ _ _ (by omega), zup_at]; decide
  · rw [if_neg q]
    obtain ⟨w1, w2, w3, w4, w5, w6, w7⟩ := v3 q
    obtain ⟨i', j1, eh⟩ := hfd 101 0 (pf1 M a 2 7) 0 (by rw [f2 7 (by omega) (by omega)]; exact a3) q
    have eh : pfh M a = nI i' := eh
    have hnr : tn (pf3 M a 2 11) < 1200 := w1.1
    have e4 : pf4 M a = zup (zup (zup (zup (pf3 M a) 2 11 (pf3 M a 2 11 + 1)) 2 (3630 + 3 * tn (pf3 M a 2 11)) (pf3 M a 2 7)) 2 (3630 + 3 * tn (pf3 M a 2 11) + 1) (pf3 M a 0 28 + 1)) 2 (3630 + 3 * tn (pf3 M a 2 11) + 2) 0 := rfl
    have e42 : ∀ k, k < 3630 ∨ 7230 ≤ k → k ≠ 11 → pf4 M a 2 k = pf3 M a 2 k := fun k k1 k2 => by
      rw [e4, zup_ne _ _ _ _ (by omega), zup_ne _ _ _ _ (by omega), zup_ne _ _ _ _ (by omega), zup_ne _ _ _ _ (by omega)]
    have e411 : pf4 M a 2 11 = nI (r + 1) := by
      rw [e4, zup_ne _ _ _ _ (by omega), zup_ne _ _ _ _ (by omega), zup_ne _ _ _ _ (by omega), zup_at]
      exact ixA h3.2.2.2.1.2.1 (ixC 1)
    have e4r : ∀ k, k ≠ 2 → pf4 M a k = pf3 M a k := fun k hk => by rw [e4, zup_r hk, zup_r hk, zup_r hk, zup_r hk]
    have r4 : pf4 M a 4 = M 4 := ((e4r 4 (by decide)).trans (gr 4 (by decide))).trans (fr 4 (by decide))
    have p5 : pof (pf4 M a) (nI i') 5 = M 4 (7 * i' + 5) := (pof_n (k := 5) (by omega) (by decide)).trans (congrFun r4 _)
    have e5 : pf5 M a = zup (pf4 M a) 2 7 (M 4 (7 * i' + 5)) := by
      unfold pf5
      rw [eh, p5]
    have e57 : pf5 M a 2 7 = M 4 (7 * i' + 5) := by rw [e5, zup_at]
    have e52 : ∀ k, k < 3630 ∨ 7230 ≤ k → k ≠ 7 → k ≠ 11 → pf5 M a 2 k = pf3 M a 2 k := fun k k1 k2 k3 => by rw [e5, zup_ne _ _ _ _ (Or.inr k2)]; exact e42 k k1 k3
    have e54 : pf5 M a 4 = M 4 := by rw [e5, zup_r (by decide)]; exact r4
    obtain ⟨dd, y1, y2, y3⟩ := a4 i' j1
    have hO : OXP np (M 4 (7 * i' + 5)) := by
      rcases y3 with z | ⟨b, z1, z2, -⟩
      · exact Or.inl z.1
      · exact Or.inr ⟨b, by omega, z2⟩
    obtain ⟨⟨s1, s2, s3, s4⟩, ⟨s5, s6⟩, ⟨s7, s8⟩, ⟨s9, s10, s16⟩, s11⟩ := h3
    have h5' : NW np w u v (p + 1) (r + 1) s (pf5 M a) := ⟨⟨(e52 21 (by omega) (by omega) (by omega)).trans s1, s2, by rw [e57]; exact hO, by rw [e54]; exact a4⟩, ⟨(e52 8 (by omega) (by omega) (by omega)).trans s5, s6⟩, ⟨(e52 12 (by omega) (by omega) (by omega)).trans s7, (e52 13 (by omega) (by omega) (by omega)).trans s8⟩, ⟨(e52 10 (by omega) (by omega) (by omega)).trans s9, by rw [e5, zup_ne _ _ _ _ (by omega)]; exact e411, (e52 6 (by omega) (by omega) (by omega)).trans s16⟩, fun q hq => by rw [e52 _ (by omega) (by omega) (by omega)]; exact s11 q hq⟩
    have hdp : pdepth (pf5 M a) = nI dd := by
      unfold pdepth
      rw [e57]
      rcases y3 with ⟨z, z2⟩ | ⟨b, z1, z2, z3, -⟩
      · rw [if_pos z, z2]; rfl
      · rw [z2, if_neg ((iv_nI (N := 40000) (by omega) (by decide)).nn (by decide))]
        exact ((pof_n (k := 6) (by omega) (by decide)).trans (congrFun e54 _)).trans z3
    obtain ⟨w', g1, -⟩ := h5'.push w5 hdp y1 14 (-9) (-9) (-9) (pf3 M a 2 11)
    have g1 : NW (np + 1) w' u v (p + 1) (r + 1) s (pf6 M a) := g1
    have g5 : pf6 M a 2 5 = 1 := (ppush_2 (by decide) (by decide) (by decide)).trans (((e52 5 (by omega) (by omega) (by omega)).trans (g2 5)).trans ((f2 5 (by omega) (by omega)).trans h5))
    obtain ⟨y1, y2⟩ := g1.bind (pof (pf6 M a) (pfh M a) 2) (parg (pf6 M a) (pfc M a)) y w7
    have y1 : NW (np + 1) w' u v (p + 1) (r + 1) s (pf7 M a y) := y1
    have y2 : pf7 M a y 2 5 = 1 := y2.trans g5
    exact ⟨np + 1, w', u, v, p + 1, r + 1, y1.foc _ _ _, Or.inl ⟨rfl, rfl⟩, Or.inr (Or.inl ⟨rfl, rfl, by rw [pfocus_2 (by omega), y2]; decide⟩), by rw [pfocus_2 (by omega), y2]; decide⟩
/-- frames are pushed again -/
theorem NW.copies : ∀ (j : Nat) {M : zI} {np w d : Nat}, NW np w u v p r s M → ppuV j M → pdepth M = nI d → d + j ≤ 100 → ∃ np' w', NW np' w' u v p r s (ppu j M) ∧ ∀ k, k ≠ 2 → k ≠ 4 → True := by
  intro j
  induction j with
  | zero => intro M np w d h _ _ _; exact ⟨np, w, h, fun _ _ _ => trivial⟩
  | succ j ih =>
    intro M np w d h hv hd hj
    obtain ⟨v1, v2, v3, v4⟩ := hv
    obtain ⟨w', g1, g2, -⟩ := h.push ⟨v2, v3⟩ hd (by omega) (pof M (M 16 j) 0) (pof M (M 16 j) 1) (pof M (M 16 j) 2) (pof M (M 16 j) 3) (pof M (M 16 j) 4)
    exact ih g1 v4 g2 (by omega)
theorem pag_r : ∀ (n k : Nat) (x : Int32) (M : zI) (r : Nat), r ≠ 16 → pag n k x M r = M r := by
  intro n
  induction n with
  | zero => intro k x M r _; rfl
  | succ n ih =>
    intro k x M r hr
    show pag n (k + 1) (pof M x 5) (zup M 16 k x) r = M r
    rw [ih _ _ _ _ hr, zup_r hr]
/-- a resumption is resumed -/
theorem NW.resu (h : NW np w u v p r s M) {y : Int32} (hv : presumesV M x) (hd : pdepth M = nI d) (hd9 : d ≤ 100) : ((presumes M x y).1 = 1 → NS u v p r s (presumes M x y).2) ∧ ((presumes M x y).1 = 0 → (presumes M x y).2 = M) := by
  obtain ⟨v1, v2, v3⟩ := hv
  unfold presumes
  by_cases q : 100 < pdepth M + prMany M x
  · rw [if_pos q]
    exact ⟨fun z => absurd (show (0 : Int32) = 1 from z) (by decide), fun _ => rfl⟩
  · rw [if_neg q]
    refine ⟨fun _ => ?_, fun z => absurd (show (1 : Int32) = 0 from z) (by decide)⟩
    obtain ⟨m, m1, m2, m3, m4⟩ := v3 q
    obtain ⟨d', e1, e2, -⟩ := h.depth
    obtain rfl : d' = d := (nI_eq (by omega) (by omega)).mp (e2.symm.trans hd)
    have hdm : d' + m ≤ 100 := by
      rw [e2, m2, show nI d' + nI m = nI (d' + m) from ixA rfl rfl] at q
      exact Nat.not_lt.mp (fun z => q (nI_lt (a := 100) z (by omega)))
    obtain ⟨N, eN⟩ : ∃ N, N = pag m 0 (prTop M x) M := ⟨_, rfl⟩
    have nr : ∀ r, r ≠ 16 → N r = M r := fun r hr => by rw [eN]; exact pag_r _ _ _ _ _ hr
    rw [← eN] at m4
    have hN : NW np w u v p r s N := h.same (nr 4 (by decide)) (fun k _ => congrFun (nr 2 (by decide)) k)
    have hdN : pdepth N = nI d' := by
      rw [← e2]
      unfold pdepth pof
      rw [nr 2 (by decide), nr 4 (by decide)]
    obtain ⟨np', w', hP, -⟩ := NW.copies m hN m4 hdN hdm
    have e0 : prs0 M x = ppu m N := by
      unfold prs0
      rw [m2, tn_nI (by omega), ← eN]
    unfold presume
    rw [e0]
    obtain ⟨P, eP⟩ : ∃ P, P = ppu m N := ⟨_, rfl⟩
    rw [← eP] at hP ⊢
    obtain ⟨z, ez⟩ : ∃ z, z = (if puses (prs4 P x) x = 2 then (1 : Int32) else 0) := ⟨_, rfl⟩
    have hz : z = nI 0 ∨ z = nI 1 := by
      rw [ez]
      by_cases q : puses (prs4 P x) x = 2
      · rw [if_pos q]; exact Or.inr rfl
      · rw [if_neg q]; exact Or.inl rfl
    rw [← ez]
    have hx := v1.1
    obtain ⟨⟨a1, a2, a3, a4⟩, ⟨b1, b2⟩, ⟨c1, c2⟩, ⟨d1, d2, d6⟩, f⟩ := hP
    have s2 : ∀ k, k < 3630 ∨ 7230 ≤ k → k ≠ 12 → k ≠ 13 → zup (prs4 P x) 2 13 (prs4 P x 2 13 + z) 2 k = P 2 k := fun k k1 k2 k3 => by
      rw [zup_ne _ _ _ _ (Or.inr k3)]
      unfold prs4
      try dsimp only
      rw [zup_ne _ _ _ _ (by omega), zup_ne _ _ _ _ (by omega)]
    have s12 : zup (prs4 P x) 2 13 (prs4 P x 2 13 + z) 2 12 = nI (u + 1) := by
      rw [zup_ne _ _ _ _ (by omega)]
      unfold prs4
      try dsimp only
      rw [zup_at, zup_ne _ _ _ _ (by omega)]
      exact ixA c1 (ixC 1)
    have s13 : prs4 P x 2 13 = nI v := by
      unfold prs4
      try dsimp only
      rw [zup_ne _ _ _ _ (by omega), zup_ne _ _ _ _ (by omega)]
      exact c2
    have s4 : zup (prs4 P x) 2 13 (prs4 P x 2 13 + z) 4 = P 4 := by
      rw [zup_r (by decide)]
      unfold prs4
      try dsimp only
      rw [zup_r (by decide), zup_r (by decide)]
    have hQ : ∀ v', nI v + z = nI v' → NW np' w' (u + 1) v' p r s (zup (prs4 P x) 2 13 (prs4 P x 2 13 + z)) := fun v' ev => ⟨⟨(s2 21 (by omega) (by omega) (by omega)).trans a1, a2, by rw [s2 7 (by omega) (by omega) (by omega)]; exact a3, by rw [s4]; exact a4⟩, ⟨(s2 8 (by omega) (by omega) (by omega)).trans b1, b2⟩, ⟨s12, by rw [zup_at, s13]; exact ev⟩, ⟨(s2 10 (by omega) (by omega) (by omega)).trans d1, (s2 11 (by omega) (by omega) (by omega)).trans d2, (s2 6 (by omega) (by omega) (by omega)).trans d6⟩, fun q hq => by rw [s2 _ (by omega) (by omega) (by omega)]; exact f q hq⟩
    have fin : ∀ v', v' ≤ v + 1 → nI v + z = nI v' → NS u v p r s (prsE P x y z) := fun v' hv' ev => by
      have e5 : ∀ N : zI, pbecome N y 2 5 = 1 ∨ pbecome N y 2 5 = 2 := fun N => by
        rw [pbecome_v.2.2]
        by_cases q : N 2 7 = -9
        · rw [if_pos q]; exact Or.inr rfl
        · rw [if_neg q]; exact Or.inl rfl
      refine ⟨np', w', u + 1, v', p, r, (hQ v' ev).val y, Or.inr ⟨rfl, hv'⟩, Or.inl ⟨rfl, rfl, ?_⟩, ?_⟩
      · rcases e5 (zup (prs4 P x) 2 13 (prs4 P x 2 13 + z)) with q | q
        · exact fun z => absurd (q.symm.trans z) (by decide)
        · exact fun z => absurd (q.symm.trans z) (by decide)
      · rcases e5 (zup (prs4 P x) 2 13 (prs4 P x 2 13 + z)) with q | q
        · exact fun z => absurd (q.symm.trans z) (by decide)
        · exact fun z => absurd (q.symm.trans z) (by decide)
    rcases hz with hz | hz
    · exact fin v (by omega) (by rw [hz]; exact ixA rfl rfl)
    · exact fin (v + 1) (by omega) (by rw [hz]; exact ixA rfl rfl)
end NUM
