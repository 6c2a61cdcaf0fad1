/-! The numbers of a run fit together: a step; an answer; what is dropped. -/
def NQ (M : zI) : Prop := ∃ np w u v p r s, NW np w u v p r s M ∧ s ≤ 1000 ∧ v ≤ u ∧ u ≤ s ∧ p ≤ s ∧ r ≤ p ∧ (M 2 5 = 3 → r + 1 ≤ p) ∧ (M 2 5 = 5 → s = 1000)
section NUN
variable {M N : zI} {np w u v p r s d i : Nat} {x y : Int32}
theorem ppd_sm : ∀ (k n : Nat) (N : zI), SM M N → SM M (ppd k n N).2 := by
  intro k
  induction k with
  | zero => intro n N h; exact h
  | succ k ih =>
    intro n N h
    cases n with
    | zero => exact h
    | succ n =>
      have sA := (ppdA_m N n).1
      have sB : ∀ r, SM (ppdA N n) (ppdB (ppdA N n) (n + 1) r) := fun r => by
        unfold ppdB
        try dsimp only
        refine ⟨fun k h1 h2 h3 h4 => ?_, fun j hj => ?_⟩
        · rw [zup_r h3, zup_r h2, zup_r h4]
        · rw [zup_ne _ _ _ _ (by omega), zup_ne _ _ _ _ (by omega), zup_ne _ _ _ _ (by omega)]
      unfold ppd
      by_cases q0 : N 18 n = 0
      · rw [if_pos q0]; exact ih n N h
      · rw [if_neg q0]
        by_cases c9 : pof N (N 17 n) 0 = 9 ∧ N 2 (7230 + tn (pof N (N 17 n) 4)) = 0
        · rw [if_pos c9]; exact h.tr sA
        · rw [if_neg c9]
          by_cases c14 : pof N (N 17 n) 0 = 14 ∧ puses N (pof N (N 17 n) 4) = 0 ∧ ¬ N 19 (tn (pof N (N 17 n) 4)) = N 0 27
          · rw [if_pos c14]; exact ih _ _ ((h.tr sA).tr (sB _))
          · rw [if_neg c14]; exact ih _ _ (h.tr sA)
theorem ppend_sm (M : zI) (r : Int32) (k : Nat) : SM M (ppend M r k).2 := by
  refine ppd_sm k 1 (ppend0 M r) ?_
  unfold ppend0
  try dsimp only
  refine ⟨fun k h1 h2 h3 h4 => ?_, fun j hj => ?_⟩
  · rw [zup_r h3, zup_r h2, zup_r h4, zup_r h1]
  · rw [zup_ne _ _ _ _ (by omega), zup_ne _ _ _ _ (by omega), zup_ne _ _ _ _ (by omega), zup_ne _ _ _ _ (by omega)]
theorem SM.nw {N : zI} (hM : SM M N) (h : NW np w u v p r s M) : NW np w u v p r s N ∧ N 2 = M 2 ∧ N 4 = M 4 := by
  have h2 : N 2 = M 2 := hM.1 2 (by decide) (by decide) (by decide) (by decide)
  have h4 : N 4 = M 4 := hM.1 4 (by decide) (by decide) (by decide) (by decide)
  exact ⟨h.same h4 (fun k _ => congrFun h2 k), h2, h4⟩
/-- what a step from a value leads to -/
def NCM (np w u v p r s : Nat) (q : Int32 × zI) : Prop := (q.1 = 1 → NS u v p r s q.2) ∧ (q.1 = 0 → NW np w u v p r s q.2)
theorem NCM.mk1 {N : zI} (h : NS u v p r s N) : NCM np w u v p r s (1, N) := ⟨fun _ => h, fun z => absurd (show (1 : Int32) = 0 from z) (by decide)⟩
theorem NW.close (h : NW np w u v p r s M) (h5 : M 2 5 = 1) (hv : pcloseV M x) (hd : pdepth M = nI d) (hd9 : d < 100) : NCM np w u v p r s (pclose M x y) := by
  obtain ⟨-, v2, v3⟩ := hv
  unfold pclose
  try dsimp only
  by_cases q0 : puses M (pof M x 4) = 0
  · rw [if_pos q0]
    obtain ⟨w1, w2⟩ := v3 q0
    have sM := ppend_sm M (pof M x 4) pfu
    obtain ⟨q, eq⟩ : ∃ q, q = ppend M (pof M x 4) pfu := ⟨_, rfl⟩
    rw [← eq] at sM w2 ⊢
    obtain ⟨hq, q2, q4⟩ := sM.nw h
    by_cases q9 : q.1 = -9
    · rw [if_pos q9]; exact NCM.mk1 (NS.val hq y)
    · rw [if_neg q9]
      have hdq : pdepth q.2 = nI d := by
        rw [← hd]
        unfold pdepth pof
        rw [q2, q4]
      by_cases qd : 100 < pdepth q.2 + 2
      · rw [if_pos qd]
        exact ⟨fun z => absurd (show (0 : Int32) = 1 from z) (by decide), fun _ => hq⟩
      · rw [if_neg qd]
        refine NCM.mk1 ?_
        obtain ⟨x1, x2⟩ := w2 q9
        have hd2 : d + 2 ≤ 100 := by
          rw [hdq, show nI d + 2 = nI (d + 2) from ixA rfl (ixC 2)] at qd
          exact Nat.not_lt.mp (fun z => qd (nI_lt (a := 100) z (by omega)))
        obtain ⟨w', g1, g2, -⟩ := hq.push x1 hdq hd9 14 (-9) (-9) (-9) (pof M x 4)
        exact g1.exec x2 g2 (by omega) ((ppush_2 (by decide) (by decide) (by decide)).trans ((congrFun q2 5).trans h5)) y
  · rw [if_neg q0]
    try dsimp only
    rw [if_pos rfl]
    exact NCM.mk1 (NS.val h y)
theorem pcomes_NCM (h : NW np w u v p r s M) (h5 : M 2 5 = 1) (hv : pcomesV M x) (hd : pdepth M = nI d) (hd9 : d < 100) : NCM np w u v p r s (pcomes M x y) := by
  obtain ⟨v0, v1, v2, v5, v6, v7, v9, v10, v11, v12, v14⟩ := hv
  unfold pcomes
  by_cases c1 : pof M x 0 = 1
  · rw [if_pos c1]
    obtain ⟨w', g1, -⟩ := h.push (v1 c1).2.1 hd hd9 2 (pof M x 1) (-9) (-9) y
    exact NCM.mk1 (NS.foc g1 ((ppush_2 (by decide) (by decide) (by decide)).trans h5) _ _ _)
  rw [if_neg c1]
  by_cases c2 : pof M x 0 = 2
  · rw [if_pos c2]; exact NCM.mk1 (NS.val h _)
  rw [if_neg c2]
  by_cases c3 : pof M x 0 = 3
  · rw [if_pos c3]; exact NCM.mk1 (NS.foc h h5 _ _ _)
  rw [if_neg c3]
  by_cases c4 : pof M x 0 = 4
  · rw [if_pos c4]; exact NCM.mk1 (NS.foc h h5 _ _ _)
  rw [if_neg c4]
  by_cases c5 : pof M x 0 = 5
  · rw [if_pos c5]
    obtain ⟨g1, g2⟩ := h.bind (pof M x 2) (parg M (pof M x 1)) y (v5 c5).2
    exact NCM.mk1 (NS.foc g1 (g2.trans h5) _ _ _)
  rw [if_neg c5]
  by_cases c6 : pof M x 0 = 6
  · rw [if_pos c6]
    refine NCM.mk1 (NS.val (np := np) (w := w) (u := u) (v := v) (p := p) (r := r) (s := s) ?_ _)
    unfold ptrace0
    by_cases q : M 2 9 < 60
    · rw [if_pos q]
      have hlt := (v6 c6).1
      exact h.same (by rw [zup_r (by decide), zup_r (by decide)]) (fun k hk => by rw [zup_ne _ _ _ _ (by omega), zup_ne _ _ _ _ (by omega)])
    · rw [if_neg q]; exact h
  rw [if_neg c6]
  by_cases c7 : pof M x 0 = 7
  · rw [if_pos c7]; exact NCM.mk1 (h.perf h5 (v7 c7).2 hd hd9)
  rw [if_neg c7]
  by_cases c9 : pof M x 0 = 9
  · rw [if_pos c9]
    refine NCM.mk1 ?_
    by_cases q : M 2 (7230 + tn (pof M x 4)) = 0
    · rw [if_pos q]; exact h.exec ((v9 c9).2 q) hd hd9 h5 y
    · rw [if_neg q]; exact NS.val h _
  rw [if_neg c9]
  by_cases c10 : pof M x 0 = 10
  · rw [if_pos c10]
    refine NCM.mk1 ?_
    unfold pcall
    by_cases q : M 2 (1 + tn (parg M (pof M x 1))) = -9
    · rw [if_pos q]; exact NS.val h _
    · rw [if_neg q]
      obtain ⟨g1, g2⟩ := h.bind (-9) 23 y (v10 c10).2.2.2
      exact NS.foc g1 (g2.trans h5) _ _ _
  rw [if_neg c10]
  by_cases c11 : pof M x 0 = 11
  · rw [if_pos c11]
    obtain ⟨k1, k2⟩ := h.resu (y := y) (v11 c11) hd (by omega)
    exact ⟨k1, fun z => by rw [k2 z]; exact h⟩
  rw [if_neg c11]
  by_cases c12 : pof M x 0 = 12
  · rw [if_pos c12]
    refine NCM.mk1 ?_
    unfold pleave
    by_cases q : pclause M (pof M x 1) 6 = -9
    · rw [if_pos q]; exact NS.val h _
    · rw [if_neg q]
      obtain ⟨g1, g2⟩ := h.bind (pof M x 2) (parg M (pclause M (pof M x 1) 6)) y (v12 c12).2.2.2.2
      exact NS.foc g1 (g2.trans h5) _ _ _
  rw [if_neg c12]
  by_cases c13 : pof M x 0 = 13
  · rw [if_pos c13]; exact NCM.mk1 (NS.val h _)
  rw [if_neg c13]
  by_cases c14 : pof M x 0 = 14
  · rw [if_pos c14]; exact h.close h5 (v14 c14) hd hd9
  rw [if_neg c14]
  exact NCM.mk1 (NS.val h _)
/-- the count goes up -/
theorem NQ.six (h : NS u v p r s N) (hs : s < 1000) (h1 : v ≤ u) (h2 : u ≤ s) (h3 : p ≤ s) (h4 : r ≤ p) : NQ (pcheck (zup N 2 6 (N 2 6 + 1))) := by
  obtain ⟨np, w, u', v', p', r', a, b, c, e5⟩ := h
  have ea := a
  obtain ⟨⟨a1, a2, a3, a4⟩, ⟨b1, b2⟩, ⟨c1, c2⟩, ⟨d1, d2, d6⟩, f⟩ := a
  have z2 : ∀ k, k ≠ 6 → zup N 2 6 (N 2 6 + 1) 2 k = N 2 k := fun k hk => zup_ne _ _ _ _ (Or.inr hk)
  have z6 : zup N 2 6 (N 2 6 + 1) 2 6 = nI (s + 1) := by rw [zup_at]; exact ixA d6 (ixC 1)
  have z4 : zup N 2 6 (N 2 6 + 1) 4 = N 4 := zup_r (by decide)
  have hN : NW np w u' v' p' r' (s + 1) (zup N 2 6 (N 2 6 + 1)) := ⟨⟨(z2 21 (by decide)).trans a1, a2, by rw [z2 7 (by decide)]; exact a3, by rw [z4]; exact a4⟩, ⟨(z2 8 (by decide)).trans b1, b2⟩, ⟨(z2 12 (by decide)).trans c1, (z2 13 (by decide)).trans c2⟩, ⟨(z2 10 (by decide)).trans d1, (z2 11 (by decide)).trans d2, z6⟩, fun q hq => by rw [z2 _ (by omega)]; exact f q hq⟩
  unfold pcheck
  by_cases q : zup N 2 6 (N 2 6 + 1) 2 5 = 1 ∧ zup N 2 6 (N 2 6 + 1) 2 6 = 1000
  · rw [if_pos q]
    have hs1 : s + 1 = 1000 := (nI_eq (b := 1000) (by omega) (by decide)).mp (z6.symm.trans q.2)
    have o5 : zup (zup (zup N 2 6 (N 2 6 + 1)) 2 5 5) 2 16 0 2 5 = 5 := by rw [zup_ne _ _ _ _ (by omega), zup_at]
    exact ⟨np, w, u', v', p', r', s + 1, hN.same (by rw [zup_r (by decide), zup_r (by decide)]) (fun k hk => by rw [zup_ne _ _ _ _ (by omega), zup_ne _ _ _ _ (by omega)]), by omega, by omega, by omega, by omega, by omega, fun z => absurd (o5.symm.trans z) (by decide), fun _ => hs1⟩
  · rw [if_neg q]
    refine ⟨np, w, u', v', p', r', s + 1, hN, by omega, by omega, by omega, by omega, by omega, fun z => ?_, fun z => absurd ((z2 5 (by decide)).symm.trans z) e5⟩
    have z' : N 2 5 = 3 := (z2 5 (by decide)).symm.trans z
    rcases c with ⟨-, -, c⟩ | ⟨-, -, c⟩ | ⟨c, c'⟩
    · exact absurd z' c
    · exact absurd z' c
    · omega
theorem NQ.fail (h : NW np w u v p r s M) (hs : s ≤ 1000) (h1 : v ≤ u) (h2 : u ≤ s) (h3 : p ≤ s) (h4 : r ≤ p) (e4 : N 4 = M 4) (e2 : ∀ k, k ≠ 5 → k ≠ 7 → k ≠ 16 → N 2 k = M 2 k) (h7 : OXP np (N 2 7)) (h5 : N 2 5 = 4) : NQ N :=
  ⟨np, w, u, v, p, r, s, h.top e4 (fun k hk => e2 k (by omega) (by omega) (by omega)) h7, hs, h1, h2, h3, h4, fun z => absurd (h5.symm.trans z) (by decide), fun z => absurd (h5.symm.trans z) (by decide)⟩
/-- a step -/
theorem NQ.step (h : NQ M) (h5 : M 2 5 = 1) {st : Nat} (hst : st < 1000) (h6 : M 2 6 = nI st) (hv : pstepV M) : NQ (pstep M) := by
  obtain ⟨np, w, u, v, p, r, s, a, b1, b2, b3, b4, b5, -⟩ := h
  obtain rfl : s = st := (nI_eq (by omega) (by omega)).mp (a.2.2.2.1.2.2.symm.trans h6)
  by_cases h16 : M 2 16 = 2
  · obtain ⟨v1, v2, v3, v4, v5⟩ := hv.1 h16
    rw [pstep_e h16]
    obtain ⟨d, d1, d2, -⟩ := a.depth
    have hc : ((popens M).1 = 0 → (popens M).2 = M) ∧ (¬ (popens M).1 = 0 → NS u v p r s (popens M).2) := by
      unfold popens
      by_cases q0 : pkind M (M 2 17) = 0
      · rw [if_pos q0]
        exact ⟨fun z => absurd (show (1 : Int32) = 0 from z) (by decide), fun _ => NS.val a _⟩
      rw [if_neg q0]
      by_cases q1 : pkind M (M 2 17) = 1
      · rw [if_pos q1]
        exact ⟨fun z => absurd (show (1 : Int32) = 0 from z) (by decide), fun _ => NS.val a _⟩
      rw [if_neg q1]
      by_cases qd : pdepth M = 100
      · rw [if_pos qd]
        exact ⟨fun _ => rfl, fun z => absurd rfl z⟩
      rw [if_neg qd]
      refine ⟨fun z => absurd (show (1 : Int32) = 0 from z) (by decide), fun _ => ?_⟩
      have hd : d < 100 := by
        rcases Nat.lt_or_ge d 100 with z | z
        · exact z
        · exact absurd (by rw [d2, show d = 100 by omega]; rfl) qd
      have go : ∀ (P : zI) (x : Int32), NW np w u v p r s P → pdepth P = nI d → P 2 5 = 1 → pushV P → NS u v p r s (popP P (M 2 17) x) := fun P x hP hdP hP5 hpv => by
        obtain ⟨w', g1, -⟩ := hP.push hpv hdP hd (pframeOf (pkind P (M 2 17))) (M 2 17) (P 2 18) (P 2 19) x
        unfold popP
        refine NS.same (np := np + 1) (w := w') (g1.same (zup_r (by decide)) (fun k hk => zup_ne _ _ _ _ (by omega))) ?_
        rw [zup_ne _ _ _ _ (by omega), ppush_2 (by decide) (by decide) (by decide), hP5]
        decide
      try dsimp only
      by_cases q12 : pkind M (M 2 17) = 12
      · rw [if_pos q12]
        have hlt := (v4 q12).1
        have o2 : ∀ k, k < 23 → pop1 M 2 k = M 2 k := fun k hk => by
          unfold pop1
          try dsimp only
          rw [zup_ne _ _ _ _ (by omega), zup_ne _ _ _ _ (by omega)]
        have o4 : pop1 M 4 = M 4 := by
          unfold pop1
          try dsimp only
          rw [zup_r (by decide), zup_r (by decide)]
        obtain ⟨⟨a1, a2, a3, a4⟩, ⟨e1, e2⟩, ⟨c1, c2⟩, ⟨d1', d2', d6⟩, f⟩ := a
        refine go (pop1 M) _ ⟨⟨(o2 21 (by decide)).trans a1, a2, by rw [o2 7 (by decide)]; exact a3, by rw [o4]; exact a4⟩, ⟨(o2 8 (by decide)).trans e1, e2⟩, ⟨(o2 12 (by decide)).trans c1, (o2 13 (by decide)).trans c2⟩, ⟨(o2 10 (by decide)).trans d1', (o2 11 (by decide)).trans d2', (o2 6 (by decide)).trans d6⟩, fun q hq => ?_⟩ ?_ ((o2 5 (by decide)).trans h5) ⟨by rw [o2 21 (by decide)]; exact v5, by rw [o2 7 (by decide)]; exact v3⟩
        · unfold pop1
          try dsimp only
          rw [zup_ne _ _ _ _ (by omega)]
          by_cases z : q = tn (M 2 23)
          · subst z; rw [zup_at]; exact Or.inl rfl
          · rw [zup_ne _ _ _ _ (by omega)]; exact f q hq
        · rw [← d2]
          unfold pdepth pof
          rw [o2 7 (by decide), o4]
      · rw [if_neg q12]
        exact go M _ a d2 h5 ⟨v5, v3⟩
    by_cases q : (popens M).1 = 0
    · rw [if_pos q, hc.1 q]
      exact NQ.fail a b1 b2 b3 b4 b5 (by rw [zup_r (by decide), zup_r (by decide)]) (fun k k1 k2 k3 => by rw [zup_ne _ _ _ _ (Or.inr k3), zup_ne _ _ _ _ (Or.inr k1)]) (by rw [zup_ne _ _ _ _ (by omega), zup_ne _ _ _ _ (by omega)]; exact a.1.2.2.1) (by rw [zup_ne _ _ _ _ (by omega), zup_at])
    · rw [if_neg q]
      exact NQ.six (hc.2 q) hst b2 b3 b4 b5
  · obtain ⟨v1, v2⟩ := hv.2 h16
    rw [pstep_v h16]
    have hnp := a.1.2.1
    rcases a.1.2.2.1 with z | ⟨i, i1, i2⟩
    · exact absurd z (v1.nn (by decide))
    · have p5 : pof M (M 2 7) 5 = M 4 (7 * i + 5) := by rw [i2]; exact pof_n (k := 5) (by omega) (by decide)
      have z2 : ∀ k, k ≠ 7 → pcl1 M 2 k = M 2 k := fun k hk => zup_ne _ _ _ _ (Or.inr hk)
      have zr : ∀ r, r ≠ 2 → pcl1 M r = M r := fun r hr => zup_r hr
      have z7 : pcl1 M 2 7 = M 4 (7 * i + 5) := (zup_at _ _ _ _).trans p5
      obtain ⟨d, d1, d2, d3⟩ := a.1.2.2.2 i i1
      have hO : OXP np (M 4 (7 * i + 5)) := by
        rcases d3 with z | ⟨b, y1, y2, -⟩
        · exact Or.inl z.1
        · exact Or.inr ⟨b, by omega, y2⟩
      have a1 : NW np w u v p r s (pcl1 M) := a.top (zr 4 (by decide)) (fun k hk => z2 k (by omega)) (by rw [z7]; exact hO)
      have hd : pdepth (pcl1 M) = nI d := by
        unfold pdepth
        rw [z7]
        rcases d3 with ⟨z, y⟩ | ⟨b, y1, y2, y3, -⟩
        · rw [if_pos z, y]; rfl
        · rw [y2, if_neg ((iv_nI (N := 40000) (by omega) (by decide)).nn (by decide))]
          exact ((pof_n (k := 6) (by omega) (by decide)).trans (congrFun (zr 4 (by decide)) _)).trans y3
      have hVC := pcomes_NCM (y := pcl1 M 2 20) a1 ((z2 5 (by decide)).trans h5) v2 hd d1
      rcases pcomes_01 (pcl1 M) (M 2 7) (pcl1 M 2 20) with q | q
      · rw [pcloses_0 q, if_pos rfl]
        have b := hVC.2 q
        obtain ⟨P, eP⟩ : ∃ P, P = (pcomes (pcl1 M) (M 2 7) (pcl1 M 2 20)).2 := ⟨_, rfl⟩
        rw [← eP] at b ⊢
        exact NQ.fail (N := zup (zup (zup P 2 7 (M 2 7)) 2 5 4) 2 16 0) b b1 b2 b3 b4 b5 (by rw [zup_r (by decide), zup_r (by decide), zup_r (by decide)]) (fun k k1 k2 k3 => by rw [zup_ne _ _ _ _ (Or.inr k3), zup_ne _ _ _ _ (Or.inr k1), zup_ne _ _ _ _ (Or.inr k2)]) (by rw [zup_ne _ _ _ _ (by omega), zup_ne _ _ _ _ (by omega), zup_at]; exact a.1.2.2.1) (by rw [zup_ne _ _ _ _ (by omega), zup_at])
      · rw [pcloses_1 q, if_neg (show ¬ (1 : Int32) = 0 by decide)]
        exact NQ.six (hVC.1 q) hst b2 b3 b4 b5
/-- a value comes to an open run -/
theorem NQ.comes (h : NW np w u v p r s M) (hs : s ≤ 1000) (h1 : v ≤ u) (h2 : u ≤ s) (h3 : p ≤ s) (h4 : r ≤ p) (y : Int32) : NQ (pcheck (pbecome M y)) := by
  have hN := h.val y
  have e5 : ¬ pbecome M y 2 5 = 3 ∧ ¬ pbecome M y 2 5 = 5 := by
    rw [pbecome_v.2.2]
    by_cases q : M 2 7 = -9
    · rw [if_pos q]; decide
    · rw [if_neg q]; decide
  unfold pcheck
  by_cases q : pbecome M y 2 5 = 1 ∧ pbecome M y 2 6 = 1000
  · rw [if_pos q]
    have hs1 : s = 1000 := (nI_eq (b := 1000) (by omega) (by decide)).mp (hN.2.2.2.1.2.2.symm.trans q.2)
    have o5 : zup (zup (pbecome M y) 2 5 5) 2 16 0 2 5 = 5 := by rw [zup_ne _ _ _ _ (by omega), zup_at]
    exact ⟨np, w, u, v, p, r, s, hN.same (by rw [zup_r (by decide), zup_r (by decide)]) (fun k hk => by rw [zup_ne _ _ _ _ (by omega), zup_ne _ _ _ _ (by omega)]), hs, h1, h2, h3, h4, fun z => absurd (o5.symm.trans z) (by decide), fun _ => hs1⟩
  · rw [if_neg q]
    exact ⟨np, w, u, v, p, r, s, hN, hs, h1, h2, h3, h4, fun z => absurd z e5.1, fun z => absurd z e5.2⟩
theorem NQ.ans (h : NQ M) (y : Int32) : NQ (panswer M y).2 := by
  unfold panswer
  by_cases q : M 2 5 = 3
  · rw [if_pos q]
    obtain ⟨np, w, u, v, p, r, s, a, b1, b2, b3, b4, b5, -⟩ := h
    exact NQ.comes (a.same (zup_r (by decide)) (fun k hk => zup_ne _ _ _ _ (by omega))) b1 b2 b3 b4 b5 y
  · rw [if_neg q]; exact h
theorem NQ.drp (h : NQ M) (h11 : iv 1200 (M 2 11)) (h21 : iv 39999 (M 2 21)) (y : Int32) : NQ (pdrop M y).2 ∧ (M 2 5 = 3 → pdepth (pdrop M y).2 = 1) := by
  unfold pdrop
  by_cases q : M 2 5 = 3
  · rw [if_pos q]
    obtain ⟨np, w, u, v, p, r, s, a, b1, b2, b3, b4, b5, b6, -⟩ := h
    have b6 := b6 q
    obtain ⟨⟨a1, a2, a3, a4⟩, ⟨e1, e2⟩, ⟨c1, c2⟩, ⟨d1, d2, d6⟩, f⟩ := a
    have hlt := h11.1
    have o2 : ∀ k, k < 3630 ∨ 7230 ≤ k → k ≠ 7 → k ≠ 11 → k ≠ 15 → pdr1 M 2 k = M 2 k := fun k k1 k2 k3 k4 => by
      unfold pdr1 pmakeRes
      try dsimp only
      rw [zup_ne _ _ _ _ (by omega), zup_ne _ _ _ _ (by omega), zup_ne _ _ _ _ (by omega), zup_ne _ _ _ _ (by omega), zup_ne _ _ _ _ (by omega), zup_ne _ _ _ _ (by omega)]
    have o11 : pdr1 M 2 11 = nI (r + 1) := by
      unfold pdr1 pmakeRes
      try dsimp only
      rw [zup_ne _ _ _ _ (by omega), zup_ne _ _ _ _ (by omega), zup_ne _ _ _ _ (by omega), zup_ne _ _ _ _ (by omega), zup_ne _ _ _ _ (by omega), zup_at]
      exact ixA d2 (ixC 1)
    have o7 : pdr1 M 2 7 = -9 := zup_at _ _ _ _
    have o4 : pdr1 M 4 = M 4 := by
      unfold pdr1 pmakeRes
      try dsimp only
      rw [zup_r (by decide), zup_r (by decide), zup_r (by decide), zup_r (by decide), zup_r (by decide), zup_r (by decide)]
    have hN : NW np w u v p (r + 1) s (pdr1 M) := ⟨⟨(o2 21 (by omega) (by decide) (by decide) (by decide)).trans a1, a2, Or.inl o7, by rw [o4]; exact a4⟩, ⟨(o2 8 (by omega) (by decide) (by decide) (by decide)).trans e1, e2⟩, ⟨(o2 12 (by omega) (by decide) (by decide) (by decide)).trans c1, (o2 13 (by omega) (by decide) (by decide) (by decide)).trans c2⟩, ⟨(o2 10 (by omega) (by decide) (by decide) (by decide)).trans d1, o11, (o2 6 (by omega) (by decide) (by decide) (by decide)).trans d6⟩, fun j hj => by rw [o2 _ (by omega) (by omega) (by omega) (by omega)]; exact f j hj⟩
    have hd : pdepth (pdr1 M) = nI 0 := by
      unfold pdepth
      rw [if_pos o7]; rfl
    obtain ⟨w', g1, g2, -⟩ := hN.push ⟨by rw [o2 21 (by omega) (by decide) (by decide) (by decide)]; exact h21, Or.inl o7⟩ hd (by decide) 14 (-9) (-9) (-9) (M 2 11)
    refine ⟨NQ.comes g1 b1 b2 b3 b4 b6 y, fun _ => ?_⟩
    obtain ⟨P, eP⟩ : ∃ P, P = ppush (pdr1 M) 14 (-9) (-9) (-9) (M 2 11) := ⟨_, rfl⟩
    rw [← eP] at g2
    show pdepth (pcheck (pbecome (ppush (pdr1 M) 14 (-9) (-9) (-9) (M 2 11)) y)) = 1
    rw [← eP]
    have e7 : pcheck (pbecome P y) 2 7 = P 2 7 := pcheck_7a.1.trans (pbecome_2 (by decide) (by decide) (by decide))
    have e4 : pcheck (pbecome P y) 4 = P 4 := pcheck_7a.2.trans (pbecome_r (by decide))
    have : pdepth (pcheck (pbecome P y)) = pdepth P := by
      unfold pdepth pof
      rw [e7, e4]
    rw [this, g2]; rfl
  · rw [if_neg q]; exact ⟨h, fun z => absurd z q⟩
end NUN
