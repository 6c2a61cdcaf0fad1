/-! A step from a value, to its end: every frame. -/
set_option maxHeartbeats 2000000 in
theorem RN.val {b0 n0 c b w st : Nat} {g : zG} {f M : zI} {t : zTs} {sg rg mz fi : Nat → Nat} {el : Nat → Nat → Prop} {ci : Nat → Nat → Nat} {D nv nr nf np : Nat} {R : zRf} {C : zI}
    (hC : CO b0 n0 (g, f, M, t, (sg, el, rg, ci, mz, fi), (D + 1, nv, nr, nf, np)) R C) (hB : BO b0 n0 (g, f, M, t, (sg, el, rg, ci, mz, fi), (D + 1, nv, nr, nf, np)) R) (hb : b0 ≤ g.1) (hn0 : n0 ≤ g.1) (h2 : C 17 2 = M 2 5) (h3 : C 17 3 = nI st ∧ M 2 6 = nI st)
    (h : RN1 (g, f, M, t, (sg, el, rg, ci, mz, fi), (D + 1, nv, nr, nf, np)) R C st) (hc : c + 27 ≤ n0) (hw1 : C 19 2 = nI w) (hw2 : D + 1 ≤ w) (hw3 : w ≤ 1000) (hU : US (g, f, M, t, (sg, el, rg, ci, mz, fi), (D + 1, nv, nr, nf, np)) C b) :
    bstepV b0 g R f C c bK (D + 1) ∧ pstepV M ∧ ∃ y n, RN b0 n0 ((bstep g R f C bK (D + 1)).1, (bstep g R f C bK (D + 1)).2.2.1, pstep M, t, y, n) (bstep g R f C bK (D + 1)).2.1 (bstep g R f C bK (D + 1)).2.2.2 := by
  obtain ⟨m5, hst, m16, -, r4, c6, hP⟩ := h
  have m5 : M 2 5 = 1 := m5
  have m16 : M 2 16 = 1 := m16
  have c6 : C 17 6 = M 2 20 := c6
  have n16 : ¬ M 2 16 = 2 := by rw [m16]; decide
  have hD : D + 1 ≤ 100 := hC.2.2.2.1.1
  have hnp : np ≤ 39800 := hC.2.2.2.2.2.2.2.2
  obtain ⟨x, κ, x1, h7, hbl, hpop, ⟨y1, y2, y3, y4, y5, y6⟩, k1, k2, hCp, hBp, r2⟩ := CO.pop hC hB
  have e17 : ∀ j, zup C 19 1 (nI D) 17 j = C 17 j := fun j => zup_ne _ _ _ _ (by omega)
  have hnone : ∀ e, R 17 4 = some e → (f e 0 = 97 → blookV g f (f e 1) bK (R 17 5)) := fun e he => absurd (r4.symm.trans he) (fun z => by cases z)
  have hV0 : boutV b0 g R f C c (D + 1) x → bstepV b0 g R f C c bK (D + 1) := fun q => ⟨hnone, fun _ x' hx' => by
    obtain rfl : x = x' := Option.some.inj (hbl.symm.trans hx')
    exact q⟩
  have hpV : pcomesV (pcl1 M) (nI (fi D)) → pstepV M := fun q => ⟨fun z => absurd z n16, fun _ => ⟨by rw [h7]; exact iv_nI (by omega) (by decide), by rw [h7]; exact q⟩⟩
  have v20 : pcl1 M 2 20 = M 2 20 := r2 20 (by decide)
  have pt : 3 * np + 5 ≤ 105 * (st + 1) + 2 * D ∧ nv ≤ st ∧ nr ≤ st ∧ nf ≤ st ∧ (¬ κ = 14 → 3 * np + 103 ≤ 105 * (st + 1) + 2 * D) := by
    rcases hP with ⟨q1, q2, q3, q4⟩ | ⟨⟨q1, q2, q3, q4⟩, q5, q6⟩
    · have q1 : 3 * np ≤ 0 + 105 * st + 2 * (D + 1) := q1
      exact ⟨by omega, q2, q3, q4, fun _ => by omega⟩
    · have q1 : 3 * np ≤ 98 + 105 * st + 2 * (D + 1) := q1
      have q5 : D + 1 = 1 := q5
      refine ⟨by omega, q2, q3, q4, fun q => absurd ?_ q⟩
      obtain rfl : D = 0 := by omega
      have e4 : pcl1 M 4 = M 4 := zup_r (by decide)
      exact (nI_eq (by omega) (by decide)).mp (y4.symm.trans ((congrFun e4 _).trans q6))
  have hVH : ¬ κ = 14 → VH b0 n0 (g, f, pcl1 M, t, (sg, el, rg, ci, mz, fi), (D, nv, nr, nf, np)) R (zup C 19 1 (nI D)) st (fi D) x κ (pcl1 M 2 20) := fun q =>
    ⟨⟨hCp, hBp, hb, hn0⟩, ⟨y1, y2, y3, y4, y5, y6⟩, ⟨(e17 2).trans (h2.trans m5), r4, (e17 6).trans (c6.trans v20.symm)⟩, ⟨(r2 5 (by decide)).trans m5, (e17 3).trans h3.1, (r2 6 (by decide)).trans h3.2⟩, hst, ⟨pt.2.2.2.2 q, pt.2.1, pt.2.2.1, pt.2.2.2.1⟩, by show D < 100; omega⟩
  by_cases k14 : κ = 14
  · subst k14
    have hUp : US (g, f, pcl1 M, t, (sg, el, rg, ci, mz, fi), (D, nv, nr, nf, np)) C b := hU.ext (Nat.le_refl _) hU.1 rfl (fun r => r2 _ (by omega)) (congrFun (zup_r (by decide) : pcl1 M 0 = M 0) 27) (zup_r (by decide) : pcl1 M 19 = M 19) rfl rfl
    obtain ⟨a1, a2, a3, a4, a5⟩ := CO.close (v := pcl1 M 2 20) hCp hBp hb hn0 y1 y2 y3 y4 y5 y6 (h2.trans m5) r4 (c6.trans v20.symm) ((r2 5 (by decide)).trans m5) ⟨h3.1, (r2 6 (by decide)).trans h3.2⟩ hst (by omega) pt.2.1 pt.2.2.1 pt.2.2.2.1 (by omega) hc hC.2.2.2.2.1.1.1 hw1 hw2 hw3 x1 hUp
    have f14 : f x 0 = 14 := y5
    refine ⟨hV0 ⟨fun z => absurd (f14.symm.trans z) (by decide), fun _ => ⟨a1, a2⟩, fun z => absurd (f14.symm.trans z) (by decide), fun _ z => absurd f14 z⟩, hpV a3, ?_⟩
    unfold bstep
    rw [bstep0_n r4, hbl, bout_14 f14, pstep_v n16]
    rcases a5 with ⟨z1, z2, z3, z4, z5, z6⟩ | ⟨z1, y, n, z2⟩
    · rw [pcloses_0 (by rw [h7]; exact a4.trans z1), bfin_0 z1, if_pos rfl, h7]
      simp only
      rw [z5, z6]
      have q1 : ∀ k, k ≠ 0 → k ≠ 17 → k ≠ 18 → k ≠ 19 → zup (pcomes (pcl1 M) (nI (fi D)) (pcl1 M 2 20)).2 2 7 (nI (fi D)) k = M k := by
        intro k h1 h2 h3 h4
        funext j
        by_cases e : k = 2 ∧ j = 7
        · obtain ⟨rfl, rfl⟩ := e; rw [zup_at]; exact h7.symm
        · rw [zup_ne _ _ _ _ (by omega), z2.1 k h1 h2 h3 h4]
          exact zup_ne _ _ _ _ (by omega)
      have hCf := hC.of (R' := (blcl g R f C x).2.1) (C' := (blcl g R f C x).2.2.2) (M' := zup (pcomes (pcl1 M) (nI (fi D)) (pcl1 M 2 20)).2 2 7 (nI (fi D))) zXt.rf (fun _ _ => rfl) (q1 1 (by decide) (by decide) (by decide) (by decide)) (fun j _ => congrFun (q1 4 (by decide) (by decide) (by decide) (by decide)) j) (fun j _ => congrFun (q1 2 (by decide) (by decide) (by decide) (by decide)) j) (z4 20 (by decide))
        ⟨z3.1 19 (by decide) (by decide) (by decide), z3.1 21 (by decide) (by decide) (by decide), z3.1 22 (by decide) (by decide) (by decide), z3.1 23 (by decide) (by decide) (by decide), z3.1 24 (by decide) (by decide) (by decide), z3.1 25 (by decide) (by decide) (by decide), congrFun (z3.1 17 (by decide) (by decide) (by decide)) 11⟩
      have hE : EXT (g, f, M, t, (sg, el, rg, ci, mz, fi), (D + 1, nv, nr, nf, np)) (g, f, zup (pcomes (pcl1 M) (nI (fi D)) (pcl1 M 2 20)).2 2 7 (nI (fi D)), t, (sg, el, rg, ci, mz, fi), (D + 1, nv, nr, nf, np)) :=
        ⟨⟨zXt.rf, fun _ _ => rfl⟩, fun j _ => congrFun (q1 4 (by decide) (by decide) (by decide) (by decide)) j, ⟨q1 1 (by decide) (by decide) (by decide) (by decide), rfl⟩, ⟨Nat.le_refl _, Nat.le_refl _, Nat.le_refl _, Nat.le_refl _⟩, fun _ _ => ⟨rfl, rfl⟩, fun _ _ => ⟨rfl, rfl, rfl⟩⟩
      have hBf := hB.ext (R' := (blcl g R f C x).2.1) hE (fun j _ => congrFun (q1 2 (by decide) (by decide) (by decide) (by decide)) j) (congrFun (z4 17 (by decide)) 0) (z4 18 (by decide))
      exact ⟨_, _, CO.fail (st := st) hCf hBf ⟨(congrFun (z3.1 17 (by decide) (by decide) (by decide)) 3).trans h3.1, (congrFun (q1 2 (by decide) (by decide) (by decide) (by decide)) 6).trans h3.2⟩ (by omega)⟩
    · have z3 : ¬ (blcl g R f C x, blclA g R f C x).2 = 0 := by show ¬ blclA g R f C x = 0; rw [z1]; decide
      rw [pcloses_1 (by rw [h7]; exact a4.trans z1), bfin_1 z3, if_neg (show ¬ ((1 : Int32) = 0) by decide), h7]
      exact ⟨y, n, z2.fin hst⟩
  have hvh := hVH k14
  by_cases k11 : κ = 11
  · subst k11
    obtain ⟨a, a1, a2, a3, a4, a5⟩ := hvh.c11 hc hC.2.2.2.2.1.1.1
    have a1 : g.2.2.2 x 4 = some a := a1
    have f11 : f x 0 = 11 := y5
    refine ⟨hV0 ⟨fun _ a' ha' => ?_, fun z => absurd (f11.symm.trans z) (by decide), fun z => absurd (f11.symm.trans z) (by decide), fun z => absurd f11 z⟩, hpV a3, ?_⟩
    · obtain rfl : a = a' := Option.some.inj (a1.symm.trans ha')
      exact a2
    unfold bstep
    rw [bstep0_n r4, hbl, bout_11 f11, a1, pstep_v n16]
    rcases a5 with ⟨z1, z2, z3⟩ | ⟨z1, y, n, z2⟩
    · have hback : zup (pcl1 M) 2 7 (nI (fi D)) = M := by
        unfold pcl1
        rw [zup_zup]
        exact zupR_self h7
      rw [pcloses_0 (by rw [h7]; exact a4.trans z1), bfin_0 z1, if_pos rfl, h7, z3, hback, z2]
      exact ⟨_, _, hC.fail hB h3 (by omega)⟩
    · have z3 : ¬ (((g, (bresu g R f C (some a)).1, f, (bresu g R f C (some a)).2) : bSt), bresuA g C (some a)).2 = 0 := by show ¬ bresuA g C (some a) = 0; rw [z1]; decide
      rw [pcloses_1 (by rw [h7]; exact a4.trans z1), bfin_1 z3, if_neg (show ¬ ((1 : Int32) = 0) by decide), h7]
      exact ⟨y, n, z2.fin hst⟩
  · obtain ⟨a1, S, a2, a3⟩ := hvh.all hpop k1 (by omega) k11 hc
    obtain ⟨b1, b2⟩ := RN.vr a2 hbl r4 n16 (by omega) h7 a3 hst
    exact ⟨hV0 a1, b1, b2⟩
