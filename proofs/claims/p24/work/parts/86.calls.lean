/-! The calls of a run, in both: run, answer, drop, begin. -/
theorem dm_of {C D : zI} (h : DM C) (h1 : D 19 1 = C 19 1) (h2 : D 19 2 = C 19 2) : DM D := by
  obtain ⟨a, w, a1, a2, a3, a4⟩ := h
  exact ⟨a, w, h1.trans a1, h2.trans a2, a3, a4⟩
/-- the stamps of searches, in both -/
def GL (b : Nat) (C M : zI) : Prop := (∃ s, s ≤ b ∧ CS s C) ∧ MG b M
theorem GL.mono {b b' : Nat} {C M : zI} (h : GL b C M) (k : b ≤ b') : GL b' C M := by
  obtain ⟨⟨s, s1, s2⟩, h2⟩ := h
  exact ⟨⟨s, by omega, s2⟩, h2.mono k⟩
theorem GL.of {b : Nat} {C M D N : zI} (h : GL b C M) (h13 : D 13 4 = C 13 4) (h16 : D 16 = C 16) (h0 : N 0 27 = M 0 27) (h19 : N 19 = M 19) : GL b D N := by
  obtain ⟨⟨s, s1, s2⟩, h2⟩ := h
  exact ⟨⟨s, s1, s2.of h13 h16⟩, h2.of h0 h19⟩
theorem UC.mono {b b' : Nat} {C : zI} (h : UC b C) (k : b ≤ b') : UC b' C := fun r => by
  obtain ⟨u, a, e⟩ := h r
  exact ⟨u, by omega, e⟩
theorem RQ.mono {b0 n0 b b' : Nat} {X : zCt} {R : zRf} {C : zI} (h : RQ b0 n0 X R C b) (k : b ≤ b') : RQ b0 n0 X R C b' := ⟨h.1, h.2.1, h.2.2.1.mono k, h.2.2.2⟩
theorem RQ.run {b0 n0 c b : Nat} {g : zG} {f M : zI} {t : zTs} {y : zGs} {n : zNs} {R : zRf} {C : zI} (h : RQ b0 n0 (g, f, M, t, y, n) R C b) (hG : GL b C M) (hg : b0 ≤ g.1 ∧ n0 ≤ g.1) (hb : b + 200 ≤ 1000000000) (hc : c + 27 ≤ n0) (x : Int32) :
    (¬ (x < 1 ∨ 200 < x) → C 17 2 = 1 → brunV b0 c (tn x) (g, R, f, C)) ∧ (¬ (x < 1 ∨ 200 < x) → M 2 5 = 1 → prunV (tn x) M) ∧ (¬ (x < 1 ∨ 200 < x) → brunc (tn x) (g, R, f, C) ≤ 11256 ∧ brunk (tn x) (g, R, f, C) ≤ 335) ∧ (brunM g R f C x).2 = (prun M x).1 ∧
    KF (g, R, f, C) (brunM g R f C x).1 ∧ MF M (prun M x).2 ∧ ∃ y' n', RQ b0 n0 ((brunM g R f C x).1.1, (brunM g R f C x).1.2.2.1, (prun M x).2, t, y', n') (brunM g R f C x).1.2.1 (brunM g R f C x).1.2.2.2 (b + 200) ∧ GL (b + 200) (brunM g R f C x).1.2.2.2 (prun M x).2 := by
  have e0 : C 17 2 = M 2 5 := h.base.2.2.1
  by_cases q : x < 1 ∨ 200 < x
  · rw [brunM_b q, show prun M x = (-1, M) from if_pos q]
    exact ⟨fun z => absurd q z, fun z => absurd q z, fun z => absurd q z, rfl, KF.rf _, MF.rf _, y, n, h.mono (by omega), hG.mono (by omega)⟩
  · by_cases q2 : C 17 2 = 1
    · have q3 : M 2 5 = 1 := e0.symm.trans q2
      have hx : tn x ≤ 200 := by
        have := (iv201 q).1
        omega
      have hRI : RI b0 n0 (g, f, M, t, y, n) R C b := by
        refine ⟨h.1.resolve_right (fun z => absurd (z.2.2.1.1.symm.trans q2) (by decide)), hg, h.2.1, ⟨h.2.2.1, hG.1⟩, hG.2⟩
      obtain ⟨⟨a1, a2⟩, a3, a4, y', n', a5⟩ := RI.run hc (tn x) b g f M y n R C hRI (by omega)
      rw [brunM_r q q2, show prun M x = (prunA (tn x) M 2 5, prunA (tn x) M) from (if_neg q).trans (if_pos q3)]
      have a5' := a5.mono (b' := b + 200) (by omega)
      have hop := h.2.2.2
      refine ⟨fun _ _ => a1, fun _ _ => a2, fun _ => ?_, a5.1.2.2.1, a4, (MH.runA (b := b) (tn x) M ⟨MF.rf M, hG.2⟩).1, y', n', ⟨Or.inl a5'.1, a5'.2.2.1, a5'.2.2.2.1.1, OP.runA _ _ hop⟩, a5'.2.2.2.1.2, a5'.2.2.2.2⟩
      have := vl_le M
      have := vk_le M
      exact ⟨by omega, by omega⟩
    · have q3 : ¬ M 2 5 = 1 := fun z => q2 (e0.trans z)
      have e1 : brunc (tn x) (g, R, f, C) = 0 := by
        cases tn x with
        | zero => rfl
        | succ j => exact if_neg q2
      have e2 : brunk (tn x) (g, R, f, C) = 0 := by
        cases tn x with
        | zero => rfl
        | succ j => exact if_neg q2
      rw [brunM_s q q2, show prun M x = (-2, M) from (if_neg q).trans (if_neg q3), e1, e2]
      exact ⟨fun _ z => absurd z q2, fun _ z => absurd z q3, fun _ => ⟨by omega, by omega⟩, rfl, KF.rf _, MF.rf _, y, n, h.mono (by omega), hG.mono (by omega)⟩
/-- a value comes to a run from outside -/
theorem CO.goOn {b0 n0 st : Nat} {g : zG} {f M : zI} {t : zTs} {y : zGs} {n : zNs} {R : zRf} {C : zI} (hC : CO b0 n0 (g, f, M, t, y, n) R C) (hB : BO b0 n0 (g, f, M, t, y, n) R) (h3 : C 17 3 = nI st ∧ M 2 6 = nI st) (hst : st ≤ 1000) (v : Int32)
    (hP : PT (g, f, M, t, y, n) (st + 1) 0) (hP1 : 1 ≤ n.1 → (PT (g, f, M, t, y, n) st 0 ∨ (PT (g, f, M, t, y, n) st 98 ∧ n.1 = 1 ∧ M 4 (7 * y.2.2.2.2.2 0) = nI 14))) :
    RN b0 n0 (g, f, pcheck (pbecome M v), t, y, n) (zup R 17 4 none) (bend (zup (zup C 17 6 v) 17 2 1) (zup R 17 4 none)) := by
  have e4 : zup R 17 4 none 17 4 = none := zup_at _ _ _ _
  have d19 : ∀ r, r ≠ 17 → zup (zup C 17 6 v) 17 2 1 r = C r := fun r hr => by rw [zup_r hr, zup_r hr]
  have d17 : ∀ j, j ≠ 6 → j ≠ 2 → zup (zup C 17 6 v) 17 2 1 17 j = C 17 j := fun j h6 h2 => by rw [zup_ne _ _ _ _ (Or.inr h2), zup_ne _ _ _ _ (Or.inr h6)]
  have d2 : zup (zup C 17 6 v) 17 2 1 17 2 = 1 := zup_at _ _ _ _
  have d6 : zup (zup C 17 6 v) 17 2 1 17 6 = v := by rw [zup_ne _ _ _ _ (by omega), zup_at]
  have d3 : zup (zup C 17 6 v) 17 2 1 17 3 = nI st := (d17 3 (by decide) (by decide)).trans h3.1
  have c1 : C 19 1 = nI n.1 := hC.2.2.2.2.1.1.1
  have hd : n.1 ≤ 100 := hC.2.2.2.1.1
  have c1' : zup (zup C 17 6 v) 17 2 1 19 1 = nI n.1 := (congrFun (d19 19 (by decide)) 1).trans c1
  obtain ⟨hC', hB', -, -⟩ := CO.become (R' := zup R 17 4 none) (C' := zup (zup C 17 6 v) 17 2 1) hC hB v st ⟨zup_r (by decide), zup_r (by decide), zup_ne _ _ _ _ (by omega), e4⟩ ⟨d19 19 (by decide), d19 21 (by decide), d19 22 (by decide), d19 23 (by decide), d19 24 (by decide), d19 25 (by decide), d17 11 (by decide) (by decide)⟩ d2 d6 ⟨d3, h3.2⟩ hP
  have hv := pbecome_v (M := M) (v := v)
  have h7 := hC.seven
  have z6 : pbecome M v 2 6 = nI st := (pbecome_2 (by decide) (by decide) (by decide)).trans h3.2
  have z4 : pbecome M v 4 = M 4 := pbecome_r (by decide)
  have z5 : pbecome M v 2 5 = (if n.1 = 0 then 2 else 1) := by
    rw [hv.2.2]
    by_cases q : n.1 = 0
    · rw [if_pos q, if_pos (h7.mpr q)]
    · rw [if_neg q, if_neg (fun e => q (h7.mp e))]
  by_cases q : n.1 = 0
  · -- the end
    rw [if_pos q] at z5
    have ep : pcheck (pbecome M v) = pbecome M v := if_neg (fun z => absurd (z5.symm.trans z.1) (by decide))
    have eb : bend (zup (zup C 17 6 v) 17 2 1) (zup R 17 4 none) = zup (zup (zup C 17 6 v) 17 2 1) 17 2 2 := by
      unfold bend
      rw [if_pos d2, if_pos ⟨e4, by rw [c1', q]; rfl⟩]
    rw [ep, eb]
    obtain ⟨k1, k2, -⟩ := hC'.low (N := pbecome M v) (D := zup (zup (zup C 17 6 v) 17 2 1) 17 2 2) hB' (fun _ _ => rfl) (fun _ _ _ _ => rfl) (fun k hk => zup_r hk) (zup_ne _ _ _ _ (by omega))
    refine ⟨k1, k2, (zup_at _ _ _ _).trans z5.symm, st, hst, (zup_ne _ _ _ _ (by omega)).trans d3, z6, Or.inr (Or.inr (Or.inl ⟨z5, hv.1, q, e4, ?_⟩))⟩
    show zup _ 17 2 2 17 6 = pbecome M v 2 20
    rw [zup_ne _ _ _ _ (by omega), d6, hv.2.1]
  · rw [if_neg q] at z5
    by_cases q2 : st < 1000
    · have ep : pcheck (pbecome M v) = pbecome M v := if_neg (fun z => absurd ((nI_eq (b := 1000) (by omega) (by decide)).mp (z6.symm.trans z.2)) (by omega))
      have eb : bend (zup (zup C 17 6 v) 17 2 1) (zup R 17 4 none) = zup (zup C 17 6 v) 17 2 1 := by
        unfold bend
        rw [if_pos d2, if_neg (fun z => q ((nI_eq (b := 0) (by omega) (by decide)).mp (c1'.symm.trans z.2))), if_pos (by rw [d3]; exact nI_lt (b := 1000) q2 (by decide))]
      rw [ep, eb]
      refine ⟨hC', hB', d2.trans z5.symm, st, hst, d3, z6, Or.inl ⟨z5, q2, hv.1, by show 1 ≤ n.1; omega, e4, d6.trans hv.2.1.symm, (hP1 (by omega)).imp id (fun z => ⟨z.1, z.2.1, ?_⟩)⟩⟩
      exact (congrFun z4 _).trans z.2.2
    · obtain rfl : st = 1000 := by omega
      have ep : pcheck (pbecome M v) = zup (zup (pbecome M v) 2 5 5) 2 16 0 := if_pos ⟨z5, z6⟩
      have eb : bend (zup (zup C 17 6 v) 17 2 1) (zup R 17 4 none) = zup (zup (zup C 17 6 v) 17 2 1) 17 2 5 := by
        unfold bend
        rw [if_pos d2, if_neg (fun z => q ((nI_eq (b := 0) (by omega) (by decide)).mp (c1'.symm.trans z.2))), if_neg (by rw [d3]; decide)]
      rw [ep, eb]
      obtain ⟨k1, k2, -⟩ := hC'.low (N := zup (zup (pbecome M v) 2 5 5) 2 16 0) (D := zup (zup (zup C 17 6 v) 17 2 1) 17 2 5) hB' (fun k hk => by rw [zup_r hk, zup_r hk]) (fun j a b c => by rw [zup_ne _ _ _ _ (Or.inr c), zup_ne _ _ _ _ (Or.inr a)]) (fun k hk => zup_r hk) (zup_ne _ _ _ _ (by omega))
      have w16 : zup (zup (pbecome M v) 2 5 5) 2 16 0 2 16 = 0 := zup_at _ _ _ _
      have w5 : zup (zup (pbecome M v) 2 5 5) 2 16 0 2 5 = 5 := by rw [zup_ne _ _ _ _ (by omega), zup_at]
      refine ⟨k1, k2, (zup_at _ _ _ _).trans w5.symm, 1000, Nat.le_refl _, (zup_ne _ _ _ _ (by omega)).trans d3, ?_, Or.inr (Or.inr (Or.inr (Or.inr (Or.inr ⟨w5, w16⟩))))⟩
      show zup (zup (pbecome M v) 2 5 5) 2 16 0 2 6 = _
      rw [zup_ne _ _ _ _ (by omega), zup_ne _ _ _ _ (by omega)]; exact z6
theorem bend_r {C : zI} {R : zRf} {r : Nat} (h : r ≠ 17) : bend C R r = C r := by
  unfold bend
  repeat' split
  all_goals first
    | rfl
    | exact zup_r h
/-- an open run is answered -/
theorem RQ.answer {b0 n0 b : Nat} {g : zG} {f M : zI} {t : zTs} {y : zGs} {n : zNs} {R : zRf} {C : zI} (h : RQ b0 n0 (g, f, M, t, y, n) R C b) (hG : GL b C M) (v : Int32) :
    (banswer R C v).1 = (panswer M v).1 ∧ KF (g, R, f, C) (g, (banswer R C v).2.1, f, (banswer R C v).2.2) ∧ MF M (panswer M v).2 ∧ RQ b0 n0 (g, f, (panswer M v).2, t, y, n) (banswer R C v).2.1 (banswer R C v).2.2 b ∧ GL b (banswer R C v).2.2 (panswer M v).2 := by
  obtain ⟨hC, hB, e0, -⟩ := h.base
  have e0 : C 17 2 = M 2 5 := e0
  by_cases q : C 17 2 = 3
  · have q3 : M 2 5 = 3 := e0.symm.trans q
    rw [banswer_t q, show panswer M v = (pdepth (pcheck (pbecome (zup M 2 15 (-9)) v)), pcheck (pbecome (zup M 2 15 (-9)) v)) from if_pos q3]
    obtain ⟨st, hS, s1, s2, s3⟩ : ∃ st, RN4 (g, f, M, t, y, n) R C st ∧ st ≤ 1000 ∧ C 17 3 = nI st ∧ M 2 6 = nI st := by
      rcases h.cases with z | ⟨_, z, _⟩ | ⟨z, _⟩ | ⟨st, _, z⟩ | z | z
      · exact absurd (z.symm.trans q3) (by decide)
      · exact absurd (z.symm.trans q3) (by decide)
      · exact absurd (z.symm.trans q3) (by decide)
      · exact ⟨st, z⟩
      · exact absurd (z.symm.trans q3) (by decide)
      · exact absurd (z.symm.trans q3) (by decide)
    obtain ⟨-, -, -, -, -, -, p1, p2, p3, p4⟩ := hS
    have p1 : 3 * n.2.2.2.2 + 103 ≤ 105 * st + 2 * n.1 := p1
    have p2 : n.2.1 ≤ st := p2
    have p3 : n.2.2.1 + 1 ≤ st := p3
    have p4 : n.2.2.2.1 ≤ st := p4
    have m15 : ∀ r, r ≠ 2 → zup M 2 15 (-9) r = M r := fun r hr => zup_r hr
    have m15b : ∀ j, j ≠ 15 → zup M 2 15 (-9) 2 j = M 2 j := fun j hj => zup_ne _ _ _ _ (Or.inr hj)
    have hC1 : CO b0 n0 (g, f, zup M 2 15 (-9), t, y, n) R C := hC.of zXt.rf (fun _ _ => rfl) (m15 1 (by decide)) (fun j _ => congrFun (m15 4 (by decide)) j) (fun j hj => m15b j (by unfold CW2 at hj; omega)) rfl ⟨rfl, rfl, rfl, rfl, rfl, rfl, rfl⟩
    have hE : EXT (g, f, M, t, y, n) (g, f, zup M 2 15 (-9), t, y, n) := ⟨⟨zXt.rf, fun _ _ => rfl⟩, fun j _ => congrFun (m15 4 (by decide)) j, ⟨m15 1 (by decide), rfl⟩, ⟨Nat.le_refl _, Nat.le_refl _, Nat.le_refl _, Nat.le_refl _⟩, fun _ _ => ⟨rfl, rfl⟩, fun _ _ => ⟨rfl, rfl, rfl⟩⟩
    have hB1 : BO b0 n0 (g, f, zup M 2 15 (-9), t, y, n) R := hB.ext hE (fun j hj => m15b j (by omega)) rfl rfl
    have hR := CO.goOn hC1 hB1 ⟨s2, (m15b 6 (by decide)).trans s3⟩ s1 v ⟨by show 3 * n.2.2.2.2 ≤ 0 + 105 * (st + 1) + 2 * n.1; omega, by show n.2.1 ≤ st + 1; omega, by show n.2.2.1 ≤ st + 1; omega, by show n.2.2.2.1 ≤ st + 1; omega⟩
      (fun _ => Or.inl ⟨by show 3 * n.2.2.2.2 ≤ 0 + 105 * st + 2 * n.1; omega, p2, by show n.2.2.1 ≤ st; omega, p4⟩)
    have hd := hR.1.depth
    have hMH : MH b M (pcheck (pbecome (zup M 2 15 (-9)) v)) := MH.chk (MH.bec (MH.z ⟨MF.rf M, hG.2⟩ (Or.inl ⟨rfl, by decide⟩)))
    have hMX : MX (pcheck (pbecome (zup M 2 15 (-9)) v)) := MX.chk (MX.bec (zup_at _ _ _ _))
    have eb : ∀ r, r ≠ 17 → bend (zup (zup C 17 6 v) 17 2 1) (zup R 17 4 none) r = C r := fun r hr => by rw [bend_r hr, zup_r hr, zup_r hr]
    have hK : KF (g, R, f, C) (g, zup R 17 4 none, f, bend (zup (zup C 17 6 v) 17 2 1) (zup R 17 4 none)) := KF.r4.tr ((KF.c17.tr KF.c17).tr KF.ende)
    have hUC : UC b (bend (zup (zup C 17 6 v) 17 2 1) (zup R 17 4 none)) := fun r => by rw [eb 22 (by decide)]; exact h.2.2.1 r
    refine ⟨?_, hK, hMH.1, ⟨Or.inl hR, h.2.1.of (eb 19 (by decide)), hUC, Or.inr hMX⟩, ⟨?_, hMH.2⟩⟩
    · show bend (zup (zup C 17 6 v) 17 2 1) (zup R 17 4 none) 19 1 = pdepth (pcheck (pbecome (zup M 2 15 (-9)) v))
      rw [eb 19 (by decide)]
      exact hC.2.2.2.2.1.1.1.trans hd.symm
    · obtain ⟨s, s1, s2⟩ := hG.1
      exact ⟨s, s1, s2.of (congrFun (eb 13 (by decide)) 4) (eb 16 (by decide))⟩
  · have q3 : ¬ M 2 5 = 3 := fun z => q (e0.trans z)
    rw [banswer_f q, show panswer M v = (-2, M) from if_neg q3]
    exact ⟨rfl, KF.rf _, MF.rf _, h, hG⟩
/-- an open run is dropped -/
theorem RQ.drop {b0 n0 b : Nat} {g : zG} {f M : zI} {t : zTs} {y : zGs} {n : zNs} {R : zRf} {C : zI} (h : RQ b0 n0 (g, f, M, t, y, n) R C b) (hG : GL b C M) (hg : b0 ≤ g.1 ∧ n0 ≤ g.1) (v : Int32) :
    (bdrop g R f C v n.1).2 = (pdrop M v).1 ∧ (M 2 5 = 3 → iv 39999 (pdr1 M 2 21)) ∧ KF (g, R, f, C) (bdrop g R f C v n.1).1 ∧ MF M (pdrop M v).2 ∧ ∃ y' n', RQ b0 n0 ((bdrop g R f C v n.1).1.1, (bdrop g R f C v n.1).1.2.2.1, (pdrop M v).2, t, y', n') (bdrop g R f C v n.1).1.2.1 (bdrop g R f C v n.1).1.2.2.2 b ∧ GL b (bdrop g R f C v n.1).1.2.2.2 (pdrop M v).2 := by
  obtain ⟨hC, hB, e0, -⟩ := h.base
  have e0 : C 17 2 = M 2 5 := e0
  by_cases q : C 17 2 = 3
  · have q3 : M 2 5 = 3 := e0.symm.trans q
    rw [bdrop_t q, show pdrop M v = (pdepth M, pcheck (pbecome (ppush (pdr1 M) 14 (-9) (-9) (-9) (M 2 11)) v)) from if_pos q3]
    obtain ⟨st, hS, s1, s2, s3⟩ : ∃ st, RN4 (g, f, M, t, y, n) R C st ∧ st ≤ 1000 ∧ C 17 3 = nI st ∧ M 2 6 = nI st := by
      rcases h.cases with z | ⟨_, z, _⟩ | ⟨z, _⟩ | ⟨st, _, z⟩ | z | z
      · exact absurd (z.symm.trans q3) (by decide)
      · exact absurd (z.symm.trans q3) (by decide)
      · exact absurd (z.symm.trans q3) (by decide)
      · exact ⟨st, z⟩
      · exact absurd (z.symm.trans q3) (by decide)
      · exact absurd (z.symm.trans q3) (by decide)
    obtain ⟨d, nv, nr, nf, np⟩ := n
    obtain ⟨sg, el, rg, ci, mz, fi⟩ := y
    obtain ⟨-, -, -, -, -, -, p1, p2, p3, p4⟩ := hS
    have p1 : 3 * np + 103 ≤ 105 * st + 2 * d := p1
    have p2 : nv ≤ st := p2
    have p3 : nr + 1 ≤ st := p3
    have p4 : nf ≤ st := p4
    have hd100 : d ≤ 100 := hC.2.2.2.1.1
    have hb := hC.2.2.2.2.2
    have hnp : np ≤ 39800 := hb.2.2.2
    have c1 : C 19 1 = nI d := hC.2.2.2.2.1.1.1
    have c21 : C 21 1 = nI nr := hC.2.2.2.2.1.2.2.1.2
    have m11 : M 2 11 = nI nr := hC.2.2.2.2.1.2.2.1.1
    have hd7 : M 2 7 = (if d = 0 then -9 else nI (fi (d - 1))) := hC.2.2.2.1.2.1
    have hdp : pdepth M = nI d := hC.depth
    -- the resumption
    have g4 : pmakeRes M (M 2 7) (pdepth M) = pmakeN M (M 2 7) (nI d) nr := by rw [hdp]; exact pmake_N m11 (by omega)
    have hC4 := hC.res (p := 0) (m := d) (top := M 2 7) (by omega) hg.1 hg.2 (by omega) hd7
    obtain ⟨P4, e4⟩ : ∃ P4, P4 = pmakeN M (M 2 7) (nI d) nr := ⟨_, rfl⟩
    rw [← e4] at hC4 g4
    have x4 : ∀ r, r ≠ 2 → P4 r = M r := fun r hr => by rw [e4]; exact pmakeN_r hr
    have x42 : ∀ j, j ≠ 11 → j < 3630 → P4 2 j = M 2 j := fun j hj hj2 => by rw [e4]; exact pmakeN_o hj (by omega)
    have m15 : ∀ r, r ≠ 2 → zup P4 2 15 (-9) r = P4 r := fun r hr => zup_r hr
    have m15b : ∀ j, j ≠ 15 → zup P4 2 15 (-9) 2 j = P4 2 j := fun j hj => zup_ne _ _ _ _ (Or.inr hj)
    have hC4' := hC4.of (M' := zup P4 2 15 (-9)) (R' := R) zXt.rf (fun _ _ => rfl) (m15 1 (by decide)) (fun j _ => congrFun (m15 4 (by decide)) j) (fun j hj => m15b j (by unfold CW2 at hj; omega)) rfl ⟨rfl, rfl, rfl, rfl, rfl, rfl, rfl⟩
    have hC5 := hC4'.popTo 0 (Nat.zero_le _)
    have g5 : pdr1 M = zup (zup P4 2 15 (-9)) 2 7 (if (0 : Nat) = 0 then -9 else nI (fi (0 - 1))) := by
      unfold pdr1
      rw [g4, if_pos rfl]
    obtain ⟨P5, e5⟩ : ∃ P5, P5 = pdr1 M := ⟨_, rfl⟩
    rw [← g5, ← e5] at hC5
    rw [← e5] at g5
    have x5 : ∀ r, r ≠ 2 → P5 r = M r := fun r hr => by rw [g5, zup_r hr, zup_r hr]; exact x4 r hr
    have y2 : ∀ j, j ≠ 7 → j ≠ 11 → j ≠ 15 → j < 3630 → P5 2 j = M 2 j := fun j a b c e => by rw [g5, zup_ne _ _ _ _ (Or.inr a), zup_ne _ _ _ _ (Or.inr c)]; exact x42 j b e
    have hG5 : zXt g (dRes (capG g (R 20) 0 d d) g.1) := (zXt.capG g (R 20) 0 d d).tr (zXt.res _ _)
    have hGF : ∀ y, y < g.1 → dResF (capG g (R 20) 0 d d) (znI g f) (nI nr) y = f y := by
      intro y hy
      show zup (zu1 (zu1 f g.1 _) (g.1 + 1) _) (g.1 + 1) 0 _ y = f y
      rw [zup_r (by omega), zu1_ne _ _ _ (by omega), zu1_ne _ _ _ (by omega)]
    have hE5 : EXT (g, f, M, t, (sg, el, rg, ci, mz, fi), (d, nv, nr, nf, np)) (dRes (capG g (R 20) 0 d d) g.1, dResF (capG g (R 20) 0 d d) (znI g f) (nI nr), P5, t, (sg, el, up1 rg nr (g.1 + 1), up1 ci nr (fun q => fi (0 + q)), up1 mz nr d, fi), (0, nv, nr + 1, nf, np)) :=
      ⟨⟨hG5, hGF⟩, fun j _ => congrFun (x5 4 (by decide)) j, ⟨x5 1 (by decide), rfl⟩, ⟨Nat.le_refl _, Nat.le_succ _, Nat.le_refl _, Nat.le_refl _⟩, fun _ _ => ⟨rfl, rfl⟩, fun r hr => ⟨up1_ne (Nat.ne_of_lt hr), up1_ne (Nat.ne_of_lt hr), up1_ne (Nat.ne_of_lt hr)⟩⟩
    have hB5 := hB.ext (R' := R) hE5 (fun j hj => y2 j (by omega) (by omega) (by omega) (by omega)) rfl rfl
    have hsz : (dRes (capG g (R 20) 0 d d) g.1).1 = g.1 + 1 + 1 := rfl
    obtain ⟨w0, w1, w2, w3, w4, w5, w6⟩ := ppushN_n (M := P5) (k := nI 14) (n := -9) (e := -9) (s := -9) (x := nI nr) (np := np) (d := 0)
    obtain ⟨k1, k2, k3⟩ := CO.pushF (κ := 14) (kv := 14) (yv := 0) (s1 := none) (s2 := none) (s3 := some (g.1 + 1)) (nn := -9) (ee := -9) (ss := -9) (xv := nI nr) hC5 hB5 (by omega) (by omega) (by omega) (by omega) ⟨by decide, by decide⟩ rfl
      ⟨fun e => absurd e (by decide), fun e => absurd e (by decide), fun e => absurd e (by decide), fun _ => ⟨nr, Nat.lt_succ_self _, w4, dFr_f.2.2.trans (congrArg some up1_at.symm), fun e => absurd e (by decide)⟩⟩
    have g6 : ppush P5 14 (-9) (-9) (-9) (M 2 11) = ppushN P5 (nI 14) (-9) (-9) (-9) (nI nr) np 0 := by rw [m11]; exact hC5.push_eq _ _ _ _ _
    have hv21 : iv 39999 (P5 2 21) := hC5.vd.2.2.1
    have hbc := bcap_e (g := g) (R := R) (f := f) (C := C) (p := 0) (d := d) (nr := nr) c1 c21 (Nat.zero_le _) hd100 (by omega)
    rw [Nat.sub_zero] at hbc
    have hp6 : ppushN P5 (nI 14) (-9) (-9) (-9) (nI nr) np 0 2 6 = nI st := (ppushN_2 (by decide) (by decide) (by decide)).trans ((y2 6 (by decide) (by decide) (by decide) (by decide)).trans s3)
    have hc3 : bpushC (zup (zup (zup C 22 nr 0) 21 1 (nI (nr + 1))) 19 1 (nI 0)) 17 3 = nI st := by
      rw [bpushC_r (by decide), zup_r (by decide), zup_r (by decide), zup_r (by decide)]; exact s2
    have hfi : fiP fi 0 np 0 = np := up1_at
    have hR := CO.goOn (st := st) k1 k2 ⟨hc3, hp6⟩ s1 v ⟨by show 3 * (np + 1) ≤ 0 + 105 * (st + 1) + 2 * (0 + 1); omega, by show nv ≤ st + 1; omega, by show nr + 1 ≤ st + 1; omega, by show nf ≤ st + 1; omega⟩
      (fun _ => Or.inr ⟨⟨by show 3 * (np + 1) ≤ 98 + 105 * st + 2 * (0 + 1); omega, p2, p3, p4⟩, rfl, by
        show ppushN P5 (nI 14) (-9) (-9) (-9) (nI nr) np 0 4 (7 * fiP fi 0 np 0) = nI 14
        rw [hfi]; exact w0⟩)
    have hMH : MH b M (pcheck (pbecome (ppush P5 14 (-9) (-9) (-9) (M 2 11)) v)) := by
      refine MH.chk (MH.bec (MH.push ?_))
      rw [e5]
      unfold pdr1
      exact ((MH.mkRes ⟨MF.rf M, hG.2⟩).z (Or.inl ⟨rfl, by decide⟩)).z (Or.inl ⟨rfl, by decide⟩)
    have hMX : MX (pcheck (pbecome (ppush P5 14 (-9) (-9) (-9) (M 2 11)) v)) := by
      refine MX.chk (MX.bec (MX.push ?_))
      rw [e5]
      exact MX.z (zup_at _ _ _ _) (by omega)
    rw [← e5]
    have hK : KF (g, R, f, C) ((bcap g R f C 0 (d - 0)).1, zup (bcap g R f C 0 (d - 0)).2.1 17 4 none, (bcap g R f C 0 (d - 0)).2.2.1, bend (zup (zup (bcap g R f C 0 (d - 0)).2.2.2 17 6 v) 17 2 1) (zup (bcap g R f C 0 (d - 0)).2.1 17 4 none)) :=
      (KF.cap (g := g) (R := R) (f := f) (C := C) (p := 0) (n := d - 0)).tr (KF.r4.tr ((KF.c17.tr KF.c17).tr KF.ende))
    have hU0 : KU b (bcap g R f C 0 (d - 0)).2.2.2 := KU.cap (g := g) (R := R) (f := f) (p := 0) (n := d - 0) ⟨h.2.2.1, hG.1⟩
    have hU : KU b (bend (zup (zup (bcap g R f C 0 (d - 0)).2.2.2 17 6 v) 17 2 1) (zup (bcap g R f C 0 (d - 0)).2.1 17 4 none)) := ((hU0.z (by decide) (by decide) (by decide)).z (by decide) (by decide) (by decide)).fin
    have hD0 : DM (bcap g R f C 0 (d - 0)).2.2.2 := h.2.1.cap (g := g) (R := R) (f := f) (p := 0) (n := d - 0) c1 hd100 (by omega)
    have hD : DM (bend (zup (zup (bcap g R f C 0 (d - 0)).2.2.2 17 6 v) 17 2 1) (zup (bcap g R f C 0 (d - 0)).2.1 17 4 none)) := ((hD0.z (by decide)).z (by decide)).fin
    refine ⟨c1.trans hdp.symm, fun _ => hv21, hK, hMH.1, (sg, el, up1 rg nr (g.1 + 1), up1 ci nr (fun q => fi (0 + q)), up1 mz nr d, fiP fi 0 np), (0 + 1, nv, nr + 1, nf, np + 1), ⟨Or.inl ?_, hD, hU.1, Or.inr hMX⟩, hU.2, hMH.2⟩
    · show RN b0 n0 ((bcap g R f C 0 (d - 0)).1, (bcap g R f C 0 (d - 0)).2.2.1, pcheck (pbecome (ppush P5 14 (-9) (-9) (-9) (M 2 11)) v), t, (sg, el, up1 rg nr (g.1 + 1), up1 ci nr (fun q => fi (0 + q)), up1 mz nr d, fiP fi 0 np), (0 + 1, nv, nr + 1, nf, np + 1)) (zup (bcap g R f C 0 (d - 0)).2.1 17 4 none) (bend (zup (zup (bcap g R f C 0 (d - 0)).2.2.2 17 6 v) 17 2 1) (zup (bcap g R f C 0 (d - 0)).2.1 17 4 none))
      rw [Nat.sub_zero, hbc, g6]
      exact hR
  · have q3 : ¬ M 2 5 = 3 := fun z => q (e0.trans z)
    rw [bdrop_f q, show pdrop M v = (-2, M) from if_neg q3]
    exact ⟨rfl, fun z => absurd z q3, KF.rf _, MF.rf _, y, n, h, hG⟩
/-- the main expression's run begins -/
theorem CO.begins {b0 n0 b a : Nat} {g : zG} {f M : zI} {t : zTs} {y : zGs} {n : zNs} {R : zRf} {C : zI} (hT : TR b0 n0 g f (M 1) t) (hB : BO b0 n0 (g, f, M, t, y, n) R) (h0 : R 17 0 = some a) (hU : UC b C) (hG : GL b C M) :
    KF (g, R, f, C) (g, (bbegin g R C).1, f, (bbegin g R C).2) ∧ MF M (pbegin M) ∧ RQ b0 n0 (g, f, pbegin M, t, y, (0, 0, 0, 0, 0)) (bbegin g R C).1 (bbegin g R C).2 b ∧ GL b (bbegin g R C).2 (pbegin M) := by
  rw [bbegin_s h0]
  obtain ⟨m, a', k1, k2, k3, k4, k5, k6, k7, k8, k9⟩ := hB.1.resolve_left (fun z => by rw [h0] at z; exact absurd z.2 (fun z => by cases z))
  obtain rfl : a = a' := Option.some.inj (h0.symm.trans k4)
  have k2 : M 2 0 = nI m := k2
  have w : ∀ r, r ≠ 2 → pbegin M r = M r := by
    intro r hr
    unfold pbegin
    try dsimp only
    rw [zup_r hr, zup_r hr, zup_r hr, zup_r hr, zup_r hr, zup_r hr, zup_r hr]
    funext j
    exact if_neg (fun z => hr z.1)
  have wl : ∀ j, j < 5 ∨ 30 ≤ j → pbegin M 2 j = M 2 j := by
    intro j hj
    unfold pbegin
    try dsimp only
    rw [zup_ne _ _ _ _ (by omega), zup_ne _ _ _ _ (by omega), zup_ne _ _ _ _ (by omega), zup_ne _ _ _ _ (by omega), zup_ne _ _ _ _ (by omega), zup_ne _ _ _ _ (by omega), zup_ne _ _ _ _ (by omega)]
    exact if_neg (by omega)
  have w0 : ∀ j, 5 ≤ j → j < 30 → j ≠ 5 → j ≠ 7 → j ≠ 15 → j ≠ 16 → j ≠ 17 → j ≠ 18 → j ≠ 19 → pbegin M 2 j = 0 := by
    intro j h1 h2 a5 a7 a15 a16 a17 a18 a19
    unfold pbegin
    try dsimp only
    rw [zup_ne _ _ _ _ (Or.inr a19), zup_ne _ _ _ _ (Or.inr a18), zup_ne _ _ _ _ (Or.inr a17), zup_ne _ _ _ _ (Or.inr a16), zup_ne _ _ _ _ (Or.inr a15), zup_ne _ _ _ _ (Or.inr a7), zup_ne _ _ _ _ (Or.inr a5)]
    exact if_pos ⟨rfl, h1, h2⟩
  have w5 : pbegin M 2 5 = 1 := by
    unfold pbegin
    try dsimp only
    rw [zup_ne _ _ _ _ (by omega), zup_ne _ _ _ _ (by omega), zup_ne _ _ _ _ (by omega), zup_ne _ _ _ _ (by omega), zup_ne _ _ _ _ (by omega), zup_ne _ _ _ _ (by omega), zup_at]
  have w7 : pbegin M 2 7 = -9 := by
    unfold pbegin
    try dsimp only
    rw [zup_ne _ _ _ _ (by omega), zup_ne _ _ _ _ (by omega), zup_ne _ _ _ _ (by omega), zup_ne _ _ _ _ (by omega), zup_ne _ _ _ _ (by omega), zup_at]
  have w15 : pbegin M 2 15 = -9 := by
    unfold pbegin
    try dsimp only
    rw [zup_ne _ _ _ _ (by omega), zup_ne _ _ _ _ (by omega), zup_ne _ _ _ _ (by omega), zup_ne _ _ _ _ (by omega), zup_at]
  have w16 : pbegin M 2 16 = 2 := by
    unfold pbegin
    try dsimp only
    rw [zup_ne _ _ _ _ (by omega), zup_ne _ _ _ _ (by omega), zup_ne _ _ _ _ (by omega), zup_at]
  have w17 : pbegin M 2 17 = nI m := by
    unfold pbegin
    try dsimp only
    rw [zup_ne _ _ _ _ (by omega), zup_ne _ _ _ _ (by omega), zup_at, zup_ne _ _ _ _ (by omega), zup_ne _ _ _ _ (by omega), zup_ne _ _ _ _ (by omega), zup_ne _ _ _ _ (by omega)]
    exact (if_neg (by omega)).trans k2
  have w18 : pbegin M 2 18 = -9 := by
    unfold pbegin
    try dsimp only
    rw [zup_ne _ _ _ _ (by omega), zup_at]
  have w19 : pbegin M 2 19 = -9 := by
    unfold pbegin
    try dsimp only
    rw [zup_at]
  have c : ∀ r, r ≠ 17 → r ≠ 19 → r ≠ 21 → r ≠ 25 → bbegC C r = C r := by
    intro r h1 h2 h3 h4
    unfold bbegC kfill
    try dsimp only
    rw [zu1_ne _ _ _ h4, zup_r h1, zup_r h3, zup_r h3, zup_r h3, zup_r h3, zup_r h3, zup_r h2, zup_r h2, zup_r h1, zup_r h1, zup_r h1]
  have c25 : ∀ k, k < 6 → bbegC C 25 k = 0 := by
    intro k hk
    unfold bbegC kfill
    try dsimp only
    rw [zu1_at]
    exact if_pos hk
  have cz : ∀ r, r ≠ 25 → bbegC C r = zup (zup (zup (zup (zup (zup (zup (zup (zup (zup (zup C 17 2 1) 17 3 0) 17 6 0) 19 1 0) 19 2 0) 21 1 0) 21 2 0) 21 3 0) 21 5 0) 21 6 0) 17 11 0 r := by
    intro r hr
    unfold bbegC kfill
    try dsimp only
    rw [zu1_ne _ _ _ hr]
  have c172 : bbegC C 17 2 = 1 := by
    rw [cz 17 (by decide), zup_ne _ _ _ _ (by omega), zup_r (by decide), zup_r (by decide), zup_r (by decide), zup_r (by decide), zup_r (by decide), zup_r (by decide), zup_r (by decide), zup_ne _ _ _ _ (by omega), zup_ne _ _ _ _ (by omega), zup_at]
  have c173 : bbegC C 17 3 = 0 := by
    rw [cz 17 (by decide), zup_ne _ _ _ _ (by omega), zup_r (by decide), zup_r (by decide), zup_r (by decide), zup_r (by decide), zup_r (by decide), zup_r (by decide), zup_r (by decide), zup_ne _ _ _ _ (by omega), zup_at]
  have c1711 : bbegC C 17 11 = 0 := by rw [cz 17 (by decide), zup_at]
  have c191 : bbegC C 19 1 = 0 := by
    rw [cz 19 (by decide), zup_r (by decide), zup_r (by decide), zup_r (by decide), zup_r (by decide), zup_r (by decide), zup_r (by decide), zup_ne _ _ _ _ (by omega), zup_at]
  have c192 : bbegC C 19 2 = 0 := by
    rw [cz 19 (by decide), zup_r (by decide), zup_r (by decide), zup_r (by decide), zup_r (by decide), zup_r (by decide), zup_r (by decide), zup_at]
  have c21 : ∀ k, k = 1 ∨ k = 2 ∨ k = 3 ∨ k = 5 ∨ k = 6 → bbegC C 21 k = 0 := by
    intro k hk
    rw [cz 21 (by decide), zup_r (by decide)]
    rcases hk with rfl | rfl | rfl | rfl | rfl
    · rw [zup_ne _ _ _ _ (by omega), zup_ne _ _ _ _ (by omega), zup_ne _ _ _ _ (by omega), zup_ne _ _ _ _ (by omega), zup_at]
    · rw [zup_ne _ _ _ _ (by omega), zup_ne _ _ _ _ (by omega), zup_ne _ _ _ _ (by omega), zup_at]
    · rw [zup_ne _ _ _ _ (by omega), zup_ne _ _ _ _ (by omega), zup_at]
    · rw [zup_ne _ _ _ _ (by omega), zup_at]
    · rw [zup_at]
  have z0 : ∀ j, 5 ≤ j → j < 30 → j ≠ 5 → j ≠ 7 → j ≠ 15 → j ≠ 16 → j ≠ 17 → j ≠ 18 → j ≠ 19 → pbegin M 2 j = 0 := w0
  have hCO : CO b0 n0 (g, f, pbegin M, t, y, (0, 0, 0, 0, 0)) (bgoTo R (g.2.2.2 a 0) none) (bbegC C) := by
    refine ⟨?_, fun e he => absurd he (Nat.not_lt_zero e), fun r hr => absurd hr (Nat.not_lt_zero r), ⟨Nat.zero_le _, w7, fun p hp => absurd hp (Nat.not_lt_zero p)⟩, ⟨⟨c191, c192.trans (w0 8 (by decide) (by decide) (by decide) (by decide) (by decide) (by decide) (by decide) (by decide) (by decide)).symm⟩, ?_, ⟨?_, c21 1 (by omega)⟩, ⟨?_, c21 5 (by omega)⟩, ?_, fun r hr => absurd hr (Nat.not_lt_zero r), fun r hr => absurd hr (Nat.not_lt_zero r), ⟨?_, ?_, ?_⟩, ⟨0, Nat.zero_le _, c1711, ?_, fun k hk => absurd hk (Nat.not_lt_zero k)⟩, ?_, fun k hk => ?_⟩, Nat.zero_le _, Nat.zero_le _, Nat.zero_le _, Nat.zero_le _⟩
    · show TR b0 n0 g f (pbegin M 1) t
      rw [w 1 (by decide)]; exact hT
    · exact w0 22 (by decide) (by decide) (by decide) (by decide) (by decide) (by decide) (by decide) (by decide) (by decide)
    · exact w0 11 (by decide) (by decide) (by decide) (by decide) (by decide) (by decide) (by decide) (by decide) (by decide)
    · exact w0 23 (by decide) (by decide) (by decide) (by decide) (by decide) (by decide) (by decide) (by decide) (by decide)
    · exact w0 21 (by decide) (by decide) (by decide) (by decide) (by decide) (by decide) (by decide) (by decide) (by decide)
    · exact (c21 2 (by omega)).trans (w0 12 (by decide) (by decide) (by decide) (by decide) (by decide) (by decide) (by decide) (by decide) (by decide)).symm
    · exact (c21 3 (by omega)).trans (w0 13 (by decide) (by decide) (by decide) (by decide) (by decide) (by decide) (by decide) (by decide) (by decide)).symm
    · exact (c21 6 (by omega)).trans (w0 14 (by decide) (by decide) (by decide) (by decide) (by decide) (by decide) (by decide) (by decide) (by decide)).symm
    · exact w0 9 (by decide) (by decide) (by decide) (by decide) (by decide) (by decide) (by decide) (by decide) (by decide)
    · show pbegin M 2 10 = bcntP (bbegC C)
      unfold bcntP
      rw [c25 0 (by decide), c25 1 (by decide), c25 2 (by decide), c25 3 (by decide), c25 4 (by decide), c25 5 (by decide), w0 10 (by decide) (by decide) (by decide) (by decide) (by decide) (by decide) (by decide) (by decide) (by decide)]
      rfl
    · show bbegC C 25 k = pbegin M 2 (24 + k)
      rw [c25 k hk, w0 (24 + k) (by omega) (by omega) (by omega) (by omega) (by omega) (by omega) (by omega) (by omega) (by omega)]
  have hE : EXT (g, f, M, t, y, (0, 0, 0, 0, 0)) (g, f, pbegin M, t, y, (0, 0, 0, 0, 0)) := ⟨⟨zXt.rf, fun _ _ => rfl⟩, fun j _ => congrFun (w 4 (by decide)) j, ⟨w 1 (by decide), rfl⟩, ⟨Nat.le_refl _, Nat.le_refl _, Nat.le_refl _, Nat.le_refl _⟩, fun _ _ => ⟨rfl, rfl⟩, fun _ _ => ⟨rfl, rfl, rfl⟩⟩
  have hB0 : BO b0 n0 (g, f, M, t, y, (0, 0, 0, 0, 0)) R := hB
  have r17 : ∀ j, j ≠ 4 → j ≠ 5 → bgoTo R (g.2.2.2 a 0) none 17 j = R 17 j := fun j h4 h5 => by unfold bgoTo; rw [zup_ne _ _ _ _ (Or.inr h5), zup_ne _ _ _ _ (Or.inr h4)]
  have r18 : ∀ r, r ≠ 17 → bgoTo R (g.2.2.2 a 0) none r = R r := fun r hr => by unfold bgoTo; rw [zup_r hr, zup_r hr]
  have hBO := hB0.ext (R' := bgoTo R (g.2.2.2 a 0) none) hE (fun j hj => wl j (by omega)) (r17 0 (by decide) (by decide)) (r18 18 (by decide))
  refine ⟨KF.go.tr (KF.c (fun k hk => c k (by omega) (by omega) (by omega) (by omega))), ⟨fun k h0 h2 _ _ _ _ _ => w k h2, fun j _ _ => congrFun (w 0 (by decide)) j, fun j hj => wl j (by omega)⟩, ⟨Or.inl ⟨hCO, hBO, c172.trans w5.symm, 0, Nat.zero_le _, c173, w0 6 (by decide) (by decide) (by decide) (by decide) (by decide) (by decide) (by decide) (by decide) (by decide), Or.inr (Or.inl ⟨w5, by decide, w16, ⟨m, k1, w17, ?_, ?_, Or.inl ⟨w18, w19, ?_⟩, fun v hv => absurd hv (k8 v), fun z => absurd z k9⟩, ?_⟩)⟩, ⟨0, 0, c191, c192, Nat.le_refl _, by decide⟩, fun r => ?_, Or.inr w15⟩, hG.of (congrFun (c 13 (by decide) (by decide) (by decide) (by decide)) 4) (c 16 (by decide) (by decide) (by decide) (by decide)) (congrFun (w 0 (by decide)) 27) (w 19 (by decide))⟩
  · show ¬ pbegin M 1 (5 * m) = _
    rw [w 1 (by decide)]; exact k3
  · show bgoTo R (g.2.2.2 a 0) none 17 4 = some (t.2.1 m)
    unfold bgoTo
    rw [zup_ne _ _ _ _ (by omega), zup_at]; exact k7
  · show zup (zup R 17 4 (g.2.2.2 a 0)) 17 5 none 17 5 = none
    exact zup_at _ _ _ _
  · exact ⟨by show 3 * 0 ≤ 96 + 105 * 0 + 2 * 0; omega, Nat.le_refl _, Nat.le_refl _, Nat.le_refl _⟩
  · show ∃ u, u ≤ b ∧ bbegC C 22 r = nI u
    rw [c 22 (by decide) (by decide) (by decide) (by decide)]; exact hU r
