/-! A run's step from a value: a clause is left. -/
theorem zupR_self {α : Type} {f : Nat → Nat → α} {a k : Nat} {x : α} (h : f a k = x) : zup f a k x = f := by
  funext r q
  unfold zup
  by_cases h1 : r = a
  · by_cases h2 : q = k
    · subst h1; subst h2; simp [h]
    · simp [h2]
  · simp [h1]
/-- the top is pushed again: nothing changes -/
theorem bpush_again {C : zI} {d w : Nat} (h1 : C 19 1 = nI (d + 1)) (h2 : C 19 2 = nI w) (hw : d + 1 ≤ w) (hw2 : w ≤ 1000) : bpushC (zup C 19 1 (nI d)) = C := by
  have e1 : zup (zup C 19 1 (nI d)) 19 1 (zup C 19 1 (nI d) 19 1 + 1) = C := by
    rw [zup_at, zup_zup, show nI d + 1 = nI (d + 1) from ixA (a := d) (b := 1) rfl (ixC 1)]
    exact zupR_self h1
  unfold bpushC
  simp only
  rw [e1, if_neg (show ¬ C 19 2 < C 19 1 by rw [h1, h2]; exact nI_nlt (a := w) (b := d + 1) (by omega) (by omega))]
  exact zupR_self rfl
theorem FK.exeV {b0 n0 : Nat} {X : zCt} {R : zRf} {C : zI} {i x : Nat} (h : CO b0 n0 X R C) (hi : i < nP X) (hF : FK X 9 i x) : pexecV (qM X) (nI i) := by
  have hb := h.2.2.2.2.2
  have hN := h.1.1
  obtain ⟨m, k, n1, n2, -⟩ := hF.1 (by decide)
  have n1 : m < (qt X).1 := n1
  obtain ⟨q, r1, r2, -⟩ := hF.2.2.1 rfl
  refine ⟨iv_nI (by omega) (by decide), ?_, ?_, ?_, h.vd.2.2.1, h.vd.1⟩
  · rw [h.2.2.2.2.1.2.2.2.2.1, tn_nI (by omega), tn_nI (by omega)]; exact hi
  · rw [show pof (qM X) (nI i) 4 = nI q from (pof_n (k := 4) (by omega) (by decide)).trans r2]; exact iv_nI (by omega) (by decide)
  · rw [show pof (qM X) (nI i) 1 = nI m from (pof_n (k := 1) (by omega) (by decide)).trans n2]; exact iv_nI (by omega) (by decide)
set_option maxHeartbeats 2000000 in
theorem CO.close {b0 n0 c b : Nat} {g : zG} {f M : zI} {t : zTs} {sg rg mz fi : Nat → Nat} {el : Nat → Nat → Prop} {ci : Nat → Nat → Nat} {d nv nr nf np : Nat} {R : zRf} {C : zI} {st i x w : Nat} {v : Int32}
    (hC : CO b0 n0 (g, f, M, t, (sg, el, rg, ci, mz, fi), (d, nv, nr, nf, np)) R (zup C 19 1 (nI d))) (hB : BO b0 n0 (g, f, M, t, (sg, el, rg, ci, mz, fi), (d, nv, nr, nf, np)) R) (hb0 : b0 ≤ g.1) (hn0 : n0 ≤ g.1)
    (hi : i < np) (hn : n0 ≤ x) (hxin : zIn b0 g x 2) (hT4 : M 4 (7 * i) = nI 14) (hf0 : f x 0 = nI 14) (hFK : FK (g, f, M, t, (sg, el, rg, ci, mz, fi), (d, nv, nr, nf, np)) 14 i x) (h2 : C 17 2 = 1) (h4 : R 17 4 = none) (h6 : C 17 6 = v) (h5 : M 2 5 = 1) (h3 : C 17 3 = nI st ∧ M 2 6 = nI st) (hst : st < 1000)
    (p1 : 3 * np ≤ 105 * (st + 1) + 2 * d) (p2 : nv ≤ st) (p3 : nr ≤ st) (p4 : nf ≤ st) (hd : d < 100) (hc : c + 27 ≤ n0) (hD : C 19 1 = nI (d + 1)) (hD2 : C 19 2 = nI w) (hw : d + 1 ≤ w) (hw2 : w ≤ 1000) (hRx : R 20 d = some x) (hU : US (g, f, M, t, (sg, el, rg, ci, mz, fi), (d, nv, nr, nf, np)) C b) :
    bfirstV g f c C R (g.2.2.2 x 4) ∧ bfP b0 g (bfirst g f C R (g.2.2.2 x 4)).1 ∧ pcomesV M (nI i) ∧ (pcomes M (nI i) v).1 = blclA g R f C x ∧
    ((blclA g R f C x = 0 ∧ SM M (pcomes M (nI i) v).2 ∧ SC C (blcl g R f C x).2.2.2 ∧ (∀ j, j ≠ 14 → (blcl g R f C x).2.1 j = R j) ∧ (blcl g R f C x).1 = g ∧ (blcl g R f C x).2.2.1 = f) ∨
      (blclA g R f C x = 1 ∧ ∃ y n, SR b0 n0 ((blcl g R f C x).1, (blcl g R f C x).2.2.1, (pcomes M (nI i) v).2, t, y, n) (blcl g R f C x).2.1 (blcl g R f C x).2.2.2 st)) := by
  have hb := hC.2.2.2.2.2
  have hnp : np ≤ 39800 := hb.2.2.2
  have hnr : nr ≤ 1000 := hb.2.1
  have h0 : pof M (nI i) 0 = 14 := (pof_n (k := 0) (by omega) (by decide)).trans hT4
  obtain ⟨r, r1, r2, r3, -⟩ := hFK.2.2.2 (Or.inr rfl)
  have r1 : r < nr := r1
  have r3 : g.2.2.2 x 4 = some (rg r) := r3
  have po4 : pof M (nI i) 4 = nI r := (pof_n (k := 4) (by omega) (by decide)).trans r2
  obtain ⟨e1, e2, e3, e4, e5, -, -, e8⟩ := hC.pend (R := R) (C := C) (b := b) hc ⟨(zup_r (by decide)).symm, (zup_r (by decide)).symm⟩ hU r1
  have hpc : pcomes M (nI i) v = (if (if puses M (nI r) = 0 then ppend M (nI r) pfu else (-9, M)).1 = -9 then (1, pbecome (if puses M (nI r) = 0 then ppend M (nI r) pfu else (-9, M)).2 v) else if 100 < pdepth (if puses M (nI r) = 0 then ppend M (nI r) pfu else (-9, M)).2 + 2 then (0, (if puses M (nI r) = 0 then ppend M (nI r) pfu else (-9, M)).2) else (1, pexec (ppush (if puses M (nI r) = 0 then ppend M (nI r) pfu else (-9, M)).2 14 (-9) (-9) (-9) (nI r)) (if puses M (nI r) = 0 then ppend M (nI r) pfu else (-9, M)).1 v)) := by
    rw [pcomes_14 h0]
    unfold pclose
    simp only [po4]
  have hVV : (puses M (nI r) = 0 → ppendV M (nI r) pfu ∧ (¬ (ppend M (nI r) pfu).1 = -9 → pushV (ppend M (nI r) pfu).2 ∧ pexecV (ppush (ppend M (nI r) pfu).2 14 (-9) (-9) (-9) (nI r)) (ppend M (nI r) pfu).1)) → pcomesV M (nI i) := fun q => pcV (by omega) hT4 (by decide) (fun e => absurd e (by decide)) (fun e => absurd e (by decide)) (fun e => absurd e (by decide)) (fun e => absurd e (by decide)) (fun e => absurd e (by decide)) (fun e => absurd e (by decide)) (fun e => absurd e (by decide)) (fun e => absurd e (by decide)) (fun e => absurd e (by decide)) (fun _ => ⟨iv_nI (by omega) (by decide), by rw [po4]; exact iv_nI (by omega) (by decide), by rw [po4]; exact q⟩)
  rw [hpc]
  unfold blcl blclA
  rw [r3]
  -- the popped state behind the search
  have hQ : ∀ Q : Int32 × zI, SM M Q.2 → CO b0 n0 (g, f, Q.2, t, (sg, el, rg, ci, mz, fi), (d, nv, nr, nf, np)) (bfirst g f C R (some (rg r))).2.2 (zup (bfirst g f C R (some (rg r))).2.1 19 1 (nI d)) := by
    intro Q hM
    have k19 : ∀ k, k ≠ 13 → k ≠ 15 → k ≠ 16 → k ≠ 19 → zup (bfirst g f C R (some (rg r))).2.1 19 1 (nI d) k = zup C 19 1 (nI d) k := fun k a b c e => by rw [zup_r e, zup_r e]; exact e4.1 k a b c
    have k19' : zup (bfirst g f C R (some (rg r))).2.1 19 1 (nI d) 19 = zup C 19 1 (nI d) 19 := by
      funext j
      by_cases e : j = 1
      · subst e; rw [zup_at, zup_at]
      · rw [zup_ne _ _ _ _ (Or.inr e), zup_ne _ _ _ _ (Or.inr e), e4.1 19 (by decide) (by decide) (by decide)]
    exact hC.of zXt.rf (fun _ _ => rfl) (hM.1 1 (by decide) (by decide) (by decide) (by decide)) (fun j _ => congrFun (hM.1 4 (by decide) (by decide) (by decide) (by decide)) j) (fun j _ => congrFun (hM.1 2 (by decide) (by decide) (by decide) (by decide)) j) (e5 20 (by decide))
      ⟨k19', k19 21 (by decide) (by decide) (by decide) (by decide), k19 22 (by decide) (by decide) (by decide) (by decide), k19 23 (by decide) (by decide) (by decide) (by decide), k19 24 (by decide) (by decide) (by decide) (by decide), k19 25 (by decide) (by decide) (by decide) (by decide), congrFun (k19 17 (by decide) (by decide) (by decide) (by decide)) 11⟩
  have hQe : puses M (nI r) = 0 → (if puses M (nI r) = 0 then ppend M (nI r) pfu else (-9, M)) = ppend M (nI r) pfu := fun z => if_pos z
  generalize (if puses M (nI r) = 0 then ppend M (nI r) pfu else (-9, M)) = Q at *
  generalize bfirst g f C R (some (rg r)) = B at *
  obtain ⟨y, CB, RB⟩ := B
  have hCQ := hQ Q e3
  have e4 : SC C CB := e4
  have e5 : ∀ j, j ≠ 14 → RB j = R j := e5
  have hCQ : CO b0 n0 (g, f, Q.2, t, (sg, el, rg, ci, mz, fi), (d, nv, nr, nf, np)) RB (zup CB 19 1 (nI d)) := hCQ
  have q1M : Q.2 1 = M 1 := e3.1 1 (by decide) (by decide) (by decide) (by decide)
  have q2M : Q.2 2 = M 2 := e3.1 2 (by decide) (by decide) (by decide) (by decide)
  have q4M : Q.2 4 = M 4 := e3.1 4 (by decide) (by decide) (by decide) (by decide)
  have hE : EXT (g, f, M, t, (sg, el, rg, ci, mz, fi), (d, nv, nr, nf, np)) (g, f, Q.2, t, (sg, el, rg, ci, mz, fi), (d, nv, nr, nf, np)) := ⟨⟨zXt.rf, fun _ _ => rfl⟩, fun j _ => congrFun q4M j, ⟨q1M, rfl⟩, ⟨Nat.le_refl _, Nat.le_refl _, Nat.le_refl _, Nat.le_refl _⟩, fun _ _ => ⟨rfl, rfl⟩, fun _ _ => ⟨rfl, rfl, rfl⟩⟩
  have hBQ := hB.ext (R' := RB) hE (fun j _ => congrFun q2M j) (congrFun (e5 17 (by decide)) 0) (e5 18 (by decide))
  have c17 : CB 17 = C 17 := e4.1 17 (by decide) (by decide) (by decide)
  have c19 : CB 19 = C 19 := e4.1 19 (by decide) (by decide) (by decide)
  have z17 : zup CB 19 1 (nI d) 17 = C 17 := (zup_r (by decide)).trans c17
  have hdQ : pdepth Q.2 = nI d := hCQ.depth
  rcases e8 with ⟨q1, q2⟩ | ⟨i', x', q1, q2, q3, q4, q5, q6, q7⟩
  · -- none is pending
    have q2 : y = none := q2
    subst q2
    rw [if_pos q1]
    refine ⟨e2, fun z hz => (by cases hz), hVV (fun z => ⟨e1 z, fun z2 => absurd (by rw [← hQe z]; exact q1) z2⟩), rfl, Or.inr ⟨rfl, (sg, el, rg, ci, mz, fi), (d, nv, nr, nf, np), ?_⟩⟩
    have hpop : bpopC CB = zup CB 19 1 (nI d) := by
      unfold bpopC
      rw [c19, if_pos (by rw [hD]; exact nI_lt (a := 0) (by omega) (by omega)), hD, show nI (d + 1) - 1 = nI d from (ixS (a := d + 1) (b := 1) rfl (ixC 1) (by omega)).trans (congrArg nI (by omega))]
    show SR b0 n0 (g, f, pbecome Q.2 v, t, (sg, el, rg, ci, mz, fi), (d, nv, nr, nf, np)) RB (bpopC CB) st
    rw [hpop]
    exact CO.become hCQ hBQ v st ⟨rfl, rfl, rfl, (congrFun (e5 17 (by decide)) 4).trans h4⟩ ⟨rfl, rfl, rfl, rfl, rfl, rfl, rfl⟩ ((congrFun z17 2).trans h2) ((congrFun z17 6).trans h6) ⟨(congrFun z17 3).trans h3.1, (congrFun q2M 6).trans h3.2⟩ ⟨by show 3 * np ≤ 0 + 105 * (st + 1) + 2 * d; omega, Nat.le_succ_of_le p2, Nat.le_succ_of_le p3, Nat.le_succ_of_le p4⟩
  · -- x' is the frame of one
    have q2 : y = some x' := q2
    subst q2
    have q3 : i' < np := q3
    have n9 : ¬ Q.1 = -9 := by rw [q1]; exact (iv_nI (N := 40000) (by omega) (by decide)).nn (by decide)
    rw [if_neg n9]
    have hI := hCQ.IN
    -- the clause's frame is pushed again
    obtain ⟨w0, w1, w2, w3, w4, w5, w6⟩ := ppushN_n (M := Q.2) (k := nI 14) (n := -9) (e := -9) (s := -9) (x := nI r) (np := np) (d := d)
    have hp1 : ppushN Q.2 (nI 14) (-9) (-9) (-9) (nI r) np d 1 = Q.2 1 := ppushN_1 (by decide) (by decide)
    have hp2 : ∀ j, j ≠ 7 → j ≠ 8 → j ≠ 21 → ppushN Q.2 (nI 14) (-9) (-9) (-9) (nI r) np d 2 j = M 2 j := fun j a b c => (ppushN_2 a b c).trans (congrFun q2M j)
    have hE2 : EXT (g, f, Q.2, t, (sg, el, rg, ci, mz, fi), (d, nv, nr, nf, np)) (g, f, ppushN Q.2 (nI 14) (-9) (-9) (-9) (nI r) np d, t, (sg, el, rg, ci, mz, fiP fi d np), (d + 1, nv, nr, nf, np + 1)) :=
      ⟨⟨zXt.rf, fun _ _ => rfl⟩, fun j hj => ppushN_4 hj, ⟨hp1, rfl⟩, ⟨Nat.le_refl _, Nat.le_refl _, Nat.le_refl _, Nat.le_succ _⟩, fun _ _ => ⟨rfl, rfl⟩, fun _ _ => ⟨rfl, rfl, rfl⟩⟩
    have hpe : ppush Q.2 14 (-9) (-9) (-9) (nI r) = ppushN Q.2 (nI 14) (-9) (-9) (-9) (nI r) np d := hCQ.push_eq _ _ _ _ _
    have hnp2 : np < 39800 := by omega
    have hC2 : CO b0 n0 (g, f, ppushN Q.2 (nI 14) (-9) (-9) (-9) (nI r) np d, t, (sg, el, rg, ci, mz, fiP fi d np), (d + 1, nv, nr, nf, np + 1)) (zup RB 20 d (some x)) (bpushC (zup CB 19 1 (nI d))) := hCQ.push (k := nI 14) (n := -9) (e := -9) (s := -9) (z := nI r) (x := x) hd hnp2 ⟨Nat.lt_succ_self _, hn, hxin, 14, by decide, by decide, w0, hf0, fun e => absurd e (by decide), fun e => absurd e (by decide), fun e => absurd e (by decide), fun _ => ⟨r, r1, w4, r3, fun e => absurd e (by decide)⟩⟩
    have hB2 := hBQ.ext (R' := RB) hE2 (fun j hj => (ppushN_2 (by omega) (by omega) (by omega))) rfl rfl
    have hbp : bpushC (zup CB 19 1 (nI d)) = CB := bpush_again (by rw [c19]; exact hD) (by rw [c19]; exact hD2) hw hw2
    have hrs : zup RB 20 d (some x) = RB := zupR_self ((congrFun (e5 20 (by decide)) d).trans hRx)
    rw [hbp, hrs] at hC2
    have hF2 : FR b0 0 (g, f, ppushN Q.2 (nI 14) (-9) (-9) (-9) (nI r) np d, t, (sg, el, rg, ci, mz, fiP fi d np), (d + 1, nv, nr, nf, np + 1)) i' x' :=
      FR.ext (b0 := b0) (hE.tr hE2) hC.IN (⟨q3, Nat.zero_le _, q4, 9, by decide, by decide, q6, q5, q7⟩ : FR b0 0 (g, f, M, t, (sg, el, rg, ci, mz, fi), (d, nv, nr, nf, np)) i' x')
    obtain ⟨y1, -, y3, κ, y4, y5, y6, y7, y8⟩ := hF2
    obtain rfl : κ = 9 := (nI_eq (by omega) (by decide)).mp (y7.symm.trans q5)
    have hXV := FK.exeV hC2 y1 y8
    refine ⟨e2, fun z hz => ?_, hVV (fun z => ⟨e1 z, fun _ => by rw [← hQe z, hpe, q1]; exact ⟨⟨hCQ.vd.2.2.1, hCQ.vd.1⟩, hXV⟩⟩), ?_⟩
    · obtain rfl : x' = z := Option.some.inj hz
      obtain ⟨m, k, -, -, m3, -⟩ := q7.1 (by decide)
      exact ⟨q4, pA_of m3⟩
    have hdq : pdepth Q.2 + 2 = nI (d + 2) := by rw [hdQ]; exact ixA (a := d) (b := 2) rfl (ixC 2)
    have hcq : CB 19 1 + 1 = nI (d + 2) := by rw [c19, hD]; exact ixA (a := d + 1) (b := 1) rfl (ixC 1)
    rw [hdq, hpe, q1]
    show _ = (if 100 < CB 19 1 + 1 then (0 : Int32) else 1) ∧ (((if 100 < CB 19 1 + 1 then (0 : Int32) else 1) = 0 ∧ SM M _ ∧ SC C (if 100 < CB 19 1 + 1 then (g, RB, f, CB) else bexe g RB f CB x').2.2.2 ∧ (∀ j, j ≠ 14 → (if 100 < CB 19 1 + 1 then (g, RB, f, CB) else bexe g RB f CB x').2.1 j = R j) ∧ (if 100 < CB 19 1 + 1 then (g, RB, f, CB) else bexe g RB f CB x').1 = g ∧ (if 100 < CB 19 1 + 1 then (g, RB, f, CB) else bexe g RB f CB x').2.2.1 = f) ∨
      ((if 100 < CB 19 1 + 1 then (0 : Int32) else 1) = 1 ∧ ∃ y n, SR b0 n0 ((if 100 < CB 19 1 + 1 then (g, RB, f, CB) else bexe g RB f CB x').1, (if 100 < CB 19 1 + 1 then (g, RB, f, CB) else bexe g RB f CB x').2.2.1, _, t, y, n) (if 100 < CB 19 1 + 1 then (g, RB, f, CB) else bexe g RB f CB x').2.1 (if 100 < CB 19 1 + 1 then (g, RB, f, CB) else bexe g RB f CB x').2.2.2 st))
    rw [hcq]
    by_cases hroom : 100 < d + 2
    · have hl : (100 : Int32) < nI (d + 2) := nI_lt (a := 100) hroom (by omega)
      simp only [if_pos hl]
      exact ⟨trivial, Or.inl ⟨trivial, e3, e4, e5, trivial, trivial⟩⟩
    · have hl : ¬ (100 : Int32) < nI (d + 2) := nI_nlt (a := 100) (b := d + 2) (by omega) (by omega)
      simp only [if_neg hl]
      have hx := CO.exe (i := i') (x := x') (v := v) hC2 hB2 hb0 hn0 ⟨y1, y3, y8⟩ (by omega) ((congrFun c17 2).trans h2) ((congrFun c17 6).trans h6) ((hp2 5 (by decide) (by decide) (by decide)).trans h5) ⟨(congrFun c17 3).trans h3.1, (hp2 6 (by decide) (by decide) (by decide)).trans h3.2⟩ hst ⟨by omega, by omega, by omega, by omega⟩
      exact ⟨trivial, Or.inr ⟨trivial, hx.2⟩⟩
