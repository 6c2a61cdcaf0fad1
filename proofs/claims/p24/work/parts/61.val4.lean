/-! A run's step from a value: an operand, a finalizer. -/
set_option maxHeartbeats 1000000 in
/-- the first operand -/
theorem VH.c1 {b0 n0 : Nat} {g : zG} {f M : zI} {t : zTs} {sg rg mz fi : Nat → Nat} {el : Nat → Nat → Prop} {ci : Nat → Nat → Nat} {d nv nr nf np : Nat} {R : zRf} {C : zI} {st i x : Nat} {v : Int32}
    (h : VH b0 n0 (g, f, M, t, (sg, el, rg, ci, mz, fi), (d, nv, nr, nf, np)) R C st i x 1 v) : VR b0 n0 (g, f, M, t, (sg, el, rg, ci, mz, fi), (d, nv, nr, nf, np)) st i v (bgoat g R f C x (pA g x 1)) := by
  obtain ⟨m, k, n1, n1', n2, n3, n4, n5, n6, n7, n8⟩ := h.node (by decide)
  have hb := h.1.1.2.2.2.2.2.2.2.2
  have hI := h.1.1.IN
  have hi : i < np := h.2.1.1
  have hb : np ≤ 39800 := hb
  have n1 : m < t.1 := n1
  have n2 : pof M (nI i) 1 = nI m := n2
  have n5 : M 1 (5 * m) = nI k := n5
  have hk : 2 ≤ k ∧ k ≤ 5 := n7.elim (fun q => (show ∀ k, k < 16 → 1 = frk k → 2 ≤ k ∧ k ≤ 5 by decide) k (by omega) q) (fun q => absurd q.1 (by decide))
  have hk8 : ¬ k = 8 := by omega
  have har : 1 < ari k := (show ∀ k, k < 16 → 2 ≤ k → k ≤ 5 → 1 < ari k by decide) k (by omega) hk.1 hk.2
  have h0 : pof M (nI i) 0 = 1 := (pof_n (k := 0) (by omega) (by decide)).trans h.2.1.2.2.2.1
  obtain ⟨x1, x2⟩ := n8 (by decide)
  have hx : x < g.1 := h.2.1.2.2.1.2.1
  have hxin : zIn b0 g x 2 := h.2.1.2.2.1
  have hein : zIn b0 g (t.2.1 m) 1 := n6.1.2.1
  obtain ⟨q, q1, q2, q3, q4, q5, q6, q7⟩ := (n6.2.2.1 1 (by decide)).1 har
  obtain ⟨⟨hC, hB, hb0, hn0⟩, ⟨-, hn, -, hT4, hf0, hFK⟩, ⟨h2, h4, h6⟩, ⟨h5, h3⟩, hst, ⟨p1, p2, p3, p4⟩, hd⟩ := h
  have p1 : 3 * np + 103 ≤ 105 * (st + 1) + 2 * d := p1
  have hd : d < 100 := hd
  have hb0 : b0 ≤ g.1 := hb0
  have hn0 : n0 ≤ g.1 := hn0
  have hnp : np ≤ 39800 := hC.2.2.2.2.2.2.2.2
  have hnp' : np < 39800 := by omega
  refine ⟨pcV (by omega) hT4 (by decide) (fun _ => ⟨?_, ⟨hC.vd.2.2.1, hC.vd.1⟩, ?_⟩) (fun e => absurd e (by decide)) (fun e => absurd e (by decide)) (fun e => absurd e (by decide)) (fun e => absurd e (by decide)) (fun e => absurd e (by decide)) (fun e => absurd e (by decide)) (fun e => absurd e (by decide)) (fun e => absurd e (by decide)) (fun e => absurd e (by decide)), ?_⟩
  · show iv 65000 (pof M (nI i) 1)
    rw [n2]; exact iv_nI n1' (by decide)
  · show tn (nI i) < tn (M 2 21)
    rw [show M 2 21 = nI np from hC.2.2.2.2.1.2.2.2.2.1, tn_nI (by omega), tn_nI (by omega)]; exact hi
  have c1 : C 19 1 = nI d := hC.2.2.2.2.1.1.1
  have hxt : zXt g (dFr g (some (t.2.1 m)) (g.2.2.2 x 2) none) := zXt.fr _ _ _ _
  have s2 : (znG g 2 0).2.2.2 x = g.2.2.2 x := zu1_ne _ _ _ (Nat.ne_of_lt hx)
  have hp1 : ppushN M 2 (nI m) (-9) (-9) v np d 1 = M 1 := ppushN_1 (by decide) (by decide)
  obtain ⟨w0, w1, w2, w3, w4, w5, w6⟩ := ppushN_n (M := M) (k := 2) (n := nI m) (e := -9) (s := -9) (x := v) (np := np) (d := d)
  obtain ⟨k1, k2, k3⟩ := CO.pushF (κ := 2) (kv := 2) (yv := v) (s1 := some (t.2.1 m)) (s2 := g.2.2.2 x 2) (s3 := none) (nn := nI m) (ee := -9) (ss := -9) (xv := v) hC hB hb0 hn0 hd hnp' ⟨by decide, by decide⟩ rfl ⟨fun _ => ⟨m, k, n1, w1, dFr_f.1, n4, (congrFun hp1 _).trans n5, Or.inr ⟨rfl, hk.1, hk.2⟩, fun e => absurd rfl e⟩, fun _ => dFrF_f.2.trans w4.symm, fun e => absurd e (by decide), fun e => absurd e (by decide)⟩
  have hpe : ppush M 2 (nI m) (-9) (-9) v = ppushN M (nI 2) (nI m) (-9) (-9) v np d := hC.push_eq _ _ _ _ _
  have e2 : pof (ppushN M (nI 2) (nI m) (-9) (-9) v np d) (nI i) 2 = pof M (nI i) 2 := by
    rw [show (2 : Int32) = nI 2 from rfl, pof_n (by omega) (by decide), pof_n (by omega) (by decide)]; exact ppushN_4 (by omega)
  have e3 : pof (ppushN M (nI 2) (nI m) (-9) (-9) v np d) (nI i) 3 = pof M (nI i) 3 := by
    rw [show (3 : Int32) = nI 3 from rfl, pof_n (by omega) (by decide), pof_n (by omega) (by decide)]; exact ppushN_4 (by omega)
  have ept : ppart (ppushN M (nI 2) (nI m) (-9) (-9) v np d) (nI m) 2 = nI q := (ppart_n (k := 2) (by omega) (by decide)).trans ((congrFun hp1 _).trans q3)
  rw [show qM (g, f, M, t, (sg, el, rg, ci, mz, fi), (d, nv, nr, nf, np)) = M from rfl, pcomes_1 h0, n2, hpe, e2, e3, ept, bgoat_1 hf0, pA_eq n3]
  unfold bg1
  have h6 : C 17 6 = v := h6
  rw [s2, c1, tn_nI (by omega), h6]
  have z2 : ∀ j, j ≠ 7 → j ≠ 8 → j ≠ 21 → ppushN M (nI 2) (nI m) (-9) (-9) v np d 2 j = M 2 j := fun j a b c => ppushN_2 a b c
  refine ⟨rfl, _, _, CO.focus (m := q) (R' := bgoTo (zup R 20 d (some g.1)) ((dFr g (some (t.2.1 m)) (g.2.2.2 x 2) none).2.2.2 (t.2.1 m) 3) ((dFr g (some (t.2.1 m)) (g.2.2.2 x 2) none).2.2.2 x 2)) (C' := bpushC C) k1 k2 st ⟨?_, ?_, ?_⟩ ⟨rfl, rfl, rfl, rfl, rfl, rfl, rfl⟩ ((bpushC_k (by decide)).trans h2) ((z2 5 (by decide) (by decide) (by decide)).trans h5) ⟨(bpushC_k (by decide)).trans h3.1, (z2 6 (by decide) (by decide) (by decide)).trans h3.2⟩ ⟨q2, rfl, ?_, ?_⟩ ?_ ?_ ⟨?_, Nat.le_succ_of_le p2, Nat.le_succ_of_le p3, Nat.le_succ_of_le p4⟩⟩
  · unfold bgoTo; rw [zup_r (by decide), zup_r (by decide)]
  · unfold bgoTo; rw [zup_r (by decide), zup_r (by decide)]
  · unfold bgoTo; rw [zup_ne _ _ _ _ (by omega), zup_ne _ _ _ _ (by omega)]
  · rw [show ppushN M (nI 2) (nI m) (-9) (-9) v np d 1 = M 1 from hp1]; exact q4
  · unfold bgoTo; rw [zup_ne _ _ _ _ (by omega), zup_at, hxt.rw hein]; exact q5
  · unfold bgoTo; rw [zup_at, hxt.rw hxin]; exact x1.ext k3 hI
  · exact CV.ext (n := q) k3 ⟨fun l hl => x2.1 l ((q6 l hl).resolve_right (fun z => hk8 z.1)), fun hr => x2.2 (q7 hr)⟩
  · show 3 * (np + 1) ≤ 96 + 105 * (st + 1) + 2 * (d + 1)
    omega
theorem bexec_e {C : zI} {q : Nat} (hq : q < 1000) : bexec C (nI q) = zup (zup C 21 6 (C 21 6 + 1)) 23 q 1 := bst_t hq
set_option maxHeartbeats 1000000 in
/-- a finalizer is executed: x is its frame -/
theorem CO.exe {b0 n0 : Nat} {g : zG} {f M : zI} {t : zTs} {sg rg mz fi : Nat → Nat} {el : Nat → Nat → Prop} {ci : Nat → Nat → Nat} {d nv nr nf np : Nat} {R : zRf} {C : zI} {st i x : Nat} {v : Int32}
    (hC : CO b0 n0 (g, f, M, t, (sg, el, rg, ci, mz, fi), (d, nv, nr, nf, np)) R C) (hB : BO b0 n0 (g, f, M, t, (sg, el, rg, ci, mz, fi), (d, nv, nr, nf, np)) R) (hb0 : b0 ≤ g.1) (hn0 : n0 ≤ g.1)
    (hx : i < np ∧ zIn b0 g x 2 ∧ FK (g, f, M, t, (sg, el, rg, ci, mz, fi), (d, nv, nr, nf, np)) 9 i x) (hd : d < 100) (h2 : C 17 2 = 1) (h6 : C 17 6 = v) (h5 : M 2 5 = 1) (h3 : C 17 3 = nI st ∧ M 2 6 = nI st) (hs : st < 1000)
    (hP : 3 * np + 3 ≤ 96 + 105 * (st + 1) + 2 * (d + 1) ∧ nv ≤ st + 1 ∧ nr ≤ st + 1 ∧ nf ≤ st + 1) :
    pexecV M (nI i) ∧ ∃ y n, SR b0 n0 ((bexe g R f C x).1, (bexe g R f C x).2.2.1, pexec M (nI i) v, t, y, n) (bexe g R f C x).2.1 (bexe g R f C x).2.2.2 st := by
  obtain ⟨hi, hxin, hF⟩ := hx
  have hb := hC.2.2.2.2.2
  have hN : t.1 ≤ 65000 := hC.1.1
  have hnp' : np < 39800 := by omega
  have hI := hC.IN
  obtain ⟨m, k, n1, n2, n3, n4, n5, n6, n7⟩ := hF.1 (by decide)
  have n1 : m < t.1 := n1
  have n2 : M 4 (7 * i + 1) = nI m := n2
  have n5 : M 1 (5 * m) = nI k := n5
  obtain rfl : k = 12 := n6.elim (fun q => (show ∀ k, k < 16 → 9 = frk k → k = 12 by decide) k (by omega) q) (fun q => absurd q.1 (by decide))
  obtain ⟨x1, x2⟩ := n7 (by decide)
  obtain ⟨k', a1, a2, hEN⟩ := hC.1.at n1 (fun e => absurd ((nI_eq (by omega) (by decide)).mp (n5.symm.trans e)) (by decide))
  obtain rfl : k' = 12 := (nI_eq (by omega) (by decide)).mp (a2.symm.trans n5)
  obtain ⟨q9, r1, r2, r3⟩ := hF.2.2.1 rfl
  have r1 : q9 < nf := r1
  have r2 : M 4 (7 * i + 4) = nI q9 := r2
  have r3 : f x 3 = nI q9 := r3
  have hnf : nf ≤ 1000 := hb.2.2.1
  have po1 : pof M (nI i) 1 = nI m := (pof_n (k := 1) (by omega) (by decide)).trans n2
  have po4 : pof M (nI i) 4 = nI q9 := (pof_n (k := 4) (by omega) (by decide)).trans r2
  refine ⟨⟨iv_nI (by omega) (by decide), ?_, ?_, ?_, hC.vd.2.2.1, hC.vd.1⟩, ?_⟩
  · rw [show M 2 21 = nI np from hC.2.2.2.2.1.2.2.2.2.1, tn_nI (by omega), tn_nI (by omega)]; exact hi
  · rw [po4]; exact iv_nI (by omega) (by decide)
  · rw [po1]; exact iv_nI (by omega) (by decide)
  -- the finalizer is marked
  have hz1 : zup (zup M 2 (7230 + q9) 1) 2 14 (M 2 14 + 1) 1 = M 1 := by rw [zup_r (by decide), zup_r (by decide)]
  have hz4 : zup (zup M 2 (7230 + q9) 1) 2 14 (M 2 14 + 1) 4 = M 4 := by rw [zup_r (by decide), zup_r (by decide)]
  have hz2 : ∀ j, j < 14 → zup (zup M 2 (7230 + q9) 1) 2 14 (M 2 14 + 1) 2 j = M 2 j := fun j hj => by rw [zup_ne _ _ _ _ (by omega), zup_ne _ _ _ _ (by omega)]
  have hE : EXT (g, f, M, t, (sg, el, rg, ci, mz, fi), (d, nv, nr, nf, np)) (g, f, zup (zup M 2 (7230 + q9) 1) 2 14 (M 2 14 + 1), t, (sg, el, rg, ci, mz, fi), (d, nv, nr, nf, np)) :=
    ⟨⟨zXt.rf, fun _ _ => rfl⟩, fun j _ => congrFun hz4 j, ⟨hz1, rfl⟩, ⟨Nat.le_refl _, Nat.le_refl _, Nat.le_refl _, Nat.le_refl _⟩, fun _ _ => ⟨rfl, rfl⟩, fun _ _ => ⟨rfl, rfl, rfl⟩⟩
  have hC1 := hC.exec q9 r1
  have hB1 := hB.ext (R' := R) hE (fun j hj => hz2 j (by omega)) rfl rfl
  have hX1 := x1.ext hE hI
  have hV1 := CV.ext hE x2
  generalize hN' : zup (zup M 2 (7230 + q9) 1) 2 14 (M 2 14 + 1) = N at *
  have hpx : pexec M (nI i) v = pfocusOn (ppush N 13 (-9) (-9) (-9) v) (ppart (ppush N 13 (-9) (-9) (-9) v) (pof (ppush N 13 (-9) (-9) (-9) v) (nI i) 1) 2) (pof (ppush N 13 (-9) (-9) (-9) v) (nI i) 2) (pof (ppush N 13 (-9) (-9) (-9) v) (nI i) 3) := by
    unfold pexec
    simp only [po4]
    rw [tn_nI (by omega), zup_ne M 2 (7230 + q9) 1 (b := 2) (j := 14) (by omega), hN']
  have hC1' : bexec C (f x 3) = zup (zup C 21 6 (C 21 6 + 1)) 23 q9 1 := by rw [r3]; exact bexec_e (by omega)
  have hr17 : zup (zup C 21 6 (C 21 6 + 1)) 23 q9 1 17 = C 17 := by rw [zup_r (by decide), zup_r (by decide)]
  have hr19 : zup (zup C 21 6 (C 21 6 + 1)) 23 q9 1 19 = C 19 := by rw [zup_r (by decide), zup_r (by decide)]
  have hbx : bexe g R f C x = (dFr g none none none, bgoTo (zup R 20 d (some g.1)) ((dFr g none none none).2.2.2 (t.2.1 m) 3) ((dFr g none none none).2.2.2 x 2), dFrF g f 13 v, bpushC (zup (zup C 21 6 (C 21 6 + 1)) 23 q9 1)) := by
    unfold bexe
    simp only
    rw [hC1', hr17, hr19, show C 19 1 = nI d from hC.2.2.2.2.1.1.1, tn_nI (by have : d < 100 := hd; omega), h6, pA_eq n3]
  rw [hpx, hbx]
  have hp1 : ppushN N (nI 13) (-9) (-9) (-9) v np d 1 = N 1 := ppushN_1 (by decide) (by decide)
  obtain ⟨w0, w1, w2, w3, w4, w5, w6⟩ := ppushN_n (M := N) (k := nI 13) (n := -9) (e := -9) (s := -9) (x := v) (np := np) (d := d)
  obtain ⟨k1, k2, k3⟩ := CO.pushF (κ := 13) (kv := 13) (yv := v) (s1 := none) (s2 := none) (s3 := none) (nn := -9) (ee := -9) (ss := -9) (xv := v) hC1 hB1 hb0 hn0 hd hnp' ⟨by decide, by decide⟩ rfl ⟨fun e => absurd e (by decide), fun _ => dFrF_f.2.trans w4.symm, fun e => absurd e (by decide), fun e => absurd e (by decide)⟩
  have hpe : ppush N 13 (-9) (-9) (-9) v = ppushN N (nI 13) (-9) (-9) (-9) v np d := hC1.push_eq _ _ _ _ _
  have e1 : pof (ppushN N (nI 13) (-9) (-9) (-9) v np d) (nI i) 1 = nI m := by
    rw [← po1, show (1 : Int32) = nI 1 from rfl, pof_n (by omega) (by decide), pof_n (by omega) (by decide)]; exact (ppushN_4 (by omega)).trans (congrFun hz4 _)
  have e2 : pof (ppushN N (nI 13) (-9) (-9) (-9) v np d) (nI i) 2 = M 4 (7 * i + 2) := by
    rw [show (2 : Int32) = nI 2 from rfl, pof_n (by omega) (by decide)]; exact (ppushN_4 (by omega)).trans (congrFun hz4 _)
  have e3 : pof (ppushN N (nI 13) (-9) (-9) (-9) v np d) (nI i) 3 = M 4 (7 * i + 3) := by
    rw [show (3 : Int32) = nI 3 from rfl, pof_n (by omega) (by decide)]; exact (ppushN_4 (by omega)).trans (congrFun hz4 _)
  obtain ⟨q, q1, q2, q3, q4, q5, q6, q7⟩ := (hEN.2.2.1 1 (by decide)).1 (by decide)
  have ept : ppart (ppushN N (nI 13) (-9) (-9) (-9) v np d) (nI m) 2 = nI q := (ppart_n (k := 2) (by omega) (by decide)).trans ((congrFun hp1 _).trans ((congrFun hz1 _).trans q3))
  rw [hpe, e1, e2, e3, ept]
  have z2 : ∀ j, j ≠ 7 → j ≠ 8 → j ≠ 21 → ppushN N (nI 13) (-9) (-9) (-9) v np d 2 j = N 2 j := fun j a b c => ppushN_2 a b c
  have hxt : zXt g (dFr g none none none) := zXt.fr _ _ _ _
  have hein : zIn b0 g (t.2.1 m) 1 := hEN.1.2.1
  refine ⟨_, _, CO.focus (m := q) (R' := bgoTo (zup R 20 d (some g.1)) ((dFr g none none none).2.2.2 (t.2.1 m) 3) ((dFr g none none none).2.2.2 x 2)) (C' := bpushC (zup (zup C 21 6 (C 21 6 + 1)) 23 q9 1)) k1 k2 st ⟨?_, ?_, ?_⟩ ⟨rfl, rfl, rfl, rfl, rfl, rfl, rfl⟩ ?_ ((z2 5 (by decide) (by decide) (by decide)).trans ((hz2 5 (by decide)).trans h5)) ⟨?_, (z2 6 (by decide) (by decide) (by decide)).trans ((hz2 6 (by decide)).trans h3.2)⟩ ⟨q2, rfl, ?_, ?_⟩ ?_ ?_ ⟨?_, hP.2.1, hP.2.2.1, hP.2.2.2⟩⟩
  · unfold bgoTo; rw [zup_r (by decide), zup_r (by decide)]
  · unfold bgoTo; rw [zup_r (by decide), zup_r (by decide)]
  · unfold bgoTo; rw [zup_ne _ _ _ _ (by omega), zup_ne _ _ _ _ (by omega)]
  · rw [bpushC_k (by decide), hr17]; exact h2
  · rw [bpushC_k (by decide), hr17]; exact h3.1
  · rw [show ppushN N (nI 13) (-9) (-9) (-9) v np d 1 = M 1 from hp1.trans hz1]; exact q4
  · unfold bgoTo; rw [zup_ne _ _ _ _ (by omega), zup_at, hxt.rw hein]; exact q5
  · unfold bgoTo; rw [zup_at, hxt.rw hxin]
    have e4 := hX1.ext k3 hC1.IN
    exact e4
  · exact CV.ext (n := q) k3 ⟨fun l hl => hV1.1 l ((q6 l hl).resolve_right (fun z => absurd z.1 (by decide))), fun hr => hV1.2 (q7 hr)⟩
  · show 3 * (np + 1) ≤ 96 + 105 * (st + 1) + 2 * (d + 1)
    omega
/-- a finalizer's frame -/
theorem VH.c9 {b0 n0 : Nat} {g : zG} {f M : zI} {t : zTs} {sg rg mz fi : Nat → Nat} {el : Nat → Nat → Prop} {ci : Nat → Nat → Nat} {d nv nr nf np : Nat} {R : zRf} {C : zI} {st i x : Nat} {v : Int32}
    (h : VH b0 n0 (g, f, M, t, (sg, el, rg, ci, mz, fi), (d, nv, nr, nf, np)) R C st i x 9 v) : VR b0 n0 (g, f, M, t, (sg, el, rg, ci, mz, fi), (d, nv, nr, nf, np)) st i v (bgoat g R f C x (pA g x 1)) := by
  have hs := h.same
  obtain ⟨⟨hC, hB, hb0, hn0⟩, ⟨hi, hn, hxin, hT4, hf0, hFK⟩, ⟨h2, h4, h6⟩, ⟨h5, h3⟩, hst, ⟨p1, p2, p3, p4⟩, hd⟩ := h
  have p1 : 3 * np + 103 ≤ 105 * (st + 1) + 2 * d := p1
  have hb := hC.2.2.2.2.2
  have hi : i < np := hi
  have hnp : np ≤ 39800 := hb.2.2.2
  have h0 : pof M (nI i) 0 = 9 := (pof_n (k := 0) (by omega) (by decide)).trans hT4
  obtain ⟨q, r1, r2, r3⟩ := hFK.2.2.1 rfl
  have r1 : q < nf := r1
  have hnf : nf ≤ 1000 := hb.2.2.1
  have r3 : f x 3 = nI q := r3
  have po4 : pof M (nI i) 4 = nI q := (pof_n (k := 4) (by omega) (by decide)).trans r2
  have hx := CO.exe (i := i) (x := x) hC hB hb0 hn0 ⟨hi, hxin, hFK⟩ hd h2 h6 h5 h3 hst ⟨by omega, Nat.le_succ_of_le p2, Nat.le_succ_of_le p3, Nat.le_succ_of_le p4⟩
  have hq : bexecd C (f x 3) = M 2 (7230 + q) := by
    rw [r3]
    unfold bexecd
    rw [if_pos (kpl (by omega)), tn_nI (by omega)]
    exact hC.2.2.2.2.1.2.2.2.2.2.2.1 q r1
  refine ⟨pcV (by omega) hT4 (by decide) (fun e => absurd e (by decide)) (fun e => absurd e (by decide)) (fun e => absurd e (by decide)) (fun e => absurd e (by decide)) (fun e => absurd e (by decide)) (fun _ => ⟨?_, fun _ => hx.1⟩) (fun e => absurd e (by decide)) (fun e => absurd e (by decide)) (fun e => absurd e (by decide)) (fun e => absurd e (by decide)), ?_⟩
  · show iv 1200 (pof M (nI i) 4)
    rw [po4]; exact iv_nI (by omega) (by decide)
  rw [show qM (g, f, M, t, (sg, el, rg, ci, mz, fi), (d, nv, nr, nf, np)) = M from rfl, pcomes_9 h0, bgoat_9 hf0, po4, tn_nI (by omega)]
  unfold bg9
  rw [hq]
  by_cases q0 : M 2 (7230 + q) = 0
  · rw [if_pos q0, if_pos q0]
    exact ⟨rfl, hx.2⟩
  · rw [if_neg q0, if_neg q0]
    exact ⟨rfl, _, _, hs⟩
