/-! A run's step from a value: an operation is performed, as a whole. -/
set_option maxHeartbeats 2000000 in
/-- the frame at place p handles it -/
theorem CO.perfH {b0 n0 : Nat} {g : zG} {f N : zI} {t : zTs} {sg rg mz fi : Nat → Nat} {el : Nat → Nat → Prop} {ci : Nat → Nat → Nat} {d nv nr nf np : Nat} {R : zRf} {C1 : zI} {st a0 p xh : Nat} {v : Int32} {N3 P4 P5 P6 : zI} {cl : Int32}
    (hC1 : CO b0 n0 (g, f, N, t, (sg, el, rg, ci, mz, fi), (d, nv, nr, nf, np)) R C1) (hB1 : BO b0 n0 (g, f, N, t, (sg, el, rg, ci, mz, fi), (d, nv, nr, nf, np)) R) (hb0 : b0 ≤ g.1) (hn0 : n0 ≤ g.1) (hd : d < 100)
    (h2 : C1 17 2 = 1) (h6 : C1 17 6 = v) (h5 : N 2 5 = 1) (h3 : C1 17 3 = nI st ∧ N 2 6 = nI st) (hst : st < 1000) (p1 : 3 * np + 103 ≤ 105 * (st + 1) + 2 * d) (p2 : nv ≤ st) (p3 : nr ≤ st) (p4 : nf ≤ st) (ha : a0 < 6)
    (q1 : p < d) (q4 : R 20 p = some xh) (q5 : zIn b0 g xh 2) (q6 : fi p < np) (q7 : FK (g, f, N, t, (sg, el, rg, ci, mz, fi), (d, nv, nr, nf, np)) 12 (fi p) xh) (q8 : ¬ pclause N (pof N (nI (fi p)) 1) (nI a0) = -9) (q9 : N 4 (7 * fi p + 5) = (if p = 0 then -9 else nI (fi (p - 1))))
    (e3 : N3 = zup N 0 28 (nI (d - 1 - p))) (e4 : P4 = pmakeRes N3 (N3 2 7) (N3 0 28 + 1)) (e5 : P5 = zup P4 2 7 (pof P4 (nI (fi p)) 5)) (e6 : P6 = ppush P5 14 (-9) (-9) (-9) (N3 2 11)) (e7 : cl = pclause P4 (pof P4 (nI (fi p)) 1) (nI a0)) :
    (iv 1200 (N3 2 11) ∧ iv 40000 (nI (fi p)) ∧ iv 65000 (pof P4 (nI (fi p)) 1) ∧ pclOk P4 (pof P4 (nI (fi p)) 1) ∧ pushV P5 ∧ iv 65000 cl ∧ iv 1200 (P6 2 22)) ∧
    ∃ y n, SR b0 n0 (dSc (bcap g R f C1 p (d - p)).1 (some (g.1 + 1)) ((znG (bcap g R f C1 p (d - p)).1 9 0).2.2.2 xh 2), dScF (bcap g R f C1 p (d - p)).1 (bcap g R f C1 p (d - p)).2.2.1 (bclvar (bcap g R f C1 p (d - p)).1 (bcap g R f C1 p (d - p)).2.2.1 (pA g xh 1) (nI a0)) ((bcap g R f C1 p (d - p)).2.2.2 17 6), pfocusOn (pbindTo P6 (pof P6 (nI (fi p)) 2) (parg P6 cl) v) (ppart P6 cl 1) (P6 2 22) (N3 2 11), t, y, n)
      (bgoTo (bcap g R f C1 p (d - p)).2.1 (bclause (bcap g R f C1 p (d - p)).1 (pA g xh 1) (nI a0)) (some (bcap g R f C1 p (d - p)).1.1)) (bcap g R f C1 p (d - p)).2.2.2 st := by
  have hb := hC1.2.2.2.2.2
  have hnp : np ≤ 39800 := hb.2.2.2
  have hnv : nv ≤ 1100 := hb.1
  have hN65 : t.1 ≤ 65000 := hC1.1.1
  have c1 : C1 19 1 = nI d := hC1.2.2.2.2.1.1.1
  have c21 : C1 21 1 = nI nr := hC1.2.2.2.2.1.2.2.1.2
  have n11 : N 2 11 = nI nr := hC1.2.2.2.2.1.2.2.1.1
  have hd7 : N 2 7 = (if d = 0 then -9 else nI (fi (d - 1))) := hC1.2.2.2.1.2.1
  -- the node
  obtain ⟨m, k', m1, m2, m3, m4, m5, m6, m7, m8, m9⟩ := FK.node (b0 := b0) (n0 := n0) hC1.1 q7 (by omega) (by decide) (by decide)
  have m3 : pof N (nI (fi p)) 1 = nI m := m3
  have m1 : m < t.1 := m1
  obtain rfl : k' = 15 := (show ∀ k, k < 16 → 12 = frk k → k = 15 by decide) k' (by omega) m7
  have hHN : HN b0 n0 g f (N 1) t m (t.2.1 m) := m6.2.2.2.2.2 rfl
  have hein : zIn b0 g (t.2.1 m) 1 := m6.1.2.1
  rw [m3] at q8
  -- the search's count
  have z3 : ∀ r, r ≠ 0 → N3 r = N r := fun r hr => by rw [e3]; exact zup_r hr
  have z311 : N3 2 11 = nI nr := by rw [z3 2 (by decide)]; exact n11
  have z307 : N3 2 7 = (if d - p = 0 then -9 else nI (fi (d - 1))) := by rw [z3 2 (by decide), hd7, if_neg (by omega), if_neg (by omega)]
  have z28 : N3 0 28 + 1 = nI (d - p) := by rw [e3, zup_at]; exact (ixA rfl (ixC 1)).trans (congrArg nI (by omega))
  have hC3 : CO b0 n0 (g, f, N3, t, (sg, el, rg, ci, mz, fi), (d, nv, nr, nf, np)) R C1 := hC1.of zXt.rf (fun _ _ => rfl) (z3 1 (by decide)) (fun j _ => congrFun (z3 4 (by decide)) j) (fun j _ => congrFun (z3 2 (by decide)) j) rfl ⟨rfl, rfl, rfl, rfl, rfl, rfl, rfl⟩
  -- the resumption
  have g4 : P4 = pmakeN N3 (N3 2 7) (nI (d - p)) nr := by rw [e4, z28]; exact pmake_N z311 (by omega)
  have hC4 := hC3.res (p := p) (m := d - p) (top := N3 2 7) (by omega) hb0 hn0 (by omega) z307
  rw [← g4] at hC4
  have x4 : ∀ r, r ≠ 2 → P4 r = N3 r := fun r hr => by rw [g4]; exact pmakeN_r hr
  have x42 : ∀ j, j ≠ 11 → j < 3630 → P4 2 j = N3 2 j := fun j hj hj2 => by rw [g4]; exact pmakeN_o hj (by omega)
  have hC5 := hC4.popTo p (by omega)
  have g5 : P5 = zup P4 2 7 (if p = 0 then -9 else nI (fi (p - 1))) := by
    rw [e5, show (5 : Int32) = nI 5 from rfl, pof_n (by omega) (by decide), x4 4 (by decide), z3 4 (by decide), q9]
  rw [← g5] at hC5
  have x5 : ∀ r, r ≠ 2 → P5 r = P4 r := fun r hr => by rw [g5]; exact zup_r hr
  have x52 : ∀ j, j ≠ 7 → P5 2 j = P4 2 j := fun j hj => by rw [g5]; exact zup_ne _ _ _ _ (Or.inr hj)
  have y1 : P5 1 = N 1 := (x5 1 (by decide)).trans ((x4 1 (by decide)).trans (z3 1 (by decide)))
  have y4 : P5 4 = N 4 := (x5 4 (by decide)).trans ((x4 4 (by decide)).trans (z3 4 (by decide)))
  have y2 : ∀ j, j ≠ 7 → j ≠ 11 → j < 3630 → P5 2 j = N 2 j := fun j a b c => (x52 j a).trans ((x42 j b c).trans (congrFun (z3 2 (by decide)) j))
  have hG : zXt g (dRes (capG g (R 20) p (d - p) (d - p)) g.1) := (zXt.capG g (R 20) p (d - p) (d - p)).tr (zXt.res _ _)
  have hGF : ∀ y, y < g.1 → dResF (capG g (R 20) p (d - p) (d - p)) (znI g f) (nI nr) y = f y := by
    intro y hy
    show zup (zu1 (zu1 f g.1 _) (g.1 + 1) _) (g.1 + 1) 0 _ y = f y
    rw [zup_r (by omega), zu1_ne _ _ _ (by omega), zu1_ne _ _ _ (by omega)]
  have hE5 : EXT (g, f, N, t, (sg, el, rg, ci, mz, fi), (d, nv, nr, nf, np)) (dRes (capG g (R 20) p (d - p) (d - p)) g.1, dResF (capG g (R 20) p (d - p) (d - p)) (znI g f) (nI nr), P5, t, (sg, el, up1 rg nr (g.1 + 1), up1 ci nr (fun q => fi (p + q)), up1 mz nr (d - p), fi), (p, nv, nr + 1, nf, np)) :=
    ⟨⟨hG, hGF⟩, fun j _ => congrFun y4 j, ⟨y1, rfl⟩, ⟨Nat.le_refl _, Nat.le_succ _, Nat.le_refl _, Nat.le_refl _⟩, fun _ _ => ⟨rfl, rfl⟩, fun r hr => ⟨up1_ne (Nat.ne_of_lt hr), up1_ne (Nat.ne_of_lt hr), up1_ne (Nat.ne_of_lt hr)⟩⟩
  have hB5 := hB1.ext (R' := R) hE5 (fun j hj => y2 j (by omega) (by omega) (by omega)) rfl rfl
  have hsz : (dRes (capG g (R 20) p (d - p) (d - p)) g.1).1 = g.1 + 1 + 1 := rfl
  -- the clause's frame
  obtain ⟨w0, w1, w2, w3, w4, w5, w6⟩ := ppushN_n (M := P5) (k := nI 14) (n := -9) (e := -9) (s := -9) (x := nI nr) (np := np) (d := p)
  obtain ⟨k1, k2, k3⟩ := CO.pushF (κ := 14) (kv := 14) (yv := 0) (s1 := none) (s2 := none) (s3 := some (g.1 + 1)) (nn := -9) (ee := -9) (ss := -9) (xv := nI nr) hC5 hB5 (by omega) (by omega) (by omega) (by omega) ⟨by decide, by decide⟩ rfl
    ⟨fun e => absurd e (by decide), fun e => absurd e (by decide), fun e => absurd e (by decide), fun _ => ⟨nr, Nat.lt_succ_self _, w4, dFr_f.2.2.trans (congrArg some up1_at.symm), fun e => absurd e (by decide)⟩⟩
  have g6 : P6 = ppushN P5 (nI 14) (-9) (-9) (-9) (nI nr) np p := by rw [e6, z311]; exact hC5.push_eq _ _ _ _ _
  have hp1 : ppushN P5 (nI 14) (-9) (-9) (-9) (nI nr) np p 1 = P5 1 := ppushN_1 (by decide) (by decide)
  have hp2 : ∀ j, j ≠ 7 → j ≠ 8 → j ≠ 21 → ppushN P5 (nI 14) (-9) (-9) (-9) (nI nr) np p 2 j = P5 2 j := fun j a b c => ppushN_2 a b c
  have hp4 : ∀ j, j < 7 * np → ppushN P5 (nI 14) (-9) (-9) (-9) (nI nr) np p 4 j = N 4 j := fun j hj => (ppushN_4 hj).trans (congrFun y4 j)
  rw [← g6] at k1 k2 k3 hp1 hp2 hp4
  have hE6 := hE5.tr k3
  -- the clause
  have hxt : zXt g (dFr (dRes (capG g (R 20) p (d - p) (d - p)) g.1) none none (some (g.1 + 1))) := hE6.1.1
  have hHN6 : HN b0 n0 (dFr (dRes (capG g (R 20) p (d - p) (d - p)) g.1) none none (some (g.1 + 1))) (dFrF (dRes (capG g (R 20) p (d - p) (d - p)) g.1) (dResF (capG g (R 20) p (d - p) (d - p)) (znI g f) (nI nr)) 14 0) (P6 1) t m (t.2.1 m) := by
    rw [hp1, y1]
    exact hHN.ext hxt (fun y hy _ => hE6.1.2 y hy) hein
  have epo : pof P4 (nI (fi p)) 1 = nI m := by
    rw [← m3, show (1 : Int32) = nI 1 from rfl, pof_n (by omega) (by decide), pof_n (by omega) (by decide), x4 4 (by decide), z3 4 (by decide)]
  have hcl : cl = pclause P6 (nI m) (nI a0) := by
    rw [e7, epo]
    exact pclause_1 ((x5 1 (by decide)).symm.trans hp1.symm)
  have hclN : cl = pclause N (nI m) (nI a0) := hcl.trans (pclause_1 (hp1.trans y1))
  obtain ⟨r0, r1⟩ := hHN6.clause (w := a0) hN65 m1 (by omega)
  rcases r1 with ⟨r1, -⟩ | ⟨q0, v0, b, s1, s2, s3, s4, s5, s6, s7, s8, s9, s10, s11, s12, s13⟩
  · exact absurd (hclN.symm.trans (hcl.trans r1)) q8
  have hcq : cl = nI q0 := hcl.trans s3
  refine ⟨⟨?_, iv_nI (by omega) (by decide), ?_, ?_, ⟨hC5.vd.2.2.1, hC5.vd.1⟩, ?_, k1.vd.2.2.2.1⟩, ?_⟩
  · rw [z311]; exact iv_nI (by omega) (by decide)
  · rw [epo]; exact iv_nI m2 (by decide)
  · rw [epo]
    unfold pclOk at r0 ⊢
    rw [show P4 1 = P6 1 from (x5 1 (by decide)).symm.trans hp1.symm]
    exact pclV_1 (hp1.trans (x5 1 (by decide))) _ _ r0
  · rw [hcq]; exact iv_nI (by omega) (by decide)
  -- both end alike
  have b2 : pof P6 (nI (fi p)) 2 = N 4 (7 * fi p + 2) := (pof_n (k := 2) (by omega) (by decide)).trans (hp4 _ (by omega))
  have b3 : parg P6 cl = nI v0 := by rw [hcq, parg_n (by omega)]; exact s9
  have b4 : ppart P6 cl 1 = nI b := by rw [hcq]; exact (ppart_n (k := 1) (by omega) (by decide)).trans s6
  have b5 : (znG (dFr (dRes (capG g (R 20) p (d - p) (d - p)) g.1) none none (some (g.1 + 1))) 9 0).2.2.2 xh 2 = g.2.2.2 xh 2 := by
    have hlt : xh < (dFr (dRes (capG g (R 20) p (d - p) (d - p)) g.1) none none (some (g.1 + 1))).1 := Nat.lt_of_lt_of_le q5.2.1 hxt.1.1
    exact (congrFun (zu1_ne _ _ _ (Nat.ne_of_lt hlt)) 2).trans (congrFun (hxt.rw q5) 2)
  have hX6 := m8.ext hE6 hC1.IN
  have hV6 := CV.ext hE6 m9
  have hr17 : bpushC (zup (zup (zup C1 22 nr 0) 21 1 (nI (nr + 1))) 19 1 (nI p)) 17 = C1 17 := by rw [bpushC_r (by decide), zup_r (by decide), zup_r (by decide), zup_r (by decide)]
  rw [bcap_e c1 c21 (by omega) (by omega) (by omega), pA_eq m4, b2, b3, b4, z311]
  simp only
  rw [b5, hr17, h6, s10, s11]
  refine ⟨_, _, CO.bindTo (m := b) (s := g.2.2.2 xh 2) (ro := some (g.1 + 1)) (a := N 4 (7 * fi p + 2)) (b := nI nr) k1 k2 ?_ ?_ ?_ ((hp2 5 (by decide) (by decide) (by decide)).trans ((y2 5 (by decide) (by decide) (by decide)).trans h5)) ⟨?_, (hp2 6 (by decide) (by decide) (by decide)).trans ((y2 6 (by decide) (by decide) (by decide)).trans h3.2)⟩ hst ⟨?_, p2, by omega, by omega⟩ s8 hX6.env (Or.inr ⟨nr, Nat.lt_succ_self _, rfl, ?_, congrArg some up1_at.symm⟩) ⟨s5, rfl, s7⟩ (fun l hl => ?_) (fun _ => (iv_nI (N := 1200) (by omega) (by decide)).nn (by decide))⟩
  · show b0 ≤ g.1 + 1 + 1 + 1; omega
  · show n0 ≤ g.1 + 1 + 1 + 1; omega
  · rw [hr17]; exact h2
  · rw [hr17]; exact h3.1
  · show 3 * (np + 1) ≤ 96 + 105 * (st + 1) + 2 * (p + 1); omega
  · show 1 ≤ up1 mz nr (d - p) nr; rw [up1_at]; omega
  · rcases s12 l hl with hl | hl
    · obtain ⟨e, f1, f2, f3⟩ := hV6.1 l hl
      exact Or.inr ⟨e, f2, f1, f3⟩
    · exact Or.inl hl
set_option maxHeartbeats 2000000 in
theorem VH.c7 {b0 n0 c : Nat} {g : zG} {f M : zI} {t : zTs} {sg rg mz fi : Nat → Nat} {el : Nat → Nat → Prop} {ci : Nat → Nat → Nat} {d nv nr nf np : Nat} {R : zRf} {C : zI} {st i x : Nat} {v : Int32}
    (h : VH b0 n0 (g, f, M, t, (sg, el, rg, ci, mz, fi), (d, nv, nr, nf, np)) R C st i x 7 v) (hc : c + 27 ≤ n0) : VR b0 n0 (g, f, M, t, (sg, el, rg, ci, mz, fi), (d, nv, nr, nf, np)) st i v (bperf g R f C (f (pA g x 1) 1) d) ∧ bphV g f c (R 20) d := by
  obtain ⟨m, k, n1, n1', n2, n3, n4, n5, n6, n7, -⟩ := h.node (by decide)
  have n2 : pof M (nI i) 1 = nI m := n2
  obtain rfl : k = 10 := n7.elim (fun q => (show ∀ k, k < 16 → 7 = frk k → k = 10 by decide) k (by omega) q) (fun q => absurd q.1 (by decide))
  obtain ⟨⟨hC, hB, hb0, hn0⟩, ⟨hi, hn, hxin, hT4, hf0, hFK⟩, ⟨h2, h4, h6⟩, ⟨h5, h3⟩, hst, ⟨p1, p2, p3, p4⟩, hd⟩ := h
  have p1 : 3 * np + 103 ≤ 105 * (st + 1) + 2 * d := p1
  have p2 : nv ≤ st := p2
  have p3 : nr ≤ st := p3
  have p4 : nf ≤ st := p4
  have hd : d < 100 := hd
  have hb0 : b0 ≤ g.1 := hb0
  have hn0 : n0 ≤ g.1 := hn0
  have hb := hC.2.2.2.2.2
  have hi : i < np := hi
  have hnp : np ≤ 39800 := hb.2.2.2
  have hN65 : t.1 ≤ 65000 := hC.1.1
  have h0 : pof M (nI i) 0 = 7 := (pof_n (k := 0) (by omega) (by decide)).trans hT4
  obtain ⟨a0, ha, ha2⟩ := n6.2.1.2.1 (Or.inl rfl)
  have ha2 : M 1 (5 * m + 1) = nI a0 := ha2
  have hfa : f (pA g x 1) 1 = nI a0 := by
    rw [pA_eq n3]
    exact (n6.1.2.2.2 (Or.inr (Or.inr (Or.inr (Or.inl rfl))))).trans ha2
  have hpa : parg M (pof M (nI i) 1) = nI a0 := by rw [n2, parg_n (by omega)]; exact ha2
  -- it is counted
  have hC1 := hC.perf a0 ha
  have hz1 : zup (zup M 2 10 (M 2 10 + 1)) 2 (24 + a0) (M 2 (24 + a0) + 1) 1 = M 1 := by rw [zup_r (by decide), zup_r (by decide)]
  have hz4 : zup (zup M 2 10 (M 2 10 + 1)) 2 (24 + a0) (M 2 (24 + a0) + 1) 4 = M 4 := by rw [zup_r (by decide), zup_r (by decide)]
  have hz2 : ∀ j, j ≠ 10 → (j < 24 ∨ 30 ≤ j) → zup (zup M 2 10 (M 2 10 + 1)) 2 (24 + a0) (M 2 (24 + a0) + 1) 2 j = M 2 j := fun j hj hj2 => by rw [zup_ne _ _ _ _ (by omega), zup_ne _ _ _ _ (by omega)]
  have hE1 : EXT (g, f, M, t, (sg, el, rg, ci, mz, fi), (d, nv, nr, nf, np)) (g, f, zup (zup M 2 10 (M 2 10 + 1)) 2 (24 + a0) (M 2 (24 + a0) + 1), t, (sg, el, rg, ci, mz, fi), (d, nv, nr, nf, np)) :=
    ⟨⟨zXt.rf, fun _ _ => rfl⟩, fun j _ => congrFun hz4 j, ⟨hz1, rfl⟩, ⟨Nat.le_refl _, Nat.le_refl _, Nat.le_refl _, Nat.le_refl _⟩, fun _ _ => ⟨rfl, rfl⟩, fun _ _ => ⟨rfl, rfl, rfl⟩⟩
  have hB1 := hB.ext (R' := R) hE1 (fun j hj => hz2 j (by omega) (by omega)) rfl rfl
  have hpf1 := pf1_e (M := M) ha
  have hbpc := bpc_e (C := C) ha
  have hC17 : zup C 25 a0 (C 25 a0 + 1) 17 = C 17 := zup_r (by decide)
  generalize zup (zup M 2 10 (M 2 10 + 1)) 2 (24 + a0) (M 2 (24 + a0) + 1) = N at *
  generalize zup C 25 a0 (C 25 a0 + 1) = C1 at *
  have hd7 : N 2 7 = (if d = 0 then -9 else nI (fi (d - 1))) := hC1.2.2.2.1.2.1
  obtain ⟨u1, u2, u3⟩ := hC1.hand hc ha d (Nat.le_refl _) 101 (by omega) 0
  rw [← hd7] at u1 u3
  rw [show nI (d - d) = 0 by rw [Nat.sub_self]; rfl] at u3
  rw [hfa]
  refine ⟨?_, u2⟩
  have hph : pfh M (nI a0) = (phA N (nI a0) 101 0 (N 2 7) 0).1 := by unfold pfh phand; rw [hpf1]
  have hpf3 : pf3 M (nI a0) = zup N 0 28 (phA N (nI a0) 101 0 (N 2 7) 0).2 := by unfold pf3 phand; rw [hpf1]
  have hVV : ∀ z : Prop, (¬ pfh M (nI a0) = -9 → iv 1200 (pf3 M (nI a0) 2 11) ∧ iv 40000 (pfh M (nI a0)) ∧ iv 65000 (pof (pf4 M (nI a0)) (pfh M (nI a0)) 1) ∧ pclOk (pf4 M (nI a0)) (pof (pf4 M (nI a0)) (pfh M (nI a0)) 1) ∧ pushV (pf5 M (nI a0)) ∧ iv 65000 (pfc M (nI a0)) ∧ iv 1200 (pf6 M (nI a0) 2 22)) → pcomesV M (nI i) := by
    intro _ q
    refine pcV (by omega) hT4 (by decide) (fun e => absurd e (by decide)) (fun e => absurd e (by decide)) (fun e => absurd e (by decide)) (fun e => absurd e (by decide)) (fun _ => ⟨?_, ?_⟩) (fun e => absurd e (by decide)) (fun e => absurd e (by decide)) (fun e => absurd e (by decide)) (fun e => absurd e (by decide)) (fun e => absurd e (by decide))
    · rw [n2]; exact iv_nI n1' (by decide)
    · rw [hpa]
      refine ⟨iv_nI ha (by decide), ?_, q⟩
      rw [hpf1]; exact u1
  have hpc : pcomes M (nI i) v = (1, pperf M (nI a0) v) := by rw [pcomes_7 h0, hpa]
  show pcomesV M (nI i) ∧ (pcomes M (nI i) v).1 = 1 ∧ ∃ y n, SR b0 n0 ((bperf g R f C (nI a0) d).1, (bperf g R f C (nI a0) d).2.2.1, (pcomes M (nI i) v).2, t, y, n) (bperf g R f C (nI a0) d).2.1 (bperf g R f C (nI a0) d).2.2.2 st
  rw [hpc, bperfE_eq, hbpc]
  unfold bperfE
  rcases u3 with ⟨q1, q2⟩ | ⟨p, xh, q1, q2, q3, q4, q5, q6, q7, q8, q9⟩
  · -- none handles it
    have hno : pfh M (nI a0) = -9 := hph.trans q2
    refine ⟨hVV True (fun q => absurd hno q), rfl, (sg, el, rg, ci, mz, fi), (d, nv, nr, nf, np), ?_⟩
    rw [q1, if_pos (by decide)]
    show SR b0 n0 (g, f, pperf M (nI a0) v, t, (sg, el, rg, ci, mz, fi), (d, nv, nr, nf, np)) R (zup (zup C1 17 2 3) 17 7 (nI a0)) st
    have hpp : pperf M (nI a0) v = zup (zup (zup (zup (pf3 M (nI a0)) 2 5 3) 2 15 (nI a0)) 2 20 v) 2 16 0 := if_pos hno
    rw [hpp, hpf3]
    generalize (phA N (nI a0) 101 0 (N 2 7) 0).2 = sk
    have y1 : zup (zup (zup (zup (zup N 0 28 sk) 2 5 3) 2 15 (nI a0)) 2 20 v) 2 16 0 1 = N 1 := by rw [zup_r (by decide), zup_r (by decide), zup_r (by decide), zup_r (by decide), zup_r (by decide)]
    have y4 : zup (zup (zup (zup (zup N 0 28 sk) 2 5 3) 2 15 (nI a0)) 2 20 v) 2 16 0 4 = N 4 := by rw [zup_r (by decide), zup_r (by decide), zup_r (by decide), zup_r (by decide), zup_r (by decide)]
    have y2 : ∀ j, j ≠ 5 → j ≠ 15 → j ≠ 16 → j ≠ 20 → zup (zup (zup (zup (zup N 0 28 sk) 2 5 3) 2 15 (nI a0)) 2 20 v) 2 16 0 2 j = N 2 j := fun j a b c e => by rw [zup_ne _ _ _ _ (Or.inr c), zup_ne _ _ _ _ (Or.inr e), zup_ne _ _ _ _ (Or.inr b), zup_ne _ _ _ _ (Or.inr a), zup_ne _ _ _ _ (by omega)]
    have y16 : zup (zup (zup (zup (zup N 0 28 sk) 2 5 3) 2 15 (nI a0)) 2 20 v) 2 16 0 2 16 = 0 := zup_at _ _ _ _
    have hE2 : EXT (g, f, N, t, (sg, el, rg, ci, mz, fi), (d, nv, nr, nf, np)) (g, f, zup (zup (zup (zup (zup N 0 28 sk) 2 5 3) 2 15 (nI a0)) 2 20 v) 2 16 0, t, (sg, el, rg, ci, mz, fi), (d, nv, nr, nf, np)) :=
      ⟨⟨zXt.rf, fun _ _ => rfl⟩, fun j _ => congrFun y4 j, ⟨y1, rfl⟩, ⟨Nat.le_refl _, Nat.le_refl _, Nat.le_refl _, Nat.le_refl _⟩, fun _ _ => ⟨rfl, rfl⟩, fun _ _ => ⟨rfl, rfl, rfl⟩⟩
    refine ⟨hC1.of (R' := R) (C' := zup (zup C1 17 2 3) 17 7 (nI a0)) zXt.rf (fun _ _ => rfl) y1 (fun j _ => congrFun y4 j) (fun j hj => y2 j ?_ ?_ ?_ ?_) rfl ⟨?_, ?_, ?_, ?_, ?_, ?_, ?_⟩, hB1.ext hE2 (fun j hj => y2 j (by omega) (by omega) (by omega) (by omega)) rfl rfl, ⟨?_, ?_⟩, Or.inr (Or.inr ⟨⟨?_, h4, y16, ?_, ?_, ?_, a0, ha, ?_⟩, by show 3 * np + 103 ≤ 105 * (st + 1) + 2 * d; omega, Nat.le_succ_of_le p2, p3, Nat.le_succ_of_le p4⟩)⟩
    · rcases hj with hj | hj <;> omega
    · rcases hj with hj | hj <;> omega
    · rcases hj with hj | hj <;> omega
    · rcases hj with hj | hj <;> omega
    · rw [zup_r (by decide), zup_r (by decide)]
    · rw [zup_r (by decide), zup_r (by decide)]
    · rw [zup_r (by decide), zup_r (by decide)]
    · rw [zup_r (by decide), zup_r (by decide)]
    · rw [zup_r (by decide), zup_r (by decide)]
    · rw [zup_r (by decide), zup_r (by decide)]
    · rw [zup_ne _ _ _ _ (by omega), zup_ne _ _ _ _ (by omega)]
    · rw [zup_ne _ _ _ _ (by omega), zup_ne _ _ _ _ (by omega), hC17]; exact h3.1
    · exact (y2 6 (by omega) (by omega) (by omega) (by omega)).trans ((hz2 6 (by omega) (by omega)).trans h3.2)
    · rw [zup_ne _ _ _ _ (by omega), zup_at]
    · rw [zup_ne _ _ _ _ (by omega), zup_ne _ _ _ _ (by omega), hC17]
      show C 17 6 = zup (zup (zup (zup (zup N 0 28 sk) 2 5 3) 2 15 (nI a0)) 2 20 v) 2 16 0 2 20
      rw [zup_ne _ _ _ _ (by omega), zup_at]; exact h6
    · show zup (zup (zup (zup (zup N 0 28 sk) 2 5 3) 2 15 (nI a0)) 2 20 v) 2 16 0 2 5 = 3
      rw [zup_ne _ _ _ _ (by omega), zup_ne _ _ _ _ (by omega), zup_ne _ _ _ _ (by omega), zup_at]
    · rw [zup_at]
      show _ = zup (zup (zup (zup (zup N 0 28 sk) 2 5 3) 2 15 (nI a0)) 2 20 v) 2 16 0 2 15
      rw [zup_ne _ _ _ _ (by omega), zup_ne _ _ _ _ (by omega), zup_at]
    · show zup (zup (zup (zup (zup N 0 28 sk) 2 5 3) 2 15 (nI a0)) 2 20 v) 2 16 0 2 15 = _
      rw [zup_ne _ _ _ _ (by omega), zup_ne _ _ _ _ (by omega), zup_at]
  · -- the frame at place p handles it
    have hyes : pfh M (nI a0) = nI (fi p) := hph.trans (by rw [q3])
    have g3 : pf3 M (nI a0) = zup N 0 28 (nI (d - 1 - p)) := by rw [hpf3, q3]
    have hne : ¬ pfh M (nI a0) = -9 := by rw [hyes]; exact (iv_nI (N := 40000) (by omega) (by decide)).nn (by decide)
    obtain ⟨r1, y, n, r2⟩ := CO.perfH (v := v) (N3 := pf3 M (nI a0)) (P4 := pf4 M (nI a0)) (P5 := pf5 M (nI a0)) (P6 := pf6 M (nI a0)) (cl := pfc M (nI a0)) hC1 hB1 hb0 hn0 hd (by rw [hC17]; exact h2) (by rw [hC17]; exact h6) ((hz2 5 (by decide) (by decide)).trans h5) ⟨by rw [hC17]; exact h3.1, (hz2 6 (by decide) (by decide)).trans h3.2⟩ hst p1 p2 p3 p4 ha q1 q4 q5 q6 q7 q8 q9 g3 rfl (by unfold pf5; rw [hyes]) rfl (by unfold pfc; rw [hyes])
    refine ⟨hVV True (fun _ => by rw [hyes]; exact r1), rfl, y, n, ?_⟩
    have hpp : pperf M (nI a0) v = pfocusOn (pbindTo (pf6 M (nI a0)) (pof (pf6 M (nI a0)) (nI (fi p)) 2) (parg (pf6 M (nI a0)) (pfc M (nI a0))) v) (ppart (pf6 M (nI a0)) (pfc M (nI a0)) 1) (pf6 M (nI a0) 2 22) (pf3 M (nI a0) 2 11) := by
      unfold pperf pf7
      rw [if_neg hne, hyes]
    rw [q2, if_neg (nI_pos (by omega)), tn_nI (by omega), q4]
    show SR b0 n0 (_, _, pperf M (nI a0) v, t, y, n) _ _ st
    rw [hpp]
    exact r2
