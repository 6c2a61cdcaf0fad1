/-! A run's step from a value: what holds once the frame is popped; the simple frames. -/
theorem CO.pushF {b0 n0 : Nat} {g : zG} {f M : zI} {t : zTs} {sg rg mz fi : Nat → Nat} {el : Nat → Nat → Prop} {ci : Nat → Nat → Nat} {d nv nr nf np κ : Nat} {R : zRf} {C : zI} {nn ee ss xv kv yv : Int32} {s1 s2 s3 : Option Nat}
    (h : CO b0 n0 (g, f, M, t, (sg, el, rg, ci, mz, fi), (d, nv, nr, nf, np)) R C) (hB : BO b0 n0 (g, f, M, t, (sg, el, rg, ci, mz, fi), (d, nv, nr, nf, np)) R) (hb : b0 ≤ g.1) (hn0 : n0 ≤ g.1) (hd : d < 100) (hnp : np < 39800) (hκ : 1 ≤ κ ∧ κ ≤ 14) (hkv : kv = nI κ)
    (hFK : FK (dFr g s1 s2 s3, dFrF g f kv yv, ppushN M (nI κ) nn ee ss xv np d, t, (sg, el, rg, ci, mz, fiP fi d np), (d + 1, nv, nr, nf, np + 1)) κ np g.1) :
    CO b0 n0 (dFr g s1 s2 s3, dFrF g f kv yv, ppushN M (nI κ) nn ee ss xv np d, t, (sg, el, rg, ci, mz, fiP fi d np), (d + 1, nv, nr, nf, np + 1)) (zup R 20 d (some g.1)) (bpushC C) ∧
    BO b0 n0 (dFr g s1 s2 s3, dFrF g f kv yv, ppushN M (nI κ) nn ee ss xv np d, t, (sg, el, rg, ci, mz, fiP fi d np), (d + 1, nv, nr, nf, np + 1)) (zup R 20 d (some g.1)) ∧
    EXT (g, f, M, t, (sg, el, rg, ci, mz, fi), (d, nv, nr, nf, np)) (dFr g s1 s2 s3, dFrF g f kv yv, ppushN M (nI κ) nn ee ss xv np d, t, (sg, el, rg, ci, mz, fiP fi d np), (d + 1, nv, nr, nf, np + 1)) := by
  have hxt : zXt g (dFr g s1 s2 s3) := zXt.fr _ _ _ _
  have hp1 : ppushN M (nI κ) nn ee ss xv np d 1 = M 1 := ppushN_1 (by decide) (by decide)
  have h1 : CO b0 n0 (dFr g s1 s2 s3, dFrF g f kv yv, M, t, (sg, el, rg, ci, mz, fi), (d, nv, nr, nf, np)) R C :=
    h.of hxt (fun y hy => dFrF_o hy) rfl (fun _ _ => rfl) (fun _ _ => rfl) rfl ⟨rfl, rfl, rfl, rfl, rfl, rfl, rfl⟩
  have hE : EXT (g, f, M, t, (sg, el, rg, ci, mz, fi), (d, nv, nr, nf, np)) (dFr g s1 s2 s3, dFrF g f kv yv, ppushN M (nI κ) nn ee ss xv np d, t, (sg, el, rg, ci, mz, fiP fi d np), (d + 1, nv, nr, nf, np + 1)) :=
    ⟨⟨hxt, fun y hy => dFrF_o hy⟩, fun j hj => ppushN_4 hj, ⟨hp1, rfl⟩, ⟨Nat.le_refl _, Nat.le_refl _, Nat.le_refl _, Nat.le_succ _⟩, fun _ _ => ⟨rfl, rfl⟩, fun _ _ => ⟨rfl, rfl, rfl⟩⟩
  have w0 := (ppushN_n (M := M) (k := nI κ) (n := nn) (e := ee) (s := ss) (x := xv) (np := np) (d := d)).1
  refine ⟨h1.push hd hnp ⟨Nat.lt_succ_self _, hn0, dFr_in hb, κ, hκ.1, hκ.2, w0, dFrF_f.1.trans hkv, hFK⟩, hB.ext hE (fun j hj => ppushN_2 (by omega) (by omega) (by omega)) (by rw [zup_ne _ _ _ _ (by omega)]) (zup_r (by decide)), hE⟩
/-- a value is out, the frame that it comes to is popped -/
def VH (b0 n0 : Nat) (X : zCt) (R : zRf) (C : zI) (st i x κ : Nat) (v : Int32) : Prop :=
  (CO b0 n0 X R C ∧ BO b0 n0 X R ∧ b0 ≤ (qg X).1 ∧ n0 ≤ (qg X).1) ∧ (i < nP X ∧ n0 ≤ x ∧ zIn b0 (qg X) x 2 ∧ (qM X) 4 (7 * i) = nI κ ∧ (qf X) x 0 = nI κ ∧ FK X κ i x) ∧
  (C 17 2 = 1 ∧ R 17 4 = none ∧ C 17 6 = v) ∧ ((qM X) 2 5 = 1 ∧ C 17 3 = nI st ∧ (qM X) 2 6 = nI st) ∧ st < 1000 ∧
  (3 * nP X + 103 ≤ 105 * (st + 1) + 2 * nD X ∧ nV X ≤ st ∧ nR X ≤ st ∧ nF X ≤ st) ∧ nD X < 100
/-- the reference's step and the class's answer alike -/
def VR (b0 n0 : Nat) (X : zCt) (st i : Nat) (v : Int32) (S : bSt) : Prop :=
  pcomesV (qM X) (nI i) ∧ (pcomes (qM X) (nI i) v).1 = 1 ∧ ∃ y n, SR b0 n0 (S.1, S.2.2.1, (pcomes (qM X) (nI i) v).2, qt X, y, n) S.2.1 S.2.2.2 st
theorem pcV {M : zI} {i κ : Nat} (hi : i < 40000) (hk : M 4 (7 * i) = nI κ) (hκ : κ ≤ 14) (a1 : κ = 1 → iv 65000 (pof M (nI i) 1) ∧ pushV M ∧ tn (nI i) < tn (M 2 21)) (a2 : κ = 2 ∨ κ = 3 ∨ κ = 4 → iv 65000 (pof M (nI i) 1))
    (a5 : κ = 5 → iv 65000 (pof M (nI i) 1) ∧ iv 1200 (M 2 22)) (a6 : κ = 6 → iv 61 (M 2 9)) (a7 : κ = 7 → iv 65000 (pof M (nI i) 1) ∧ pperfV M (parg M (pof M (nI i) 1)))
    (a9 : κ = 9 → iv 1200 (pof M (nI i) 4) ∧ (M 2 (7230 + tn (pof M (nI i) 4)) = 0 → pexecV M (nI i))) (a10 : κ = 10 → pcallV M (nI i)) (a11 : κ = 11 → presumesV M (pof M (nI i) 4)) (a12 : κ = 12 → pleaveV M (nI i)) (a14 : κ = 14 → pcloseV M (nI i)) : pcomesV M (nI i) := by
  have h0 : pof M (nI i) 0 = nI κ := (pof_n (k := 0) (by omega) (by decide)).trans hk
  have e : ∀ j, j < 100 → pof M (nI i) 0 = nI j → κ = j := fun j hj q => (nI_eq (by omega) (by omega)).mp (h0.symm.trans q)
  exact ⟨iv_nI hi (by decide), fun q => a1 (e 1 (by decide) q), fun q => a2 (q.imp (e 2 (by decide)) (Or.imp (e 3 (by decide)) (e 4 (by decide)))), fun q => a5 (e 5 (by decide) q), fun q => a6 (e 6 (by decide) q), fun q => a7 (e 7 (by decide) q), fun q => a9 (e 9 (by decide) q), fun q => a10 (e 10 (by decide) q), fun q => a11 (e 11 (by decide) q), fun q => a12 (e 12 (by decide) q), fun q => a14 (e 14 (by decide) q)⟩
/-- a frame's node -/
theorem VH.node {b0 n0 : Nat} {X : zCt} {R : zRf} {C : zI} {st i x κ : Nat} {v : Int32} (h : VH b0 n0 X R C st i x κ v) (hκ : κ ≤ 12) : ∃ n k, n < nN X ∧ n < 65000 ∧ pof (qM X) (nI i) 1 = nI n ∧ (qg X).2.2.2 x 1 = some (nE X n) ∧ k ≤ 15 ∧ (qM X) 1 (5 * n) = nI k ∧ EN b0 n0 (qg X) (qf X) ((qM X) 1) (qt X) k n ∧
    (κ = frk k ∨ (κ = 2 ∧ 2 ≤ k ∧ k ≤ 5)) ∧ (¬ κ = 2 → XR X (pof (qM X) (nI i) 2) (pof (qM X) (nI i) 3) ((qg X).2.2.2 x 2) ∧ CV X n (pof (qM X) (nI i) 2) (pof (qM X) (nI i) 3)) := by
  obtain ⟨⟨hC, -⟩, ⟨hi, -, -, -, -, hF⟩, -⟩ := h
  have hb := hC.2.2.2.2.2.2.2.2
  obtain ⟨n, k, n1, n2, n3, n4, n5, n6, n7⟩ := hF.1 hκ
  have hN := hC.1.1
  have n1' : n < (qt X).1 := n1
  obtain ⟨k', a1, a2, a3⟩ := hC.1.at n1 (fun e => absurd ((nI_eq (by omega) (by decide)).mp (n5.symm.trans e)) (by omega))
  obtain rfl : k' = k := (nI_eq (by omega) (by omega)).mp (a2.symm.trans n5)
  have p2 : pof (qM X) (nI i) 2 = (qM X) 4 (7 * i + 2) := pof_n (k := 2) (by omega) (by decide)
  have p3 : pof (qM X) (nI i) 3 = (qM X) 4 (7 * i + 3) := pof_n (k := 3) (by omega) (by decide)
  refine ⟨n, k', n1, by omega, (pof_n (k := 1) (by omega) (by decide)).trans n2, n3, n4, n5, a3, n6, fun q => ?_⟩
  rw [p2, p3]
  exact n7 q
/-- the value is the answer -/
theorem VH.same {b0 n0 : Nat} {g : zG} {f M : zI} {t : zTs} {y : zGs} {n : zNs} {R : zRf} {C : zI} {st i x κ : Nat} {v : Int32} (h : VH b0 n0 (g, f, M, t, y, n) R C st i x κ v) : SR b0 n0 (g, f, pbecome M v, t, y, n) R C st := by
  obtain ⟨⟨hC, hB, -⟩, -, ⟨h2, h4, h6⟩, ⟨-, h3⟩, -, ⟨p1, p2, p3, p4⟩, -⟩ := h
  exact CO.become hC hB v st ⟨rfl, rfl, rfl, h4⟩ ⟨rfl, rfl, rfl, rfl, rfl, rfl, rfl⟩ h2 h6 h3 ⟨by omega, by omega, by omega, by omega⟩
/-- another value is the answer -/
theorem VH.other {b0 n0 : Nat} {g : zG} {f M : zI} {t : zTs} {y : zGs} {n : zNs} {R : zRf} {C : zI} {st i x κ : Nat} {v : Int32} (h : VH b0 n0 (g, f, M, t, y, n) R C st i x κ v) (w : Int32) : SR b0 n0 (g, f, pbecome M w, t, y, n) R (zup C 17 6 w) st := by
  obtain ⟨⟨hC, hB, -⟩, -, ⟨h2, h4, h6⟩, ⟨-, h3⟩, -, ⟨p1, p2, p3, p4⟩, -⟩ := h
  refine CO.become hC hB w st ⟨rfl, rfl, rfl, h4⟩ ⟨?_, ?_, ?_, ?_, ?_, ?_, ?_⟩ ?_ (zup_at _ _ _ _) ⟨?_, h3.2⟩ ⟨by omega, by omega, by omega, by omega⟩
  · exact zup_r (by decide)
  · exact zup_r (by decide)
  · exact zup_r (by decide)
  · exact zup_r (by decide)
  · exact zup_r (by decide)
  · exact zup_r (by decide)
  · exact zup_ne _ _ _ _ (by omega)
  · rw [zup_ne _ _ _ _ (by omega)]; exact h2
  · rw [zup_ne _ _ _ _ (by omega)]; exact h3.1
theorem bres_k : ∀ (a b : Int32) (k : Nat), 2 ≤ k → k ≤ 5 → bresult (sgn k) a b = presult (nI k) a b := by
  intro a b k h1 h2
  have hs : k = 2 ∨ k = 3 ∨ k = 4 ∨ k = 5 := by omega
  rcases hs with rfl | rfl | rfl | rfl <;> rfl
/-- the second operand -/
theorem VH.c2 {b0 n0 : Nat} {g : zG} {f M : zI} {t : zTs} {y : zGs} {n : zNs} {R : zRf} {C : zI} {st i x : Nat} {v : Int32} (h : VH b0 n0 (g, f, M, t, y, n) R C st i x 2 v) : VR b0 n0 (g, f, M, t, y, n) st i v (bgoat g R f C x (pA g x 1)) := by
  obtain ⟨m, k, n1, n1', n2, n3, n4, n5, n6, n7, -⟩ := h.node (by decide)
  have hb := h.1.1.2.2.2.2.2.2.2.2
  have hi := h.2.1.1
  have h6 := h.2.2.1.2.2
  have hk : 2 ≤ k ∧ k ≤ 5 := n7.elim (fun q => absurd q.symm ((show ∀ k, k < 16 → ¬ frk k = 2 by decide) k (by omega))) (fun q => q.2)
  have h0 : pof M (nI i) 0 = 2 := (pof_n (k := 0) (by omega) (by decide)).trans h.2.1.2.2.2.1
  have hx3 : f x 3 = pof M (nI i) 4 := (h.2.1.2.2.2.2.2.2.1 (Or.inl rfl)).trans (pof_n (k := 4) (by omega) (by decide)).symm
  have hpk : pkind M (pof M (nI i) 1) = nI k := by rw [show pof M (nI i) 1 = nI m from n2, pkind_n (by omega)]; exact n5
  refine ⟨pcV (by omega) h.2.1.2.2.2.1 (by decide) (fun e => absurd e (by decide)) (fun _ => ?_) (fun e => absurd e (by decide)) (fun e => absurd e (by decide)) (fun e => absurd e (by decide)) (fun e => absurd e (by decide)) (fun e => absurd e (by decide)) (fun e => absurd e (by decide)) (fun e => absurd e (by decide)) (fun e => absurd e (by decide)), ?_⟩
  · rw [n2]; exact iv_nI n1' (by decide)
  have hc : pcomes M (nI i) v = (1, pbecome M (bresult (f (pA g x 1) 0) (f x 3) (C 17 6))) := by
    rw [pcomes_2 h0, hpk, hx3, h6, pA_eq n3, show f (t.2.1 m) 0 = sgn k from n6.1.2.2.1, bres_k _ _ _ hk.1 hk.2]
  rw [show qM (g, f, M, t, y, n) = M from rfl, hc, bgoat_2 h.2.1.2.2.2.2.1]
  exact ⟨rfl, _, _, h.other _⟩
/-- a mask, and what has no more to do -/
theorem VH.c8 {b0 n0 : Nat} {g : zG} {f M : zI} {t : zTs} {y : zGs} {n : zNs} {R : zRf} {C : zI} {st i x : Nat} {v : Int32} (h : VH b0 n0 (g, f, M, t, y, n) R C st i x 8 v) : VR b0 n0 (g, f, M, t, y, n) st i v (bgoat g R f C x (pA g x 1)) := by
  have hb := h.1.1.2.2.2.2.2.2.2.2
  have hi := h.2.1.1
  have h0 : pof M (nI i) 0 = 8 := (pof_n (k := 0) (by omega) (by decide)).trans h.2.1.2.2.2.1
  refine ⟨pcV (by omega) h.2.1.2.2.2.1 (by decide) (fun e => absurd e (by decide)) (fun e => absurd e (by decide)) (fun e => absurd e (by decide)) (fun e => absurd e (by decide)) (fun e => absurd e (by decide)) (fun e => absurd e (by decide)) (fun e => absurd e (by decide)) (fun e => absurd e (by decide)) (fun e => absurd e (by decide)) (fun e => absurd e (by decide)), ?_⟩
  rw [show qM (g, f, M, t, y, n) = M from rfl, pcomes_8 h0, bgoat_8 h.2.1.2.2.2.2.1]
  exact ⟨rfl, _, _, h.same⟩
