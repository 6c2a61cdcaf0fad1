/-! A run's step from a value: to a part; a binding; a clause. -/
/-- the focus goes to a part of the frame's node -/
theorem VH.part {b0 n0 : Nat} {g : zG} {f M : zI} {t : zTs} {y : zGs} {n : zNs} {R : zRf} {C : zI} {st i x κ m k j : Nat} {v : Int32} (h : VH b0 n0 (g, f, M, t, y, n) R C st i x κ v) (hm : m < t.1) (hT : EN b0 n0 g f (M 1) t k m)
    (hX : XR (g, f, M, t, y, n) (pof M (nI i) 2) (pof M (nI i) 3) (g.2.2.2 x 2)) (hV : CV (g, f, M, t, y, n) m (pof M (nI i) 2) (pof M (nI i) 3)) (hj : j < ari k) (hj3 : j < 3) (h8 : ¬ k = 8) :
    SR b0 n0 (g, f, pfocusOn M (ppart M (nI m) (nI (j + 1))) (pof M (nI i) 2) (pof M (nI i) 3), t, y, n) (bgoTo R (g.2.2.2 (t.2.1 m) (2 + j)) (g.2.2.2 x 2)) C st := by
  obtain ⟨⟨hC, hB, -⟩, -, ⟨h2, h4, h6⟩, ⟨h5, h3⟩, -, ⟨p1, p2, p3, p4⟩, -⟩ := h
  have hN : t.1 ≤ 65000 := hC.1.1
  obtain ⟨q, q1, q2, q3, q4, q5, q6, q7⟩ := (hT.2.2.1 j hj3).1 hj
  refine CO.focus (m := q) hC hB st ⟨?_, ?_, ?_⟩ ⟨rfl, rfl, rfl, rfl, rfl, rfl, rfl⟩ h2 h5 h3 ⟨q2, ?_, q4, ?_⟩ ?_ ?_ ⟨by omega, by omega, by omega, by omega⟩
  · unfold bgoTo; rw [zup_r (by decide), zup_r (by decide)]
  · unfold bgoTo; rw [zup_r (by decide), zup_r (by decide)]
  · unfold bgoTo; rw [zup_ne _ _ _ _ (by omega), zup_ne _ _ _ _ (by omega)]
  · rw [ppart_n (by omega) (by omega), show 5 * m + 1 + (j + 1) = 5 * m + 2 + j by omega]; exact q3
  · unfold bgoTo; rw [zup_ne _ _ _ _ (by omega), zup_at]; exact q5
  · unfold bgoTo; rw [zup_at]; exact hX
  · exact ⟨fun u hu => hV.1 u ((q6 u hu).resolve_right (fun z => h8 z.1)), fun hr => hV.2 (q7 hr)⟩
/-- a choice -/
theorem VH.c3 {b0 n0 : Nat} {g : zG} {f M : zI} {t : zTs} {y : zGs} {n : zNs} {R : zRf} {C : zI} {st i x : Nat} {v : Int32} (h : VH b0 n0 (g, f, M, t, y, n) R C st i x 3 v) : VR b0 n0 (g, f, M, t, y, n) st i v (bgoat g R f C x (pA g x 1)) := by
  obtain ⟨m, k, n1, n1', n2, n3, n4, n5, n6, n7, n8⟩ := h.node (by decide)
  have hb := h.1.1.2.2.2.2.2.2.2.2
  have hi := h.2.1.1
  have h6 := h.2.2.1.2.2
  obtain rfl : k = 6 := n7.elim (fun q => (show ∀ k, k < 16 → 3 = frk k → k = 6 by decide) k (by omega) q) (fun q => absurd q.1 (by decide))
  have h0 : pof M (nI i) 0 = 3 := (pof_n (k := 0) (by omega) (by decide)).trans h.2.1.2.2.2.1
  obtain ⟨x1, x2⟩ := n8 (by decide)
  refine ⟨pcV (by omega) h.2.1.2.2.2.1 (by decide) (fun e => absurd e (by decide)) (fun _ => ?_) (fun e => absurd e (by decide)) (fun e => absurd e (by decide)) (fun e => absurd e (by decide)) (fun e => absurd e (by decide)) (fun e => absurd e (by decide)) (fun e => absurd e (by decide)) (fun e => absurd e (by decide)) (fun e => absurd e (by decide)), ?_⟩
  · rw [n2]; exact iv_nI n1' (by decide)
  rw [show qM (g, f, M, t, y, n) = M from rfl, pcomes_3 h0, bgoat_3 h.2.1.2.2.2.2.1, pA_eq n3, show pof M (nI i) 1 = nI m from n2]
  unfold bg3
  rw [h6]
  by_cases hv : v = 0
  · rw [if_pos hv, if_pos hv]
    exact ⟨rfl, _, _, h.part (j := 2) n1 n6 x1 x2 (by decide) (by decide) (by decide)⟩
  · rw [if_neg hv, if_neg hv]
    exact ⟨rfl, _, _, h.part (j := 1) n1 n6 x1 x2 (by decide) (by decide) (by decide)⟩
/-- a sequence -/
theorem VH.c4 {b0 n0 : Nat} {g : zG} {f M : zI} {t : zTs} {y : zGs} {n : zNs} {R : zRf} {C : zI} {st i x : Nat} {v : Int32} (h : VH b0 n0 (g, f, M, t, y, n) R C st i x 4 v) : VR b0 n0 (g, f, M, t, y, n) st i v (bgoat g R f C x (pA g x 1)) := by
  obtain ⟨m, k, n1, n1', n2, n3, n4, n5, n6, n7, n8⟩ := h.node (by decide)
  have hb := h.1.1.2.2.2.2.2.2.2.2
  have hi := h.2.1.1
  obtain rfl : k = 7 := n7.elim (fun q => (show ∀ k, k < 16 → 4 = frk k → k = 7 by decide) k (by omega) q) (fun q => absurd q.1 (by decide))
  have h0 : pof M (nI i) 0 = 4 := (pof_n (k := 0) (by omega) (by decide)).trans h.2.1.2.2.2.1
  obtain ⟨x1, x2⟩ := n8 (by decide)
  refine ⟨pcV (by omega) h.2.1.2.2.2.1 (by decide) (fun e => absurd e (by decide)) (fun _ => ?_) (fun e => absurd e (by decide)) (fun e => absurd e (by decide)) (fun e => absurd e (by decide)) (fun e => absurd e (by decide)) (fun e => absurd e (by decide)) (fun e => absurd e (by decide)) (fun e => absurd e (by decide)) (fun e => absurd e (by decide)), ?_⟩
  · rw [n2]; exact iv_nI n1' (by decide)
  rw [show qM (g, f, M, t, y, n) = M from rfl, pcomes_4 h0, bgoat_4 h.2.1.2.2.2.2.1, pA_eq n3, show pof M (nI i) 1 = nI m from n2]
  exact ⟨rfl, _, _, h.part (j := 1) n1 n6 x1 x2 (by decide) (by decide) (by decide)⟩
/-- a trace -/
theorem VH.c6 {b0 n0 : Nat} {g : zG} {f M : zI} {t : zTs} {y : zGs} {d nv nr nf np : Nat} {R : zRf} {C : zI} {st i x : Nat} {v : Int32} (h : VH b0 n0 (g, f, M, t, y, (d, nv, nr, nf, np)) R C st i x 6 v) : VR b0 n0 (g, f, M, t, y, (d, nv, nr, nf, np)) st i v (bgoat g R f C x (pA g x 1)) := by
  have hb := h.1.1.2.2.2.2.2.2.2.2
  have hi := h.2.1.1
  have h0 : pof M (nI i) 0 = 6 := (pof_n (k := 0) (by omega) (by decide)).trans h.2.1.2.2.2.1
  obtain ⟨q, q1, q2, q3, q4⟩ := h.1.1.2.2.2.2.1.2.2.2.2.2.2.2.2.1
  have q3 : M 2 9 = nI q := q3
  refine ⟨pcV (by omega) h.2.1.2.2.2.1 (by decide) (fun e => absurd e (by decide)) (fun e => absurd e (by decide)) (fun e => absurd e (by decide)) (fun _ => ?_) (fun e => absurd e (by decide)) (fun e => absurd e (by decide)) (fun e => absurd e (by decide)) (fun e => absurd e (by decide)) (fun e => absurd e (by decide)) (fun e => absurd e (by decide)), ?_⟩
  · rw [show qM (g, f, M, t, y, (d, nv, nr, nf, np)) 2 9 = nI q from q3]; exact iv_nI (by omega) (by decide)
  rw [show qM (g, f, M, t, y, (d, nv, nr, nf, np)) = M from rfl, pcomes_6 h0, bgoat_6 h.2.1.2.2.2.2.1]
  unfold bemit ptrace0
  by_cases q60 : q < 60
  · rw [if_pos (show C 17 11 < 60 by rw [q2]; exact nI_lt (b := 60) q60 (by decide)), if_pos (show M 2 9 < 60 by rw [q3]; exact nI_lt (b := 60) q60 (by decide))]
    have e1 : (zup (zup C 24 (tn (C 17 11)) (C 17 6)) 17 11 (zup C 24 (tn (C 17 11)) (C 17 6) 17 11 + 1)) = zup (zup C 24 q v) 17 11 (nI (q + 1)) := by
      rw [zup_ne _ _ _ _ (by omega), q2, tn_nI (by omega), h.2.2.1.2.2, show nI q + 1 = nI (q + 1) from ixA rfl (ixC 1)]
    have e2 : (zup (zup M 2 (8430 + tn (M 2 9)) v) 2 9 (zup M 2 (8430 + tn (M 2 9)) v 2 9 + 1)) = zup (zup M 2 (8430 + q) v) 2 9 (nI (q + 1)) := by
      rw [zup_ne _ _ _ _ (by omega), q3, tn_nI (by omega), show nI q + 1 = nI (q + 1) from ixA rfl (ixC 1)]
    simp only [e1, e2]
    obtain ⟨⟨hC, hB, -⟩, -, ⟨h2, h4, h6⟩, ⟨-, h3⟩, -, ⟨p1, p2, p3, p4⟩, -⟩ := h
    have hz : ∀ j, j < 9 → zup (zup M 2 (8430 + q) v) 2 9 (nI (q + 1)) 2 j = M 2 j := fun j hj => by rw [zup_ne _ _ _ _ (by omega), zup_ne _ _ _ _ (by omega)]
    have hz1 : zup (zup M 2 (8430 + q) v) 2 9 (nI (q + 1)) 1 = M 1 := by rw [zup_r (by decide), zup_r (by decide)]
    have hz4 : zup (zup M 2 (8430 + q) v) 2 9 (nI (q + 1)) 4 = M 4 := by rw [zup_r (by decide), zup_r (by decide)]
    have hE : EXT (g, f, M, t, y, (d, nv, nr, nf, np)) (g, f, zup (zup M 2 (8430 + q) v) 2 9 (nI (q + 1)), t, y, (d, nv, nr, nf, np)) := ⟨⟨zXt.rf, fun _ _ => rfl⟩, fun k _ => congrFun hz4 k, ⟨hz1, rfl⟩, ⟨Nat.le_refl _, Nat.le_refl _, Nat.le_refl _, Nat.le_refl _⟩, fun _ _ => ⟨rfl, rfl⟩, fun _ _ => ⟨rfl, rfl, rfl⟩⟩
    refine ⟨trivial, _, _, CO.become (hC.emit v q q60 q2) (hB.ext hE (fun j hj => hz j (by omega)) rfl rfl) v st ⟨rfl, rfl, rfl, h4⟩ ⟨rfl, rfl, rfl, rfl, rfl, rfl, rfl⟩ ?_ ?_ ⟨?_, (hz 6 (by omega)).trans h3.2⟩ ⟨by show 3 * np ≤ 0 + 105 * (st + 1) + 2 * d; have p1 : 3 * np + 103 ≤ 105 * (st + 1) + 2 * d := p1; omega, Nat.le_succ_of_le p2, Nat.le_succ_of_le p3, Nat.le_succ_of_le p4⟩⟩
    · rw [zup_ne _ _ _ _ (by omega), zup_ne _ _ _ _ (by omega)]; exact h2
    · rw [zup_ne _ _ _ _ (by omega), zup_ne _ _ _ _ (by omega)]; exact h6
    · rw [zup_ne _ _ _ _ (by omega), zup_ne _ _ _ _ (by omega)]; exact h3.1
  · rw [if_neg (show ¬ C 17 11 < 60 by rw [q2]; exact nI_nlt (a := q) (b := 60) (by omega) (by omega)), if_neg (show ¬ M 2 9 < 60 by rw [q3]; exact nI_nlt (a := q) (b := 60) (by omega) (by omega))]
    exact ⟨rfl, _, _, h.same⟩
/-- the saved value is the answer: what class and reference do with a frame of kind 13 -/
theorem VH.c13 {b0 n0 : Nat} {g : zG} {f M : zI} {t : zTs} {y : zGs} {n : zNs} {R : zRf} {C : zI} {st i x : Nat} {v : Int32} (h : VH b0 n0 (g, f, M, t, y, n) R C st i x 13 v) : VR b0 n0 (g, f, M, t, y, n) st i v (g, R, f, zup C 17 6 (f x 3)) := by
  have hb := h.1.1.2.2.2.2.2.2.2.2
  have hi := h.2.1.1
  have h0 : pof M (nI i) 0 = 13 := (pof_n (k := 0) (by omega) (by decide)).trans h.2.1.2.2.2.1
  have hx3 : f x 3 = pof M (nI i) 4 := (h.2.1.2.2.2.2.2.2.1 (Or.inr rfl)).trans (pof_n (k := 4) (by omega) (by decide)).symm
  refine ⟨pcV (by omega) h.2.1.2.2.2.1 (by decide) (fun e => absurd e (by decide)) (fun e => absurd e (by decide)) (fun e => absurd e (by decide)) (fun e => absurd e (by decide)) (fun e => absurd e (by decide)) (fun e => absurd e (by decide)) (fun e => absurd e (by decide)) (fun e => absurd e (by decide)) (fun e => absurd e (by decide)) (fun e => absurd e (by decide)), ?_⟩
  rw [show qM (g, f, M, t, y, n) = M from rfl, pcomes_13 h0, hx3]
  exact ⟨rfl, _, _, h.other _⟩
/-- an env, and its scope -/
theorem XR.env {X : zCt} {a b : Int32} {s : Option Nat} (h : XR X a b s) : (a = -9 ∧ s = none) ∨ ∃ e, e < nV X ∧ a = nI e ∧ s = some (sG X e) := by
  rcases h with ⟨h1, -, h2⟩ | ⟨e, h1, h2, h3, -⟩
  · exact Or.inl ⟨h1, h2⟩
  · exact Or.inr ⟨e, h1, h2, h3⟩
/-- a resumption, and what the scope has -/
theorem XR.res {X : zCt} {a b : Int32} {s : Option Nat} (h : XR X a b s) : (b = -9 ∧ bresIn (qg X) s = none) ∨ ∃ r, r < nR X ∧ b = nI r ∧ 1 ≤ mZ X r ∧ bresIn (qg X) s = some (rG X r) := by
  rcases h with ⟨-, h1, h2⟩ | ⟨e, -, -, h3, h4⟩
  · rw [h2]; exact Or.inl ⟨h1, rfl⟩
  · rw [h3]; exact h4
set_option maxHeartbeats 1000000 in
/-- a letter is bound, and the focus goes to a node -/
theorem VH.bindTo {b0 n0 : Nat} {g : zG} {f M : zI} {t : zTs} {sg rg mz fi : Nat → Nat} {el : Nat → Nat → Prop} {ci : Nat → Nat → Nat} {d nv nr nf np : Nat} {R : zRf} {C : zI} {st i x κ u m : Nat} {v a b z : Int32} {s ro : Option Nat}
    (h : VH b0 n0 (g, f, M, t, (sg, el, rg, ci, mz, fi), (d, nv, nr, nf, np)) R C st i x κ v) (hu : u < 26) (hs : (a = -9 ∧ s = none) ∨ ∃ e, e < nv ∧ a = nI e ∧ s = some (sg e)) (hr : (b = -9 ∧ ro = none) ∨ ∃ r, r < nr ∧ b = nI r ∧ 1 ≤ mz r ∧ ro = some (rg r))
    (hm : m < t.1 ∧ z = nI m ∧ ¬ M 1 (5 * m) = nI 16) (hl : ∀ l, t.2.2.1 m l → l = u ∨ ∃ e, e < nv ∧ a = nI e ∧ el e l) (hrs : t.2.2.2 m → ¬ b = -9) :
    SR b0 n0 (dSc g ro s, dScF g f (nI u) v, pfocusOn (pbindTo M a (nI u) v) z (M 2 22) b, t, (up1 sg nv g.1, up1 el nv (fun y => y = u ∨ ∃ e, e < nv ∧ a = nI e ∧ el e y), rg, ci, mz, fi), (d, nv + 1, nr, nf, np)) (bgoTo R (some (t.2.1 m)) (some g.1)) C st := by
  obtain ⟨⟨hC, hB, hb, hn0⟩, -, ⟨h2, h4, h6⟩, ⟨h5, h3⟩, hst, ⟨p1, p2, p3, p4⟩, -⟩ := h
  have p1 : 3 * np + 103 ≤ 105 * (st + 1) + 2 * d := p1
  have p2 : nv ≤ st := p2
  have p3 : nr ≤ st := p3
  have p4 : nf ≤ st := p4
  have hb : b0 ≤ g.1 := hb
  have hn0 : n0 ≤ g.1 := hn0
  have e22 : M 2 22 = nI nv := hC.2.2.2.2.1.2.1
  have hco := hC.bind (x := a) (val := v) (s := s) (ro := ro) (by omega) hu hb hn0 hs
  rw [pbind_N e22 (by omega), e22]
  have z1 : pbindN M a (nI u) v nv 1 = M 1 := pbindN_r (by decide)
  have z4 : pbindN M a (nI u) v nv 4 = M 4 := pbindN_r (by decide)
  have hz : ∀ j, j < 22 → pbindN M a (nI u) v nv 2 j = M 2 j := fun j hj => pbindN_o (by omega) (by omega)
  have hE : EXT (g, f, M, t, (sg, el, rg, ci, mz, fi), (d, nv, nr, nf, np)) (dSc g ro s, dScF g f (nI u) v, pbindN M a (nI u) v nv, t, (up1 sg nv g.1, up1 el nv (fun y => y = u ∨ ∃ e, e < nv ∧ a = nI e ∧ el e y), rg, ci, mz, fi), (d, nv + 1, nr, nf, np)) :=
    ⟨⟨zXt.sc _ _ _, fun y hy => dScF_o hy⟩, fun k _ => congrFun z4 k, ⟨z1, rfl⟩, ⟨Nat.le_succ _, Nat.le_refl _, Nat.le_refl _, Nat.le_refl _⟩, fun e he => ⟨up1_ne (Nat.ne_of_lt he), up1_ne (Nat.ne_of_lt he)⟩, fun _ _ => ⟨rfl, rfl, rfl⟩⟩
  have hsg : up1 sg nv g.1 nv = g.1 := up1_at
  refine CO.focus (m := m) hco (hB.ext hE (fun j hj => hz j (by omega)) rfl rfl) st ⟨?_, ?_, ?_⟩ ⟨rfl, rfl, rfl, rfl, rfl, rfl, rfl⟩ h2 ((hz 5 (by omega)).trans h5) ⟨h3.1, (hz 6 (by omega)).trans h3.2⟩ ⟨hm.1, hm.2.1, ?_, ?_⟩ ?_ ?_ ⟨?_, Nat.succ_le_succ p2, Nat.le_succ_of_le p3, Nat.le_succ_of_le p4⟩
  · unfold bgoTo; rw [zup_r (by decide), zup_r (by decide)]
  · unfold bgoTo; rw [zup_r (by decide), zup_r (by decide)]
  · unfold bgoTo; rw [zup_ne _ _ _ _ (by omega), zup_ne _ _ _ _ (by omega)]
  · rw [z1]; exact hm.2.2
  · unfold bgoTo; rw [zup_ne _ _ _ _ (by omega), zup_at]
  · unfold bgoTo
    rw [zup_at]
    refine Or.inr ⟨nv, Nat.lt_succ_self _, rfl, congrArg some hsg.symm, ?_⟩
    show (b = -9 ∧ (dSc g ro s).2.2.2 (up1 sg nv g.1 nv) 2 = none) ∨ ∃ r, r < nr ∧ b = nI r ∧ 1 ≤ mz r ∧ (dSc g ro s).2.2.2 (up1 sg nv g.1 nv) 2 = some (rg r)
    rw [hsg, dSc_f.1]
    exact hr
  · refine ⟨fun l hl' => ⟨nv, rfl, Nat.lt_succ_self _, ?_⟩, hrs⟩
    show up1 el nv _ nv l
    rw [up1_at]
    exact hl l hl'
  · show 3 * np ≤ 96 + 105 * (st + 1) + 2 * d
    omega
