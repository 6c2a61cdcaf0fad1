/-! A run's step from a value: an operation is performed. -/
set_option maxHeartbeats 1000000 in
/-- a letter is bound, and the focus goes to a node -/
theorem CO.bindTo {b0 n0 : Nat} {g : zG} {f M : zI} {t : zTs} {sg rg mz fi : Nat → Nat} {el : Nat → Nat → Prop} {ci : Nat → Nat → Nat} {d nv nr nf np : Nat} {R : zRf} {C : zI} {st u m : Nat} {v a b z : Int32} {s ro : Option Nat}
    (hC : CO b0 n0 (g, f, M, t, (sg, el, rg, ci, mz, fi), (d, nv, nr, nf, np)) R C) (hB : BO b0 n0 (g, f, M, t, (sg, el, rg, ci, mz, fi), (d, nv, nr, nf, np)) R) (hb : b0 ≤ g.1) (hn0 : n0 ≤ g.1) (h2 : C 17 2 = 1) (h5 : M 2 5 = 1) (h3 : C 17 3 = nI st ∧ M 2 6 = nI st) (hst : st < 1000)
    (hP : 3 * np ≤ 96 + 105 * (st + 1) + 2 * d ∧ nv ≤ st ∧ nr ≤ st + 1 ∧ nf ≤ st + 1) (hu : u < 26) (hs : (a = -9 ∧ s = none) ∨ ∃ e, e < nv ∧ a = nI e ∧ s = some (sg e)) (hr : (b = -9 ∧ ro = none) ∨ ∃ r, r < nr ∧ b = nI r ∧ 1 ≤ mz r ∧ ro = some (rg r))
    (hm : m < t.1 ∧ z = nI m ∧ ¬ M 1 (5 * m) = nI 16) (hl : ∀ l, t.2.2.1 m l → l = u ∨ ∃ e, e < nv ∧ a = nI e ∧ el e l) (hrs : t.2.2.2 m → ¬ b = -9) :
    SR b0 n0 (dSc g ro s, dScF g f (nI u) v, pfocusOn (pbindTo M a (nI u) v) z (M 2 22) b, t, (up1 sg nv g.1, up1 el nv (fun y => y = u ∨ ∃ e, e < nv ∧ a = nI e ∧ el e y), rg, ci, mz, fi), (d, nv + 1, nr, nf, np)) (bgoTo R (some (t.2.1 m)) (some g.1)) C st := by
  obtain ⟨p1, p2, p3, p4⟩ := hP
  have e22 : M 2 22 = nI nv := hC.2.2.2.2.1.2.1
  have hco := hC.bind (x := a) (val := v) (s := s) (ro := ro) (by omega) hu hb hn0 hs
  rw [pbind_N e22 (by omega), e22]
  have z1 : pbindN M a (nI u) v nv 1 = M 1 := pbindN_r (by decide)
  have z4 : pbindN M a (nI u) v nv 4 = M 4 := pbindN_r (by decide)
  have hz : ∀ j, j < 22 → pbindN M a (nI u) v nv 2 j = M 2 j := fun j hj => pbindN_o (by omega) (by omega)
  have hE : EXT (g, f, M, t, (sg, el, rg, ci, mz, fi), (d, nv, nr, nf, np)) (dSc g ro s, dScF g f (nI u) v, pbindN M a (nI u) v nv, t, (up1 sg nv g.1, up1 el nv (fun y => y = u ∨ ∃ e, e < nv ∧ a = nI e ∧ el e y), rg, ci, mz, fi), (d, nv + 1, nr, nf, np)) :=
    ⟨⟨zXt.sc _ _ _, fun y hy => dScF_o hy⟩, fun k _ => congrFun z4 k, ⟨z1, rfl⟩, ⟨Nat.le_succ _, Nat.le_refl _, Nat.le_refl _, Nat.le_refl _⟩, fun e he => ⟨up1_ne (Nat.ne_of_lt he), up1_ne (Nat.ne_of_lt he)⟩, fun _ _ => ⟨rfl, rfl, rfl⟩⟩
  have hsg : up1 sg nv g.1 nv = g.1 := up1_at
  refine CO.focus (m := m) hco (hB.ext hE (fun j hj => hz j (by omega)) rfl rfl) st ⟨?_, ?_, ?_⟩ ⟨rfl, rfl, rfl, rfl, rfl, rfl, rfl⟩ h2 ((hz 5 (by omega)).trans h5) ⟨h3.1, (hz 6 (by omega)).trans h3.2⟩ ⟨hm.1, hm.2.1, ?_, ?_⟩ ?_ ?_ ⟨?_, Nat.succ_le_succ p2, p3, p4⟩
  · unfold bgoTo; rw [zup_r (by decide), zup_r (by decide)]
  · unfold bgoTo; rw [zup_r (by decide), zup_r (by decide)]
  · unfold bgoTo; rw [zup_ne _ _ _ _ (by omega), zup_ne _ _ _ _ (by omega)]
  · rw [z1]; exact hm.2.2
  · unfold bgoTo; rw [zup_ne _ _ _ _ (by omega), zup_at]
  · unfold bgoTo
    rw [zup_at]
    refine Or.inr ⟨nv, Nat.lt_succ_self _, rfl, congrArg some hsg.symm, ?_⟩
    show (b = -9 ∧ (dSc g ro s).2.2.2 (up1 sg nv g.1 nv) 2 = none) ∨ ∃ r, r < nr ∧ b = nI r ∧ 1 ≤ mz r ∧ (dSc g ro s).2.2.2 (up1 sg nv g.1 nv) 2 = some (rg r)
    rw [hsg, dSc_f.1]
    exact hr
  · refine ⟨fun l hl' => ⟨nv, rfl, Nat.lt_succ_self _, ?_⟩, hrs⟩
    show up1 el nv _ nv l
    rw [up1_at]
    exact hl l hl'
  · show 3 * np ≤ 96 + 105 * (st + 1) + 2 * d
    omega
theorem pclA_1 {M N : zI} {w : Int32} (h : M 1 = N 1) : ∀ k c, pclA M w k c = pclA N w k c := by
  intro k
  induction k with
  | zero => intro c; rfl
  | succ k ih =>
    intro c
    show (if c = -9 then c else if M 1 (5 * tn c + 4) = w then c else pclA M w k (M 1 (5 * tn c + 3))) = (if c = -9 then c else if N 1 (5 * tn c + 4) = w then c else pclA N w k (N 1 (5 * tn c + 3)))
    rw [h, ih]
theorem pclause_1 {M N : zI} {n w : Int32} (h : M 1 = N 1) : pclause M n w = pclause N n w := by
  unfold pclause
  rw [h]
  exact pclA_1 h _ _
theorem pclV_1 {M N : zI} (h : M 1 = N 1) : ∀ k c, pclV M k c → pclV N k c := by
  intro k
  induction k with
  | zero => intro c h; exact h
  | succ k ih =>
    intro c q
    refine q.imp id (fun z => ⟨z.1, ih _ ?_⟩)
    rw [← h]; exact z.2
theorem zup_sw {f : zI} {a b k j : Nat} {x y : Int32} (h : a ≠ b) : zup (zup f a k x) b j y = zup (zup f b j y) a k x := by
  funext r q
  unfold zup
  by_cases h1 : r = a
  · subst h1
    simp [h]
  · by_cases h2 : r = b
    · subst h2
      simp [Ne.symm h]
    · simp [h1, h2]
theorem pf1_e {M : zI} {a0 : Nat} (h : a0 < 6) : pf1 M (nI a0) = zup (zup M 2 10 (M 2 10 + 1)) 2 (24 + a0) (M 2 (24 + a0) + 1) := by
  show zup (zup M 2 10 (M 2 10 + 1)) 2 (24 + tn (nI a0)) (zup M 2 10 (M 2 10 + 1) 2 (24 + tn (nI a0)) + 1) = _
  rw [tn_nI (by omega), zup_ne _ _ _ _ (by omega)]
theorem bpc_e {C : zI} {a0 : Nat} (h : a0 < 6) : bpc C (nI a0) = zup C 25 a0 (C 25 a0 + 1) := by
  unfold bpc
  rw [if_pos ⟨nI_pos (by omega), nI_lt (b := 6) h (by decide)⟩, tn_nI (by omega)]
theorem bcap_e {g : zG} {R : zRf} {f C : zI} {p d nr : Nat} (hC : C 19 1 = nI d) (hr : C 21 1 = nI nr) (hp : p ≤ d) (hd : d ≤ 100) (hn : nr < 1000) : bcap g R f C p (d - p) =
    (dFr (dRes (capG g (R 20) p (d - p) (d - p)) g.1) none none (some (g.1 + 1)), zup R 20 p (some (dRes (capG g (R 20) p (d - p) (d - p)) g.1).1), dFrF (dRes (capG g (R 20) p (d - p) (d - p)) g.1) (dResF (capG g (R 20) p (d - p) (d - p)) (znI g f) (nI nr)) 14 0, bpushC (zup (zup (zup C 22 nr 0) 21 1 (nI (nr + 1))) 19 1 (nI p))) := by
  have e1 : C 19 1 - nI (d - p) = nI p := (ixS hC rfl (by omega)).trans (congrArg nI (by omega))
  have e2 : zup C 19 1 (nI p) 21 1 = nI nr := by rw [zup_ne _ _ _ _ (by omega)]; exact hr
  have e3 : bnewRes (zup C 19 1 (nI p)) = zup (zup (zup C 22 nr 0) 21 1 (nI (nr + 1))) 19 1 (nI p) := by
    rw [bnewRes_e e2 hn, zup_sw (show (19 : Nat) ≠ 22 by decide), zup_sw (show (19 : Nat) ≠ 21 by decide)]
  unfold bcap
  simp only
  rw [e1, e2, e3, zup_at, tn_nI (by omega)]
  rfl
