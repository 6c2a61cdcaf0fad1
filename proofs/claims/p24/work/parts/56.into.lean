/-! A run's step from an expression. -/
theorem TR.at {b0 n0 : Nat} {g : zG} {f : zI} {T : Nat → Int32} {t : zTs} (h : TR b0 n0 g f T t) {n : Nat} (hn : n < t.1) (h16 : ¬ T (5 * n) = nI 16) : ∃ k, k ≤ 15 ∧ T (5 * n) = nI k ∧ EN b0 n0 g f T t k n := (h.2 n hn).resolve_left h16
theorem dFr_f {g : zG} {e s r : Option Nat} : (dFr g e s r).2.2.2 g.1 1 = e ∧ (dFr g e s r).2.2.2 g.1 2 = s ∧ (dFr g e s r).2.2.2 g.1 4 = r := by
  unfold dFr zpR
  refine ⟨?_, ?_, ?_⟩
  · show zup (zup (zup _ g.1 1 e) g.1 2 s) g.1 4 r g.1 1 = e
    rw [zup_ne _ _ _ _ (by omega), zup_ne _ _ _ _ (by omega), zup_at]
  · show zup (zup (zup _ g.1 1 e) g.1 2 s) g.1 4 r g.1 2 = s
    rw [zup_ne _ _ _ _ (by omega), zup_at]
  · exact zup_at _ _ _ _
theorem dFr_in {b0 : Nat} {g : zG} {e s r : Option Nat} (h : b0 ≤ g.1) : zIn b0 (dFr g e s r) g.1 2 := ⟨h, Nat.lt_succ_self _, zu1_at _ _ _⟩
theorem dFrF_f {g : zG} {f : zI} {k y : Int32} : dFrF g f k y g.1 0 = k ∧ dFrF g f k y g.1 3 = y := by
  unfold dFrF
  refine ⟨?_, zup_at _ _ _ _⟩
  rw [zup_ne _ _ _ _ (by omega), zup_at]
theorem dFrF_o {g : zG} {f : zI} {k y : Int32} {a : Nat} (h : a < g.1) : dFrF g f k y a = f a := by
  unfold dFrF
  rw [zup_r (Nat.ne_of_lt h), zup_r (Nat.ne_of_lt h)]
  exact zu1_ne _ _ _ (Nat.ne_of_lt h)
theorem bpushC_r {C : zI} {r : Nat} (h : r ≠ 19) : bpushC C r = C r := by
  unfold bpushC
  simp only [zup_r h]
theorem bpushC_k {C : zI} {r k : Nat} (h : r ≠ 19) : bpushC C r k = C r k := congrFun (bpushC_r h) k
/-- a variable is found alike -/
theorem CO.look {b0 n0 : Nat} {X : zCt} {R : zRf} {C : zI} (h : CO b0 n0 X R C) (v : Nat) : ∀ k e, e < k → e < nV X → eL X e v →
    blook (qg X) (qf X) (nI v) k (some (sG X e)) = pvalA (qM X) (nI v) k (nI e) ∧ blookV (qg X) (qf X) (nI v) k (some (sG X e)) ∧ pvalV (qM X) (nI v) k (nI e) := by
  intro k
  induction k with
  | zero => intro e h1; omega
  | succ k ih =>
    intro e h1 h2 h3
    have hb := h.2.2.2.2.2.1
    obtain ⟨-, -, ⟨v0, q1, q2, q3⟩, q4, q5⟩ := h.2.1 e h2
    have ht : tn (nI e) = e := tn_nI (by omega)
    have hi : iv 1200 (nI e) := iv_nI (by omega) (by decide)
    show (if (qf X) (sG X e) 0 = nI v then (qf X) (sG X e) 1 else blook (qg X) (qf X) (nI v) k ((qg X).2.2.2 (sG X e) 3)) = (if (qM X) 2 (30 + 3 * tn (nI e)) = nI v then (qM X) 2 (30 + 3 * tn (nI e) + 1) else pvalA (qM X) (nI v) k ((qM X) 2 (30 + 3 * tn (nI e) + 2))) ∧
      ((qf X) (sG X e) 0 = nI v ∨ blookV (qg X) (qf X) (nI v) k ((qg X).2.2.2 (sG X e) 3)) ∧ (iv 1200 (nI e) ∧ ((qM X) 2 (30 + 3 * tn (nI e)) = nI v ∨ pvalV (qM X) (nI v) k ((qM X) 2 (30 + 3 * tn (nI e) + 2))))
    rw [ht, q3, q2, q4]
    by_cases q : nI v0 = nI v
    · rw [if_pos q, if_pos q]
      exact ⟨rfl, Or.inl q, hi, Or.inl q⟩
    · rw [if_neg q, if_neg q]
      rcases q5 with ⟨r1, r2, r3⟩ | ⟨e1, r1, r2, r3, r4⟩
      · exact absurd (q2.symm.trans (r3 v h3)) q
      · rw [r2, r3]
        have h4 := (r4 v h3).resolve_left (fun z => q (q2.symm.trans z))
        obtain ⟨a1, a2, a3⟩ := ih e1 (by omega) (by omega) h4
        exact ⟨a1, Or.inr a2, hi, Or.inr a3⟩
theorem popens_0 {M : zI} (h : pkind M (M 2 17) = 0) : popens M = (1, pbecome M (parg M (M 2 17))) := if_pos h
theorem popens_1 {M : zI} (h : pkind M (M 2 17) = 1) : popens M = (1, pbecome M (pval M (parg M (M 2 17)))) := (if_neg (by rw [h]; decide)).trans (if_pos h)
theorem popens_no {M : zI} (h0 : ¬ pkind M (M 2 17) = 0) (h1 : ¬ pkind M (M 2 17) = 1) (h2 : pdepth M = 100) : popens M = (0, M) := (if_neg h0).trans ((if_neg h1).trans (if_pos h2))
theorem popens_d {M : zI} (h0 : ¬ pkind M (M 2 17) = 0) (h1 : ¬ pkind M (M 2 17) = 1) (h2 : ¬ pdepth M = 100) : popens M = (1, if pkind M (M 2 17) = 12 then popP (pop1 M) (M 2 17) (M 2 23) else popP M (M 2 17) (popE M)) := (if_neg h0).trans ((if_neg h1).trans (if_neg h2))
theorem pfocus_same {N : zI} {z a b : Int32} (h16 : N 2 16 = 2) (h18 : N 2 18 = a) (h19 : N 2 19 = b) : pfocusOn N z a b = zup N 2 17 z := by
  funext r j
  by_cases hr : r = 2
  · subst hr
    have hv := pfocus_v (M := N) (n := z) (e := a) (s := b)
    by_cases h1 : j = 16
    · subst h1; rw [hv.1, zup_ne _ _ _ _ (by omega), h16]
    · by_cases h2 : j = 17
      · subst h2; rw [hv.2.1, zup_at]
      · rw [zup_ne _ _ _ _ (Or.inr h2)]
        by_cases h3 : j = 18
        · subst h3; rw [hv.2.2.1, h18]
        · by_cases h4 : j = 19
          · subst h4; rw [hv.2.2.2, h19]
          · exact pfocus_2 (by omega)
  · rw [pfocus_r hr, zup_r hr]
theorem frk_k : ∀ k, k < 16 → 2 ≤ k → 1 ≤ frk k ∧ frk k ≤ 12 ∧ ¬ frk k = 2 ∧ (frk k = 9 ↔ k = 12) ∧ (frk k = 11 ↔ k = 14) ∧ 1 ≤ ari k := by decide
set_option maxHeartbeats 1000000 in
/-- a frame is pushed for node n, and the focus goes to its first part -/
theorem CO.opens {b0 n0 : Nat} {g : zG} {f M : zI} {t : zTs} {sg rg mz fi : Nat → Nat} {el : Nat → Nat → Prop} {ci : Nat → Nat → Nat} {d nv nr nf np : Nat} {R : zRf} {C : zI} {n k st : Nat} {xv yv : Int32} {ro : Option Nat}
    (h : CO b0 n0 (g, f, M, t, (sg, el, rg, ci, mz, fi), (d, nv, nr, nf, np)) R C) (hB : BO b0 n0 (g, f, M, t, (sg, el, rg, ci, mz, fi), (d, nv, nr, nf, np)) R) (hb : b0 ≤ g.1) (hn0 : n0 ≤ g.1)
    (hn : n < t.1) (hk : 2 ≤ k) (hk2 : k ≤ 15) (hT : M 1 (5 * n) = nI k) (hX : XR (g, f, M, t, (sg, el, rg, ci, mz, fi), (d, nv, nr, nf, np)) (M 2 18) (M 2 19) (R 17 5)) (hV : CV (g, f, M, t, (sg, el, rg, ci, mz, fi), (d, nv, nr, nf, np)) n (M 2 18) (M 2 19))
    (hd : d < 100) (h16 : M 2 16 = 2) (h2 : C 17 2 = 1) (h5 : M 2 5 = 1) (h3 : C 17 3 = nI st ∧ M 2 6 = nI st) (hs : st < 1000)
    (hK : (k = 12 → ∃ q, q < nf ∧ xv = nI q ∧ yv = nI q) ∧ (k = 14 → ∃ r, r < nr ∧ xv = nI r ∧ ro = some (rg r) ∧ 1 ≤ mz r))
    (hP : 3 * np + 3 ≤ 96 + 105 * (st + 1) + 2 * (d + 1) ∧ nv ≤ st + 1 ∧ nr ≤ st + 1 ∧ nf ≤ st + 1) :
    SR b0 n0 (dFr g (some (t.2.1 n)) (R 17 5) ro, dFrF g f (bkind (sgn k)) yv, popP M (nI n) xv, t, (sg, el, rg, ci, mz, fiP fi d np), (d + 1, nv, nr, nf, np + 1)) (bgoTo (zup R 20 d (some g.1)) ((dFr g (some (t.2.1 n)) (R 17 5) ro).2.2.2 (t.2.1 n) 2) (R 17 5)) (bpushC C) st := by
  have hN65 : t.1 ≤ 65000 := h.1.1
  obtain ⟨k', hk', hT', hEN⟩ := h.1.at hn (fun e => absurd ((nI_eq (by omega) (by decide)).mp (hT.symm.trans e)) (by omega))
  obtain rfl : k' = k := (nI_eq (by omega) (by omega)).mp (hT'.symm.trans hT)
  obtain ⟨s1, s2, -, -⟩ := sgn_k k' (by omega) hk
  obtain ⟨f1, f2, f3, f4, f5, f6⟩ := frk_k k' (by omega) hk
  have hnp : np < 39800 := by omega
  have hxt : zXt g (dFr g (some (t.2.1 n)) (R 17 5) ro) := zXt.fr _ _ _ _
  have hI := h.IN
  -- the heap grows
  have hE1 : EXT (g, f, M, t, (sg, el, rg, ci, mz, fi), (d, nv, nr, nf, np)) (dFr g (some (t.2.1 n)) (R 17 5) ro, dFrF g f (bkind (sgn k')) yv, M, t, (sg, el, rg, ci, mz, fi), (d, nv, nr, nf, np)) :=
    ⟨⟨hxt, fun y hy => dFrF_o hy⟩, fun _ _ => rfl, ⟨rfl, rfl⟩, ⟨Nat.le_refl _, Nat.le_refl _, Nat.le_refl _, Nat.le_refl _⟩, fun _ _ => ⟨rfl, rfl⟩, fun _ _ => ⟨rfl, rfl, rfl⟩⟩
  have h1 : CO b0 n0 (dFr g (some (t.2.1 n)) (R 17 5) ro, dFrF g f (bkind (sgn k')) yv, M, t, (sg, el, rg, ci, mz, fi), (d, nv, nr, nf, np)) R C :=
    h.of hxt (fun y hy => dFrF_o hy) rfl (fun _ _ => rfl) (fun _ _ => rfl) rfl ⟨rfl, rfl, rfl, rfl, rfl, rfl, rfl⟩
  have hB1 := hB.ext (R' := R) hE1 (fun _ _ => rfl) rfl rfl
  have hX1 := hX.ext hE1 hI
  have hV1 := hV.ext hE1
  have hp1 : ppushN M (nI (frk k')) (nI n) (M 2 18) (M 2 19) xv np d 1 = M 1 := ppushN_1 (by decide) (by decide)
  have hE2 : EXT (dFr g (some (t.2.1 n)) (R 17 5) ro, dFrF g f (bkind (sgn k')) yv, M, t, (sg, el, rg, ci, mz, fi), (d, nv, nr, nf, np)) (dFr g (some (t.2.1 n)) (R 17 5) ro, dFrF g f (bkind (sgn k')) yv, ppushN M (nI (frk k')) (nI n) (M 2 18) (M 2 19) xv np d, t, (sg, el, rg, ci, mz, fiP fi d np), (d + 1, nv, nr, nf, np + 1)) :=
    ⟨⟨zXt.rf, fun _ _ => rfl⟩, fun j hj => ppushN_4 hj, ⟨hp1, rfl⟩, ⟨Nat.le_refl _, Nat.le_refl _, Nat.le_refl _, Nat.le_succ _⟩, fun _ _ => ⟨rfl, rfl⟩, fun _ _ => ⟨rfl, rfl, rfl⟩⟩
  obtain ⟨w0, w1, w2, w3, w4, w5, w6⟩ := ppushN_n (M := M) (k := nI (frk k')) (n := nI n) (e := M 2 18) (s := M 2 19) (x := xv) (np := np) (d := d)
  have hFR : FR b0 n0 (dFr g (some (t.2.1 n)) (R 17 5) ro, dFrF g f (bkind (sgn k')) yv, ppushN M (nI (frk k')) (nI n) (M 2 18) (M 2 19) xv np d, t, (sg, el, rg, ci, mz, fiP fi d np), (d + 1, nv, nr, nf, np + 1)) np g.1 := by
    refine ⟨Nat.lt_succ_self _, hn0, dFr_in hb, frk k', f1, by omega, w0, dFrF_f.1.trans s1, ?_, ?_, ?_, ?_⟩
    · intro _
      refine ⟨n, k', hn, w1, dFr_f.1, hk2, ?_, Or.inl rfl, fun _ => ⟨?_, ?_⟩⟩
      · show ppushN M (nI (frk k')) (nI n) (M 2 18) (M 2 19) xv np d 1 _ = _
        rw [hp1]; exact hT
      · show XR _ (ppushN M (nI (frk k')) (nI n) (M 2 18) (M 2 19) xv np d 4 _) (ppushN M (nI (frk k')) (nI n) (M 2 18) (M 2 19) xv np d 4 _) ((dFr g (some (t.2.1 n)) (R 17 5) ro).2.2.2 g.1 2)
        rw [w2, w3, dFr_f.2.1]
        exact hX1.ext hE2 h1.IN
      · show CV _ _ (ppushN M (nI (frk k')) (nI n) (M 2 18) (M 2 19) xv np d 4 _) (ppushN M (nI (frk k')) (nI n) (M 2 18) (M 2 19) xv np d 4 _)
        rw [w2, w3]
        exact hV1.ext hE2
    · intro q
      omega
    · intro q
      obtain ⟨q0, a1, a2, a3⟩ := hK.1 (f4.mp q)
      exact ⟨q0, a1, w4.trans a2, dFrF_f.2.trans a3⟩
    · intro q
      obtain ⟨r, a1, a2, a3, a4⟩ := hK.2 (f5.mp (by omega))
      exact ⟨r, a1, w4.trans a2, dFr_f.2.2.trans a3, fun _ => a4⟩
  have h2' := h1.push hd hnp hFR
  have hB2 := hB1.ext (R' := zup R 20 d (some g.1)) hE2 (fun j hj => ppushN_2 (by omega) (by omega) (by omega)) (by rw [zup_ne _ _ _ _ (by omega)]) (zup_r (by decide))
  -- the focus
  have e2 : ∀ j, j ≠ 7 → j ≠ 8 → j ≠ 21 → ppushN M (nI (frk k')) (nI n) (M 2 18) (M 2 19) xv np d 2 j = M 2 j := fun j a b c => ppushN_2 a b c
  have hpk : pframeOf (pkind M (nI n)) = nI (frk k') := by rw [pkind_n (by omega), hT]; exact s2
  have hpop : popP M (nI n) xv = pfocusOn (ppushN M (nI (frk k')) (nI n) (M 2 18) (M 2 19) xv np d) (M 1 (5 * n + 2)) (M 2 18) (M 2 19) := by
    rw [pfocus_same ((e2 16 (by decide) (by decide) (by decide)).trans h16) (e2 18 (by decide) (by decide) (by decide)) (e2 19 (by decide) (by decide) (by decide))]
    show zup (ppush M (pframeOf (pkind M (nI n))) (nI n) (M 2 18) (M 2 19) xv) 2 17 (ppart (ppush M (pframeOf (pkind M (nI n))) (nI n) (M 2 18) (M 2 19) xv) (nI n) 1) = _
    have hpe : ppush M (nI (frk k')) (nI n) (M 2 18) (M 2 19) xv = ppushN M (nI (frk k')) (nI n) (M 2 18) (M 2 19) xv np d := h.push_eq _ _ _ _ _
    rw [hpk, hpe]
    have hpt : ppart (ppushN M (nI (frk k')) (nI n) (M 2 18) (M 2 19) xv np d) (nI n) 1 = M 1 (5 * n + 2) := (ppart_n (k := 1) (by omega) (by decide)).trans (congrFun hp1 _)
    rw [hpt]
  rw [hpop]
  obtain ⟨m, m1, m2, m3, m4, m5, m6, m7⟩ := (hEN.2.2.1 0 (by omega)).1 (by omega)
  have hge : zIn b0 g (t.2.1 n) 1 := hEN.1.2.1
  have hm5 : (dFr g (some (t.2.1 n)) (R 17 5) ro).2.2.2 (t.2.1 n) 2 = some (t.2.1 m) := by rw [hxt.rw hge]; exact m5
  have gp : ∀ v, t.2.2.1 m v → t.2.2.1 n v := fun v hv => (m6 v hv).resolve_right (fun q => absurd q.2.1 (by decide))
  refine CO.focus (m := m) h2' hB2 st ⟨?_, ?_, ?_⟩ ⟨rfl, rfl, rfl, rfl, rfl, rfl, rfl⟩ ((bpushC_k (by decide)).trans h2) ((e2 5 (by decide) (by decide) (by decide)).trans h5) ⟨(bpushC_k (by decide)).trans h3.1, (e2 6 (by decide) (by decide) (by decide)).trans h3.2⟩ ⟨m2, m3, ?_, ?_⟩ ?_ ?_ ?_
  · unfold bgoTo; rw [zup_r (by decide), zup_r (by decide)]
  · unfold bgoTo; rw [zup_r (by decide), zup_r (by decide)]
  · unfold bgoTo; rw [zup_ne _ _ _ _ (by omega), zup_ne _ _ _ _ (by omega)]
  · rw [hp1]; exact m4
  · unfold bgoTo; rw [zup_ne _ _ _ _ (by omega), zup_at]; exact hm5
  · unfold bgoTo; rw [zup_at]; exact hX1.ext hE2 h1.IN
  · exact CV.ext (n := m) hE2 ⟨fun v hv => hV1.1 v (gp v hv), fun hr => hV1.2 (m7 hr)⟩
  · exact ⟨by show 3 * (np + 1) ≤ 96 + 105 * (st + 1) + 2 * (d + 1); omega, hP.2⟩
