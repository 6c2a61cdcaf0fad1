/-! The search for a pending finalizer: both find the same. -/
theorem SC.keep {C0 C D : zI} (h : SC C D) (k : C 22 = C0 22 ∧ C 23 = C0 23) : D 22 = C0 22 ∧ D 23 = C0 23 := ⟨(h.1 22 (by decide) (by decide) (by decide)).trans k.1, (h.1 23 (by decide) (by decide) (by decide)).trans k.2⟩
theorem bfsB_v {C : zI} {n q : Nat} (h : C 13 2 = nI (n + 1)) (hn : n < 1000) (hq : C 15 n = nI (q + 1)) : bfsB C = zup C 15 n (nI q) := by
  unfold bfsB
  rw [h, tn_nI (by omega), Nat.add_sub_cancel, hq]
  exact congrArg (zup C 15 n) ((ixS rfl (ixC 1) (by omega)).trans (congrArg nI (by omega)))
set_option maxHeartbeats 4000000 in
theorem CO.srch {b0 n0 c : Nat} {g : zG} {f M0 : zI} {t : zTs} {sg rg mz fi : Nat → Nat} {el : Nat → Nat → Prop} {ci : Nat → Nat → Nat} {d nv nr nf np : Nat} {R0 : zRf} {C0 : zI} (h : CO b0 n0 (g, f, M0, t, (sg, el, rg, ci, mz, fi), (d, nv, nr, nf, np)) R0 C0) (hc : c + 27 ≤ n0)
    (hu : ∀ r, r < nr → ∃ u, u < 1000000000 ∧ M0 2 (3630 + 3 * r + 2) = nI u) : ∀ (k n : Nat) (M C : zI) (R : zRf), SM M0 M → (C 22 = C0 22 ∧ C 23 = C0 23) → SS (g, f, M0, t, (sg, el, rg, ci, mz, fi), (d, nv, nr, nf, np)) M C R n → sq C n + un C nr < k →
      ppdV k n M ∧ bfsV g f c k C R ∧ SPo b0 (g, f, M0, t, (sg, el, rg, ci, mz, fi), (d, nv, nr, nf, np)) M C R (ppd k n M) (bfs g f k C R) := by
  have hnr : nr ≤ 1000 := h.2.2.2.2.2.2.1
  have hnf : nf ≤ 1000 := h.2.2.2.2.2.2.2.1
  have hnp : np ≤ 39800 := h.2.2.2.2.2.2.2.2
  intro k
  induction k with
  | zero => intro n M C R _ _ _ hk; omega
  | succ k ih =>
    intro n M C R hM hC hS hk
    obtain ⟨s1, s2, s3⟩ := hS
    cases n with
    | zero =>
      have e0 : ¬ 0 < C 13 2 := by rw [s1]; decide
      have hb : bfs g f (k + 1) C R = (none, C, R) := if_pos e0
      rw [hb]
      refine ⟨trivial, ⟨by rw [s1]; exact iv_nI (by decide) (by decide), fun q => by rw [s1] at q; exact absurd q (by decide)⟩, ⟨SM.rf _, rfl, fun _ => Or.inl rfl⟩, ⟨SC.rf _, rfl, fun _ => Or.inl rfl⟩, fun _ _ => rfl, Or.inl ⟨rfl, rfl⟩⟩
    | succ n =>
      obtain ⟨r, q, r1, r2, r3, r4, r5, r6⟩ := s2 n (Nat.lt_succ_self n)
      have r1 : r + n + 1 ≤ nr := r1
      have r2 : q ≤ mz r := r2
      have htn : tn (C 13 2) = n + 1 := by rw [s1, tn_nI (by omega)]
      have hpos : 0 < C 13 2 := by rw [s1]; exact nI_lt (a := 0) (by omega) (by omega)
      have hsub : tn (C 13 2) - 1 = n := by rw [htn]; rfl
      have hiv : iv 1001 (C 13 2) := by rw [s1]; exact iv_nI (by omega) (by decide)
      have hn1209 : n < 1209 := by omega
      cases q with
      | zero =>
        -- the level is done
        have e15 : C 15 (tn (C 13 2) - 1) = 0 := by rw [hsub]; exact r4
        have e18 : M 18 n = 0 := r5
        have ed : C 13 2 - 1 = nI n := by rw [s1]; exact (ixS rfl (ixC 1) (by omega)).trans (congrArg nI (by omega))
        have hb : bfs g f (k + 1) C R = bfs g f k (zup C 13 2 (nI n)) R := (if_neg (fun z => z hpos)).trans ((if_pos e15).trans (by rw [ed]))
        have hp : ppd (k + 1) (n + 1) M = ppd k n M := if_pos e18
        have hSC1 : SC C (zup C 13 2 (nI n)) := ⟨fun j a b c => zup_r a, fun j a b => zup_ne _ _ _ _ (Or.inr a)⟩
        have h4 : zup C 13 2 (nI n) 13 4 = C 13 4 := zup_ne _ _ _ _ (by omega)
        have h16 : ∀ j, zup C 13 2 (nI n) 16 j = C 16 j := fun j => zup_ne _ _ _ _ (by omega)
        have h15 : ∀ j, zup C 13 2 (nI n) 15 j = C 15 j := fun j => zup_ne _ _ _ _ (by omega)
        have hsq : sq C (n + 1) = sq C n + (tn (C 15 n) + 1) := rfl
        obtain ⟨i1, i2, i3⟩ := ih n M (zup C 13 2 (nI n)) R hM (hSC1.keep hC) (SS_of (zup_at _ _ _ _) (fun j hj => SL.same (s2 j (by omega)) rfl (h15 j) rfl rfl) (fun r hr => by rw [h4, h16]; exact s3 r hr)) (by rw [sq_eq n (fun j _ => h15 j), un_eq h4 nr (fun j _ => h16 j)]; omega)
        rw [hb, hp]
        refine ⟨⟨hn1209, fun _ => i1, fun z => absurd e18 z⟩, ⟨hiv, fun _ => ⟨fun _ => by rw [ed]; exact i2, fun z => absurd e15 z⟩⟩, i3.tr ⟨SM.rf _, rfl, fun _ => Or.inl rfl⟩ ⟨hSC1, h4, fun r => Or.inl (h16 r)⟩ (fun _ _ => rfl)⟩
      | succ q =>
        obtain ⟨a, x, t1, t2, t3, t4, t5, t6, t7, t8, t9, κ, y1, y2, y3, y4, y5, y6⟩ := h.top hc (r := r) (q := q) (by omega) (by omega)
        have r6 : M 17 n = nI (ci r q) := r6 (by omega)
        have e18 : ¬ M 18 n = 0 := by rw [r5]; exact fun z => absurd ((nI_eq (b := 0) (by omega) (by decide)).mp z) (by omega)
        have e15 : ¬ C 15 (tn (C 13 2) - 1) = 0 := by rw [hsub, r4]; exact fun z => absurd ((nI_eq (b := 0) (by omega) (by decide)).mp z) (by omega)
        have hB : bfsB C = zup C 15 n (nI q) := bfsB_v s1 (by omega) r4
        have h4 : M 4 = M0 4 := hM.1 4 (by decide) (by decide) (by decide) (by decide)
        have h2 : M 2 = M0 2 := hM.1 2 (by decide) (by decide) (by decide) (by decide)
        generalize ci r q = i at *
        have po : ∀ s, s < 7 → pof M (nI i) (nI s) = M0 4 (7 * i + s) := fun s hs => by rw [pof_n (by omega) (by omega), h4]
        have po0 : pof M (M 17 n) 0 = nI κ := by rw [r6]; exact (po 0 (by decide)).trans y3
        have hP : bfsP C R = rg r := by unfold bfsP; rw [hsub, r3]; rfl
        have hcell : tn (zup C 15 n (nI q) 15 (tn (C 13 2) - 1)) = q := by rw [hsub, zup_at, tn_nI (by omega)]
        have hN : bfsN C R g = x := by
          unfold bfsN
          rw [hP, pA_eq t1, hB, hcell, t6]
          rfl
        -- the level is one frame shorter in both
        obtain ⟨m1, m2, m3⟩ := ppdA_m M n
        obtain ⟨m4, m5, m6⟩ := ppdA_v M n
        have m5 : ppdA M n 18 n = nI q := by rw [m5, r5]; exact (ixS rfl (ixC 1) (by omega)).trans (congrArg nI (by omega))
        have hBC : SC C (zup C 15 n (nI q)) := ⟨fun j a b c => zup_r b, fun j a b => zup_ne _ _ _ _ (by omega)⟩
        have b13 : ∀ j, zup C 15 n (nI q) 13 j = C 13 j := fun j => zup_ne _ _ _ _ (by omega)
        have b16 : ∀ j, zup C 15 n (nI q) 16 j = C 16 j := fun j => zup_ne _ _ _ _ (by omega)
        have b15 : ∀ j, j ≠ n → zup C 15 n (nI q) 15 j = C 15 j := fun j hj => zup_ne _ _ _ _ (Or.inr hj)
        have hSA : SS (g, f, M0, t, (sg, el, rg, ci, mz, fi), (d, nv, nr, nf, np)) (ppdA M n) (zup C 15 n (nI q)) R (n + 1) := by
          refine SS_of ((b13 2).trans s1) (fun j hj => ?_) (fun r hr => by rw [m3, m2, b16, b13]; exact s3 r hr)
          by_cases e : j = n
          · subst e
            refine ⟨r, q, r1, by show q ≤ mz r; omega, r3, zup_at _ _ _ _, m5, fun hq1 => ?_⟩
            rw [m4, r6]
            exact (po 5 (by decide)).trans (t9 hq1)
          · exact SL.same (s2 j (by omega)) rfl (b15 j e) (m6 j e).2 (m6 j e).1
        have hsqA : sq (zup C 15 n (nI q)) (n + 1) + un (zup C 15 n (nI q)) nr + 1 = sq C (n + 1) + un C nr := by
          rw [un_eq (b13 4) nr (fun j _ => b16 j)]
          show sq (zup C 15 n (nI q)) n + (tn (zup C 15 n (nI q) 15 n) + 1) + un C nr + 1 = sq C n + (tn (C 15 n) + 1) + un C nr
          rw [sq_eq n (fun j hj => b15 j (by omega)), zup_at, r4, tn_nI (by omega), tn_nI (by omega)]
          omega
        have tA : SM M (ppdA M n) ∧ ppdA M n 0 27 = M 0 27 ∧ ∀ r, ppdA M n 19 r = M 19 r ∨ ppdA M n 19 r = M 0 27 := ⟨m1, m2, fun r => Or.inl (m3 r)⟩
        have tB : SC C (zup C 15 n (nI q)) ∧ zup C 15 n (nI q) 13 4 = C 13 4 ∧ ∀ r, zup C 15 n (nI q) 16 r = C 16 r ∨ zup C 15 n (nI q) 16 r = C 13 4 := ⟨hBC, b13 4, fun r => Or.inl (b16 r)⟩
        have ihA := ih (n + 1) (ppdA M n) (zup C 15 n (nI q)) R (hM.tr m1) (hBC.keep hC) hSA (by omega)
        have ke : ∀ j, j < 100 → (nI κ = nI j ↔ κ = j) := fun j hj => nI_eq (by omega) (by omega)
        have hbV : ∀ W : Prop, (¬ (f x 0 = 9 ∧ bexecd (zup C 15 n (nI q)) (f x 3) = 0) → (f x 0 = 14 → bfsV g f c k (bvisit (zup C 15 n (nI q)) R g f (g.2.2.2 x 4)).1 (bvisit (zup C 15 n (nI q)) R g f (g.2.2.2 x 4)).2) ∧ (¬ f x 0 = 14 → bfsV g f c k (zup C 15 n (nI q)) R)) → bfsV g f c (k + 1) C R := by
          intro _ hh
          refine ⟨hiv, fun _ => ⟨fun z => absurd z e15, fun _ => ?_⟩⟩
          rw [hN, hP, pA_eq t1, hB, hcell, hsub]
          refine ⟨r3, t2, ?_, by rw [t3]; exact t4, t6, hh⟩
          rw [zup_at, t3]; exact iv_nI (by omega) (by omega)
        have hbF : bfs g f (k + 1) C R = (if f x 0 = 9 ∧ bexecd (zup C 15 n (nI q)) (f x 3) = 0 then (some x, zup C 15 n (nI q), R) else if f x 0 = 14 then bfs g f k (bvisit (zup C 15 n (nI q)) R g f (g.2.2.2 x 4)).1 (bvisit (zup C 15 n (nI q)) R g f (g.2.2.2 x 4)).2 else bfs g f k (zup C 15 n (nI q)) R) := by
          refine (if_neg (fun z => z hpos)).trans ((if_neg e15).trans ?_)
          rw [hN, hB]
        have hpF : ppd (k + 1) (n + 1) M = (if pof M (M 17 n) 0 = 9 ∧ M 2 (7230 + tn (pof M (M 17 n) 4)) = 0 then (M 17 n, ppdA M n) else if pof M (M 17 n) 0 = 14 ∧ puses M (pof M (M 17 n) 4) = 0 ∧ ¬ M 19 (tn (pof M (M 17 n) 4)) = M 0 27 then ppd k (n + 2) (ppdB (ppdA M n) (n + 1) (pof M (M 17 n) 4)) else ppd k (n + 1) (ppdA M n)) := if_neg e18
        by_cases k9 : κ = 9
        · -- a finalizer's frame
          subst k9
          obtain ⟨z, z1, z2, z3⟩ := y5.2.2.1 rfl
          have z1 : z < nf := z1
          have z2 : M0 4 (7 * i + 4) = nI z := z2
          have z3 : f x 3 = nI z := z3
          have po4 : pof M (M 17 n) 4 = nI z := by rw [r6]; exact (po 4 (by decide)).trans z2
          have hex : bexecd (zup C 15 n (nI q)) (f x 3) = M 2 (7230 + tn (pof M (M 17 n) 4)) := by
            rw [z3, po4, tn_nI (by omega), h2]
            unfold bexecd
            rw [if_pos (kpl (by omega)), tn_nI (by omega), zup_ne _ _ _ _ (by omega), hC.2]
            exact h.2.2.2.2.1.2.2.2.2.2.2.1 z z1
          have n14 : ¬ nI 9 = 14 := by decide
          have n14' : ¬ f x 0 = 14 := by rw [y4]; decide
          have v4 : iv 1200 (pof M (M 17 n) 4) := by rw [po4]; exact iv_nI (by omega) (by decide)
          have v17 : iv 40000 (M 17 n) := by rw [r6]; exact iv_nI (by omega) (by decide)
          by_cases q0 : M 2 (7230 + tn (pof M (M 17 n) 4)) = 0
          · rw [hpF.trans (if_pos ⟨po0, q0⟩), hbF.trans (if_pos ⟨y4, hex.trans q0⟩)]
            exact ⟨⟨hn1209, fun z => absurd z e18, fun _ => ⟨v17, fun _ => v4, fun z => absurd ⟨po0, q0⟩ z⟩⟩, hbV True (fun z => absurd ⟨y4, hex.trans q0⟩ z), tA, tB, fun _ _ => rfl, Or.inr ⟨i, x, r6, rfl, t7, t8, y4, y3, y5⟩⟩
          · rw [hpF.trans ((if_neg (fun z => q0 z.2)).trans (if_neg (fun z => n14 (po0.symm.trans z.1)))), hbF.trans ((if_neg (fun z => q0 (hex.symm.trans z.2))).trans (if_neg n14'))]
            exact ⟨⟨hn1209, fun z => absurd z e18, fun _ => ⟨v17, fun _ => v4, fun _ => ⟨fun z => absurd (po0.symm.trans z.1) n14, fun _ => ihA.1⟩⟩⟩, hbV True (fun _ => ⟨fun z => absurd z n14', fun _ => ihA.2.1⟩), ihA.2.2.tr tA tB (fun _ _ => rfl)⟩
        · have n9 : ¬ nI κ = 9 := fun z => k9 ((ke 9 (by decide)).mp z)
          have n9' : ¬ f x 0 = 9 := by rw [y4]; exact n9
          have v17 : iv 40000 (M 17 n) := by rw [r6]; exact iv_nI (by omega) (by decide)
          have hpF := hpF.trans (if_neg (fun z => n9 (po0.symm.trans z.1)))
          have hbF := hbF.trans (if_neg (fun z => n9' z.1))
          by_cases k14 : κ = 14
          · obtain ⟨rr, u1, u2, u3⟩ := y6 k14
            have n14' : f x 0 = 14 := by rw [y4, k14]; rfl
            have p14 : pof M (M 17 n) 0 = 14 := by rw [po0, k14]; rfl
            have po4 : pof M (M 17 n) 4 = nI rr := by rw [r6]; exact (po 4 (by decide)).trans u2
            have v4 : iv 1200 (pof M (M 17 n) 4) := by rw [po4]; exact iv_nI (by omega) (by decide)
            obtain ⟨⟨w1, w2, w3, w4, w5, w6⟩, a1, x1, x2, x3, x4, -⟩ := h.2.2.1 rr (by show rr < nr; omega)
            have w3 : f (rg rr) 0 = nI rr := w3
            have w4 : mz rr ≤ 100 := w4
            have w5 : M0 2 (3630 + 3 * rr + 1) = nI (mz rr) := w5
            have w6 : M0 2 (3630 + 3 * rr) = (if mz rr = 0 then -9 else nI (ci rr (mz rr - 1))) := w6
            have x1 : g.2.2.2 (rg rr) 1 = some a1 := x1
            have x4 : g.2.2.1 a1 = mz rr := x4
            obtain ⟨uu, uu1, uu2⟩ := hu rr (by omega)
            have hpu : puses M (pof M (M 17 n) 4) = nI uu := by
              rw [po4]
              unfold puses
              rw [tn_nI (by omega), h2]; exact uu2
            have hbu : buses (zup C 15 n (nI q)) f (some (rg rr)) = nI uu := by
              unfold buses
              simp only
              rw [w3, if_pos (kpl (by omega)), tn_nI (by omega), zup_ne _ _ _ _ (by omega), hC.1]
              exact (h.2.2.2.2.1.2.2.2.2.2.1 rr (by show rr < nr; omega)).trans uu2
            have h19 := s3 rr (by show rr < nr; omega)
            have htr : tn (nI rr) = rr := tn_nI (by omega)
            by_cases hv : uu = 0 ∧ ¬ M 19 rr = M 0 27
            · -- it is visited
              have hnv : ¬ C 16 rr = C 13 4 := fun z => hv.2 (h19.mpr z)
              have hD : (zup C 15 n (nI q)) 13 2 = nI (n + 1) := (b13 2).trans s1
              have hbv : bvisit (zup C 15 n (nI q)) R g f (some (rg rr)) = (zup (zup (zup (zup C 15 n (nI q)) 16 rr (C 13 4)) 15 (n + 1) (nI (mz rr))) 13 2 (nI (n + 2)), zup R 14 (n + 1) (some (rg rr))) := by
                rw [bvisit_t (by rw [hbu, hv.1]; decide) (by rw [hD]; exact nI_lt (b := 1000) (by omega) (by decide)) (by rw [w3]; exact kpl (by omega)) (by rw [w3, htr, b16, b13]; exact hnv)]
                unfold bvisC
                simp only
                rw [w3, htr, b13 4, zup_ne (zup C 15 n (nI q)) 16 rr (C 13 4) (b := 13) (j := 2) (Or.inl (by decide)), hD, tn_nI (by omega), pA_eq x1, x4, zup_ne _ 15 (n + 1) (nI (mz rr)) (b := 13) (j := 2) (Or.inl (by decide)), zup_ne (zup C 15 n (nI q)) 16 rr (C 13 4) (b := 13) (j := 2) (Or.inl (by decide)), hD, show nI (n + 1) + 1 = nI (n + 2) from ixA (a := n + 1) (b := 1) rfl (ixC 1)]
              obtain ⟨B1, B2, B3, B4, B5, B6⟩ := ppdB_m (M := ppdA M n) (n := n + 1) (r := rr) (by omega)
              have hA2 : ppdA M n 2 = M0 2 := (m1.1 2 (by decide) (by decide) (by decide) (by decide)).trans h2
              have D13 : ∀ j, j ≠ 2 → zup (zup (zup (zup C 15 n (nI q)) 16 rr (C 13 4)) 15 (n + 1) (nI (mz rr))) 13 2 (nI (n + 2)) 13 j = C 13 j := fun j hj => by rw [zup_ne _ _ _ _ (Or.inr hj), zup_ne _ _ _ _ (by omega), zup_ne _ _ _ _ (by omega)]; exact b13 j
              have D16 : ∀ j, zup (zup (zup (zup C 15 n (nI q)) 16 rr (C 13 4)) 15 (n + 1) (nI (mz rr))) 13 2 (nI (n + 2)) 16 j = (if j = rr then C 13 4 else C 16 j) := fun j => by
                rw [zup_ne _ _ _ _ (by omega), zup_ne _ _ _ _ (by omega)]
                by_cases e : j = rr
                · subst e; rw [zup_at, if_pos rfl]
                · rw [zup_ne _ _ _ _ (Or.inr e), if_neg e]; exact b16 j
              have D15 : ∀ j, j < n + 1 → zup (zup (zup (zup C 15 n (nI q)) 16 rr (C 13 4)) 15 (n + 1) (nI (mz rr))) 13 2 (nI (n + 2)) 15 j = zup C 15 n (nI q) 15 j := fun j hj => by rw [zup_ne _ _ _ _ (by omega), zup_ne _ _ _ _ (by omega), zup_ne _ _ _ _ (by omega)]
              have D15n : zup (zup (zup (zup C 15 n (nI q)) 16 rr (C 13 4)) 15 (n + 1) (nI (mz rr))) 13 2 (nI (n + 2)) 15 (n + 1) = nI (mz rr) := by rw [zup_ne _ _ _ _ (by omega), zup_at]
              have D2 : zup (zup (zup (zup C 15 n (nI q)) 16 rr (C 13 4)) 15 (n + 1) (nI (mz rr))) 13 2 (nI (n + 2)) 13 2 = nI (n + 2) := zup_at _ _ _ _
              have DC : SC C (zup (zup (zup (zup C 15 n (nI q)) 16 rr (C 13 4)) 15 (n + 1) (nI (mz rr))) 13 2 (nI (n + 2))) := ⟨fun j a b c => by rw [zup_r a, zup_r b, zup_r c, zup_r b], fun j a b => D13 j a⟩
              generalize zup (zup (zup (zup C 15 n (nI q)) 16 rr (C 13 4)) 15 (n + 1) (nI (mz rr))) 13 2 (nI (n + 2)) = E at *
              have hun : un E nr + 102 = un (zup C 15 n (nI q)) nr := un_vis (r := rr) ((D13 4 (by decide)).trans (b13 4).symm) (by rw [b16, b13]; exact hnv) (by rw [D16, if_pos rfl, D13 4 (by decide)]) (fun j hj => by rw [D16, if_neg hj, b16]) nr (by omega)
              have hsqE : sq E (n + 2) = sq (zup C 15 n (nI q)) (n + 1) + (mz rr + 1) := by
                show sq E (n + 1) + (tn (E 15 (n + 1)) + 1) = _
                rw [sq_eq (n + 1) D15, D15n, tn_nI (by omega)]
              have tM : SM M (ppdB (ppdA M n) (n + 1) (nI rr)) ∧ ppdB (ppdA M n) (n + 1) (nI rr) 0 27 = M 0 27 ∧ ∀ r, ppdB (ppdA M n) (n + 1) (nI rr) 19 r = M 19 r ∨ ppdB (ppdA M n) (n + 1) (nI rr) 19 r = M 0 27 := by
                refine ⟨m1.tr B1, B2.trans m2, fun r => ?_⟩
                rw [B3]
                split
                · exact Or.inr m2
                · exact Or.inl (m3 r)
              have tE : SC C E ∧ E 13 4 = C 13 4 ∧ ∀ r, E 16 r = C 16 r ∨ E 16 r = C 13 4 := by
                refine ⟨DC, D13 4 (by decide), fun r => ?_⟩
                rw [D16]
                split
                · exact Or.inr rfl
                · exact Or.inl rfl
              have hSE : SS (g, f, M0, t, (sg, el, rg, ci, mz, fi), (d, nv, nr, nf, np)) (ppdB (ppdA M n) (n + 1) (nI rr)) E (zup R 14 (n + 1) (some (rg rr))) (n + 2) := by
                refine SS_of D2 (fun j hj => ?_) (fun r hr => ?_)
                · by_cases e : j = n + 1
                  · subst e
                    refine ⟨rr, mz rr, by show rr + (n + 1) + 1 ≤ nr; omega, Nat.le_refl _, zup_at _ _ _ _, D15n, B5.trans ((congrFun hA2 _).trans w5), fun hm => B4.trans ((congrFun hA2 _).trans (w6.trans (if_neg (by omega))))⟩
                  · exact SL.same (hSA.2.1 j (by omega)) (zup_ne _ _ _ _ (Or.inr e)) (D15 j (by omega)) (B6 j e).2 (B6 j e).1
                · rw [B3, B2, D16, D13 4 (by decide), m2]
                  by_cases e : r = rr
                  · rw [if_pos e, if_pos e]; exact ⟨fun _ => rfl, fun _ => rfl⟩
                  · rw [if_neg e, if_neg e, m3]; exact s3 r hr
              have ihE := ih (n + 2) (ppdB (ppdA M n) (n + 1) (nI rr)) E (zup R 14 (n + 1) (some (rg rr))) (hM.tr tM.1) (DC.keep hC) hSE (by omega)
              have hc14 : pof M (M 17 n) 0 = 14 ∧ puses M (pof M (M 17 n) 4) = 0 ∧ ¬ M 19 (tn (pof M (M 17 n) 4)) = M 0 27 := ⟨p14, by rw [hpu, hv.1]; rfl, by rw [po4, htr]; exact hv.2⟩
              rw [hpF.trans (if_pos hc14), hbF.trans (if_pos n14'), u3, hbv, po4]
              refine ⟨⟨hn1209, fun z => absurd z e18, fun _ => ⟨v17, fun _ => v4, fun _ => ⟨fun _ => by rw [po4]; exact ihE.1, fun z => absurd hc14 z⟩⟩⟩, hbV True (fun _ => ⟨fun _ => by rw [u3, hbv]; exact ihE.2.1, fun z => absurd n14' z⟩), ihE.2.2.tr tM tE (fun j hj => zup_r hj)⟩
            · -- it is not
              have hc14 : ¬ (pof M (M 17 n) 0 = 14 ∧ puses M (pof M (M 17 n) 4) = 0 ∧ ¬ M 19 (tn (pof M (M 17 n) 4)) = M 0 27) := by
                rintro ⟨-, z1, z2⟩
                rw [hpu] at z1
                rw [po4, htr] at z2
                exact hv ⟨(nI_eq (b := 0) (by omega) (by decide)).mp z1, z2⟩
              have hbv : bvisit (zup C 15 n (nI q)) R g f (some (rg rr)) = (zup C 15 n (nI q), R) := by
                refine bvisit_f ?_
                rintro ⟨z1, -, -, z2⟩
                rw [hbu] at z1
                rw [w3, htr, b16, b13] at z2
                refine hv ⟨?_, fun z => z2 (h19.mp z)⟩
                rcases Nat.eq_zero_or_pos uu with e | e
                · exact e
                · exact absurd (nI_lt (a := 0) e (by omega)) z1
              rw [hpF.trans (if_neg hc14), hbF.trans (if_pos n14'), u3, hbv]
              exact ⟨⟨hn1209, fun z => absurd z e18, fun _ => ⟨v17, fun _ => v4, fun _ => ⟨fun z => absurd z hc14, fun _ => ihA.1⟩⟩⟩, hbV True (fun _ => ⟨fun _ => by rw [u3, hbv]; exact ihA.2.1, fun z => absurd n14' z⟩), ihA.2.2.tr tA tB (fun _ _ => rfl)⟩
          · have n14 : ¬ nI κ = 14 := fun z => k14 ((ke 14 (by decide)).mp z)
            have n14' : ¬ f x 0 = 14 := by rw [y4]; exact n14
            rw [hpF.trans (if_neg (fun z => n14 (po0.symm.trans z.1))), hbF.trans (if_neg n14')]
            exact ⟨⟨hn1209, fun z => absurd z e18, fun _ => ⟨v17, fun z => (z.elim (fun z => absurd (po0.symm.trans z) n9) (fun z => absurd (po0.symm.trans z) n14)), fun _ => ⟨fun z => absurd (po0.symm.trans z.1) n14, fun _ => ihA.1⟩⟩⟩, hbV True (fun _ => ⟨fun z => absurd z n14', fun _ => ihA.2.1⟩), ihA.2.2.tr tA tB (fun _ _ => rfl)⟩
