/-! A run's step from a value: a resumption is resumed, as a whole. -/
theorem zup_self {f : zI} {a k : Nat} {x : Int32} (h : f a k = x) : zup f a k x = f := by
  funext r q
  by_cases e : r = a ∧ q = k
  · obtain ⟨rfl, rfl⟩ := e; rw [zup_at]; exact h.symm
  · exact zup_ne _ _ _ _ (by
      rcases Nat.lt_or_ge r a with h1 | h1
      · exact Or.inl (by omega)
      · rcases Nat.lt_or_ge a r with h2 | h2
        · exact Or.inl (by omega)
        · exact Or.inr (fun z => e ⟨by omega, z⟩))
theorem bresG_r {g : zG} {a : Nat} {R : zRf} {C : zI} : ∀ j, (∀ r, r ≠ 19 → (bresG g a R C j).2 r = C r) ∧ (∀ r, r ≠ 20 → (bresG g a R C j).1 r = R r) := by
  intro j
  induction j with
  | zero => exact ⟨fun _ _ => rfl, fun _ _ => rfl⟩
  | succ j ih => exact ⟨fun r hr => (bpushC_r hr).trans (ih.1 r hr), fun r hr => (zup_r hr).trans (ih.2 r hr)⟩
theorem buse_e {C f : zI} {a r : Nat} (h : f a 0 = nI r) (hr : r < 1000) : buse C f a = zup (zup (zup C 21 2 (C 21 2 + 1)) 22 r (C 22 r + 1)) 21 3 (C 21 3 + (if C 22 r + 1 = 2 then 1 else 0)) := by
  unfold buse
  simp only
  rw [h, if_pos (kpl hr), tn_nI (by omega), zup_at, zup_ne C 21 2 (C 21 2 + 1) (b := 22) (j := r) (Or.inl (by decide))]
  have e3 : zup (zup C 21 2 (C 21 2 + 1)) 22 r (C 22 r + 1) 21 3 = C 21 3 := by rw [zup_ne _ _ _ _ (by omega), zup_ne _ _ _ _ (by omega)]
  by_cases q : C 22 r + 1 = 2
  · rw [if_pos q, if_pos q, e3]
  · rw [if_neg q, if_neg q]
    exact (zup_self (e3.trans (by simp))).symm
theorem prs4_e {N : zI} {r : Nat} (h : r < 1200) : prs4 N (nI r) = zup (zup N 2 (3630 + 3 * r + 2) (N 2 (3630 + 3 * r + 2) + 1)) 2 12 (N 2 12 + 1) := by
  unfold prs4
  simp only
  rw [tn_nI (by omega), zup_ne _ _ _ _ (Or.inr (show (12 : Nat) ≠ 3630 + 3 * r + 2 by omega))]
set_option maxHeartbeats 2000000 in
theorem VH.c11 {b0 n0 c : Nat} {g : zG} {f M : zI} {t : zTs} {sg rg mz fi : Nat → Nat} {el : Nat → Nat → Prop} {ci : Nat → Nat → Nat} {d nv nr nf np : Nat} {R : zRf} {C : zI} {st i x : Nat} {v : Int32}
    (h : VH b0 n0 (g, f, M, t, (sg, el, rg, ci, mz, fi), (d, nv, nr, nf, np)) R (zup C 19 1 (nI d)) st i x 11 v) (hc : c + 27 ≤ n0) (hD : C 19 1 = nI (d + 1)) : ∃ a, g.2.2.2 x 4 = some a ∧ bresV g c a ∧ pcomesV M (nI i) ∧ (pcomes M (nI i) v).1 = bresuA g C (some a) ∧
    ((bresuA g C (some a) = 0 ∧ bresu g R f C (some a) = (R, C) ∧ (pcomes M (nI i) v).2 = M) ∨ (bresuA g C (some a) = 1 ∧ ∃ y n, SR b0 n0 (g, f, (pcomes M (nI i) v).2, t, y, n) (bresu g R f C (some a)).1 (bresu g R f C (some a)).2 st)) := by
  obtain ⟨⟨hC, hB, hb0, hn0⟩, ⟨hi, hn, hxin, hT4, hf0, hFK⟩, ⟨h2, h4, h6⟩, ⟨h5, h3⟩, hst, ⟨p1, p2, p3, p4⟩, hd⟩ := h
  have p1 : 3 * np + 103 ≤ 105 * (st + 1) + 2 * d := p1
  have p2 : nv ≤ st := p2
  have p3 : nr ≤ st := p3
  have p4 : nf ≤ st := p4
  have hd : d < 100 := hd
  have hi : i < np := hi
  have hnp : np ≤ 39800 := hC.2.2.2.2.2.2.2.2
  have h0 : pof M (nI i) 0 = 11 := (pof_n (k := 0) (by omega) (by decide)).trans hT4
  obtain ⟨r, r1, r2, r3, r4⟩ := hFK.2.2.2 (Or.inl rfl)
  have r1 : r < nr := r1
  have r4 : 1 ≤ mz r := r4 rfl
  have po4 : pof M (nI i) 4 = nI r := (pof_n (k := 4) (by omega) (by decide)).trans r2
  obtain ⟨⟨s1, s2, s3, s4, s5, s6⟩, a, t1, t2, t3, t4, t5⟩ := hC.2.2.1 r r1
  have s4 : mz r ≤ 100 := s4
  have s3 : f (rg r) 0 = nI r := s3
  have s5 : M 2 (3630 + 3 * r + 1) = nI (mz r) := s5
  have s6 : M 2 (3630 + 3 * r) = (if mz r = 0 then -9 else nI (ci r (mz r - 1))) := s6
  have t1 : g.2.2.2 (rg r) 1 = some a := t1
  have hN : bresuN g (rg r) = mz r := by unfold bresuN; rw [pA_eq t1]; exact t4
  have hCd : C 19 1 + (nI (bresuN g (rg r)) - 1) = nI (d + mz r) := by
    rw [hN]
    exact (ixA hD (ixS rfl (ixC 1) r4)).trans (congrArg nI (by omega))
  have hMd : pdepth M + prMany M (nI r) = nI (d + mz r) := by
    unfold prMany
    rw [tn_nI (by omega), s5]
    exact ixA hC.depth rfl
  refine ⟨rg r, r3, ⟨by rw [hN]; exact r4, by rw [hN]; exact s4, by rw [pA_eq t1]; have : n0 ≤ a := t2; omega, fun k hk => ?_⟩, ?_⟩
  · rw [hN] at hk
    rw [pA_eq t1]
    obtain ⟨z, z1, -⟩ := t5 k hk
    exact pA_of z1
  have hpc : pcomes M (nI i) v = presumes M (nI r) v := by rw [pcomes_11 h0, po4]
  have hV : presumesV M (nI r) → pcomesV M (nI i) := fun q => pcV (by omega) hT4 (by decide) (fun e => absurd e (by decide)) (fun e => absurd e (by decide)) (fun e => absurd e (by decide)) (fun e => absurd e (by decide)) (fun e => absurd e (by decide)) (fun e => absurd e (by decide)) (fun e => absurd e (by decide)) (fun _ => by rw [po4]; exact q) (fun e => absurd e (by decide)) (fun e => absurd e (by decide))
  have hir : iv 1200 (nI r) := iv_nI (by omega) (by decide)
  rw [hpc]
  unfold presumes
  by_cases hroom : 100 < d + mz r
  · have hl : (100 : Int32) < nI (d + mz r) := nI_lt (a := 100) hroom (by omega)
    rw [if_pos (by rw [hMd]; exact hl), bresu_t (by rw [hCd]; exact hl), bresuA_t (by rw [hCd]; exact hl)]
    exact ⟨hV ⟨hir, hC.vd.1, fun q => absurd (by rw [hMd]; exact hl) q⟩, rfl, Or.inl ⟨rfl, rfl, rfl⟩⟩
  have hl : ¬ (100 : Int32) < nI (d + mz r) := nI_nlt (a := 100) (b := d + mz r) (by omega) (by omega)
  -- the frames are gathered
  have hci : ∀ p, p < mz r → ci r p < 40000 := fun p hp => by
    obtain ⟨z, -, z2, -⟩ := t5 p hp
    have : ci r p < np := z2.1
    omega
  obtain ⟨b1, b2, b3, b4⟩ := pag_e (ci := ci r) (mz r) 0 (prTop M (nI r)) M hci (fun _ => by unfold prTop; rw [tn_nI (by omega), s6, if_neg (by omega)]) (fun p hp hp1 => by
    obtain ⟨z, -, -, z3, -⟩ := t5 p hp
    exact z3 hp1)
  have hM0 : CO b0 n0 (g, f, pag (mz r) 0 (prTop M (nI r)) M, t, (sg, el, rg, ci, mz, fi), (d, nv, nr, nf, np)) R (zup C 19 1 (nI d)) := hC.of zXt.rf (fun _ _ => rfl) (b1 1 (by decide)) (fun j _ => congrFun (b1 4 (by decide)) j) (fun j _ => congrFun (b1 2 (by decide)) j) rfl ⟨rfl, rfl, rfl, rfl, rfl, rfl, rfl⟩
  obtain ⟨k1, k2, k3, k4, fi', k5⟩ := CO.copies (C := zup C 19 1 (nI d)) (R := R) r1 t1 (mz r) (pag (mz r) 0 (prTop M (nI r)) M) fi d np (Nat.le_refl _) (by rw [Nat.sub_self]; exact hM0) (by omega) (by omega) (fun s hs => by rw [← Nat.zero_add s, b3 s hs, Nat.zero_add])
  have hprs0 : prs0 M (nI r) = ppu (mz r) (pag (mz r) 0 (prTop M (nI r)) M) := by
    unfold prs0 prMany
    rw [tn_nI (show r < 2 ^ 31 by omega), s5, tn_nI (by omega)]
  rw [if_neg (by rw [hMd]; exact hl), bresu_f (by rw [hCd]; exact hl), bresuA_f (by rw [hCd]; exact hl)]
  refine ⟨hV ⟨hir, hC.vd.1, fun _ => ⟨mz r, s4, by unfold prMany; rw [tn_nI (by omega)]; exact s5, b4, k1⟩⟩, rfl, Or.inr ⟨rfl, (sg, el, rg, ci, mz, fi'), (d + mz r, nv, nr, nf, np + mz r), ?_⟩⟩
  -- the counts
  have hpop : bpopC C = zup C 19 1 (nI d) := by
    unfold bpopC
    rw [if_pos (by rw [hD]; exact nI_lt (a := 0) (by omega) (by omega)), hD, show nI (d + 1) - 1 = nI d from (ixS (a := d + 1) (b := 1) rfl (ixC 1) (by omega)).trans (congrArg nI (by omega))]
  have gr := bresG_r (g := g) (a := a) (R := R) (C := zup C 19 1 (nI d)) (mz r)
  have hr22 : (bresG g a R (zup C 19 1 (nI d)) (mz r)).2 22 = zup C 19 1 (nI d) 22 := gr.1 22 (by decide)
  have hr21 : (bresG g a R (zup C 19 1 (nI d)) (mz r)).2 21 = zup C 19 1 (nI d) 21 := gr.1 21 (by decide)
  have hr17 : (bresG g a R (zup C 19 1 (nI d)) (mz r)).2 17 = zup C 19 1 (nI d) 17 := gr.1 17 (by decide)
  have hcls : bresG g a R (buse (bpopC C) f (rg r)) (mz r) = ((bresG g a R (zup C 19 1 (nI d)) (mz r)).1, zup (zup (zup (bresG g a R (zup C 19 1 (nI d)) (mz r)).2 21 2 ((bresG g a R (zup C 19 1 (nI d)) (mz r)).2 21 2 + 1)) 22 r ((bresG g a R (zup C 19 1 (nI d)) (mz r)).2 22 r + 1)) 21 3 ((bresG g a R (zup C 19 1 (nI d)) (mz r)).2 21 3 + (if (bresG g a R (zup C 19 1 (nI d)) (mz r)).2 22 r + 1 = 2 then 1 else 0))) := by
    rw [hpop, buse_e s3 (by omega), hr21, hr22]
    rw [bresG_z (by decide), bresG_z (by decide), bresG_z (by decide)]
  rw [hN, pA_eq t1, hcls]
  show SR b0 n0 (g, f, presume M (nI r) v, t, (sg, el, rg, ci, mz, fi'), (d + mz r, nv, nr, nf, np + mz r)) _ _ st
  unfold presume prsE
  rw [hprs0, prs4_e (by omega)]
  have k3' : ∀ j, j ≠ 7 → j ≠ 8 → j ≠ 21 → ppu (mz r) (pag (mz r) 0 (prTop M (nI r)) M) 2 j = M 2 j := fun j a b c => (k3 j a b c).trans (congrFun (b1 2 (by decide)) j)
  have k4' : ∀ j, j < 7 * np → ppu (mz r) (pag (mz r) 0 (prTop M (nI r)) M) 4 j = M 4 j := fun j hj => (k4 j hj).trans (congrFun (b1 4 (by decide)) j)
  have k1' : ppu (mz r) (pag (mz r) 0 (prTop M (nI r)) M) 1 = M 1 := (k2 1 (by decide) (by decide)).trans (b1 1 (by decide))
  generalize ppu (mz r) (pag (mz r) 0 (prTop M (nI r)) M) = N at *
  generalize hCB : (bresG g a R (zup C 19 1 (nI d)) (mz r)).2 = CB at *
  generalize hRB : (bresG g a R (zup C 19 1 (nI d)) (mz r)).1 = RB at *
  have hus : CB 22 r = N 2 (3630 + 3 * r + 2) := k5.2.2.2.2.1.2.2.2.2.2.1 r r1
  have hz1 : puses (zup (zup N 2 (3630 + 3 * r + 2) (N 2 (3630 + 3 * r + 2) + 1)) 2 12 (N 2 12 + 1)) (nI r) = N 2 (3630 + 3 * r + 2) + 1 := by
    unfold puses
    rw [tn_nI (by omega), zup_ne _ _ _ _ (by omega), zup_at]
  have hz13 : zup (zup N 2 (3630 + 3 * r + 2) (N 2 (3630 + 3 * r + 2) + 1)) 2 12 (N 2 12 + 1) 2 13 = N 2 13 := by rw [zup_ne _ _ _ _ (by omega), zup_ne _ _ _ _ (by omega)]
  rw [hz1, hz13, hus]
  have hu := k5.use r r1 _ (rfl : (if N 2 (3630 + 3 * r + 2) + 1 = 2 then (1 : Int32) else 0) = _)
  rw [hus] at hu
  have hnp35 : np ≤ 35100 := by omega
  have hy4 : ∀ (x y z : Int32) (j : Nat), zup (zup (zup N 2 (3630 + 3 * r + 2) x) 2 12 y) 2 13 z 4 j = N 4 j := fun x y z j => by rw [zup_ne _ _ _ _ (by omega), zup_ne _ _ _ _ (by omega), zup_ne _ _ _ _ (by omega)]
  have hy1 : ∀ x y z : Int32, zup (zup (zup N 2 (3630 + 3 * r + 2) x) 2 12 y) 2 13 z 1 = N 1 := fun x y z => by rw [zup_r (by decide), zup_r (by decide), zup_r (by decide)]
  have hE : EXT (g, f, M, t, (sg, el, rg, ci, mz, fi), (d, nv, nr, nf, np)) (g, f, zup (zup (zup N 2 (3630 + 3 * r + 2) (N 2 (3630 + 3 * r + 2) + 1)) 2 12 (N 2 12 + 1)) 2 13 (N 2 13 + (if N 2 (3630 + 3 * r + 2) + 1 = 2 then (1 : Int32) else 0)), t, (sg, el, rg, ci, mz, fi'), (d + mz r, nv, nr, nf, np + mz r)) := by
    refine ⟨⟨zXt.rf, fun _ _ => rfl⟩, fun j hj => ?_, ⟨?_, rfl⟩, ⟨Nat.le_refl _, Nat.le_refl _, Nat.le_refl _, Nat.le_add_right _ _⟩, fun _ _ => ⟨rfl, rfl⟩, fun _ _ => ⟨rfl, rfl, rfl⟩⟩
    · exact (hy4 (N 2 (3630 + 3 * r + 2) + 1) (N 2 12 + 1) (N 2 13 + (if N 2 (3630 + 3 * r + 2) + 1 = 2 then (1 : Int32) else 0)) j).trans (k4' j hj)
    · exact (hy1 (N 2 (3630 + 3 * r + 2) + 1) (N 2 12 + 1) (N 2 13 + (if N 2 (3630 + 3 * r + 2) + 1 = 2 then (1 : Int32) else 0))).trans k1'
  have hw : ∀ j, j ≠ 12 → j ≠ 13 → j < 3630 → zup (zup (zup N 2 (3630 + 3 * r + 2) (N 2 (3630 + 3 * r + 2) + 1)) 2 12 (N 2 12 + 1)) 2 13 (N 2 13 + (if N 2 (3630 + 3 * r + 2) + 1 = 2 then (1 : Int32) else 0)) 2 j = N 2 j := fun j a b c => by rw [zup_ne _ _ _ _ (by omega), zup_ne _ _ _ _ (by omega), zup_ne _ _ _ _ (by omega)]
  have hB' := hB.ext (R' := RB) hE (fun j hj => (hw j (by omega) (by omega) (by omega)).trans (k3' j (by omega) (by omega) (by omega))) (congrFun (gr.2 17 (by decide)) 0) (gr.2 18 (by decide))
  have hCu17 : ∀ j, zup (zup (zup CB 21 2 (CB 21 2 + 1)) 22 r (N 2 (3630 + 3 * r + 2) + 1)) 21 3 (CB 21 3 + (if N 2 (3630 + 3 * r + 2) + 1 = 2 then (1 : Int32) else 0)) 17 j = zup C 19 1 (nI d) 17 j := fun j => by rw [zup_ne _ _ _ _ (by omega), zup_ne _ _ _ _ (by omega), zup_ne _ _ _ _ (by omega), hr17]
  exact CO.become hu hB' v st ⟨rfl, rfl, rfl, (congrFun (gr.2 17 (by decide)) 4).trans h4⟩ ⟨rfl, rfl, rfl, rfl, rfl, rfl, rfl⟩ ((hCu17 2).trans h2) ((hCu17 6).trans h6) ⟨(hCu17 3).trans h3.1, (hw 6 (by decide) (by decide) (by decide)).trans ((k3' 6 (by decide) (by decide) (by decide)).trans h3.2)⟩ ⟨by show 3 * (np + mz r) ≤ 0 + 105 * (st + 1) + 2 * (d + mz r); omega, Nat.le_succ_of_le p2, Nat.le_succ_of_le p3, Nat.le_succ_of_le p4⟩
