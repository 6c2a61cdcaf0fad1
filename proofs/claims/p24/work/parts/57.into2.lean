/-! A run's step from an expression, as a whole. -/
theorem bnewFin_e {C : zI} {nf : Nat} (h : C 21 5 = nI nf) (hn : nf < 1000) : bnewFin C = zup (zup C 23 nf 0) 21 5 (nI (nf + 1)) := by
  show zup (bst C 23 (C 21 5) 0) 21 5 (bst C 23 (C 21 5) 0 21 5 + 1) = _
  rw [h, bst_t hn, zup_ne _ _ _ _ (by omega), h, show nI nf + 1 = nI (nf + 1) from ixA rfl (ixC 1)]
theorem pop1_e {M : zI} {nf : Nat} (h : M 2 23 = nI nf) (hn : nf < 1000) : pop1 M = zup (zup M 2 (7230 + nf) 0) 2 23 (nI (nf + 1)) := by
  show zup (zup M 2 (7230 + tn (M 2 23)) 0) 2 23 (zup M 2 (7230 + tn (M 2 23)) 0 2 23 + 1) = _
  rw [h, tn_nI (by omega), zup_ne _ _ _ _ (by omega), h, show nI nf + 1 = nI (nf + 1) from ixA rfl (ixC 1)]
theorem bpsh_e {g : zG} {R : zRf} {f C : zI} {k y : Int32} {e d : Nat} {r : Option Nat} (h : C 19 1 = nI d) (hd : d ≤ 100) : bpsh g R f C k y e r = (dFr g (some e) (R 17 5) r, bgoTo (zup R 20 d (some g.1)) ((dFr g (some e) (R 17 5) r).2.2.2 e 2) (R 17 5), dFrF g f k y, bpushC C) := by
  unfold bpsh
  rw [h, tn_nI (by omega)]
theorem CO.vd {b0 n0 : Nat} {X : zCt} {R : zRf} {C : zI} (h : CO b0 n0 X R C) : vd 40000 ((qM X) 2 7) ∧ iv 1200 ((qM X) 2 23) ∧ iv 39999 ((qM X) 2 21) ∧ iv 1200 ((qM X) 2 22) ∧ iv 1200 ((qM X) 2 11) := by
  obtain ⟨-, -, -, hS, hN, b1, b2, b3, b4⟩ := h
  refine ⟨?_, ?_, ?_, ?_, ?_⟩
  · rw [hS.2.1]
    by_cases q : nD X = 0
    · rw [if_pos q]; exact Or.inl rfl
    · rw [if_neg q]
      have := (hS.d q).1
      exact Or.inr (iv_nI (by omega) (by decide))
  · rw [hN.2.2.2.1.1]; exact iv_nI (by omega) (by decide)
  · rw [hN.2.2.2.2.1]; exact iv_nI (by omega) (by decide)
  · rw [hN.2.1]; exact iv_nI (by omega) (by decide)
  · rw [hN.2.2.1.1]; exact iv_nI (by omega) (by decide)
theorem popE_14 {M : zI} (h : pkind M (M 2 17) = 14) : popE M = M 2 19 := if_pos h
theorem popE_d {M : zI} (h : ¬ pkind M (M 2 17) = 14) : popE M = 0 := if_neg h
/-- a value comes from a node -/
theorem CO.becomeZ {b0 n0 : Nat} {g : zG} {f M : zI} {t : zTs} {y : zGs} {n : zNs} {R : zRf} {C : zI} (h : CO b0 n0 (g, f, M, t, y, n) R C) (hB : BO b0 n0 (g, f, M, t, y, n) R) (v : Int32) (st : Nat)
    (h2 : C 17 2 = 1) (h3 : C 17 3 = nI st ∧ M 2 6 = nI st) (hP : PT (g, f, M, t, y, n) (st + 1) 0) : SR b0 n0 (g, f, pbecome M v, t, y, n) (zup R 17 4 none) (zup C 17 6 v) st := by
  refine CO.become h hB v st ⟨?_, ?_, ?_, zup_at _ _ _ _⟩ ⟨?_, ?_, ?_, ?_, ?_, ?_, ?_⟩ ?_ (zup_at _ _ _ _) ⟨?_, h3.2⟩ hP
  · exact zup_r (by decide)
  · exact zup_r (by decide)
  · exact zup_ne _ _ _ _ (by omega)
  · exact zup_r (by decide)
  · exact zup_r (by decide)
  · exact zup_r (by decide)
  · exact zup_r (by decide)
  · exact zup_r (by decide)
  · exact zup_r (by decide)
  · exact zup_ne _ _ _ _ (by omega)
  · rw [zup_ne _ _ _ _ (by omega)]; exact h2
  · rw [zup_ne _ _ _ _ (by omega)]; exact h3.1
set_option maxHeartbeats 1000000 in
theorem CO.into {b0 n0 : Nat} {g : zG} {f M : zI} {t : zTs} {sg rg mz fi : Nat → Nat} {el : Nat → Nat → Prop} {ci : Nat → Nat → Nat} {d nv nr nf np st : Nat} {R : zRf} {C : zI}
    (h : CO b0 n0 (g, f, M, t, (sg, el, rg, ci, mz, fi), (d, nv, nr, nf, np)) R C) (hB : BO b0 n0 (g, f, M, t, (sg, el, rg, ci, mz, fi), (d, nv, nr, nf, np)) R) (hb : b0 ≤ g.1) (hn0 : n0 ≤ g.1)
    (hF : FE (g, f, M, t, (sg, el, rg, ci, mz, fi), (d, nv, nr, nf, np)) R) (h16 : M 2 16 = 2) (h2 : C 17 2 = 1) (h5 : M 2 5 = 1) (h3 : C 17 3 = nI st ∧ M 2 6 = nI st) (hs : st < 1000)
    (hP : PT (g, f, M, t, (sg, el, rg, ci, mz, fi), (d, nv, nr, nf, np)) st 96) :
    ∃ e, R 17 4 = some e ∧ zIn b0 g e 1 ∧ (f e 0 = 97 → blookV g f (f e 1) bK (R 17 5)) ∧ popensV M ∧ (binto g R f C e bK).2 = (popens M).1 ∧
      (((popens M).1 = 0 ∧ (binto g R f C e bK).1 = (g, R, f, C) ∧ (popens M).2 = M) ∨
        ((popens M).1 = 1 ∧ ∃ y n, SR b0 n0 ((binto g R f C e bK).1.1, (binto g R f C e bK).1.2.2.1, (popens M).2, t, y, n) (binto g R f C e bK).1.2.1 (binto g R f C e bK).1.2.2.2 st)) := by
  have hN65 : t.1 ≤ 65000 := h.1.1
  obtain ⟨p1, p2, p3, p4⟩ := hP
  have p1 : 3 * np ≤ 96 + 105 * st + 2 * d := p1
  have p2 : nv ≤ st := p2
  have p3 : nr ≤ st := p3
  have p4 : nf ≤ st := p4
  have hd100 : d ≤ 100 := h.2.2.2.1.1
  obtain ⟨v1, v2, v3, v4, v5⟩ := h.vd
  have c1 : C 19 1 = nI d := h.2.2.2.2.1.1.1
  have c5 : C 21 5 = nI nf := h.2.2.2.2.1.2.2.2.1.2
  have c23 : M 2 23 = nI nf := h.2.2.2.2.1.2.2.2.1.1
  obtain ⟨n, n1, n2, n3, n4, n5, n6⟩ := hF
  have n1 : n < t.1 := n1
  have n2 : M 2 17 = nI n := n2
  obtain ⟨k, hk, hT, hEN⟩ := h.1.at n1 n3
  have hT : M 1 (5 * n) = nI k := hT
  have hpk : pkind M (M 2 17) = nI k := by rw [n2, pkind_n (by omega), hT]
  have hpa : parg M (M 2 17) = M 1 (5 * n + 1) := by rw [n2, parg_n (by omega)]
  have hf0 : f (t.2.1 n) 0 = sgn k := hEN.1.2.2.1
  have hvar : k = 1 → ∃ v e0, M 1 (5 * n + 1) = nI v ∧ f (t.2.1 n) 1 = nI v ∧ M 2 18 = nI e0 ∧ R 17 5 = some (sg e0) ∧ e0 < nv ∧ el e0 v := by
    intro hk1
    obtain ⟨v, a1, a2, a3⟩ := hEN.2.1.1 (Or.inl hk1)
    obtain ⟨e0, b1, b2, b3⟩ := n6.1 v (a3 hk1)
    refine ⟨v, e0, a2, (hEN.1.2.2.2 (Or.inr (Or.inl hk1))).trans a2, b1, ?_, b2, b3⟩
    rcases n5 with ⟨x1, -, -⟩ | ⟨e1, x1, x2, x3, -⟩
    · exact absurd (b1.symm.trans x1) (fun e => (iv_nI (N := 40000) (n := e0) (by have : e0 < nv := b2; omega) (by decide)).nn (by decide) e)
    · have x1 : e1 < nv := x1
      have b2 : e0 < nv := b2
      obtain rfl : e1 = e0 := (nI_eq (by omega) (by omega)).mp (x2.symm.trans b1)
      exact x3
  have hlk : k = 1 → ∀ v e0, M 1 (5 * n + 1) = nI v → M 2 18 = nI e0 → e0 < nv → el e0 v → R 17 5 = some (sg e0) → blook g f (nI v) bK (R 17 5) = pval M (nI v) ∧ blookV g f (nI v) bK (R 17 5) ∧ pvalV M (nI v) 1201 (M 2 18) := by
    intro _ v e0 _ a2 a3 a4 a5
    have := h.look v 1201 e0 (by omega) a3 a4
    rw [a5]
    unfold pval
    rw [a2]
    exact this
  refine ⟨t.2.1 n, n4, hEN.1.2.1, ?_, ⟨?_, ?_, v1, fun _ => v2, v3⟩, ?_⟩
  · intro q
    rw [hf0] at q
    have hk1 : k = 1 := (show ∀ k, k < 16 → sgn k = 97 → k = 1 by decide +kernel) k (by omega) q
    obtain ⟨v, e0, a1, a2, a3, a4, a5, a6⟩ := hvar hk1
    rw [a2]
    exact (hlk hk1 v e0 a1 a3 a5 a6 a4).2.1
  · rw [n2]; exact iv_nI (by omega) (by decide)
  · intro q
    rw [hpk] at q
    have hk1 : k = 1 := (nI_eq (b := 1) (by omega) (by decide)).mp q
    obtain ⟨v, e0, a1, a2, a3, a4, a5, a6⟩ := hvar hk1
    rw [hpa, a1]
    exact (hlk hk1 v e0 a1 a3 a5 a6 a4).2.2
  by_cases k0 : k = 0
  · subst k0
    have q48 : f (t.2.1 n) 0 = 48 := hf0
    have hv : parg M (M 2 17) = f (t.2.1 n) 1 := hpa.trans (hEN.1.2.2.2 (Or.inl rfl)).symm
    rw [binto_48 q48, popens_0 hpk, hv]
    refine ⟨rfl, Or.inr ⟨rfl, _, _, CO.becomeZ h hB _ st h2 h3 ?_⟩⟩
    exact ⟨by show 3 * np ≤ 0 + 105 * (st + 1) + 2 * d; omega, Nat.le_succ_of_le p2, Nat.le_succ_of_le p3, Nat.le_succ_of_le p4⟩
  by_cases k1 : k = 1
  · obtain ⟨v, e0, a1, a2, a3, a4, a5, a6⟩ := hvar k1
    have hl := (hlk k1 v e0 a1 a3 a5 a6 a4).1
    subst k1
    have q97 : f (t.2.1 n) 0 = 97 := hf0
    rw [binto_97 (by rw [q97]; decide) q97, popens_1 hpk, hpa, a1, a2, hl]
    refine ⟨rfl, Or.inr ⟨rfl, _, _, CO.becomeZ h hB _ st h2 h3 ?_⟩⟩
    exact ⟨by show 3 * np ≤ 0 + 105 * (st + 1) + 2 * d; omega, Nat.le_succ_of_le p2, Nat.le_succ_of_le p3, Nat.le_succ_of_le p4⟩
  have k2 : 2 ≤ k := by omega
  obtain ⟨s1, s2, s3, s4⟩ := sgn_k k (by omega) k2
  have i0 : ¬ pkind M (M 2 17) = 0 := by rw [hpk]; exact fun e => k0 ((nI_eq (b := 0) (by omega) (by decide)).mp e)
  have i1 : ¬ pkind M (M 2 17) = 1 := by rw [hpk]; exact fun e => k1 ((nI_eq (b := 1) (by omega) (by decide)).mp e)
  rw [← hf0] at s3 s4
  have c1' : C 19 1 + 1 = nI (d + 1) := ixA c1 (ixC 1)
  by_cases hd : d = 100
  · subst hd
    rw [binto_no s3 s4 (by rw [c1']; decide), popens_no i0 i1 h.depth]
    exact ⟨rfl, Or.inl ⟨rfl, rfl, rfl⟩⟩
  have hd' : d < 100 := by omega
  have i2 : ¬ pdepth M = 100 := by rw [show pdepth M = nI d from h.depth]; exact fun e => hd ((nI_eq (b := 100) (by omega) (by decide)).mp e)
  have i3 : ¬ 100 < C 19 1 + 1 := by rw [c1']; exact nI_nlt (a := 100) (b := d + 1) (by omega) (by omega)
  rw [popens_d i0 i1 i2]
  by_cases k12 : k = 12
  · subst k12
    have b9 : bkind (f (t.2.1 n) 0) = 9 := by rw [hf0]; rfl
    have hfin := h.fin (by omega)
    have hz1 : zup (zup M 2 (7230 + nf) 0) 2 23 (nI (nf + 1)) 1 = M 1 := by rw [zup_r (by decide), zup_r (by decide)]
    have hz4 : zup (zup M 2 (7230 + nf) 0) 2 23 (nI (nf + 1)) 4 = M 4 := by rw [zup_r (by decide), zup_r (by decide)]
    have hz2 : ∀ j, j < 23 → zup (zup M 2 (7230 + nf) 0) 2 23 (nI (nf + 1)) 2 j = M 2 j := fun j hj => by rw [zup_ne _ _ _ _ (by omega), zup_ne _ _ _ _ (by omega)]
    have hE : EXT (g, f, M, t, (sg, el, rg, ci, mz, fi), (d, nv, nr, nf, np)) (g, f, zup (zup M 2 (7230 + nf) 0) 2 23 (nI (nf + 1)), t, (sg, el, rg, ci, mz, fi), (d, nv, nr, nf + 1, np)) :=
      ⟨⟨zXt.rf, fun _ _ => rfl⟩, fun j _ => congrFun hz4 j, ⟨hz1, rfl⟩, ⟨Nat.le_refl _, Nat.le_refl _, Nat.le_succ _, Nat.le_refl _⟩, fun _ _ => ⟨rfl, rfl⟩, fun _ _ => ⟨rfl, rfl, rfl⟩⟩
    rw [binto_9 s3 s4 i3 b9, if_pos (show pkind M (M 2 17) = 12 from hpk), pop1_e c23 (by omega), n2, bnewFin_e c5 (by omega), bpsh_e (d := d) ((by rw [zup_r (by decide), zup_r (by decide)]; exact c1) : zup (zup C 23 nf 0) 21 5 (nI (nf + 1)) 19 1 = nI d) hd100, hf0]
    refine ⟨rfl, Or.inr ⟨rfl, _, _, CO.opens hfin (hB.ext hE (fun j hj => hz2 j (by omega)) rfl rfl) hb hn0 n1 k2 (by omega) ((congrFun hz1 _).trans hT) ?_ ?_ hd' ((hz2 16 (by omega)).trans h16) ?_ ((hz2 5 (by omega)).trans h5) ⟨?_, (hz2 6 (by omega)).trans h3.2⟩ hs ⟨fun _ => ⟨nf, Nat.lt_succ_self _, c23, c5⟩, fun e => absurd e (by decide)⟩ ⟨by omega, by omega, by omega, by omega⟩⟩⟩
    · rw [hz2 18 (by omega), hz2 19 (by omega)]; exact n5.ext hE h.IN
    · rw [hz2 18 (by omega), hz2 19 (by omega)]; exact CV.ext hE n6
    · rw [zup_ne _ _ _ _ (by omega), zup_ne _ _ _ _ (by omega)]; exact h2
    · rw [zup_ne _ _ _ _ (by omega), zup_ne _ _ _ _ (by omega)]; exact h3.1
  have j9 : ¬ bkind (f (t.2.1 n) 0) = 9 := by rw [hf0]; exact (show ∀ k, k < 16 → bkind (sgn k) = 9 → k = 12 by decide +kernel) k (by omega) |> fun q e => k12 (q e)
  have j12 : ¬ pkind M (M 2 17) = 12 := by rw [hpk]; exact fun e => k12 ((nI_eq (b := 12) (by omega) (by decide)).mp e)
  rw [if_neg j12]
  by_cases k14 : k = 14
  · subst k14
    have b11 : bkind (f (t.2.1 n) 0) = 11 := by rw [hf0]; rfl
    have hrs : t.2.2.2 n := (hEN.2.2.2.1 rfl).1
    have hy : ¬ M 2 19 = -9 := n6.2 hrs
    obtain ⟨r, r1, r2, r3, r4⟩ : ∃ r, r < nr ∧ M 2 19 = nI r ∧ 1 ≤ mz r ∧ bresIn g (R 17 5) = some (rg r) := by
      rcases n5 with ⟨-, x2, -⟩ | ⟨e1, x1, x2, x3, x4⟩
      · exact absurd x2 hy
      · rcases x4 with ⟨y1, -⟩ | ⟨r, y1, y2, y3, y4⟩
        · exact absurd y1 hy
        · exact ⟨r, y1, y2, y3, by rw [x3]; exact y4⟩
    rw [binto_11 s3 s4 i3 j9 b11, popE_14 hpk, n2, bpsh_e c1 hd100, hf0]
    exact ⟨rfl, Or.inr ⟨rfl, _, _, CO.opens h hB hb hn0 n1 k2 (by omega) hT n5 n6 hd' h16 h2 h5 h3 hs ⟨fun e => absurd e (by decide), fun _ => ⟨r, r1, r2, r4, r3⟩⟩ ⟨by omega, by omega, by omega, by omega⟩⟩⟩
  · have j11 : ¬ bkind (f (t.2.1 n) 0) = 11 := by rw [hf0]; exact (show ∀ k, k < 16 → bkind (sgn k) = 11 → k = 14 by decide +kernel) k (by omega) |> fun q e => k14 (q e)
    have j14 : ¬ pkind M (M 2 17) = 14 := by rw [hpk]; exact fun e => k14 ((nI_eq (b := 14) (by omega) (by decide)).mp e)
    rw [binto_d s3 s4 i3 j9 j11, popE_d j14, n2, bpsh_e c1 hd100, hf0]
    exact ⟨rfl, Or.inr ⟨rfl, _, _, CO.opens h hB hb hn0 n1 k2 (by omega) hT n5 n6 hd' h16 h2 h5 h3 hs ⟨fun e => absurd e k12, fun e => absurd e k14⟩ ⟨by omega, by omega, by omega, by omega⟩⟩⟩
