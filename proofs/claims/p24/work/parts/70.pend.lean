/-! The search for a pending finalizer, from its start. -/
theorem pfu_s : ∃ k, pfu = k + 1 := ⟨199999, rfl⟩
theorem bfuel_p : bfuel = pfu := rfl
theorem pfu_v : pfu = 200000 := rfl
/-- the stamps bound: what a search leaves -/
theorem US.ext {X Y : zCt} {C D : zI} {b b' : Nat} (h : US X C b) (hb : b ≤ b') (hb' : b' < 1000000000) (hr : nR Y = nR X) (hu : ∀ r, (qM Y) 2 (3630 + 3 * r + 2) = (qM X) 2 (3630 + 3 * r + 2)) (h27 : (qM Y) 0 27 = (qM X) 0 27) (h19 : (qM Y) 19 = (qM X) 19) (h13 : D 13 4 = C 13 4) (h16 : D 16 = C 16) : US Y D b' := by
  obtain ⟨-, a2, ⟨s, a3, a4, a5⟩, s', a6, a7, a8⟩ := h
  refine ⟨hb', fun r hr' => ?_, ⟨s, by omega, h27.trans a4, fun r hr' => by rw [h19]; exact a5 r hr'⟩, s', by omega, h13.trans a7, fun r hr' => by rw [h16]; exact a8 r hr'⟩
  rw [hr] at hr'
  obtain ⟨u, u1, u2⟩ := a2 r hr'
  exact ⟨u, by omega, (hu r).trans u2⟩
set_option maxHeartbeats 2000000 in
theorem CO.pend {b0 n0 c b : Nat} {g : zG} {f M : zI} {t : zTs} {sg rg mz fi : Nat → Nat} {el : Nat → Nat → Prop} {ci : Nat → Nat → Nat} {d nv nr nf np r : Nat} {R0 R : zRf} {C0 C : zI} (h : CO b0 n0 (g, f, M, t, (sg, el, rg, ci, mz, fi), (d, nv, nr, nf, np)) R0 C0) (hc : c + 27 ≤ n0)
    (hC0 : C 22 = C0 22 ∧ C 23 = C0 23) (hU : US (g, f, M, t, (sg, el, rg, ci, mz, fi), (d, nv, nr, nf, np)) C b) (hr : r < nr) :
    (puses M (nI r) = 0 → ppendV M (nI r) pfu) ∧ bfirstV g f c C R (some (rg r)) ∧
    SM M (if puses M (nI r) = 0 then ppend M (nI r) pfu else (-9, M)).2 ∧ SC C (bfirst g f C R (some (rg r))).2.1 ∧ (∀ j, j ≠ 14 → (bfirst g f C R (some (rg r))).2.2 j = R j) ∧
    (∃ s, s ≤ b + 1 ∧ (if puses M (nI r) = 0 then ppend M (nI r) pfu else (-9, M)).2 0 27 = nI s ∧ ∀ j, j < 1000 → ∃ u, u ≤ s ∧ (if puses M (nI r) = 0 then ppend M (nI r) pfu else (-9, M)).2 19 j = nI u) ∧
    (∃ s, s ≤ b + 1 ∧ (bfirst g f C R (some (rg r))).2.1 13 4 = nI s ∧ ∀ j, j < 1000 → ∃ u, u ≤ s ∧ (bfirst g f C R (some (rg r))).2.1 16 j = nI u) ∧
    (((if puses M (nI r) = 0 then ppend M (nI r) pfu else (-9, M)).1 = -9 ∧ (bfirst g f C R (some (rg r))).1 = none) ∨ ∃ i x, (if puses M (nI r) = 0 then ppend M (nI r) pfu else (-9, M)).1 = nI i ∧ (bfirst g f C R (some (rg r))).1 = some x ∧ i < np ∧ zIn b0 g x 2 ∧ f x 0 = nI 9 ∧ M 4 (7 * i) = nI 9 ∧ FK (g, f, M, t, (sg, el, rg, ci, mz, fi), (d, nv, nr, nf, np)) 9 i x) := by
  have hnr : nr ≤ 1000 := h.2.2.2.2.2.2.1
  obtain ⟨hb, us, ⟨s, v1, v2, v3⟩, s', v4, v5, v6⟩ := hU
  have us : ∀ r, r < nr → ∃ u, u ≤ b ∧ M 2 (3630 + 3 * r + 2) = nI u := us
  have v2 : M 0 27 = nI s := v2
  have v3 : ∀ j, j < 1000 → ∃ u, u ≤ s ∧ M 19 j = nI u := v3
  obtain ⟨⟨w1, w2, w3, w4, w5, w6⟩, a1, x1, x2, x3, x4, -⟩ := h.2.2.1 r hr
  have w3 : f (rg r) 0 = nI r := w3
  have w4 : mz r ≤ 100 := w4
  have w5 : M 2 (3630 + 3 * r + 1) = nI (mz r) := w5
  have w6 : M 2 (3630 + 3 * r) = (if mz r = 0 then -9 else nI (ci r (mz r - 1))) := w6
  have x1 : g.2.2.2 (rg r) 1 = some a1 := x1
  have x4 : g.2.2.1 a1 = mz r := x4
  have htr : tn (nI r) = r := tn_nI (by omega)
  obtain ⟨u, u1, u2⟩ := us r hr
  have hpu : puses M (nI r) = nI u := by unfold puses; rw [htr]; exact u2
  -- the class's start
  have hbs : bfst0 C = zup (zup C 13 4 (nI (s' + 1))) 13 2 0 := by
    unfold bfst0
    rw [v5, show nI s' + 1 = nI (s' + 1) from ixA (a := s') (b := 1) rfl (ixC 1)]
  have D4 : bfst0 C 13 4 = nI (s' + 1) := by rw [hbs, zup_ne _ _ _ _ (by omega), zup_at]
  have D2 : bfst0 C 13 2 = nI 0 := by rw [hbs, zup_at]; rfl
  have Dr : ∀ k, k ≠ 13 → bfst0 C k = C k := fun k hk => by rw [hbs, zup_r hk, zup_r hk]
  have D13 : ∀ j, j ≠ 2 → j ≠ 4 → bfst0 C 13 j = C 13 j := fun j h1 h2 => by rw [hbs, zup_ne _ _ _ _ (Or.inr h1), zup_ne _ _ _ _ (Or.inr h2)]
  have hbu : buses (bfst0 C) f (some (rg r)) = nI u := by
    unfold buses
    simp only
    rw [w3, if_pos (kpl (by omega)), htr, Dr 22 (by decide), hC0.1]
    exact (h.2.2.2.2.1.2.2.2.2.2.1 r hr).trans u2
  have hfresh : ∀ j, j < 1000 → ¬ C 16 j = nI (s' + 1) := fun j hj e => by
    obtain ⟨z, z1, z2⟩ := v6 j hj
    exact absurd ((nI_eq (by omega) (by omega)).mp (z2.symm.trans e)) (by omega)
  have hfreshM : ∀ j, j < 1000 → ¬ M 19 j = nI (s + 1) := fun j hj e => by
    obtain ⟨z, z1, z2⟩ := v3 j hj
    exact absurd ((nI_eq (by omega) (by omega)).mp (z2.symm.trans e)) (by omega)
  unfold bfirst bfirstV
  generalize hDD : bfst0 C = D at *
  by_cases hu0 : u = 0
  · subst hu0
    have hbv : bvisit D R g f (some (rg r)) = (zup (zup (zup D 16 r (nI (s' + 1))) 15 0 (nI (mz r))) 13 2 (nI 1), zup R 14 0 (some (rg r))) := by
      rw [bvisit_t (by rw [hbu]; decide) (by rw [D2]; decide) (by rw [w3]; exact kpl (by omega)) (by rw [w3, htr, D4, Dr 16 (by decide)]; exact hfresh r (by omega))]
      unfold bvisC
      simp only
      rw [w3, htr, D4, zup_ne D 16 r (nI (s' + 1)) (b := 13) (j := 2) (Or.inl (by decide)), D2, tn_nI (by decide), pA_eq x1, x4, zup_ne _ 15 0 (nI (mz r)) (b := 13) (j := 2) (Or.inl (by decide)), zup_ne D 16 r (nI (s' + 1)) (b := 13) (j := 2) (Or.inl (by decide)), D2]
      rfl
    have hp0 : ppend0 M (nI r) = zup (zup (zup (zup M 0 27 (nI (s + 1))) 19 r (nI (s + 1))) 17 0 (M 2 (3630 + 3 * r))) 18 0 (M 2 (3630 + 3 * r + 1)) := by
      unfold ppend0
      simp only
      rw [htr, v2, show nI s + 1 = nI (s + 1) from ixA (a := s) (b := 1) rfl (ixC 1), zup_at, zup_ne _ 19 r _ (b := 2) (Or.inl (by decide)), zup_ne _ 0 27 _ (b := 2) (Or.inl (by decide)), zup_ne _ 17 0 _ (b := 2) (Or.inl (by decide)), zup_ne _ 19 r _ (b := 2) (Or.inl (by decide)), zup_ne _ 0 27 _ (b := 2) (Or.inl (by decide))]
    have E13 : ∀ j, j ≠ 2 → zup (zup (zup D 16 r (nI (s' + 1))) 15 0 (nI (mz r))) 13 2 (nI 1) 13 j = D 13 j := fun j hj => by rw [zup_ne _ _ _ _ (Or.inr hj), zup_ne _ _ _ _ (by omega), zup_ne _ _ _ _ (by omega)]
    have E16 : ∀ j, zup (zup (zup D 16 r (nI (s' + 1))) 15 0 (nI (mz r))) 13 2 (nI 1) 16 j = (if j = r then nI (s' + 1) else C 16 j) := fun j => by
      rw [zup_ne _ _ _ _ (by omega), zup_ne _ _ _ _ (by omega)]
      by_cases e : j = r
      · subst e; rw [zup_at, if_pos rfl]
      · rw [zup_ne _ _ _ _ (Or.inr e), if_neg e, Dr 16 (by decide)]
    have E15 : zup (zup (zup D 16 r (nI (s' + 1))) 15 0 (nI (mz r))) 13 2 (nI 1) 15 0 = nI (mz r) := by rw [zup_ne _ _ _ _ (by omega), zup_at]
    have E2 : zup (zup (zup D 16 r (nI (s' + 1))) 15 0 (nI (mz r))) 13 2 (nI 1) 13 2 = nI 1 := zup_at _ _ _ _
    have EC : SC C (zup (zup (zup D 16 r (nI (s' + 1))) 15 0 (nI (mz r))) 13 2 (nI 1)) := ⟨fun k h1 h2 h3 => by rw [zup_r h1, zup_r h2, zup_r h3, Dr k h1], fun j h1 h2 => (E13 j h1).trans (D13 j h1 h2)⟩
    have P0 : SM M (ppend0 M (nI r)) := by
      rw [hp0]
      exact ⟨fun k h1 h2 h3 h4 => by rw [zup_r h3, zup_r h2, zup_r h4, zup_r h1], fun j hj => by rw [zup_ne _ _ _ _ (by omega), zup_ne _ _ _ _ (by omega), zup_ne _ _ _ _ (by omega), zup_ne _ _ _ _ (by omega)]⟩
    have P27 : ppend0 M (nI r) 0 27 = nI (s + 1) := by rw [hp0, zup_ne _ _ _ _ (by omega), zup_ne _ _ _ _ (by omega), zup_ne _ _ _ _ (by omega), zup_at]
    have P19 : ∀ j, ppend0 M (nI r) 19 j = (if j = r then nI (s + 1) else M 19 j) := fun j => by
      rw [hp0, zup_ne _ _ _ _ (by omega), zup_ne _ _ _ _ (by omega)]
      by_cases e : j = r
      · subst e; rw [zup_at, if_pos rfl]
      · rw [zup_ne _ _ _ _ (Or.inr e), if_neg e, zup_ne _ _ _ _ (by omega)]
    have P17 : ppend0 M (nI r) 17 0 = M 2 (3630 + 3 * r) := by rw [hp0, zup_ne _ _ _ _ (by omega), zup_at]
    have P18 : ppend0 M (nI r) 18 0 = M 2 (3630 + 3 * r + 1) := by rw [hp0, zup_at]
    have hz : puses M (nI r) = 0 := by rw [hpu]; rfl
    rw [hbv, if_pos hz]
    unfold ppend ppendV
    rw [bfuel_p]
    generalize zup (zup (zup D 16 r (nI (s' + 1))) 15 0 (nI (mz r))) 13 2 (nI 1) = E at *
    generalize ppend0 M (nI r) = N at *
    have hSS : SS (g, f, M, t, (sg, el, rg, ci, mz, fi), (d, nv, nr, nf, np)) N E (zup R 14 0 (some (rg r))) 1 := by
      refine SS_of E2 (fun j hj => ?_) (fun j hj => ?_)
      · obtain rfl : j = 0 := by omega
        exact ⟨r, mz r, by show r + 0 + 1 ≤ nr; omega, Nat.le_refl _, zup_at _ _ _ _, E15, P18.trans w5, fun hm => P17.trans (w6.trans (if_neg (by omega)))⟩
      · have hj : j < nr := hj
        rw [P19, P27, E16, E13 4 (by decide), D4]
        by_cases e : j = r
        · rw [if_pos e, if_pos e]; exact ⟨fun _ => rfl, fun _ => rfl⟩
        · rw [if_neg e, if_neg e]
          exact ⟨fun z => absurd z (hfreshM j (by omega)), fun z => absurd z (hfresh j (by omega))⟩
    have hun : un E nr ≤ 102 * nr := un_le nr
    have hsq : sq E 1 = mz r + 1 := by
      show 0 + (tn (E 15 0) + 1) = _
      rw [E15, tn_nI (by omega)]; omega
    obtain ⟨o1, o2, ⟨o3, o4, o5⟩, ⟨o6, o7, o8⟩, o9, o10⟩ := h.srch (c := c) hc (fun r hr => by obtain ⟨u, a, b⟩ := us r hr; exact ⟨u, by omega, b⟩) pfu 1 N E (zup R 14 0 (some (rg r))) P0 (EC.keep hC0) hSS (by rw [pfu_v]; omega)
    refine ⟨fun _ => ⟨iv_nI (by omega) (by decide), o1⟩, o2, P0.tr o3, EC.tr o6, fun j hj => (o9 j hj).trans (zup_r hj), ⟨s + 1, by omega, o4.trans P27, fun j hj => ?_⟩, ⟨s' + 1, by omega, o7.trans ((E13 4 (by decide)).trans D4), fun j hj => ?_⟩, o10⟩
    · rcases o5 j with e | e
      · rw [e, P19]
        split
        · exact ⟨s + 1, Nat.le_refl _, rfl⟩
        · obtain ⟨z, z1, z2⟩ := v3 j hj
          exact ⟨z, by omega, z2⟩
      · exact ⟨s + 1, Nat.le_refl _, e.trans P27⟩
    · rcases o8 j with e | e
      · rw [e, E16]
        split
        · exact ⟨s' + 1, Nat.le_refl _, rfl⟩
        · obtain ⟨z, z1, z2⟩ := v6 j hj
          exact ⟨z, by omega, z2⟩
      · exact ⟨s' + 1, Nat.le_refl _, e.trans ((E13 4 (by decide)).trans D4)⟩
  · -- it was used
    have hz : ¬ puses M (nI r) = 0 := by rw [hpu]; exact fun z => hu0 ((nI_eq (b := 0) (by omega) (by decide)).mp z)
    have hbv : bvisit D R g f (some (rg r)) = (D, R) := by
      refine bvisit_f ?_
      rintro ⟨z1, -⟩
      rw [hbu] at z1
      exact z1 (nI_lt (a := 0) (by omega) (by omega))
    rw [hbv, if_neg hz]
    obtain ⟨k, hk⟩ := pfu_s
    rw [bfuel_p, hk]
    have e0 : ¬ 0 < D 13 2 := by rw [D2]; decide
    have hbz : bfs g f (k + 1) D R = (none, D, R) := if_pos e0
    rw [hbz]
    refine ⟨fun z => absurd z hz, ⟨by show iv 1001 (D 13 2); rw [D2]; exact iv_nI (by decide) (by decide), fun q => by have q : 0 < tn (D 13 2) := q; rw [D2] at q; exact absurd q (by decide)⟩, SM.rf _, ⟨fun k h1 _ _ => Dr k h1, fun j h1 h2 => D13 j h1 h2⟩, fun _ _ => rfl, ⟨s, by omega, v2, v3⟩, ⟨s' + 1, by omega, D4, fun j hj => ?_⟩, Or.inl ⟨rfl, rfl⟩⟩
    obtain ⟨z, z1, z2⟩ := v6 j hj
    exact ⟨z, by omega, (congrFun (Dr 16 (by decide)) j).trans z2⟩
