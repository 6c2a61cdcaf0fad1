/-! A resumption is made. -/
def pmakeN (M : zI) (t n : Int32) (nr : Nat) : zI := zup (zup (zup (zup M 2 11 (nI (nr + 1))) 2 (3630 + 3 * nr) t) 2 (3630 + 3 * nr + 1) n) 2 (3630 + 3 * nr + 2) 0
theorem pmake_N {M : zI} {t n : Int32} {nr : Nat} (h : M 2 11 = nI nr) (hn : nr < 1200) : pmakeRes M t n = pmakeN M t n nr := by
  unfold pmakeRes pmakeN
  simp only [show tn (M 2 11) = nr by rw [h]; exact tn_nI (by omega), show M 2 11 + 1 = nI (nr + 1) from ixA h (ixC 1)]
theorem pmakeN_r {M : zI} {t n : Int32} {nr r : Nat} (h : r ≠ 2) : pmakeN M t n nr r = M r := by
  unfold pmakeN
  simp only [zup_r h]
theorem pmakeN_o {M : zI} {t n : Int32} {nr j : Nat} (h : j ≠ 11) (h2 : j < 3630 + 3 * nr ∨ 3630 + 3 * nr + 2 < j) : pmakeN M t n nr 2 j = M 2 j := by
  unfold pmakeN
  rw [zup_ne _ _ _ _ (by omega), zup_ne _ _ _ _ (by omega), zup_ne _ _ _ _ (by omega), zup_ne _ _ _ _ (by omega)]
theorem pmakeN_n {M : zI} {t n : Int32} {nr : Nat} : pmakeN M t n nr 2 11 = nI (nr + 1) ∧ pmakeN M t n nr 2 (3630 + 3 * nr) = t ∧ pmakeN M t n nr 2 (3630 + 3 * nr + 1) = n ∧ pmakeN M t n nr 2 (3630 + 3 * nr + 2) = 0 := by
  unfold pmakeN
  refine ⟨?_, ?_, ?_, ?_⟩ <;> (repeat first | rw [zup_at] | rw [zup_ne _ _ _ _ (by omega)])
theorem kpl {n : Nat} (h : n < 1000) : ¬ nI n < 0 ∧ nI n < 1000 := ⟨nI_pos (by omega), nI_lt (b := 1000) h (by decide)⟩
theorem bst_t {C : zI} {j n : Nat} {y : Int32} (h : n < 1000) : bst C j (nI n) y = zup C j n y := by
  unfold bst
  rw [if_pos (kpl h), tn_nI (by omega)]
theorem bnewRes_e {C : zI} {nr : Nat} (h : C 21 1 = nI nr) (hn : nr < 1000) : bnewRes C = zup (zup C 22 nr 0) 21 1 (nI (nr + 1)) := by
  show zup (bst C 22 (C 21 1) 0) 21 1 (bst C 22 (C 21 1) 0 21 1 + 1) = _
  rw [h, bst_t hn, zup_ne _ _ _ _ (by omega), h, nI_1]
theorem capG_in {b0 : Nat} {g : zG} {r : Nat → Option Nat} {p n k : Nat} (h : b0 ≤ g.1) : zIn b0 (capG g r p n k) g.1 15 ∧ (capG g r p n k).2.2.1 g.1 = n := ⟨⟨h, Nat.lt_succ_self _, zu1_at _ _ _⟩, zu1_at _ _ _⟩
theorem capG_at {g : zG} {r : Nat → Option Nat} {p n k i : Nat} (h : i < k) : (capG g r p n k).2.2.2 g.1 i = r (p + i) := by
  show zu1 (znG g 15 n).2.2.2 g.1 (fun i => if i < k then r (p + i) else none) g.1 i = _
  rw [zu1_at, if_pos h]
theorem dRes_in {b0 : Nat} {g : zG} {cp : Nat} (h : b0 ≤ g.1) : zIn b0 (dRes g cp) g.1 7 ∧ (dRes g cp).2.2.2 g.1 1 = some cp := ⟨⟨h, Nat.lt_succ_self _, zu1_at _ _ _⟩, zup_at _ _ _ _⟩
theorem CO.res {b0 n0 : Nat} {g : zG} {f M : zI} {t : zTs} {sg rg mz fi : Nat → Nat} {el : Nat → Nat → Prop} {ci : Nat → Nat → Nat} {d nv nr nf np : Nat} {R : zRf} {C : zI} {p m : Nat} {top : Int32}
    (h : CO b0 n0 (g, f, M, t, (sg, el, rg, ci, mz, fi), (d, nv, nr, nf, np)) R C) (hr : nr < 1000) (hb : b0 ≤ g.1) (hn : n0 ≤ g.1) (hp : p + m = d) (ht : top = (if m = 0 then -9 else nI (fi (d - 1)))) :
    CO b0 n0 (dRes (capG g (R 20) p m m) g.1, dResF (capG g (R 20) p m m) (znI g f) (nI nr), pmakeN M top (nI m) nr, t, (sg, el, up1 rg nr (g.1 + 1), up1 ci nr (fun q => fi (p + q)), up1 mz nr m, fi), (d, nv, nr + 1, nf, np)) R (zup (zup C 22 nr 0) 21 1 (nI (nr + 1))) := by
  have hI := h.IN
  have hx : zXt g (dRes (capG g (R 20) p m m) g.1) := (zXt.capG g (R 20) p m m).tr (zXt.res _ _)
  have hfo : ∀ y, y < g.1 → dResF (capG g (R 20) p m m) (znI g f) (nI nr) y = f y := by
    intro y hy
    show zup (zu1 (zu1 f g.1 _) (g.1 + 1) _) (g.1 + 1) 0 _ y = f y
    rw [zup_r (by omega), zu1_ne _ _ _ (by omega), zu1_ne _ _ _ (by omega)]
  have hp1 : pmakeN M top (nI m) nr 1 = M 1 := pmakeN_r (by decide)
  have hp4 : pmakeN M top (nI m) nr 4 = M 4 := pmakeN_r (by decide)
  have hX : EXT (g, f, M, t, (sg, el, rg, ci, mz, fi), (d, nv, nr, nf, np)) (dRes (capG g (R 20) p m m) g.1, dResF (capG g (R 20) p m m) (znI g f) (nI nr), pmakeN M top (nI m) nr, t, (sg, el, up1 rg nr (g.1 + 1), up1 ci nr (fun q => fi (p + q)), up1 mz nr m, fi), (d, nv, nr + 1, nf, np)) :=
    ⟨⟨hx, hfo⟩, fun k _ => congrFun hp4 k, ⟨hp1, rfl⟩, ⟨Nat.le_refl _, Nat.le_succ _, Nat.le_refl _, Nat.le_refl _⟩, fun _ _ => ⟨rfl, rfl⟩, fun r hr' => ⟨up1_ne (Nat.ne_of_lt hr'), up1_ne (Nat.ne_of_lt hr'), up1_ne (Nat.ne_of_lt hr')⟩⟩
  have hbd : nv ≤ 1100 ∧ nr ≤ 1000 ∧ nf ≤ 1000 ∧ np ≤ 39800 := h.2.2.2.2.2
  have hsk := h.2.2.2.1
  have h100 : d ≤ 100 := hsk.1
  obtain ⟨m11, m0, m1, m2⟩ := pmakeN_n (M := M) (t := top) (n := nI m) (nr := nr)
  refine h.gen hX (fun e he j hj => pmakeN_o (by omega) (by have : e < nv := he; omega)) (fun r hr' j hj => pmakeN_o (by omega) (by have : r < nr := hr'; omega)) (fun e h1 h2 => absurd h2 (Nat.not_lt.mpr h1)) (fun r h1 h2 => ?_)
    (hsk.same hX hI rfl rfl (pmakeN_o (by omega) (by omega)) rfl) ?_ ⟨hbd.1, by show nr + 1 ≤ 1000; omega, hbd.2.2.1, hbd.2.2.2⟩
  · have h1 : nr ≤ r := h1
    have h2 : r < nr + 1 := h2
    obtain rfl : r = nr := by omega
    have er : up1 rg r (g.1 + 1) r = g.1 + 1 := up1_at
    have ec : up1 ci r (fun q => fi (p + q)) r = (fun q => fi (p + q)) := up1_at
    have em : up1 mz r m r = m := up1_at
    have hri := dRes_in (b0 := b0) (g := capG g (R 20) p m m) (cp := g.1) (by show b0 ≤ g.1 + 1; omega)
    have hai := capG_in (b0 := b0) (g := g) (r := R 20) (p := p) (n := m) (k := m) hb
    have hx2 : zXt (capG g (R 20) p m m) (dRes (capG g (R 20) p m m) g.1) := zXt.res _ _
    refine ⟨⟨?_, ?_, ?_, ?_, ?_, ?_⟩, g.1, ?_, hn, hai.1.xt hx2, ?_, fun q hq => ?_⟩
    · show n0 ≤ up1 rg r (g.1 + 1) r; rw [er]; omega
    · show zIn b0 _ (up1 rg r (g.1 + 1) r) 7; rw [er]; exact hri.1
    · show dResF (capG g (R 20) p m m) (znI g f) (nI r) (up1 rg r (g.1 + 1) r) 0 = _; rw [er]; exact zup_at _ _ _ _
    · show up1 mz r m r ≤ 100; rw [em]; omega
    · show pmakeN M top (nI m) r 2 (3630 + 3 * r + 1) = nI (up1 mz r m r); rw [em]; exact m1
    · show pmakeN M top (nI m) r 2 (3630 + 3 * r) = (if up1 mz r m r = 0 then -9 else nI (up1 ci r _ r (up1 mz r m r - 1))); rw [em, ec, m0, ht]
      by_cases hm : m = 0
      · rw [if_pos hm, if_pos hm]
      · rw [if_neg hm, if_neg hm, show d - 1 = p + (m - 1) by omega]
    · show (dRes (capG g (R 20) p m m) g.1).2.2.2 (up1 rg r (g.1 + 1) r) 1 = _; rw [er]; exact hri.2
    · show (dRes (capG g (R 20) p m m) g.1).2.2.1 g.1 = up1 mz r m r; rw [em]; exact (hx2.1.2 _ hai.1.2.1).2.trans hai.2
    · have hq : q < up1 mz r m r := hq
      rw [em] at hq
      obtain ⟨x, x1, x2, x3, x4⟩ := hsk.2.2 (p + q) (by show p + q < d; omega)
      have hlt := x2.1
      have x4 : M 4 (7 * fi (p + q) + 5) = (if p + q = 0 then -9 else nI (fi (p + q - 1))) := x4
      refine ⟨x, ?_, ?_, fun q1 => ?_, fun q1 => ?_⟩
      · show (dRes (capG g (R 20) p m m) g.1).2.2.2 g.1 q = _
        rw [hx2.rw hai.1, capG_at hq]; exact x1
      · show FR b0 n0 _ (up1 ci r _ r q) x; rw [ec]; exact x2.ext hX hI
      · show pmakeN M top (nI m) r 4 (7 * up1 ci r _ r q + 5) = nI (up1 ci r _ r (q - 1)); rw [ec, hp4]
        show M 4 (7 * fi (p + q) + 5) = nI (fi (p + (q - 1)))
        rw [x4, if_neg (by omega), show p + q - 1 = p + (q - 1) by omega]
      · have q1 : pmakeN M top (nI m) r 4 (7 * up1 ci r (fun q => fi (p + q)) r q) = nI 14 := q1
        rw [ec, hp4] at q1
        obtain ⟨_, _, _, κ, k4, k5, k6, k7, f1, f2, f3, f4⟩ := x2
        have k6 : M 4 (7 * fi (p + q)) = nI κ := k6
        obtain rfl : κ = 14 := (nI_eq (by omega) (by decide)).mp (k6.symm.trans q1)
        obtain ⟨r1, j1, j2, j3⟩ := f4 (Or.inr rfl)
        refine ⟨r1, j1, ?_⟩
        show pmakeN M top (nI m) r 4 (7 * up1 ci r _ r q + 4) = _
        rw [ec, hp4]
        exact j2
  · obtain ⟨⟨c1, c2⟩, c3, ⟨c4, c5⟩, ⟨c6, c7⟩, c8, c9, c10, ⟨c11, c12, c13⟩, ⟨q, q1, q2, q3, q4⟩, c14, c15⟩ := h.2.2.2.2.1
    have w : ∀ j, j ≠ 11 → (j < 3630 + 3 * nr ∨ 3630 + 3 * nr + 2 < j) → pmakeN M top (nI m) nr 2 j = M 2 j := fun j a b => pmakeN_o a b
    have hC : ∀ r, r ≠ 21 → r ≠ 22 → zup (zup C 22 nr 0) 21 1 (nI (nr + 1)) r = C r := fun r a b => by rw [zup_r a, zup_r b]
    have hC21 : ∀ k, k ≠ 1 → zup (zup C 22 nr 0) 21 1 (nI (nr + 1)) 21 k = C 21 k := fun k a => by rw [zup_ne _ _ _ _ (Or.inr a), zup_ne _ _ _ _ (Or.inl (by decide))]
    have hC22 : ∀ k, k ≠ nr → zup (zup C 22 nr 0) 21 1 (nI (nr + 1)) 22 k = C 22 k := fun k a => by rw [zup_ne _ _ _ _ (Or.inl (by decide)), zup_ne _ _ _ _ (Or.inr a)]
    refine ⟨⟨by rw [hC 19 (by decide) (by decide)]; exact c1, ?_⟩, ?_, ⟨m11, zup_at _ _ _ _⟩, ⟨?_, by rw [hC21 _ (by decide)]; exact c7⟩, ?_, fun r hr' => ?_, fun j hj => ?_, ⟨?_, ?_, ?_⟩, ⟨q, q1, by rw [hC 17 (by decide) (by decide)]; exact q2, ?_, fun k hk => ?_⟩, ?_, fun a ha => ?_⟩
    · show zup (zup C 22 nr 0) 21 1 (nI (nr + 1)) 19 2 = pmakeN M top (nI m) nr 2 8; rw [hC 19 (by decide) (by decide), w _ (by omega) (by omega)]; exact c2
    · show pmakeN M top (nI m) nr 2 22 = _; rw [w _ (by omega) (by omega)]; exact c3
    · show pmakeN M top (nI m) nr 2 23 = _; rw [w _ (by omega) (by omega)]; exact c6
    · show pmakeN M top (nI m) nr 2 21 = _; rw [w _ (by omega) (by omega)]; exact c8
    · have hr' : r < nr + 1 := hr'
      show zup (zup C 22 nr 0) 21 1 (nI (nr + 1)) 22 r = pmakeN M top (nI m) nr 2 (3630 + 3 * r + 2)
      by_cases hq : r = nr
      · subst hq
        rw [m2, zup_ne _ _ _ _ (Or.inl (by decide)), zup_at]
      · rw [hC22 _ hq, w _ (by omega) (by omega)]; exact c9 r (by show r < nr; omega)
    · show zup (zup C 22 nr 0) 21 1 (nI (nr + 1)) 23 j = pmakeN M top (nI m) nr 2 _; rw [hC 23 (by decide) (by decide), w _ (by omega) (by omega)]; exact c10 j hj
    · show zup (zup C 22 nr 0) 21 1 (nI (nr + 1)) 21 2 = pmakeN M top (nI m) nr 2 12; rw [hC21 _ (by decide), w _ (by omega) (by omega)]; exact c11
    · show zup (zup C 22 nr 0) 21 1 (nI (nr + 1)) 21 3 = pmakeN M top (nI m) nr 2 13; rw [hC21 _ (by decide), w _ (by omega) (by omega)]; exact c12
    · show zup (zup C 22 nr 0) 21 1 (nI (nr + 1)) 21 6 = pmakeN M top (nI m) nr 2 14; rw [hC21 _ (by decide), w _ (by omega) (by omega)]; exact c13
    · show pmakeN M top (nI m) nr 2 9 = _; rw [w _ (by omega) (by omega)]; exact q3
    · show zup (zup C 22 nr 0) 21 1 (nI (nr + 1)) 24 k = pmakeN M top (nI m) nr 2 _; rw [hC 24 (by decide) (by decide), w _ (by omega) (by omega)]; exact q4 k hk
    · show pmakeN M top (nI m) nr 2 10 = bcntP (zup (zup C 22 nr 0) 21 1 (nI (nr + 1))); unfold bcntP; rw [hC 25 (by decide) (by decide), w _ (by omega) (by omega)]; exact c14
    · show zup (zup C 22 nr 0) 21 1 (nI (nr + 1)) 25 a = pmakeN M top (nI m) nr 2 _; rw [hC 25 (by decide) (by decide), w _ (by omega) (by omega)]; exact c15 a ha
