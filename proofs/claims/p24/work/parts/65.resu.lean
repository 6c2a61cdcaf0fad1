/-! A run's step from a value: a resumption is resumed; the copies of its frames. -/
/-- a frame's copy is a frame of the same object -/
theorem FR.copy {b0 n0 : Nat} {X : zCt} {i j x : Nat} (h : FR b0 n0 X i x) (hj : j < nP X) (hs : ∀ s, s < 5 → (qM X) 4 (7 * j + s) = (qM X) 4 (7 * i + s)) : FR b0 n0 X j x := by
  obtain ⟨h1, h2, h3, k, k1, k2, k3, k4, k5⟩ := h
  refine ⟨hj, h2, h3, k, k1, k2, (hs 0 (by decide)).trans k3, k4, ?_⟩
  unfold FK at k5 ⊢
  rw [hs 1 (by decide), hs 2 (by decide), hs 3 (by decide), hs 4 (by decide)]
  exact k5
/-- the frames are gathered, the top first -/
theorem pag_e {ci : Nat → Nat} : ∀ (n k : Nat) (x : Int32) (M : zI), (∀ p, p < n → ci p < 40000) → (1 ≤ n → x = nI (ci (n - 1))) → (∀ p, p < n → 1 ≤ p → M 4 (7 * ci p + 5) = nI (ci (p - 1))) →
    (∀ r, r ≠ 16 → pag n k x M r = M r) ∧ (∀ j, j < k → pag n k x M 16 j = M 16 j) ∧ (∀ s, s < n → pag n k x M 16 (k + s) = nI (ci (n - 1 - s))) ∧ pagV M n x := by
  intro n
  induction n with
  | zero => intro k x M _ _ _; exact ⟨fun _ _ => rfl, fun _ _ => rfl, fun s hs => absurd hs (Nat.not_lt_zero s), trivial⟩
  | succ n ih =>
    intro k x M h1 h2 h3
    have hx : x = nI (ci n) := h2 (by omega)
    have hc := h1 n (by omega)
    have h5 : 1 ≤ n → pof M x 5 = nI (ci (n - 1)) := by
      intro hn
      rw [hx, show (5 : Int32) = nI 5 from rfl, pof_n (by omega) (by decide)]
      exact h3 n (by omega) hn
    obtain ⟨a1, a2, a3, -⟩ := ih (k + 1) (pof M x 5) (zup M 16 k x) (fun p hp => h1 p (by omega)) h5 (fun p hp hp1 => by rw [zup_ne _ _ _ _ (by omega)]; exact h3 p (by omega) hp1)
    obtain ⟨-, -, -, a4⟩ := ih (k + 1) (pof M x 5) M (fun p hp => h1 p (by omega)) h5 (fun p hp hp1 => h3 p (by omega) hp1)
    refine ⟨fun r hr => ?_, fun j hj => ?_, fun s hs => ?_, ⟨by rw [hx]; exact iv_nI hc (by decide), a4⟩⟩
    · show pag n (k + 1) (pof M x 5) (zup M 16 k x) r = _
      rw [a1 r hr, zup_r hr]
    · show pag n (k + 1) (pof M x 5) (zup M 16 k x) 16 j = _
      rw [a2 j (by omega), zup_ne _ _ _ _ (by omega)]
    · show pag n (k + 1) (pof M x 5) (zup M 16 k x) 16 (k + s) = _
      cases s with
      | zero => rw [a2 (k + 0) (by omega)]; exact (zup_at _ _ _ _).trans hx
      | succ s => rw [show k + (s + 1) = k + 1 + s by omega, a3 s (by omega)]; exact congrArg (fun q => nI (ci q)) (by omega)
theorem bpushC_z {C : zI} {a k : Nat} {x : Int32} (h : a ≠ 19) : bpushC (zup C a k x) = zup (bpushC C) a k x := by
  unfold bpushC
  simp only
  have e : ∀ j, zup C a k x 19 j = C 19 j := fun j => zup_ne _ _ _ _ (Or.inl (Ne.symm h))
  rw [e, zup_sw h, zup_ne (zup C 19 1 (C 19 1 + 1)) a k x (b := 19) (j := 2) (Or.inl (Ne.symm h)), zup_ne (zup C 19 1 (C 19 1 + 1)) a k x (b := 19) (j := 1) (Or.inl (Ne.symm h)), zup_sw h]
theorem bresG_z {g : zG} {a : Nat} {R : zRf} {C : zI} {b k : Nat} {x : Int32} (h : b ≠ 19) : ∀ j, bresG g a R (zup C b k x) j = ((bresG g a R C j).1, zup (bresG g a R C j).2 b k x) := by
  intro j
  induction j with
  | zero => rfl
  | succ j ih =>
    show (zup (bresG g a R (zup C b k x) j).1 20 (tn ((bresG g a R (zup C b k x) j).2 19 1)) (g.2.2.2 a j), bpushC (bresG g a R (zup C b k x) j).2) = _
    rw [ih]
    show (zup (bresG g a R C j).1 20 (tn (zup (bresG g a R C j).2 b k x 19 1)) (g.2.2.2 a j), bpushC (zup (bresG g a R C j).2 b k x)) = _
    rw [zup_ne _ _ _ _ (Or.inl (Ne.symm h)), bpushC_z h]
    rfl
set_option maxHeartbeats 1000000 in
/-- the copies: k frames are still to come -/
theorem CO.copies {b0 n0 : Nat} {g : zG} {f : zI} {t : zTs} {sg rg mz : Nat → Nat} {el : Nat → Nat → Prop} {ci : Nat → Nat → Nat} {nv nr nf r a : Nat} {R : zRf} {C : zI} (hr : r < nr) (hga : g.2.2.2 (rg r) 1 = some a) :
    ∀ (k : Nat) (M : zI) (fi : Nat → Nat) (d np : Nat), k ≤ mz r → CO b0 n0 (g, f, M, t, (sg, el, rg, ci, mz, fi), (d, nv, nr, nf, np)) (bresG g a R C (mz r - k)).1 (bresG g a R C (mz r - k)).2 → d + k ≤ 100 → np + k ≤ 39800 → (∀ s, s < k → M 16 s = nI (ci r (mz r - 1 - s))) →
      ppuV k M ∧ (∀ j, j ≠ 2 → j ≠ 4 → ppu k M j = M j) ∧ (∀ j, j ≠ 7 → j ≠ 8 → j ≠ 21 → ppu k M 2 j = M 2 j) ∧ (∀ j, j < 7 * np → ppu k M 4 j = M 4 j) ∧ ∃ fi', CO b0 n0 (g, f, ppu k M, t, (sg, el, rg, ci, mz, fi'), (d + k, nv, nr, nf, np + k)) (bresG g a R C (mz r)).1 (bresG g a R C (mz r)).2 := by
  intro k
  induction k with
  | zero =>
    intro M fi d np _ h _ _ _
    exact ⟨trivial, fun _ _ _ => rfl, fun _ _ _ _ => rfl, fun _ _ => rfl, fi, h⟩
  | succ k ih =>
    intro M fi d np hk h hd hnp h16
    obtain ⟨⟨-, -, -, hm100, -, -⟩, a', ha', -, -, -, hfr⟩ := h.2.2.1 r hr
    obtain rfl : a' = a := Option.some.inj (ha'.symm.trans hga)
    have hfr : ∀ p, p < mz r → ∃ x, g.2.2.2 a' p = some x ∧ FR b0 n0 (g, f, M, t, (sg, el, rg, ci, mz, fi), (d, nv, nr, nf, np)) (ci r p) x ∧ _ := hfr
    obtain ⟨x, x1, x2, -⟩ := hfr (mz r - (k + 1)) (by omega)
    have hq : ci r (mz r - (k + 1)) < np := x2.1
    have e16 : M 16 k = nI (ci r (mz r - (k + 1))) := (h16 k (by omega)).trans (congrArg (fun q => nI (ci r q)) (by omega))
    generalize ci r (mz r - (k + 1)) = q at *
    have e0 : pof M (nI q) 0 = M 4 (7 * q) := pof_n (k := 0) (by omega) (by decide)
    have e1 : pof M (nI q) 1 = M 4 (7 * q + 1) := pof_n (k := 1) (by omega) (by decide)
    have e2 : pof M (nI q) 2 = M 4 (7 * q + 2) := pof_n (k := 2) (by omega) (by decide)
    have e3 : pof M (nI q) 3 = M 4 (7 * q + 3) := pof_n (k := 3) (by omega) (by decide)
    have e4 : pof M (nI q) 4 = M 4 (7 * q + 4) := pof_n (k := 4) (by omega) (by decide)
    have hpp : ppu1 M k = ppushN M (M 4 (7 * q)) (M 4 (7 * q + 1)) (M 4 (7 * q + 2)) (M 4 (7 * q + 3)) (M 4 (7 * q + 4)) np d := by
      unfold ppu1
      rw [e16, e0, e1, e2, e3, e4]
      exact h.push_eq _ _ _ _ _
    obtain ⟨w0, w1, w2, w3, w4, -, -⟩ := ppushN_n (M := M) (k := M 4 (7 * q)) (n := M 4 (7 * q + 1)) (e := M 4 (7 * q + 2)) (s := M 4 (7 * q + 3)) (x := M 4 (7 * q + 4)) (np := np) (d := d)
    have hp1 : ppushN M (M 4 (7 * q)) (M 4 (7 * q + 1)) (M 4 (7 * q + 2)) (M 4 (7 * q + 3)) (M 4 (7 * q + 4)) np d 1 = M 1 := ppushN_1 (by decide) (by decide)
    have hE : EXT (g, f, M, t, (sg, el, rg, ci, mz, fi), (d, nv, nr, nf, np)) (g, f, ppushN M (M 4 (7 * q)) (M 4 (7 * q + 1)) (M 4 (7 * q + 2)) (M 4 (7 * q + 3)) (M 4 (7 * q + 4)) np d, t, (sg, el, rg, ci, mz, fiP fi d np), (d + 1, nv, nr, nf, np + 1)) :=
      ⟨⟨zXt.rf, fun _ _ => rfl⟩, fun j hj => ppushN_4 hj, ⟨hp1, rfl⟩, ⟨Nat.le_refl _, Nat.le_refl _, Nat.le_refl _, Nat.le_succ _⟩, fun _ _ => ⟨rfl, rfl⟩, fun _ _ => ⟨rfl, rfl, rfl⟩⟩
    have hF := (x2.ext hE h.IN).copy (j := np) (Nat.lt_succ_self _) (by
      intro s hs
      have hold : ∀ s, s < 5 → ppushN M (M 4 (7 * q)) (M 4 (7 * q + 1)) (M 4 (7 * q + 2)) (M 4 (7 * q + 3)) (M 4 (7 * q + 4)) np d 4 (7 * q + s) = M 4 (7 * q + s) := fun s hs => ppushN_4 (by omega)
      show ppushN M _ _ _ _ _ np d 4 (7 * np + s) = ppushN M _ _ _ _ _ np d 4 (7 * q + s)
      rw [hold s hs]
      have hs' : s = 0 ∨ s = 1 ∨ s = 2 ∨ s = 3 ∨ s = 4 := by omega
      rcases hs' with rfl | rfl | rfl | rfl | rfl
      · exact w0
      · exact w1
      · exact w2
      · exact w3
      · exact w4)
    have h1 := h.push (by omega) (by omega) hF
    have hd19 : tn ((bresG g a' R C (mz r - (k + 1))).2 19 1) = d := by rw [show (bresG g a' R C (mz r - (k + 1))).2 19 1 = nI d from h.2.2.2.2.1.1.1, tn_nI (by omega)]
    have hst : bresG g a' R C (mz r - k) = (zup (bresG g a' R C (mz r - (k + 1))).1 20 d (some x), bpushC (bresG g a' R C (mz r - (k + 1))).2) := by
      rw [show mz r - k = mz r - (k + 1) + 1 by omega]
      show (zup (bresG g a' R C (mz r - (k + 1))).1 20 (tn ((bresG g a' R C (mz r - (k + 1))).2 19 1)) (g.2.2.2 a' (mz r - (k + 1))), _) = _
      rw [hd19, x1]
    have h2 : CO b0 n0 (g, f, ppushN M (M 4 (7 * q)) (M 4 (7 * q + 1)) (M 4 (7 * q + 2)) (M 4 (7 * q + 3)) (M 4 (7 * q + 4)) np d, t, (sg, el, rg, ci, mz, fiP fi d np), (d + 1, nv, nr, nf, np + 1)) (bresG g a' R C (mz r - k)).1 (bresG g a' R C (mz r - k)).2 := by
      rw [hst]; exact h1
    have h17 : ∀ j, j ≠ 2 → j ≠ 4 → ppushN M (M 4 (7 * q)) (M 4 (7 * q + 1)) (M 4 (7 * q + 2)) (M 4 (7 * q + 3)) (M 4 (7 * q + 4)) np d j = M j := fun j a b => ppushN_1 a b
    obtain ⟨i1, i2, i3, i4, fi', i5⟩ := ih (ppushN M (M 4 (7 * q)) (M 4 (7 * q + 1)) (M 4 (7 * q + 2)) (M 4 (7 * q + 3)) (M 4 (7 * q + 4)) np d) (fiP fi d np) (d + 1) (np + 1) (by omega) h2 (by omega) (by omega) (fun s hs => (congrFun (h17 16 (by decide) (by decide)) s).trans (h16 s (by omega)))
    have hq2 : ppu (k + 1) M = ppu k (ppushN M (M 4 (7 * q)) (M 4 (7 * q + 1)) (M 4 (7 * q + 2)) (M 4 (7 * q + 3)) (M 4 (7 * q + 4)) np d) := congrArg (ppu k) hpp
    rw [hq2]
    refine ⟨⟨by rw [e16]; exact iv_nI (by omega) (by decide), h.vd.2.2.1, h.vd.1, by rw [hpp]; exact i1⟩, fun j a b => (i2 j a b).trans (h17 j a b), fun j a b c => (i3 j a b c).trans (ppushN_2 a b c), fun j hj => (i4 j (by omega)).trans (ppushN_4 hj), fi', ?_⟩
    rw [show d + (k + 1) = d + 1 + k by omega, show np + (k + 1) = np + 1 + k by omega]
    exact i5
