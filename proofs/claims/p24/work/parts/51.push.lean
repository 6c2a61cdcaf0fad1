/-! Pushing and popping keep the core. -/
/-- the reference's push, with its numbers known -/
def ppushN (M : zI) (k n e s x : Int32) (np d : Nat) : zI :=
  zup (zup (zup (zup (zup (zup (zup (zup (zup (zup M 2 21 (nI (np + 1))) 4 (7 * np + 0) k) 4 (7 * np + 1) n) 4 (7 * np + 2) e) 4 (7 * np + 3) s) 4 (7 * np + 4) x) 4 (7 * np + 5) (M 2 7)) 4 (7 * np + 6) (nI (d + 1))) 2 7 (nI np)) 2 8 (if M 2 8 < nI (d + 1) then nI (d + 1) else M 2 8)
theorem ppush_N {M : zI} {k n e s x : Int32} {np d i : Nat} (h21 : M 2 21 = nI np) (hnp : np < 39999) (h7 : M 2 7 = (if d = 0 then -9 else nI i)) (hi : ¬ d = 0 → i < np) (h6 : ¬ d = 0 → M 4 (7 * i + 6) = nI d) : ppush M k n e s x = ppushN M k n e s x np d := by
  have ht : tn (M 2 21) = np := by rw [h21]; exact tn_nI (by omega)
  have hn1 : M 2 21 + 1 = nI (np + 1) := ixA h21 (ixC 1)
  unfold ppush
  simp only [ht, hn1]
  generalize hA : zup (zup (zup (zup (zup (zup M 2 21 (nI (np + 1))) 4 (7 * np + 0) k) 4 (7 * np + 1) n) 4 (7 * np + 2) e) 4 (7 * np + 3) s) 4 (7 * np + 4) x = A
  have a7 : A 2 7 = M 2 7 := by
    rw [← hA]
    simp only [zup_r (show (2 : Nat) ≠ 4 by decide)]
    exact zup_ne _ _ _ _ (by omega)
  have a8 : A 2 8 = M 2 8 := by
    rw [← hA]
    simp only [zup_r (show (2 : Nat) ≠ 4 by decide)]
    exact zup_ne _ _ _ _ (by omega)
  have a6 : ¬ d = 0 → A 4 (7 * i + 6) = nI d := by
    intro q
    have := hi q
    rw [← hA, zup_ne _ _ _ _ (by omega), zup_ne _ _ _ _ (by omega), zup_ne _ _ _ _ (by omega), zup_ne _ _ _ _ (by omega), zup_ne _ _ _ _ (by omega), zup_ne _ _ _ _ (by omega)]
    exact h6 q
  have hiu : i < 40000 ∨ d = 0 := by
    by_cases q : d = 0
    · exact Or.inr q
    · exact Or.inl (by have := hi q; omega)
  have d3 : pdepth (zup A 4 (7 * np + 5) (A 2 7)) = nI d := by
    rcases hiu with hiu | hiu
    · refine pdepth_of (i := i) ?_ hiu (fun q => ?_)
      · rw [zup_ne _ _ _ _ (by omega), a7]; exact h7
      · have := hi q
        rw [zup_ne _ _ _ _ (by omega)]; exact a6 q
    · refine pdepth_of (i := 0) ?_ (by decide) (fun q => absurd hiu q)
      rw [zup_ne _ _ _ _ (by omega), a7, h7, if_pos hiu, if_pos hiu]
  have hd1 : nI d + 1 = nI (d + 1) := nI_1 d
  rw [d3, hd1, a7]
  have d5 : pdepth (zup (zup (zup A 4 (7 * np + 5) (M 2 7)) 4 (7 * np + 6) (nI (d + 1))) 2 7 (M 2 21)) = nI (d + 1) := by
    refine pdepth_of (i := np) (d := d + 1) ?_ (by omega) (fun q => ?_)
    · rw [zup_at, h21, if_neg (by omega)]
    · rw [zup_ne _ _ _ _ (by omega), zup_at]
  rw [d5, h21]
  have e8 : zup (zup (zup A 4 (7 * np + 5) (M 2 7)) 4 (7 * np + 6) (nI (d + 1))) 2 7 (nI np) 2 8 = M 2 8 := by
    rw [zup_ne _ _ _ _ (by omega), zup_ne _ _ _ _ (by omega), zup_ne _ _ _ _ (by omega), a8]
  rw [e8, ← hA]
  rfl
theorem ppushN_1 {M : zI} {k n e s x : Int32} {np d r : Nat} (h2 : r ≠ 2) (h4 : r ≠ 4) : ppushN M k n e s x np d r = M r := by
  unfold ppushN
  simp only [zup_r h2, zup_r h4]
theorem ppushN_2 {M : zI} {k n e s x : Int32} {np d j : Nat} (h7 : j ≠ 7) (h8 : j ≠ 8) (h21 : j ≠ 21) : ppushN M k n e s x np d 2 j = M 2 j := by
  unfold ppushN
  rw [zup_ne _ _ _ _ (by omega), zup_ne _ _ _ _ (by omega)]
  simp only [zup_r (show (2 : Nat) ≠ 4 by decide)]
  exact zup_ne _ _ _ _ (by omega)
theorem ppushN_27 {M : zI} {k n e s x : Int32} {np d : Nat} : ppushN M k n e s x np d 2 7 = nI np := by
  unfold ppushN
  rw [zup_ne _ _ _ _ (by omega), zup_at]
theorem ppushN_28 {M : zI} {k n e s x : Int32} {np d : Nat} : ppushN M k n e s x np d 2 8 = (if M 2 8 < nI (d + 1) then nI (d + 1) else M 2 8) := zup_at _ _ _ _
theorem ppushN_221 {M : zI} {k n e s x : Int32} {np d : Nat} : ppushN M k n e s x np d 2 21 = nI (np + 1) := by
  unfold ppushN
  rw [zup_ne _ _ _ _ (by omega), zup_ne _ _ _ _ (by omega)]
  simp only [zup_r (show (2 : Nat) ≠ 4 by decide)]
  exact zup_at _ _ _ _
theorem ppushN_4 {M : zI} {k n e s x : Int32} {np d j : Nat} (h : j < 7 * np) : ppushN M k n e s x np d 4 j = M 4 j := by
  unfold ppushN
  rw [zup_ne _ _ _ _ (by omega), zup_ne _ _ _ _ (by omega), zup_ne _ _ _ _ (by omega), zup_ne _ _ _ _ (by omega), zup_ne _ _ _ _ (by omega), zup_ne _ _ _ _ (by omega), zup_ne _ _ _ _ (by omega), zup_ne _ _ _ _ (by omega), zup_ne _ _ _ _ (by omega), zup_ne _ _ _ _ (by omega)]
theorem ppushN_n {M : zI} {k n e s x : Int32} {np d : Nat} : ppushN M k n e s x np d 4 (7 * np) = k ∧ ppushN M k n e s x np d 4 (7 * np + 1) = n ∧ ppushN M k n e s x np d 4 (7 * np + 2) = e ∧ ppushN M k n e s x np d 4 (7 * np + 3) = s ∧ ppushN M k n e s x np d 4 (7 * np + 4) = x ∧ ppushN M k n e s x np d 4 (7 * np + 5) = M 2 7 ∧ ppushN M k n e s x np d 4 (7 * np + 6) = nI (d + 1) := by
  unfold ppushN
  refine ⟨?_, ?_, ?_, ?_, ?_, ?_, ?_⟩ <;> (repeat first | rw [zup_at] | rw [zup_ne _ _ _ _ (by omega)])
  exact zup_at _ _ _ _
theorem SK.d {b0 n0 : Nat} {X : zCt} {R : zRf} (h : SK b0 n0 X R) : (¬ nD X = 0 → fI X (nD X - 1) < nP X ∧ (qM X) 4 (7 * fI X (nD X - 1) + 6) = nI (nD X)) := by
  intro q
  obtain ⟨x, k1, k2, k3, k4⟩ := h.2.2 (nD X - 1) (by omega)
  refine ⟨k2.1, ?_⟩
  rw [k3, show nD X - 1 + 1 = nD X by omega]
theorem CO.depth {b0 n0 : Nat} {X : zCt} {R : zRf} {C : zI} (h : CO b0 n0 X R C) : pdepth (qM X) = nI (nD X) := by
  have hs := h.2.2.2.1
  have hb := h.2.2.2.2.2.2.2.2
  by_cases q : nD X = 0
  · exact pdepth_of (i := 0) (by rw [hs.2.1, if_pos q, if_pos q]) (by decide) (fun q2 => absurd q q2)
  · exact pdepth_of (i := fI X (nD X - 1)) hs.2.1 (by have := (hs.d q).1; omega) (fun _ => (hs.d q).2)
theorem CO.push_eq {b0 n0 : Nat} {X : zCt} {R : zRf} {C : zI} (h : CO b0 n0 X R C) (k n e s x : Int32) : ppush (qM X) k n e s x = ppushN (qM X) k n e s x (nP X) (nD X) := by
  have hs := h.2.2.2.1
  have hb := h.2.2.2.2.2.2.2.2
  exact ppush_N (i := fI X (nD X - 1)) h.2.2.2.2.1.2.2.2.2.1 (by omega) hs.2.1 (fun q => (hs.d q).1) (fun q => (hs.d q).2)
def fiP (fi : Nat → Nat) (d np : Nat) : Nat → Nat := fun p => if p = d then np else fi p
theorem CO.push {b0 n0 : Nat} {g : zG} {f M : zI} {t : zTs} {sg rg mz fi : Nat → Nat} {el : Nat → Nat → Prop} {ci : Nat → Nat → Nat} {d nv nr nf np : Nat} {R : zRf} {C : zI} {k n e s z : Int32} {x : Nat}
    (h : CO b0 n0 (g, f, M, t, (sg, el, rg, ci, mz, fi), (d, nv, nr, nf, np)) R C) (hd : d < 100) (hnp : np < 39800)
    (hF : FR b0 n0 (g, f, ppushN M k n e s z np d, t, (sg, el, rg, ci, mz, fiP fi d np), (d + 1, nv, nr, nf, np + 1)) np x) :
    CO b0 n0 (g, f, ppushN M k n e s z np d, t, (sg, el, rg, ci, mz, fiP fi d np), (d + 1, nv, nr, nf, np + 1)) (zup R 20 d (some x)) (bpushC C) := by
  have hI := h.IN
  have hp221 : ppushN M k n e s z np d 2 21 = nI (np + 1) := ppushN_221
  have hp1 : ppushN M k n e s z np d 1 = M 1 := ppushN_1 (by decide) (by decide)
  have hE : EXT (g, f, M, t, (sg, el, rg, ci, mz, fi), (d, nv, nr, nf, np)) (g, f, ppushN M k n e s z np d, t, (sg, el, rg, ci, mz, fiP fi d np), (d + 1, nv, nr, nf, np + 1)) :=
    ⟨⟨zXt.rf, fun _ _ => rfl⟩, fun j hj => ppushN_4 hj, ⟨hp1, rfl⟩, ⟨Nat.le_refl _, Nat.le_refl _, Nat.le_refl _, Nat.le_succ _⟩, fun _ _ => ⟨rfl, rfl⟩, fun _ _ => ⟨rfl, rfl, rfl⟩⟩
  have w : ∀ j, j ≠ 7 → j ≠ 8 → j ≠ 21 → ppushN M k n e s z np d 2 j = M 2 j := fun j a b c => ppushN_2 a b c
  obtain ⟨k1, k2, k3, ⟨k4, k5, k6⟩, ⟨⟨c1, c2⟩, c3, ⟨c4, c5⟩, ⟨c6, c7⟩, c8, c9, c10, ⟨c11, c12, c13⟩, ⟨q, q1, q2, q3, q4⟩, c14, c15⟩, k7⟩ := h
  have hr : ∀ r, r ≠ 19 → bpushC C r = C r := fun r hr => by unfold bpushC; simp only [zup_r hr]
  have c1 : C 19 1 = nI d := c1
  have c2 : C 19 2 = M 2 8 := c2
  have e1 : C 19 1 + 1 = nI (d + 1) := ixA c1 (ixC 1)
  have hb1 : bpushC C 19 1 = nI (d + 1) := by rw [bpushC_d]; exact e1
  have hb2 : bpushC C 19 2 = (if M 2 8 < nI (d + 1) then nI (d + 1) else M 2 8) := by
    show zup (zup C 19 1 (C 19 1 + 1)) 19 2 (if zup C 19 1 (C 19 1 + 1) 19 2 < zup C 19 1 (C 19 1 + 1) 19 1 then zup C 19 1 (C 19 1 + 1) 19 1 else zup C 19 1 (C 19 1 + 1) 19 2) 19 2 = _
    rw [zup_at, zup_at, zup_ne _ _ _ _ (by omega), e1, c2]
  refine ⟨?_, fun e he => ?_, fun r hr => ?_, ⟨by show d + 1 ≤ 100; omega, ?_, fun p hp => ?_⟩, ⟨⟨hb1, ?_⟩, ?_, ⟨?_, by rw [hr 21 (by decide)]; exact c5⟩, ⟨?_, by rw [hr 21 (by decide)]; exact c7⟩, hp221, fun r hr2 => ?_, fun j hj => ?_, ⟨?_, ?_, ?_⟩, ⟨q, q1, by rw [hr 17 (by decide)]; exact q2, ?_, fun k0 hk => ?_⟩, ?_, fun a ha => ?_⟩, ⟨k7.1, k7.2.1, k7.2.2.1, by show np + 1 ≤ 39800; omega⟩⟩
  · show TR b0 n0 g f (ppushN M k n e s z np d 1) t
    rw [ppushN_1 (by decide) (by decide)]
    exact k1
  · exact (k2 e he).ext hE he (fun j hj => w _ (by omega) (by omega) (by omega))
  · exact (k3 r hr).ext hE hI hr (fun j hj => w _ (by omega) (by omega) (by omega))
  · show ppushN M k n e s z np d 2 7 = (if d + 1 = 0 then -9 else nI (fiP fi d np (d + 1 - 1)))
    rw [ppushN_27, if_neg (by omega), Nat.add_sub_cancel]
    unfold fiP
    rw [if_pos rfl]
  · have hp : p < d + 1 := hp
    by_cases hpd : p = d
    · subst hpd
      refine ⟨x, zup_at _ _ _ _, ?_, ?_, ?_⟩
      · show FR b0 n0 _ (fiP fi p np p) x
        rw [show fiP fi p np p = np from if_pos rfl]
        exact hF
      · show ppushN M k n e s z np p 4 (7 * fiP fi p np p + 6) = _
        rw [show fiP fi p np p = np from if_pos rfl]
        exact ppushN_n.2.2.2.2.2.2
      · show ppushN M k n e s z np p 4 (7 * fiP fi p np p + 5) = (if p = 0 then -9 else nI (fiP fi p np (p - 1)))
        rw [show fiP fi p np p = np from if_pos rfl, ppushN_n.2.2.2.2.2.1]
        have k5 : M 2 7 = (if p = 0 then -9 else nI (fi (p - 1))) := k5
        rw [k5]
        by_cases h0 : p = 0
        · rw [if_pos h0, if_pos h0]
        · rw [if_neg h0, if_neg h0, show fiP fi p np (p - 1) = fi (p - 1) from if_neg (by omega)]
    · exact (k6 p (by show p < d; omega)).ext hE hI (zup_ne _ _ _ _ (Or.inr hpd)) (if_neg hpd) (fun _ => if_neg (by omega))
  · show bpushC C 19 2 = ppushN M k n e s z np d 2 8
    rw [hb2, ppushN_28]
  · show ppushN M k n e s z np d 2 22 = _; rw [w _ (by omega) (by omega) (by omega)]; exact c3
  · show ppushN M k n e s z np d 2 11 = _; rw [w _ (by omega) (by omega) (by omega)]; exact c4
  · show ppushN M k n e s z np d 2 23 = _; rw [w _ (by omega) (by omega) (by omega)]; exact c6
  · show bpushC C 22 r = ppushN M k n e s z np d 2 _; rw [hr 22 (by decide), w _ (by omega) (by omega) (by omega)]; exact c9 r hr2
  · show bpushC C 23 j = ppushN M k n e s z np d 2 _; rw [hr 23 (by decide), w _ (by omega) (by omega) (by omega)]; exact c10 j hj
  · show bpushC C 21 2 = ppushN M k n e s z np d 2 12; rw [hr 21 (by decide), w _ (by omega) (by omega) (by omega)]; exact c11
  · show bpushC C 21 3 = ppushN M k n e s z np d 2 13; rw [hr 21 (by decide), w _ (by omega) (by omega) (by omega)]; exact c12
  · show bpushC C 21 6 = ppushN M k n e s z np d 2 14; rw [hr 21 (by decide), w _ (by omega) (by omega) (by omega)]; exact c13
  · show ppushN M k n e s z np d 2 9 = _; rw [w _ (by omega) (by omega) (by omega)]; exact q3
  · show bpushC C 24 k0 = ppushN M k n e s z np d 2 _; rw [hr 24 (by decide), w _ (by omega) (by omega) (by omega)]; exact q4 k0 hk
  · show ppushN M k n e s z np d 2 10 = bcntP (bpushC C); unfold bcntP; rw [hr 25 (by decide), w _ (by omega) (by omega) (by omega)]; exact c14
  · show bpushC C 25 a = ppushN M k n e s z np d 2 _; rw [hr 25 (by decide), w _ (by omega) (by omega) (by omega)]; exact c15 a ha
