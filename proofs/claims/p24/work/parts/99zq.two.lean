/-! Two objects, and the law's own array. -/
theorem OB0 {b0 n0 a : Nat} {g : zG} {f : zI} (hCW : CW b0 g a) (hF : CF a (fun j => g.2.2.2 (a + bP j))) (hok : zOK b0 zNo g) (hn : n0 = g.1) (hc : a + 27 ≤ n0) (ht : ∀ x, b0 ≤ x → x < g.1 → g.2.1 x ≠ 1) (h8 : g.2.2.2 (a + 8) 0 = none) (h17 : g.2.2.2 (a + 13) 0 = none) (h18 : ∀ p, p < 4 → g.2.2.2 (a + 14) p = none) (h26 : ∀ i, i < 2 → g.2.2.2 (a + 26) i = none) (hC : ∀ i k, i < 27 → f (a + i) k = 0) : OB b0 n0 a 0 pinit g f := by
  have hgv : gv a g (fun j => g.2.2.2 (a + bP j)) = g := gv_self (fun j hj => rfl)
  exact ⟨g, fun j => g.2.2.2 (a + bP j), f, fun j => f (a + bP j), t00, y00, n00, ⟨hgv.symm, (cv_self (fun j hj => rfl)).symm⟩, ⟨hCW, hF, by rw [hgv]; exact hok⟩, (WR0 hn hok.1 hc ht h8 h17 h18 h26 (fun j k hj => hC (bP j) k (bP_lt hj))).toQ, h26 1 (by decide)⟩
theorem H_X11g {l : Launch} {d : Nat} {D : zD} {b0 : Nat} {S : zSt} (hS : zOK b0 zNo S.1) (hd : 3 ≤ d) : zM l d D b0 mX11_init [.ref S.1.1] (uN S 11 0).1 (uN S 11 0).2 (fun r g f mc ms => r = none ∧ mc ≤ 26 ∧ ms ≤ 6782 ∧ g = (kobj (uN S 11 0) S.1.1).1 ∧ f = (kobj (uN S 11 0) S.1.1).2 ∧ zOK b0 zNo (kobj (uN S 11 0) S.1.1).1) := by
  have hw : zOK b0 (fun y => y = S.1.1) (uN S 11 0).1 := (hS.newX (t := 11) (n := 0)).mono (fun a h => h.elim (fun q => q.elim) (fun q => q))
  have ha : zIn b0 (uN S 11 0).1 S.1.1 11 := zIn.self (g := S.1) hS.1
  have ht : (uN S 11 0).1.2.1 S.1.1 = 11 := zu1_at _ _ _
  refine (K_X11_init hw S.1.1 ha rfl hd).mono (fun r g f mc ms h => ?_)
  obtain ⟨hr, hc, hs, -, hok, S1, S2, S4, e1, e2, e4, e5⟩ := h
  have e : (g, f) = kobj (uN S 11 0) S.1.1 := by
    rw [e5, e4, e2, e1]
    rfl
  have eg : g = (kobj (uN S 11 0) S.1.1).1 := congrArg Prod.fst e
  have ef : f = (kobj (uN S 11 0) S.1.1).2 := congrArg Prod.snd e
  subst eg
  exact ⟨hr, hc, hs, rfl, ef, ob_OK rfl hS.1 ht hok⟩
def g00 (b0 : Nat) : zG := (b0, fun _ => 99, fun _ => 0, fun _ _ => none)
def f00 : zI := fun _ _ => 0
theorem zOK.g00 (b0 : Nat) : zOK b0 zNo (g00 b0) := by
  refine ⟨Nat.le_refl _, fun a k b h1 h2 => ?_, fun a h1 h2 => ?_⟩
  · have h2 : a < b0 := h2
    omega
  · have h2 : a < b0 := h2
    omega
def PA1 (b0 : Nat) : zSt := kobj (uN (g00 b0, f00) 11 0) b0
def PA2 (b0 : Nat) : zSt := kobj (uN (PA1 b0) 11 0) (b0 + 27)
def PA3 (b0 : Nat) : zSt := uN (PA2 b0) 13 64
theorem PA1_z (b0 : Nat) : (PA1 b0).1.1 = b0 + 27 := ob_z5 (S := uN (g00 b0, f00) 11 0) rfl
theorem PA2_z (b0 : Nat) : (PA2 b0).1.1 = b0 + 54 := ob_z5 (S := uN (PA1 b0) 11 0) (a := b0 + 27) (by show (PA1 b0).1.1 + 1 = _; rw [PA1_z])
theorem PA3_z (b0 : Nat) : (PA3 b0).1.1 = b0 + 55 := by show (PA2 b0).1.1 + 1 = _; rw [PA2_z]
theorem kobj_f {S : zSt} {a : Nat} (h : S.1.1 = a + 1) (h0 : ∀ k, S.2 a k = 0) (i k : Nat) (hi : i < 27) : (kobj S a).2 (a + i) k = 0 := by
  have hs : i = 0 ∨ i = 1 ∨ i = 2 ∨ i = 3 ∨ i = 4 ∨ i = 5 ∨ i = 6 ∨ i = 7 ∨ i = 8 ∨ i = 9 ∨ i = 10 ∨ i = 11 ∨ i = 12 ∨ i = 13 ∨ i = 14 ∨ i = 15 ∨ i = 16 ∨ i = 17 ∨ i = 18 ∨ i = 19 ∨ i = 20 ∨ i = 21 ∨ i = 22 ∨ i = 23 ∨ i = 24 ∨ i = 25 ∨ i = 26 := by omega
  rcases hs with rfl | rfl | rfl | rfl | rfl | rfl | rfl | rfl | rfl | rfl | rfl | rfl | rfl | rfl | rfl | rfl | rfl | rfl | rfl | rfl | rfl | rfl | rfl | rfl | rfl | rfl | rfl
  · exact ob_f0 h h0
  · exact ob_f1 h
  · exact ob_f2 h
  · exact ob_f3 h
  · exact ob_f4 h
  · exact ob_f5 h
  · exact ob_f6 h
  · exact ob_f7 h
  · exact ob_f8 h
  · exact ob_f9 h
  · exact ob_f10 h
  · exact ob_f11 h
  · exact ob_f12 h
  · exact ob_f13 h
  · exact ob_f14 h
  · exact ob_f15 h
  · exact ob_f16 h
  · exact ob_f17 h
  · exact ob_f18 h
  · exact ob_f19 h
  · exact ob_f20 h
  · exact ob_f21 h
  · exact ob_f22 h
  · exact ob_f23 h
  · exact ob_f24 h
  · exact ob_f25 h
  · exact ob_f26 h
theorem P_ob {b0 : Nat} (hok : zOK b0 zNo (PA2 b0).1) : OB b0 (b0 + 55) b0 0 pinit (PA3 b0).1 (PA3 b0).2 ∧ OB b0 (b0 + 55) (b0 + 27) 0 pinit (PA3 b0).1 (PA3 b0).2 ∧ zIn b0 (PA3 b0).1 (b0 + 54) 13 ∧ (PA3 b0).1.2.2.1 (b0 + 54) = 64 := by
  have h1 : (uN (g00 b0, f00) 11 0).1.1 = b0 + 1 := rfl
  have t1 : (uN (g00 b0, f00) 11 0).1.2.1 b0 = 11 := zu1_at _ _ _
  have h2 : (uN (PA1 b0) 11 0).1.1 = b0 + 27 + 1 := by show (PA1 b0).1.1 + 1 = _; rw [PA1_z]
  have t2 : (uN (PA1 b0) 11 0).1.2.1 (b0 + 27) = 11 := by
    show zu1 (PA1 b0).1.2.1 (PA1 b0).1.1 11 (b0 + 27) = 11
    rw [PA1_z]; exact zu1_at _ _ _
  have z2 := PA2_z b0
  have z3 := PA3_z b0
  -- what is old
  have o3 : ∀ y, y < b0 + 54 → (PA3 b0).1.2.2.2 y = (PA2 b0).1.2.2.2 y ∧ (PA3 b0).2 y = (PA2 b0).2 y ∧ (PA3 b0).1.2.1 y = (PA2 b0).1.2.1 y ∧ (PA3 b0).1.2.2.1 y = (PA2 b0).1.2.2.1 y := fun y hy =>
    ⟨zu1_ne _ _ _ (by omega), zu1_ne _ _ _ (by omega), zu1_ne _ _ _ (by omega), zu1_ne _ _ _ (by omega)⟩
  have o2 : ∀ y, y < b0 + 27 → (PA2 b0).1.2.2.2 y = (PA1 b0).1.2.2.2 y ∧ (PA2 b0).2 y = (PA1 b0).2 y ∧ (PA2 b0).1.2.1 y = (PA1 b0).1.2.1 y ∧ (PA2 b0).1.2.2.1 y = (PA1 b0).1.2.2.1 y := fun y hy => by
    obtain ⟨a1, a2, a3, a4⟩ := ob_old (S := uN (PA1 b0) 11 0) (a := b0 + 27) (y := y) h2 hy
    have hne : y ≠ (PA1 b0).1.1 := by rw [PA1_z]; omega
    exact ⟨a1.trans (zu1_ne _ _ _ hne), a2.trans (zu1_ne _ _ _ hne), a3.trans (zu1_ne _ _ _ hne), a4.trans (zu1_ne _ _ _ hne)⟩
  have oo : ∀ y, y < b0 + 27 → (PA3 b0).1.2.2.2 y = (PA1 b0).1.2.2.2 y ∧ (PA3 b0).2 y = (PA1 b0).2 y ∧ (PA3 b0).1.2.1 y = (PA1 b0).1.2.1 y ∧ (PA3 b0).1.2.2.1 y = (PA1 b0).1.2.2.1 y := fun y hy => by
    obtain ⟨a1, a2, a3, a4⟩ := o3 y (by omega)
    obtain ⟨b1, b2, b3, b4⟩ := o2 y hy
    exact ⟨a1.trans b1, a2.trans b2, a3.trans b3, a4.trans b4⟩
  have w1 : CW b0 (PA1 b0).1 b0 := ob_CW h1 (Nat.le_refl _) t1
  have w2 : CW b0 (PA2 b0).1 (b0 + 27) := ob_CW h2 (by omega) t2
  have c1 : CW b0 (PA3 b0).1 b0 := ⟨Nat.le_refl _, by omega, fun j q hj => by
    have hb := bP_lt (List.getElem?_eq_some_iff.mp hj).1
    obtain ⟨-, -, a3, a4⟩ := oo (b0 + bP j) (by omega)
    rw [a3, a4]
    exact w1.2.2 j q hj⟩
  have c2 : CW b0 (PA3 b0).1 (b0 + 27) := w2.le (zLe.new _ _ _)
  have hok3 : zOK b0 zNo (PA3 b0).1 := hok.new (by decide)
  have ha13 : (PA3 b0).1.2.1 (b0 + 54) = 13 := by
    show zu1 (PA2 b0).1.2.1 (PA2 b0).1.1 13 (b0 + 54) = 13
    rw [z2]; exact zu1_at _ _ _
  have ht : ∀ x, b0 ≤ x → x < (PA3 b0).1.1 → (PA3 b0).1.2.1 x ≠ 1 := fun x x0 x1 => by
    rw [z3] at x1
    by_cases q : x < b0 + 27
    · obtain ⟨j, rfl, hj⟩ : ∃ j, x = b0 + bP j ∧ j < 27 := ⟨bQ (x - b0), by rw [bPQ (by omega)]; omega, bQ_lt (by omega)⟩
      cases hb : bT[j]? with
      | none => exact absurd (List.getElem?_eq_none_iff.mp hb) (by show ¬ 27 ≤ j; omega)
      | some q =>
        rw [(c1.2.2 j q hb).1]
        exact (show ∀ q ∈ bT, q.1 ≠ 1 by decide) q (List.mem_of_getElem? hb)
    · by_cases q2 : x < b0 + 54
      · obtain ⟨j, rfl, hj⟩ : ∃ j, x = b0 + 27 + bP j ∧ j < 27 := ⟨bQ (x - (b0 + 27)), by rw [bPQ (by omega)]; omega, bQ_lt (by omega)⟩
        cases hb : bT[j]? with
        | none => exact absurd (List.getElem?_eq_none_iff.mp hb) (by show ¬ 27 ≤ j; omega)
        | some q =>
          rw [(c2.2.2 j q hb).1]
          exact (show ∀ q ∈ bT, q.1 ≠ 1 by decide) q (List.mem_of_getElem? hb)
      · have e : x = b0 + 54 := by omega
        rw [e, ha13]; decide
  have e1 : ∀ i, i < 27 → (PA3 b0).1.2.2.2 (b0 + i) = (PA1 b0).1.2.2.2 (b0 + i) := fun i hi => (oo _ (by omega)).1
  have e2 : ∀ i, i < 27 → (PA3 b0).1.2.2.2 (b0 + 27 + i) = (PA2 b0).1.2.2.2 (b0 + 27 + i) := fun i hi => (o3 _ (by omega)).1
  refine ⟨OB0 c1 ?_ hok3 z3.symm (by omega) ht ?_ ?_ (fun p hp => ?_) (fun i hi => ?_) (fun i k hi => ?_), OB0 c2 ?_ hok3 z3.symm (by omega) ht ?_ ?_ (fun p hp => ?_) (fun i hi => ?_) (fun i k hi => ?_), ⟨by omega, by rw [z3]; omega, ha13⟩, ?_⟩
  · refine (ob_CF (S := uN (g00 b0, f00) 11 0) h1).of (fun q hq => ?_)
    exact congrFun (e1 (bP q.1) (bP_lt ((show ∀ q ∈ bF, q.1 < 27 by decide) q hq))) q.2.1
  · rw [e1 8 (by decide)]; exact ob_n8 h1
  · rw [e1 13 (by decide)]; exact ob_n13 h1 (by decide) (by decide) (by decide) (by decide) (by decide) (by decide)
  · rw [e1 14 (by decide)]; exact ob_n14 h1
  · rw [e1 26 (by decide)]; exact ob_n26 h1
  · rw [(oo (b0 + i) (by omega)).2.1]; exact kobj_f h1 (fun k => congrFun (zu1_at _ _ _) k) i k hi
  · refine (ob_CF (S := uN (PA1 b0) 11 0) h2).of (fun q hq => ?_)
    exact congrFun (e2 (bP q.1) (bP_lt ((show ∀ q ∈ bF, q.1 < 27 by decide) q hq))) q.2.1
  · rw [e2 8 (by decide)]; exact ob_n8 h2
  · rw [e2 13 (by decide)]; exact ob_n13 h2 (by decide) (by decide) (by decide) (by decide) (by decide) (by decide)
  · rw [e2 14 (by decide)]; exact ob_n14 h2
  · rw [e2 26 (by decide)]; exact ob_n26 h2
  · rw [(o3 (b0 + 27 + i) (by omega)).2.1]
    refine kobj_f h2 (fun k => ?_) i k hi
    show zu1 (PA1 b0).2 (PA1 b0).1.1 (fun _ => 0) (b0 + 27) k = 0
    rw [PA1_z, zu1_at]
  · show zu1 (PA2 b0).1.2.2.1 (PA2 b0).1.1 64 (b0 + 54) = 64
    rw [z2]; exact zu1_at _ _ _
