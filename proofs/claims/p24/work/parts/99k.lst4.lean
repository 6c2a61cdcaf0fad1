/-! The listing, in both: the run. -/
section LST4
variable {b0 n0 fs e : Nat} {g : zG} {f : zI} {t : zTs} {T : Nat → Int32}
theorem LPl.em {a : Nat → Nat} {S : zRf × zI} {M M' C' : zI} {p U : Nat} (h : LPl T a fs e S M p U) (hE : EF S.2 C') (hM : M' 12 = M 12) : LPl T a fs e (S.1, C') M' p U := by
  refine ⟨hE.2.trans h.1, ?_, h.2.2⟩
  show LSk T a fs e (S.1 11) (C' 12) (M' 12) p U
  rw [hE.1 12 (by decide) (by decide), hM]
  exact h.2.1
theorem plpV_of {M : zI} {x : Nat} (hT : M 1 = T) (he : e ≤ 65000) (hx : x < e) (hN : HN b0 n0 g f T (e, t.2) x (t.2.1 x)) : plpV M (nI x) := by
  subst hT
  refine ⟨iv_nI (by omega) (by decide), (hN.clause (M := M) (t := (e, t.2)) (w := 0) he hx (by decide)).1, fun w hw => ?_⟩
  obtain ⟨-, qs, c1, c2, c3, -⟩ := hN
  rcases (ch_look (w := w) qs _ 8 c1 (by omega) (fun q hq' => by have : q < e := (c3 q hq').2.1; omega)).2 with ⟨q', y1, y2, y3⟩ | ⟨-, y2⟩
  · have e1 : pclause M (nI x) w = nI q' := by
      show pclA M w 8 (M 1 (5 * tn (nI x) + 3)) = _
      rw [tn_nI (by omega)]; exact y3
    have : q' < e := (c3 q' y1).2.1
    rw [e1]; exact iv_nI (by omega) (by decide)
  · exact absurd (by
      show pclA M w 8 (M 1 (5 * tn (nI x) + 3)) = _
      rw [tn_nI (by omega)]; exact y2) hw
def FRl (S S' : zRf × zI) : Prop := (∀ r, r ≠ 11 → S'.1 r = S.1 r) ∧ ∀ r, r ≠ 9 → r ≠ 10 → r ≠ 12 → S'.2 r = S.2 r
theorem FRl.tr {S S' S2 : zRf × zI} (h : FRl S S') (k : FRl S' S2) : FRl S S2 := ⟨fun r a => (k.1 r a).trans (h.1 r a), fun r a b c => (k.2 r a b c).trans (h.2 r a b c)⟩
/-- both lay the same bytes -/
theorem LRUN (he : e ≤ 65000) (hLN : ∀ n, fs ≤ n → n < e → T (5 * n) = nI 16 ∨ ∃ k, k ≤ 15 ∧ T (5 * n) = nI k ∧ EN b0 n0 g f T (e, t.2) k n) : ∀ (j : Nat) (S : zRf × zI) (M : zI) (n p U : Nat), M 1 = T → LPl T t.2.1 fs e S M p U → LB0 S.2 M n → (S.2 9 2 = 0 ∨ S.2 9 2 = 1 ∧ 1 ≤ n) → n + 2 * U ≤ 240 → (1 ≤ n → n + 2 * U ≤ 239) → U < j → U ≤ 120 →
    pllV j n p (S.2 9 2) M ∧ ∃ N, N < 240 ∧ (pll j n p (S.2 9 2) M).1 = N ∧ (lrun g f j S).2 9 5 = 0 ∧ LB0 (lrun g f j S).2 (pll j n p (S.2 9 2) M).2 N ∧ FRl S (lrun g f j S) := by
  intro j
  induction j with
  | zero => intro S M n p U _ _ _ _ _ _ h _; exact absurd h (Nat.not_lt_zero U)
  | succ j ih =>
    intro S M n p U hT hP hB hb h240 h239 hUj hU
    cases p with
    | zero =>
      have e95 : S.2 9 5 = 0 := hP.1
      have el : lrun g f (j + 1) S = S := by
        show (if 0 < S.2 9 5 then _ else S) = S
        rw [if_neg (by rw [e95]; decide)]
      rw [el]
      exact ⟨trivial, n, by omega, rfl, e95, hB, fun _ _ => rfl, fun _ _ _ _ => rfl⟩
    | succ p =>
      obtain ⟨h95, ⟨s, U', hs, ⟨hs1, hent⟩, hLS⟩, -⟩ := hP
      have hpU := hLS.le
      have et : tn (S.2 9 5) - 1 = p := by rw [h95, tn_nI (by omega)]; omega
      have em1 : S.2 9 5 - 1 = nI p := by rw [h95]; exact ixS (a := p + 1) (b := 1) rfl (ixC 1) (by omega)
      have el : lrun g f (j + 1) S = lrun g f j (lstep g f S) := by
        show (if 0 < S.2 9 5 then _ else S) = _
        rw [if_pos (by rw [h95]; exact nI_lt (a := 0) (by omega) (by omega))]
      obtain ⟨C0, eC0⟩ : ∃ C0, C0 = zup S.2 9 5 (nI p) := ⟨_, rfl⟩
      have c0r : ∀ r, r ≠ 9 → C0 r = S.2 r := fun r hr => by rw [eC0, zup_r hr]
      have c01 : ∀ k, k ≠ 5 → C0 9 k = S.2 9 k := fun k hk => by rw [eC0, zup_ne _ _ _ _ (Or.inr hk)]
      have hB0 : LB0 C0 M n := ⟨(c01 1 (by decide)).trans hB.1, fun i hi => by rw [c0r 10 (by decide)]; exact hB.2 i hi⟩
      have hP0 : LPl T t.2.1 fs e (S.1, C0) M p U' := by
        refine ⟨by show C0 9 5 = nI p; rw [eC0, zup_at], ?_, by omega⟩
        show LSk T t.2.1 fs e (S.1 11) (C0 12) (M 12) p U'
        rw [c0r 12 (by decide)]; exact hLS
      have hF0 : FRl S (S.1, C0) := ⟨fun _ _ => rfl, fun r a _ _ => c0r r a⟩
      rw [el]
      rcases hent with ⟨x, x1, x2, x3, x4⟩ | ⟨y, y1, y2, y3, y4, y5⟩
      · -- a node
        obtain ⟨k, k1, k2, k3, σ, qs, τ, w1, w2, w3, w4, w5⟩ := x4.un
        have hxe : x < e := k3
        have hE : EN b0 n0 g f T (e, t.2) k x := by
          rcases hLN x x1 hxe with z | ⟨k', z1, z2, z3⟩
          · exact absurd ((nI_eq (by omega) (by decide)).mp (k2.symm.trans z)) (by omega)
          · obtain rfl : k = k' := (nI_eq (by omega) (by omega)).mp (k2.symm.trans z2)
            exact z3
        have hx0 : ¬ nI x < 0 := nI_pos (by omega)
        have hkp : pkind M (nI x) = nI k := by rw [pkind_n (by omega), hT]; exact k2
        have els : lstep g f S = lparts g f (S.1, lhead f C0 (t.2.1 x)) (t.2.1 x) := by
          rw [lstep_s (by rw [et]; exact x2), em1, eC0]
        have hV0 : n < 390 ∧ p ≤ 370 ∧ (¬ M 12 p < 0 → iv 65000 (M 12 p) ∧ (pkind M (M 12 p) = 15 → plpV M (M 12 p))) := ⟨by omega, by omega, fun _ => ⟨by rw [x3]; exact iv_nI (by omega) (by decide), fun z => by
          rw [x3]
          rw [x3, hkp] at z
          have q : k = 15 := (nI_eq (b := 15) (by omega) (by decide)).mp z
          exact plpV_of hT he hxe (hE.2.2.2.2.2 q)⟩⟩
        rw [els]
        by_cases k0 : k = 0
        · subst k0
          have hqs : qs = [] := w3 (by decide)
          have e48 : f (t.2.1 x) 0 = 48 := hE.1.2.2.1
          have ef1 : f (t.2.1 x) 1 = T (5 * x + 1) := hE.1.2.2.2 (Or.inl rfl)
          have epa : parg M (nI x) = T (5 * x + 1) := by rw [parg_n (by omega), hT]
          have how : own 0 (T (5 * x + 1)) ≤ s := by omega
          have hop := own_pos 0 (T (5 * x + 1))
          have c92 : C0 9 2 = S.2 9 2 := c01 2 (by decide)
          have hbn : (if C0 9 2 = 0 then 0 else 1) ≤ 1 ∧ (1 ≤ (if C0 9 2 = 0 then 0 else 1) → 1 ≤ n) := by
            by_cases z : C0 9 2 = 0
            · rw [if_pos z]; exact ⟨by omega, by omega⟩
            · rw [if_neg z]
              refine ⟨Nat.le_refl _, fun _ => ?_⟩
              rcases hb with hb | hb
              · exact absurd (c92.trans hb) z
              · exact hb.2
          obtain ⟨M1, a1, a2, a3, a4, a5⟩ := hB0.num (T (5 * x + 1)) (by omega)
          have elh : lhead f C0 (t.2.1 x) = lnum C0 (T (5 * x + 1)) := by rw [lhead_48 e48, ef1]
          rw [elh, lparts_0 hE (by decide)]
          have hP1 := LPl.em (S := (S.1, C0)) hP0 a3 (a5 12 (by decide))
          rw [c92] at a1 a2
          obtain ⟨r1, N, r2, r3, r4, r5, r6⟩ := ih (S.1, lnum C0 (T (5 * x + 1))) M1 _ p U' ((a5 1 (by decide)).trans hT) hP1 a2 (Or.inr ⟨a4, by omega⟩) (by rw [c92] at hbn; omega) (fun _ => by rw [c92] at hbn; omega) (by omega) (by omega)
          have hcond : ¬ M 12 p < 0 ∧ pkind M (M 12 p) = 0 := by rw [x3]; exact ⟨hx0, hkp⟩
          have epl : pll (j + 1) n (p + 1) (S.2 9 2) M = pll j (n + (if S.2 9 2 = 0 then 0 else 1) + own 0 (T (5 * x + 1))) p 1 M1 := by
            show (if ¬ M 12 p < 0 ∧ pkind M (M 12 p) = 0 then pll j (playNum M n (parg M (M 12 p)) (S.2 9 2)).1 p 1 (playNum M n (parg M (M 12 p)) (S.2 9 2)).2 else _) = _
            rw [if_pos hcond, x3, epa, a1]
          have r1' : pllV j (n + (if S.2 9 2 = 0 then 0 else 1) + own 0 (T (5 * x + 1))) p 1 M1 := by
            have : (S.1, lnum C0 (T (5 * x + 1))).2 9 2 = 1 := a4
            rw [this] at r1; exact r1
          have e1 : (S.1, lnum C0 (T (5 * x + 1))).2 9 2 = 1 := a4
          rw [e1] at r3 r5
          refine ⟨⟨hV0.1, hV0.2.1, hV0.2.2, fun _ => by rw [x3, epa, a1]; exact r1', fun z => absurd hcond z⟩, N, r2, by rw [epl]; exact r3, r4, by rw [epl]; exact r5, hF0.tr (FRl.tr (S' := (S.1, lnum C0 (T (5 * x + 1)))) ⟨fun _ _ => rfl, fun r a b _ => a3.1 r a b⟩ r6)⟩
        · have hk1 : 1 ≤ k := by omega
          have hko := em_own k hk1 (T (5 * x + 1))
          have hem : 1 ≤ em k ∧ em k ≤ 2 := by unfold em; split <;> omega
          obtain ⟨M1, a1, a2, a3, a4, a5⟩ := hB0.sign hT (by omega) ⟨hk1, k1⟩ k2 hE (by omega)
          have hP1 := LPl.em (S := (S.1, C0)) hP0 a3 (a5 12 (by decide))
          have hM1 : M1 1 = T := (a5 1 (by decide)).trans hT
          have hcond : ¬ (¬ M 12 p < 0 ∧ pkind M (M 12 p) = 0) := by
            rw [x3, hkp]
            exact fun z => k0 ((nI_eq (b := 0) (by omega) (by decide)).mp z.2)
          have hk1n : pkind M1 (nI x) = nI k := by rw [pkind_n (by omega), hM1]; exact k2
          obtain ⟨p', M2, d1, d2, d3, d4⟩ : ∃ p' M2, pllB M1 p (nI x) = (p', M2) ∧ LPl T t.2.1 fs e (lparts g f (S.1, lhead f C0 (t.2.1 x)) (t.2.1 x)) M2 p' (U' + (if k = 15 then 1 else 0) + sm σ (ari k) + csm τ qs) ∧ PF (S.1, lhead f C0 (t.2.1 x)) (lparts g f (S.1, lhead f C0 (t.2.1 x)) (t.2.1 x)) ∧ ∀ r, r ≠ 12 → M2 r = M1 r := by
            by_cases q1 : k = 1
            · subst q1
              have hqs : qs = [] := w3 (by decide)
              subst hqs
              have a0 : ari 1 = 0 := rfl
              rw [a0, if_neg (by decide), lparts_0 hE (by decide)]
              refine ⟨p, M1, ?_, hP1.mono ⟨by omega, by show U' + 0 + 0 + 0 ≤ 130; omega⟩, PF.rf _, fun _ _ => rfl⟩
              unfold pllB
              rw [if_neg (fun z => z.2 (by rw [hk1n]; rfl))]
            · obtain ⟨p', M2, d1, d2, d3, d4⟩ := LPl.parts hM1 he ⟨x1, hxe⟩ ⟨by omega, k1⟩ k2 hE w1 w2 w4 hP1 (by omega)
              refine ⟨p', M2, ?_, d2, d3, d4⟩
              unfold pllB
              rw [if_pos ⟨hx0, fun z => q1 ((nI_eq (b := 1) (by omega) (by decide)).mp (hk1n.symm.trans z))⟩, d1]
          have hB2 : LB0 (lparts g f (S.1, lhead f C0 (t.2.1 x)) (t.2.1 x)).2 M2 (n + em k) := ⟨d3.2.2.1.trans a2.1, fun i hi => by
            rw [d3.2.1 10 (by decide) (by decide), d4 13 (by decide)]; exact a2.2 i hi⟩
          have e92 : (lparts g f (S.1, lhead f C0 (t.2.1 x)) (t.2.1 x)).2 9 2 = 0 := d3.2.2.2.trans a4
          obtain ⟨r1, N, r2, r3, r4, r5, r6⟩ := ih _ M2 (n + em k) p' _ ((d4 1 (by decide)).trans hM1) d2 hB2 (Or.inl e92) (by omega) (fun _ => by omega) (by omega) (by omega)
          rw [e92] at r1 r3 r5
          have epl : pll (j + 1) n (p + 1) (S.2 9 2) M = pll j (n + em k) p' 0 M2 := by
            show (if ¬ M 12 p < 0 ∧ pkind M (M 12 p) = 0 then _ else pll j (pllA M n (M 12 p)).1 (pllB (pllA M n (M 12 p)).2 p (M 12 p)).1 0 (pllB (pllA M n (M 12 p)).2 p (M 12 p)).2) = _
            rw [if_neg hcond, x3, a1, d1]
          refine ⟨⟨hV0.1, hV0.2.1, hV0.2.2, fun z => absurd z hcond, fun _ => by rw [x3, a1, d1]; exact r1⟩, N, r2, by rw [epl]; exact r3, r4, by rw [epl]; exact r5, hF0.tr (FRl.tr (S' := (S.1, lhead f C0 (t.2.1 x))) ⟨fun _ _ => rfl, fun r a b _ => a3.1 r a b⟩ (FRl.tr (S' := lparts g f (S.1, lhead f C0 (t.2.1 x)) (t.2.1 x)) ⟨d3.1, fun r a _ c => d3.2.1 r a c⟩ r6))⟩
      · -- a byte
        have hneg : M 12 p < 0 := by
          rw [y5, Int32.lt_iff_toInt_lt, Int32.toInt_neg]
          have e1 : (nI y).toInt = (y : Int) := Int32.toInt_ofNat_of_lt (show y < 2 ^ 31 by omega)
          have e0 : (0 : Int32).toInt = 0 := by decide
          rw [e1, e0]
          have : ((-(y : Int)).bmod (2 ^ 32)) = -(y : Int) := Int.bmod_eq_of_le (by omega) (by omega)
          rw [this]; omega
        have els : lstep g f S = (S.1, lput C0 (nI y)) := by
          rw [lstep_n (by rw [et]; exact y3), em1, et, y4, eC0]
        rw [els]
        obtain ⟨a1, a2, a3⟩ := hB0.put (by omega) (nI y)
        have hP1 := LPl.em (S := (S.1, C0)) (M' := zup M 13 n (nI y)) hP0 a2 (zup_r (by decide))
        have hA : pllA M n (M 12 p) = (n + 1, zup M 13 n (nI y)) := by
          have e1 : pllS M (M 12 p) = nI y := by
            unfold pllS
            rw [if_pos hneg, y5, Int32.neg_neg]
          unfold pllA pllN
          rw [e1, if_neg (fun z => z.1 hneg)]
        have hBb : pllB (zup M 13 n (nI y)) p (M 12 p) = (p, zup M 13 n (nI y)) := by
          unfold pllB
          rw [if_neg (fun z => z.1 hneg)]
        obtain ⟨r1, N, r2, r3, r4, r5, r6⟩ := ih (S.1, lput C0 (nI y)) (zup M 13 n (nI y)) (n + 1) p U' ((zup_r (by decide)).trans hT) hP1 a1 (Or.inl a3) (by omega) (fun _ => by omega) (by omega) (by omega)
        have e92 : (S.1, lput C0 (nI y)).2 9 2 = 0 := a3
        rw [e92] at r1 r3 r5
        have hcond : ¬ (¬ M 12 p < 0 ∧ pkind M (M 12 p) = 0) := fun z => z.1 hneg
        have epl : pll (j + 1) n (p + 1) (S.2 9 2) M = pll j (n + 1) p 0 (zup M 13 n (nI y)) := by
          show (if ¬ M 12 p < 0 ∧ pkind M (M 12 p) = 0 then _ else pll j (pllA M n (M 12 p)).1 (pllB (pllA M n (M 12 p)).2 p (M 12 p)).1 0 (pllB (pllA M n (M 12 p)).2 p (M 12 p)).2) = _
          rw [if_neg hcond, hA, hBb]
        refine ⟨⟨by omega, by omega, fun z => absurd hneg z, fun z => absurd z hcond, fun _ => by rw [hA, hBb]; exact r1⟩, N, r2, by rw [epl]; exact r3, r4, by rw [epl]; exact r5, hF0.tr (FRl.tr (S' := (S.1, lput C0 (nI y))) ⟨fun _ _ => rfl, fun r a b _ => a2.1 r a b⟩ r6)⟩
end LST4
