/-! What a run leaves open was foretold: performing, resuming, leaving a clause; a step as a whole. -/
section STP
variable {X M N : zI} {L : List Nat} {lab hN : Nat → Nat} {cA cB : Nat → Int32} {np nr κ i : Nat} {v : Int32}
/-- a frame of a handler has a handler's node -/
theorem FI.hand (hS : SCX X L lab) {T : Nat → Int32} (h : FI X L lab hN cA cB nr T i) (hk : T (7 * i) = nI 12) : ∃ n, n ∈ L ∧ n < 65000 ∧ T (7 * i + 1) = nI n ∧ X 1 (5 * n) = nI 15 ∧ sle (X 14 n) (inS X 14 cA (T (7 * i + 5))) ∧ sle (X 15 n) (inS X 15 cB (T (7 * i + 5))) ∧ (¬ lab n = 0 → HR hN nr (T (7 * i + 3)) (lab n)) ∧ cA i = X 14 (tn (X 1 (5 * n + 2))) ∧ cB i = X 15 (tn (X 1 (5 * n + 2))) := by
  obtain ⟨n, h', p, a1, a2, a3, a4, a5, a6, a7, a8, a9, a10, a11, a12, -⟩ := h.node hS hk (by decide)
  obtain ⟨-, f12, -⟩ := frk_h h' (by omega)
  rcases a7 with ⟨z, -⟩ | ⟨z, rfl⟩
  · exact absurd z (by decide)
  obtain rfl := f12 z.symm
  exact ⟨n, a1, a2, a3, a6, a11, a12, a8 (by decide), a9, a10⟩
theorem CHN.hand (hS : SCX X L lab) {T : Nat → Int32} (hF : ∀ i, i < np → FI X L lab hN cA cB nr T i) {h : Nat} (hL : h ∈ L) : ∀ (m : Nat) (x : Int32), CHN np T h m x → X 1 (5 * h) = nI 15 := by
  intro m
  induction m with
  | zero => intro x z; exact z.elim
  | succ m ihm =>
    rintro x ⟨j, j1, j2, c⟩
    rcases c with ⟨-, c2, c3⟩ | c
    · obtain ⟨n, a1, a2, a3, a4, -⟩ := (hF j j1).hand hS c2
      obtain rfl : n = h := (nI_eq (by omega) (by have := hS.lt hL; omega)).mp (a3.symm.trans c3)
      exact a4
    · exact ihm _ c
theorem IV.perf (hS : SCX X L lab) (h : IV X L lab M hN cA cB np nr) (h5 : M 2 5 = 1) {a : Nat} (hv : pperfV M (nI a)) (hb : bt (inS X 14 cA (M 2 7)) (4 * a) = true) : IVS X L lab (pperf M (nI a) v) := by
  obtain ⟨v1, v2, v3⟩ := hv
  have hnp := h.2.1.2.1
  have hnr := h.2.1.2.2.2
  have ha31 : a % 4294967296 < 6 ∨ True := Or.inr trivial
  have ha : a < 6 ∨ ¬ a < 6 := Nat.lt_or_ge a 6 |>.imp id (fun z => Nat.not_lt.mpr z)
  have ta : tn (nI a) < 6 := v1.1
  obtain ⟨a', ea⟩ : ∃ a', a' = tn (nI a) := ⟨_, rfl⟩
  have f2 : ∀ k, k < 24 ∨ 30 ≤ k → k ≠ 10 → pf1 M (nI a) 2 k = M 2 k := fun k k1 k2 => by
    unfold pf1
    try dsimp only
    rw [zup_ne _ _ _ _ (by omega), zup_ne _ _ _ _ (by omega)]
  have fr : ∀ r, r ≠ 2 → pf1 M (nI a) r = M r := fun r hr => by
    unfold pf1
    try dsimp only
    rw [zup_r hr, zup_r hr]
  have h1 : IV X L lab (pf1 M (nI a)) hN cA cB np nr := h.same (fr 1 (by decide)) (fr 4 (by decide)) (fun k hk => f2 k (by omega) (by omega)) (fun r hr => ⟨f2 _ (by omega) (by omega), f2 _ (by omega) (by omega)⟩)
  have g2 : ∀ k, k < 24 ∨ 30 ≤ k → k ≠ 10 → pf3 M (nI a) 2 k = M 2 k := fun k k1 k2 => by
    unfold pf3
    rw [zup_ne _ _ _ _ (by omega)]; exact f2 k k1 k2
  have gr : ∀ r, r ≠ 2 → r ≠ 0 → pf3 M (nI a) r = M r := fun r hr h0 => by
    unfold pf3
    rw [zup_r h0]; exact fr r hr
  have h3 : IV X L lab (pf3 M (nI a)) hN cA cB np nr := h.same (gr 1 (by decide) (by decide)) (gr 4 (by decide) (by decide)) (fun k hk => g2 k (by omega) (by omega)) (fun r hr => ⟨g2 _ (by omega) (by omega), g2 _ (by omega) (by omega)⟩)
  have e7 : pf1 M (nI a) 2 7 = M 2 7 := f2 7 (by decide) (by decide)
  have a2 : nI a = nI (tn (nI a)) := v1.2
  by_cases q : pfh M (nI a) = -9
  · unfold pperf
    rw [if_pos q]
    have w2 : ∀ k, k ≠ 5 → k ≠ 15 → k ≠ 20 → k ≠ 16 → zup (zup (zup (zup (pf3 M (nI a)) 2 5 3) 2 15 (nI a)) 2 20 v) 2 16 0 2 k = pf3 M (nI a) 2 k := fun k k1 k2 k3 k4 => by
      rw [zup_ne _ _ _ _ (Or.inr k4), zup_ne _ _ _ _ (Or.inr k3), zup_ne _ _ _ _ (Or.inr k2), zup_ne _ _ _ _ (Or.inr k1)]
    have wr : ∀ r, r ≠ 2 → zup (zup (zup (zup (pf3 M (nI a)) 2 5 3) 2 15 (nI a)) 2 20 v) 2 16 0 r = pf3 M (nI a) r := fun r hr => by
      rw [zup_r hr, zup_r hr, zup_r hr, zup_r hr]
    refine ⟨hN, cA, cB, np, nr, h3.same (wr 1 (by decide)) (wr 4 (by decide)) (fun k hk => w2 k (by omega) (by omega) (by omega) (by omega)) (fun r hr => ⟨w2 _ (by omega) (by omega) (by omega) (by omega), w2 _ (by omega) (by omega) (by omega) (by omega)⟩), fun z => ?_, fun _ => ?_⟩
    · rw [zup_at] at z; exact absurd z (by decide)
    · rw [a2] at q v2
      obtain ⟨l, l1, l2⟩ := phA_un (M := pf1 M (nI (tn (nI a)))) hS (by rw [← a2]; exact h1) ta 101 0 _ 0 (by decide) v2 (by rw [← a2]; exact h1.2.2.1) q (by
        rw [← a2, e7]
        have : a = tn (nI a) ∨ bt (inS X 14 cA (M 2 7)) (4 * tn (nI a)) = true := by
          by_cases hlt : a < 2 ^ 31
          · exact Or.inl (tn_nI hlt).symm
          · right
            rw [b_big (by omega)] at hb
            cases hb
        rcases this with z | z
        · rw [← z]; exact hb
        · exact z)
      exact ⟨tn (nI a), l, ta, l1, by rw [zup_ne _ _ _ _ (by omega), zup_ne _ _ _ _ (by omega), zup_at]; exact a2, l2⟩
  · obtain ⟨w1, w2, w3, w4, w5, w6, w7⟩ := v3 q
    obtain ⟨i', j, j1, j2, j3, j4, j5, j6⟩ := phA_fd h1 (a := nI a) 101 0 _ 0 h1.2.2.1 q
    have eh : pfh M (nI a) = nI i' := congrArg Prod.fst j3
    rw [fr 4 (by decide)] at j4 j6
    obtain ⟨hh, b1, b2, b3, b4, b5, b6, b7, -⟩ := (h.2.2.2.1 i' j1).hand hS j4
    have hC := j6 hh b3
    rw [e7] at hC
    have e28 : pf3 M (nI a) 0 28 = nI j := by
      unfold pf3
      rw [zup_at]
      exact (congrArg Prod.snd j3).trans (Int32.zero_add _)
    have e37 : pf3 M (nI a) 2 7 = M 2 7 := g2 7 (by decide) (by decide)
    have e311 : pf3 M (nI a) 2 11 = nI nr := (g2 11 (by decide) (by decide)).trans h.2.1.2.2.1
    have hnr2 : nr < 1200 := by
      have := w1.1
      rw [e311, tn_nI (by omega)] at this
      exact this
    have h4 : IV X L lab (pf4 M (nI a)) (zu1 hN nr hh) cA cB np (nr + 1) := by
      refine h3.made hnr2 b1 (m := j + 1) (by omega) ?_ ?_
      · rw [e28]; exact ixA rfl (ixC 1)
      · rw [e37, gr 4 (by decide) (by decide)]; exact hC
    have r1 : pf4 M (nI a) 1 = M 1 := by
      unfold pf4 pmakeRes
      rw [zup_r (by decide), zup_r (by decide), zup_r (by decide), zup_r (by decide)]
      exact gr 1 (by decide) (by decide)
    have r4 : pf4 M (nI a) 4 = M 4 := by
      unfold pf4 pmakeRes
      rw [zup_r (by decide), zup_r (by decide), zup_r (by decide), zup_r (by decide)]
      exact gr 4 (by decide) (by decide)
    have r5 : pf4 M (nI a) 2 5 = M 2 5 := by
      unfold pf4 pmakeRes
      rw [zup_ne _ _ _ _ (by omega), zup_ne _ _ _ _ (by omega), zup_ne _ _ _ _ (by omega), zup_ne _ _ _ _ (by omega)]
      exact g2 5 (by decide) (by decide)
    have p5 : pof (pf4 M (nI a)) (nI i') 5 = M 4 (7 * i' + 5) := (pof_n (k := 5) (by omega) (by decide)).trans (congrFun r4 _)
    have p1 : pof (pf4 M (nI a)) (nI i') 1 = nI hh := ((pof_n (k := 1) (by omega) (by decide)).trans (congrFun r4 _)).trans b3
    have e5 : pf5 M (nI a) = zup (pf4 M (nI a)) 2 7 (M 4 (7 * i' + 5)) := by
      unfold pf5
      rw [eh, p5]
    have e57 : pf5 M (nI a) 2 7 = M 4 (7 * i' + 5) := by rw [e5, zup_at]
    have hO : OXP np (M 4 (7 * i' + 5)) := (h.2.2.2.1 i' j1).1.imp id (fun ⟨b, b1, b2⟩ => ⟨b, by omega, b2⟩)
    have e5r : ∀ r, r ≠ 2 → pf5 M (nI a) r = pf4 M (nI a) r := fun r hr => by rw [e5, zup_r hr]
    have e52 : ∀ k, k ≠ 7 → pf5 M (nI a) 2 k = pf4 M (nI a) 2 k := fun k hk => by rw [e5, zup_ne _ _ _ _ (Or.inr hk)]
    have h5' : IV X L lab (pf5 M (nI a)) (zu1 hN nr hh) cA cB np (nr + 1) := h4.top (e5r 1 (by decide)) (e5r 4 (by decide)) (fun k hk => e52 k (by omega)) (fun r hr => ⟨e52 _ (by omega), e52 _ (by omega)⟩) (by rw [e57]; exact hO)
    have es14 : sle (X 14 hh) (inS X 14 cA (pf5 M (nI a) 2 7)) := by rw [e57]; exact b5
    have es15 : sle (X 15 hh) (inS X 15 cB (pf5 M (nI a) 2 7)) := by rw [e57]; exact b6
    obtain ⟨g1, g2', g3, g4, g5⟩ := h5'.push w5 (κ := 14) (k := 14) (n := -9) (e := -9) (s := -9) (x := pf3 M (nI a) 2 11) (α := X 14 hh) (β := X 15 hh) rfl (by decide) (by decide) ⟨fun z => absurd z (by decide), fun z => absurd z (by decide), fun _ => ⟨nr, Nat.lt_succ_self _, e311, by rw [zu1_at], by rw [zu1_at], es14, es15⟩⟩
    have g1 : IV X L lab (pf6 M (nI a)) (zu1 hN nr hh) (zu1 cA np (X 14 hh)) (zu1 cB np (X 15 hh)) (np + 1) (nr + 1) := g1
    have g3 : pf6 M (nI a) 2 7 = nI np := g3
    have g6 : pf6 M (nI a) 2 5 = 1 := ((ppush_2 (by decide) (by decide) (by decide)).trans (e52 5 (by decide))).trans (r5.trans h5)
    have ec : pfc M (nI a) = pclause X (nI hh) (nI a) := by
      unfold pfc
      rw [eh, p1, pclause_x1 (r1.trans h.1.1)]
    obtain ⟨-, -, -, -, -, -, -, hc⟩ := hS.hand b1 b4
    have hcl : ¬ pclause X (nI hh) (nI a) = -9 := by
      have e1 : pof (pf1 M (nI a)) (nI i') 1 = nI hh := ((pof_n (k := 1) (by omega) (by decide)).trans (congrFun (fr 4 (by decide)) _)).trans b3
      rw [e1, pclause_x1 ((fr 1 (by decide)).trans h.1.1)] at j5
      exact j5
    rw [a2] at hcl
    rcases hc (tn (nI a)) (by omega) with z | ⟨c, b, c1, c2, c3, c4, c5, c6, c7, c8, c9⟩
    · exact absurd z hcl
    · rw [← a2] at c2
      unfold pperf
      rw [if_neg q]
      obtain ⟨y1, y2, y3⟩ := bind_IV g1 (pof (pf6 M (nI a)) (pfh M (nI a)) 2) (parg (pf6 M (nI a)) (pfc M (nI a))) v w7
      have y1 : IV X L lab (pf7 M (nI a) v) (zu1 hN nr hh) (zu1 cA np (X 14 hh)) (zu1 cB np (X 15 hh)) (np + 1) (nr + 1) := y1
      have y2 : pf7 M (nI a) v 2 7 = nI np := y2.trans g3
      have y3 : pf7 M (nI a) v 2 5 = 1 := y3.trans g6
      refine y1.foc ⟨b, c4, ?_, c6, ?_, ?_, fun _ => ⟨nr, Nat.lt_succ_self _, e311, ?_⟩⟩ y3
      · rw [ec, c2]
        exact (ppart_n (k := 1) (by omega) (by decide)).trans (by rw [g1.1.1]; exact c3)
      · rw [y2, g4]; exact c7
      · rw [y2, g5]; exact c8
      · rw [zu1_at, c9, if_neg (by omega)]
theorem PO.c7 (hS : SCX X L lab) (h : PO X L lab M hN cA cB np nr i) (hk : M 4 (7 * i) = nI 7) (hv : pperfV M (parg M (pof M (nI i) 1))) : IVS X L lab (pperf M (parg M (pof M (nI i) 1)) v) := by
  obtain ⟨n, h', p, a1, a2, a3, a4, a5, a6, a7, a8, a9, a10, -⟩ := h.node hS hk (by decide)
  obtain ⟨-, -, -, -, -, -, -, -, -, -, f7, -⟩ := frk_h h' (by omega)
  rcases a7 with ⟨z, -⟩ | ⟨z, -⟩
  · exact absurd z (by decide)
  obtain rfl := f7 z.symm
  obtain ⟨-, -, ha, -⟩ := hS.kind a1 a6 (by decide)
  obtain ⟨a, b1, b2⟩ := ha (Or.inl rfl)
  have e : parg M (pof M (nI i) 1) = nI a := by rw [a3, parg_n (by omega), h.1.1.1]; exact b2
  rw [e] at hv ⊢
  exact h.1.perf hS h.2.2.2 hv (a9 _ (hS.perf a1 a6 b1 b2))
/-- a resumption is resumed -/
theorem IV.resu (hS : SCX X L lab) (h : IV X L lab M hN cA cB np nr) {r : Nat} (hr : r < nr) (hA : sle (X 14 (hN r)) (inS X 14 cA (M 2 7))) (hB : sle (X 15 (hN r)) (inS X 15 cB (M 2 7))) (hv : presumesV M (nI r)) : VC X L lab hN cA cB np nr (presumes M (nI r) v) := by
  obtain ⟨v1, v2, v3⟩ := hv
  have hnp := h.2.1.2.1
  have hnr := h.2.1.2.2.2
  have htr : tn (nI r) = r := tn_nI (by omega)
  unfold presumes
  by_cases q : 100 < pdepth M + prMany M (nI r)
  · rw [if_pos q]
    exact ⟨fun z => absurd (show (0 : Int32) = 1 from z) (by decide), fun _ => h⟩
  · rw [if_neg q]
    refine VC.mk1 ?_
    obtain ⟨m, m1, m2, m3, m4⟩ := v3 q
    obtain ⟨hL, m', c1, c2, c3⟩ := h.2.2.2.2 r hr
    have em : prMany M (nI r) = M 2 (3630 + 3 * r + 1) := by unfold prMany; rw [htr]
    have et : prTop M (nI r) = M 2 (3630 + 3 * r) := by unfold prTop; rw [htr]
    obtain rfl : m' = m := (nI_eq (by omega) (by omega)).mp (c2.symm.trans (em.symm.trans m2))
    obtain ⟨ci, d1, d2, d3, d4, d5, d6⟩ := CHN.ci _ _ c3
    rw [et] at m4
    obtain ⟨k1, -, k3, -⟩ := pag_e (ci := ci) m' 0 (M 2 (3630 + 3 * r)) M (fun p hp => by have := d2 p hp; omega) (fun _ => d3) d4
    obtain ⟨N, eN⟩ : ∃ N, N = pag m' 0 (M 2 (3630 + 3 * r)) M := ⟨_, rfl⟩
    rw [← eN] at k1 k3 m4
    have hNI : IV X L lab N hN cA cB np nr := h.same (k1 1 (by decide)) (k1 4 (by decide)) (fun k _ => congrFun (k1 2 (by decide)) k) (fun r _ => ⟨congrFun (k1 2 (by decide)) _, congrFun (k1 2 (by decide)) _⟩)
    have e27 : N 2 7 = M 2 7 := congrFun (k1 2 (by decide)) 7
    obtain ⟨cA', cB', np', hP⟩ := ppu_go (T0 := M 4) (cA0 := cA) (cB0 := cB) (w := fun q => ci (m' - 1 - q)) hnp h.2.2.2.1 m' N cA cB np hNI (Nat.le_refl _) (fun i _ => congrFun (k1 4 (by decide)) i) m4 (fun q hq => ⟨d2 _ (by omega), by rw [← Nat.zero_add q, k3 q hq, Nat.zero_add]⟩) (fun q hq => by
      have := d4 (m' - 1 - q) (by omega) (by omega)
      rw [show m' - 1 - q - 1 = m' - 1 - (q + 1) by omega] at this
      exact this) (fun _ => by
      have e0 : m' - 1 - (m' - 1) = 0 := by omega
      show ∃ κ, 1 ≤ κ ∧ κ ≤ 14 ∧ M 4 (7 * ci (m' - 1 - (m' - 1))) = nI κ ∧ FQ X L lab hN cA cB nr κ (M 4 (7 * ci (m' - 1 - (m' - 1)) + 1)) (M 4 (7 * ci (m' - 1 - (m' - 1)) + 3)) (M 4 (7 * ci (m' - 1 - (m' - 1)) + 4)) (N 2 7) (cA (ci (m' - 1 - (m' - 1)))) (cB (ci (m' - 1 - (m' - 1))))
      rw [e0, e27]
      obtain ⟨n, b1, b2, b3, b4, b5, b6, b7, b8, b9⟩ := (h.2.2.2.1 (ci 0) (d2 0 d1)).hand hS d5
      obtain rfl : n = hN r := (nI_eq (by omega) (by have := hS.lt hL; omega)).mp (b3.symm.trans d6)
      exact ⟨12, by decide, by decide, d5, fun _ => ⟨hN r, 15, 0, b1, b3, by decide, by decide, b4, Or.inr ⟨rfl, rfl⟩, fun _ => b7, b8, b9, hA, hB, fun z => absurd z (by decide)⟩, fun z => absurd z (by decide), fun z => absurd z (by decide)⟩)
    have e0 : prs0 M (nI r) = ppu m' N := by
      unfold prs0
      rw [em, c2, et, tn_nI (by omega), ← eN]
    unfold presume
    rw [e0]
    unfold prsE
    refine IV.val (hN := hN) (cA := cA') (cB := cB') (np := np') (nr := nr) ?_ v
    have u2 : ∀ k, k ≠ 3630 + 3 * r + 2 → k ≠ 12 → k ≠ 13 → ∀ z, zup (prs4 (ppu m' N) (nI r)) 2 13 z 2 k = ppu m' N 2 k := fun k k1 k2 k3 z => by
      rw [zup_ne _ _ _ _ (Or.inr k3)]
      unfold prs4
      try dsimp only
      rw [htr, zup_ne _ _ _ _ (Or.inr k2), zup_ne _ _ _ _ (Or.inr k1)]
    have ur : ∀ k, k ≠ 2 → ∀ z, zup (prs4 (ppu m' N) (nI r)) 2 13 z k = ppu m' N k := fun k k1 z => by
      rw [zup_r k1]
      unfold prs4
      try dsimp only
      rw [zup_r k1, zup_r k1]
    exact hP.same (ur 1 (by decide) _) (ur 4 (by decide) _) (fun k hk => u2 k (by omega) (by omega) (by omega) _) (fun r' _ => ⟨u2 _ (by omega) (by omega) (by omega) _, u2 _ (by omega) (by omega) (by omega) _⟩)
theorem PO.c11 (hS : SCX X L lab) (h : PO X L lab M hN cA cB np nr i) (hk : M 4 (7 * i) = nI 11) (hv : presumesV M (pof M (nI i) 4)) : VC X L lab hN cA cB np nr (presumes M (pof M (nI i) 4) v) := by
  obtain ⟨n, h', p, a1, a2, a3, a4, a5, a6, a7, a8, a9, a10, a11⟩ := h.node hS hk (by decide)
  obtain ⟨-, -, -, -, -, -, -, -, -, -, -, -, f11, -⟩ := frk_h h' (by omega)
  rcases a7 with ⟨z, -⟩ | ⟨z, -⟩
  · exact absurd z (by decide)
  obtain rfl := f11 z.symm
  obtain ⟨-, r, r1, r2, r3⟩ := a11 rfl
  obtain ⟨hL, -⟩ := h.1.2.2.2.2 r r1
  obtain ⟨-, s1, s2⟩ := hS.at a1 a6 (hS.lt hL) r3.symm
  rw [r2] at hv ⊢
  exact h.1.resu hS r1 (s1.tr a9) (s2.tr a10) hv
theorem SM.iv {N : zI} (hM : SM M N) (h : IV X L lab M hN cA cB np nr) : IV X L lab N hN cA cB np nr ∧ N 2 = M 2 ∧ N 4 = M 4 := by
  have h2 : N 2 = M 2 := hM.1 2 (by decide) (by decide) (by decide) (by decide)
  have h4 : N 4 = M 4 := hM.1 4 (by decide) (by decide) (by decide) (by decide)
  exact ⟨h.same (hM.1 1 (by decide) (by decide) (by decide) (by decide)) h4 (fun k _ => congrFun h2 k) (fun r _ => ⟨congrFun h2 _, congrFun h2 _⟩), h2, h4⟩
theorem PO.c14 (hS : SCX X L lab) (h : PO X L lab M hN cA cB np nr i) (hk : M 4 (7 * i) = nI 14) (hv : pcloseV M (nI i)) : VC X L lab hN cA cB np nr (pclose M (nI i) v) := by
  obtain ⟨-, v2, v3⟩ := hv
  have hnp := h.1.2.1.2.1
  have hnr := h.1.2.1.2.2.2
  obtain ⟨-, κ, k1, k2, k3, -, -, k6⟩ := h.1.2.2.2.1 i h.2.1
  obtain rfl : κ = 14 := (nI_eq (by omega) (by omega)).mp (k3.symm.trans hk)
  obtain ⟨r, r1, r2, r3, r4, r5, r6⟩ := k6 rfl
  rw [r3, ← h.2.2.1] at r5
  rw [r4, ← h.2.2.1] at r6
  have er : pof M (nI i) 4 = nI r := (h.cell (k := 4) (by decide)).trans r2
  have htr : tn (nI r) = r := tn_nI (by omega)
  rw [er] at v3
  unfold pclose
  try dsimp only
  rw [er]
  by_cases q0 : puses M (nI r) = 0
  · rw [if_pos q0]
    obtain ⟨w1, w2⟩ := v3 q0
    obtain ⟨hL, m, c1, c2, c3⟩ := h.1.2.2.2.2 r r1
    have s0 : SM M (ppend0 M (nI r)) := by
      unfold ppend0
      try dsimp only
      refine ⟨fun k h1 h2 h3 h4 => ?_, fun j hj => ?_⟩
      · rw [zup_r h3, zup_r h2, zup_r h4, zup_r h1]
      · rw [zup_ne _ _ _ _ (by omega), zup_ne _ _ _ _ (by omega), zup_ne _ _ _ _ (by omega), zup_ne _ _ _ _ (by omega)]
    have s17 : ppend0 M (nI r) 17 0 = M 2 (3630 + 3 * r) ∧ ppend0 M (nI r) 18 0 = M 2 (3630 + 3 * r + 1) := by
      unfold ppend0
      try dsimp only
      rw [htr]
      constructor
      · rw [zup_ne _ _ _ _ (by omega), zup_at, zup_ne _ _ _ _ (by omega), zup_ne _ _ _ _ (by omega)]
      · rw [zup_at, zup_ne _ _ _ _ (by omega), zup_ne _ _ _ _ (by omega), zup_ne _ _ _ _ (by omega)]
    have hl := (CHN.late hS hnp hnr h.1.2.2.2.1 hL _ _ c3).1
    obtain ⟨p, -, p2, p3, p4, p5, -, -⟩ := hS.hand hL (CHN.hand hS h.1.2.2.2.1 hL _ _ c3)
    rw [p3, tn_nI (by omega)] at hl
    obtain ⟨sM, hfd⟩ := ppd_late hS h.1 (S := X 15 p) pfu 1 (ppend0 M (nI r)) s0 (fun e he => by
      obtain rfl : e = 0 := by omega
      rw [s17.1, s17.2]
      exact ⟨m, c1, c2, hl⟩)
    obtain ⟨q, eq⟩ : ∃ q, q = ppend M (nI r) pfu := ⟨_, rfl⟩
    have sM : SM M q.2 := by rw [eq]; exact sM
    have hfd : q.1 = -9 ∨ ∃ i, i < np ∧ q.1 = nI i ∧ M 4 (7 * i) = nI 9 ∧ ∀ n, n < 65000 → M 4 (7 * i + 1) = nI n → sle (X 15 n) (X 15 p) := by rw [eq]; exact hfd
    rw [← eq] at w2 ⊢
    obtain ⟨hq, q2, q4⟩ := sM.iv h.1
    by_cases q9 : q.1 = -9
    · rw [if_pos q9]; exact VC.mk1 (hq.val v)
    · rw [if_neg q9]
      by_cases qd : 100 < pdepth q.2 + 2
      · rw [if_pos qd]
        exact ⟨fun z => absurd (show (0 : Int32) = 1 from z) (by decide), fun _ => hq⟩
      · rw [if_neg qd]
        refine VC.mk1 ?_
        obtain ⟨x1, x2⟩ := w2 q9
        rcases hfd with z | ⟨i', j1, j2, j3, j4⟩
        · exact absurd z q9
        · have q27 : q.2 2 7 = M 2 7 := congrFun q2 7
          obtain ⟨g1, g2, g3, g4, g5⟩ := hq.push x1 (κ := 14) (k := 14) (n := -9) (e := -9) (s := -9) (x := nI r) (α := X 14 (hN r)) (β := X 15 (hN r)) rfl (by decide) (by decide) ⟨fun z => absurd z (by decide), fun z => absurd z (by decide), fun _ => ⟨r, r1, rfl, rfl, rfl, by rw [q27]; exact r5, by rw [q27]; exact r6⟩⟩
          have ht : tn (q.2 2 21) = np := by rw [congrFun q2 21, h.1.2.1.1]; exact tn_nI (by omega)
          have o4 : ∀ k, k < 7 → ppush q.2 14 (-9) (-9) (-9) (nI r) 4 (7 * i' + k) = M 4 (7 * i' + k) := fun k hk => by
            rw [ppush_o (by rw [ht]; omega), q4]
          rw [j2] at x2 ⊢
          refine g1.exec hS ?_ (by omega) ((o4 0 (by decide)).trans j3) x2 (fun n b hn hz hb _ => ?_) (fun n hn hz => ?_)
          · rw [ppush_2 (by decide) (by decide) (by decide), congrFun q2 5]; exact h.2.2.2
          · rw [g3, g4]
            exact (hb.tr (j4 n hn ((o4 1 (by decide)).symm.trans hz))).tr p4
          · rw [g3, g5]
            exact (j4 n hn ((o4 1 (by decide)).symm.trans hz)).tr p5
  · rw [if_neg q0]
    try dsimp only
    rw [if_pos rfl]
    exact VC.mk1 (h.1.val v)
end STP
