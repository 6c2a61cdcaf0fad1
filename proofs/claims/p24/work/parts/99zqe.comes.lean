/-! What a run leaves open was foretold: a step from a value, frame by frame. -/
/-- a node may become the focus above place t7, with resumption s -/
def FN (X : zI) (L : List Nat) (lab hN : Nat → Nat) (cA cB : Nat → Int32) (nr : Nat) (t7 z s : Int32) : Prop :=
  ∃ n, n ∈ L ∧ z = nI n ∧ ¬ X 1 (5 * n) = nI 16 ∧ sle (X 14 n) (inS X 14 cA t7) ∧ sle (X 15 n) (inS X 15 cB t7) ∧ (¬ lab n = 0 → HR hN nr s (lab n))
def IVS (X : zI) (L : List Nat) (lab : Nat → Nat) (M : zI) : Prop := ∃ hN cA cB np nr, IV X L lab M hN cA cB np nr ∧ (M 2 16 = 2 → FN X L lab hN cA cB nr (M 2 7) (M 2 17) (M 2 19)) ∧
  (M 2 5 = 3 → ∃ a l, a < 6 ∧ l < 4 ∧ M 2 15 = nI a ∧ bt (X 14 (tn (X 2 0))) (4 * a + l) = true)
/-- what a step from a value leads to: it is made, or it isn't -/
def VC (X : zI) (L : List Nat) (lab : Nat → Nat) (hN : Nat → Nat) (cA cB : Nat → Int32) (np nr : Nat) (q : Int32 × zI) : Prop := (q.1 = 1 → IVS X L lab q.2) ∧ (q.1 = 0 → IV X L lab q.2 hN cA cB np nr)
/-- a frame was popped, frame i of the pool -/
def PO (X : zI) (L : List Nat) (lab : Nat → Nat) (M : zI) (hN : Nat → Nat) (cA cB : Nat → Int32) (np nr i : Nat) : Prop := IV X L lab M hN cA cB np nr ∧ i < np ∧ M 2 7 = M 4 (7 * i + 5) ∧ M 2 5 = 1
section CMS
variable {X M N : zI} {L : List Nat} {lab hN : Nat → Nat} {cA cB : Nat → Int32} {np nr κ i : Nat} {v : Int32}
theorem VC.mk1 {N : zI} (h : IVS X L lab N) : VC X L lab hN cA cB np nr (1, N) := ⟨fun _ => h, fun z => absurd (show (1 : Int32) = 0 from z) (by decide)⟩
theorem IV.val (h : IV X L lab M hN cA cB np nr) (v : Int32) : IVS X L lab (pbecome M v) := by
  refine ⟨hN, cA, cB, np, nr, h.same (pbecome_r (by decide)) (pbecome_r (by decide)) (fun k hk => pbecome_2 (by omega) (by omega) (by omega)) (fun r _ => ⟨pbecome_2 (by omega) (by omega) (by omega), pbecome_2 (by omega) (by omega) (by omega)⟩), fun z => ?_, fun z => ?_⟩
  · rw [pbecome_v.1] at z; exact absurd z (by decide)
  · rw [pbecome_v.2.2] at z
    by_cases q : M 2 7 = -9
    · rw [if_pos q] at z; exact absurd z (by decide)
    · rw [if_neg q] at z; exact absurd z (by decide)
theorem IV.foc (h : IV X L lab M hN cA cB np nr) {z e s : Int32} (hF : FN X L lab hN cA cB nr (M 2 7) z s) (h5 : M 2 5 = 1) : IVS X L lab (pfocusOn M z e s) := by
  refine ⟨hN, cA, cB, np, nr, h.same (pfocus_r (by decide)) (pfocus_r (by decide)) (fun k hk => pfocus_2 (by omega)) (fun r _ => ⟨pfocus_2 (by omega), pfocus_2 (by omega)⟩), fun _ => ?_, fun z => ?_⟩
  · rw [pfocus_2 (by omega), pfocus_v.2.1, pfocus_v.2.2.2]; exact hF
  · rw [pfocus_2 (by omega), h5] at z; exact absurd z (by decide)
theorem FN.part (hS : SCX X L lab) (e1 : M 1 = X 1) {n h j : Nat} {t7 s : Int32} (hm : n ∈ L) (hk : X 1 (5 * n) = nI h) (h15 : h < 15) (h11 : ¬ h = 11) (hj : j < ari h) (hA : sle (X 14 n) (inS X 14 cA t7)) (hB : sle (X 15 n) (inS X 15 cB t7)) (hs : ¬ lab n = 0 → HR hN nr s (lab n)) : FN X L lab hN cA cB nr t7 (ppart M (nI n) (nI (j + 1))) s := by
  obtain ⟨m', b1, b2, b3, b4, b5, b6, b7⟩ := hS.part hm hk (by omega) hj
  have h3 : ari h ≤ 3 := ari_le3 h (by omega)
  refine ⟨m', b1, ?_, b5, (b7 h11 (by omega)).tr hA, b6.tr hB, by rw [b4]; exact hs⟩
  rw [ppart_n (by have := hS.lt hm; omega) (by omega), e1, show 5 * n + 1 + (j + 1) = 5 * n + 2 + j by omega]
  exact b3
theorem bind_IV (h : IV X L lab M hN cA cB np nr) (e c v : Int32) (hv : iv 1200 (M 2 22)) : IV X L lab (pbindTo M e c v) hN cA cB np nr ∧ pbindTo M e c v 2 7 = M 2 7 ∧ pbindTo M e c v 2 5 = M 2 5 := by
  have ht : tn (M 2 22) < 1200 := hv.1
  have hb := pbind_N (M := M) (e := e) (c := c) (v := v) hv.2 ht
  rw [hb]
  exact ⟨h.same (pbindN_r (by decide)) (pbindN_r (by decide)) (fun k hk => pbindN_o (by omega) (by omega)) (fun r _ => ⟨pbindN_o (by omega) (by omega), pbindN_o (by omega) (by omega)⟩), pbindN_o (by omega) (by omega), pbindN_o (by omega) (by omega)⟩
theorem PO.cell (h : PO X L lab M hN cA cB np nr i) {k : Nat} (hk : k < 7) : pof M (nI i) (nI k) = M 4 (7 * i + k) := pof_n (by have := h.1.2.1.2.1; have := h.2.1; omega) (by omega)
theorem PO.node (hS : SCX X L lab) (h : PO X L lab M hN cA cB np nr i) (hk : M 4 (7 * i) = nI κ) (hκ : κ ≤ 12) : ∃ n h p, n ∈ L ∧ n < 65000 ∧ pof M (nI i) 1 = nI n ∧ 2 ≤ h ∧ h ≤ 15 ∧ X 1 (5 * n) = nI h ∧ ((κ = 2 ∧ h ≤ 5 ∧ p = 1) ∨ (κ = frk h ∧ p = 0)) ∧ (¬ κ = 2 → ¬ lab n = 0 → HR hN nr (pof M (nI i) 3) (lab n)) ∧
    sle (X 14 n) (inS X 14 cA (M 2 7)) ∧ sle (X 15 n) (inS X 15 cB (M 2 7)) ∧ (κ = 11 → ¬ lab n = 0 ∧ HR hN nr (pof M (nI i) 4) (lab n)) := by
  obtain ⟨n, h', p, a1, a2, a3, a4, a5, a6, a7, a8, -, -, a11, a12, a13⟩ := (h.1.2.2.2.1 i h.2.1).node hS hk hκ
  rw [h.2.2.1]
  exact ⟨n, h', p, a1, a2, (h.cell (k := 1) (by decide)).trans a3, a4, a5, a6, a7, by rw [show pof M (nI i) 3 = _ from h.cell (k := 3) (by decide)]; exact a8, a11, a12, by rw [show pof M (nI i) 4 = _ from h.cell (k := 4) (by decide)]; exact a13⟩
/-- the frame of an operator: the second operand is next -/
theorem PO.c1 (hS : SCX X L lab) (h : PO X L lab M hN cA cB np nr i) (hk : M 4 (7 * i) = nI 1) (hv : pushV M) : IVS X L lab (pfocusOn (ppush M 2 (pof M (nI i) 1) (-9) (-9) v) (ppart (ppush M 2 (pof M (nI i) 1) (-9) (-9) v) (pof M (nI i) 1) 2) (pof (ppush M 2 (pof M (nI i) 1) (-9) (-9) v) (nI i) 2) (pof (ppush M 2 (pof M (nI i) 1) (-9) (-9) v) (nI i) 3)) := by
  obtain ⟨n, h', p, a1, a2, a3, a4, a5, a6, a7, a8, a9, a10, -⟩ := h.node hS hk (by decide)
  obtain ⟨-, -, -, f4, -, f6, -⟩ := frk_h h' (by omega)
  have h5 : h' ≤ 5 := by
    rcases a7 with ⟨z, -⟩ | ⟨z, -⟩
    · omega
    · exact f6 z.symm a4
  have ha := f4 a4 h5
  obtain ⟨m', b1, b2, b3, b4, b5, b6, b7⟩ := hS.part a1 a6 a5 (i := 1) (by omega)
  have hnp := h.1.2.1.2.1
  have ht : tn (M 2 21) = np := by rw [h.1.2.1.1]; exact tn_nI (by omega)
  have h3 : pof (ppush M 2 (pof M (nI i) 1) (-9) (-9) v) (nI i) 3 = pof M (nI i) 3 := by
    have hi := h.2.1
    rw [show pof M (nI i) 3 = _ from h.cell (k := 3) (by decide)]
    exact (pof_n (k := 3) (by omega) (by decide)).trans (ppush_o (by rw [ht]; omega))
  obtain ⟨g1, g2, g3, g4, g5⟩ := h.1.push hv (κ := 2) (k := 2) (n := pof M (nI i) 1) (e := -9) (s := -9) (x := v) (α := X 14 m') (β := X 15 m') rfl (by decide) (by decide) ⟨fun _ => ⟨n, h', 1, a1, a3, a4, a5, a6, Or.inl ⟨rfl, h5, rfl⟩, fun z => absurd rfl z, by rw [b3, tn_nI (by omega)], by rw [b3, tn_nI (by omega)], a9, a10, fun z => absurd z (by decide)⟩, fun z => absurd z (by decide), fun z => absurd z (by decide)⟩
  refine g1.foc ⟨m', b1, ?_, b5, ?_, ?_, ?_⟩ ((ppush_2 (by decide) (by decide) (by decide)).trans h.2.2.2)
  · rw [a3]
    refine (ppart_n (k := 2) (by omega) (by decide)).trans ?_
    rw [ppush_1 (by decide) (by decide), h.1.1.1]
    exact b3
  · rw [g3, g4]; exact sle.rf
  · rw [g3, g5]; exact sle.rf
  · rw [h3, b4]; exact a8 (by decide)
/-- tests and sequences: another part is next -/
theorem PO.c3 (hS : SCX X L lab) (h : PO X L lab M hN cA cB np nr i) (hk : M 4 (7 * i) = nI κ) (hκ : κ = 3 ∨ κ = 4) {j : Nat} (hj : j < if κ = 3 then 3 else 2) : IVS X L lab (pfocusOn M (ppart M (pof M (nI i) 1) (nI (j + 1))) (pof M (nI i) 2) (pof M (nI i) 3)) := by
  obtain ⟨n, h', p, a1, a2, a3, a4, a5, a6, a7, a8, a9, a10, -⟩ := h.node hS hk (by omega)
  obtain ⟨-, -, -, -, -, -, -, f3, f4, -⟩ := frk_h h' (by omega)
  refine h.1.foc ?_ h.2.2.2
  rw [a3]
  rcases a7 with ⟨z, -⟩ | ⟨z, -⟩
  · omega
  rcases hκ with rfl | rfl
  · obtain rfl := f3 z.symm
    exact FN.part hS h.1.1.1 a1 a6 (by decide) (by decide) hj a9 a10 (a8 (by decide))
  · obtain rfl := f4 z.symm
    exact FN.part hS h.1.1.1 a1 a6 (by decide) (by decide) hj a9 a10 (a8 (by decide))
theorem PO.c5 (hS : SCX X L lab) (h : PO X L lab M hN cA cB np nr i) (hk : M 4 (7 * i) = nI 5) (hv : iv 1200 (M 2 22)) {c x : Int32} : IVS X L lab (pfocusOn (pbindTo M x c v) (ppart M (pof M (nI i) 1) 2) (M 2 22) (pof M (nI i) 3)) := by
  obtain ⟨n, h', p, a1, a2, a3, a4, a5, a6, a7, a8, a9, a10, -⟩ := h.node hS hk (by decide)
  obtain ⟨-, -, -, -, -, -, -, -, -, f5, -⟩ := frk_h h' (by omega)
  obtain ⟨w1, w2, w3⟩ := bind_IV h.1 x c v hv
  refine w1.foc ?_ (w3.trans h.2.2.2)
  rw [w2, a3]
  rcases a7 with ⟨z, -⟩ | ⟨z, -⟩
  · exact absurd z (by decide)
  obtain rfl := f5 z.symm
  exact FN.part hS h.1.1.1 a1 a6 (by decide) (by decide) (j := 1) (by decide) a9 a10 (a8 (by decide))
theorem PO.c6 (h : PO X L lab M hN cA cB np nr i) (v : Int32) : IVS X L lab (pbecome (ptrace0 M v) v) := by
  refine IV.val (hN := hN) (cA := cA) (cB := cB) (np := np) (nr := nr) ?_ v
  unfold ptrace0
  by_cases q : M 2 9 < 60
  · rw [if_pos q]
    have e : ∀ r, r ≠ 2 → (zup (zup M 2 (8430 + tn (M 2 9)) v) 2 9 (zup M 2 (8430 + tn (M 2 9)) v 2 9 + 1)) r = M r := fun r hr => by rw [zup_r hr, zup_r hr]
    have hnr := h.1.2.1.2.2.2
    exact h.1.same (e 1 (by decide)) (e 4 (by decide)) (fun k hk => by rw [zup_ne _ _ _ _ (by omega), zup_ne _ _ _ _ (by omega)]) (fun r hr => ⟨by rw [zup_ne _ _ _ _ (by omega), zup_ne _ _ _ _ (by omega)], by rw [zup_ne _ _ _ _ (by omega), zup_ne _ _ _ _ (by omega)]⟩)
  · rw [if_neg q]; exact h.1
/-- a call -/
theorem PO.c10 (hS : SCX X L lab) (h : PO X L lab M hN cA cB np nr i) (hk : M 4 (7 * i) = nI 10) (hv : pcallV M (nI i)) : IVS X L lab (pcall M (nI i) v) := by
  obtain ⟨n, h', p, a1, a2, a3, a4, a5, a6, a7, a8, a9, a10, -⟩ := h.node hS hk (by decide)
  obtain ⟨-, -, -, -, -, -, -, -, -, -, -, f10, -⟩ := frk_h h' (by omega)
  rcases a7 with ⟨z, -⟩ | ⟨z, -⟩
  · exact absurd z (by decide)
  obtain rfl := f10 z.symm
  obtain ⟨-, -, -, hc, -⟩ := hS.kind a1 a6 (by decide)
  obtain ⟨p, p1, p2, -⟩ := hc rfl
  have ep : parg M (pof M (nI i) 1) = nI p := by rw [a3, parg_n (by omega), h.1.1.1]; exact p2
  have e2 : M 2 (1 + tn (nI p)) = X 2 (1 + p) := by rw [tn_nI (by omega)]; exact h.1.1.2 _ (by omega)
  unfold pcall
  rw [ep, e2]
  by_cases q : X 2 (1 + p) = -9
  · rw [if_pos q]; exact h.1.val v
  · rw [if_neg q]
    rcases hS.2.2 p p1 with z | ⟨r, r1, r2, r3, r4, r5⟩
    · exact absurd z q
    · obtain ⟨w1, w2, w3⟩ := bind_IV h.1 (-9) 23 v hv.2.2.2
      obtain ⟨s1, s2⟩ := hS.call a1 a6 p1 p2 r2 r3
      refine w1.foc ⟨r, r1, r3, r5, ?_, ?_, fun z => absurd r4 z⟩ (w3.trans h.2.2.2)
      · rw [w2]; exact s1.tr a9
      · rw [w2]; exact s2.tr a10
/-- a handler is left -/
theorem PO.c12 (hS : SCX X L lab) (h : PO X L lab M hN cA cB np nr i) (hk : M 4 (7 * i) = nI 12) (hv : pleaveV M (nI i)) : IVS X L lab (pleave M (nI i) v) := by
  obtain ⟨n, h', p, a1, a2, a3, a4, a5, a6, a7, a8, a9, a10, -⟩ := h.node hS hk (by decide)
  obtain ⟨-, f12, -⟩ := frk_h h' (by omega)
  rcases a7 with ⟨z, -⟩ | ⟨z, -⟩
  · exact absurd z (by decide)
  obtain rfl := f12 z.symm
  obtain ⟨-, -, -, -, -, -, -, hc⟩ := hS.hand a1 a6
  unfold pleave
  rw [a3, pclause_x1 h.1.1.1]
  rcases hc 6 (by decide) with z | ⟨q, b, q1, q2, q3, q4, q5, q6, q7, q8, q9⟩
  · rw [if_pos (show pclause X (nI n) 6 = -9 from z)]; exact h.1.val v
  · have q2 : pclause X (nI n) 6 = nI q := q2
    rw [q2, if_neg ((iv_nI (N := 65000) q1 (by decide)).nn (by decide))]
    obtain ⟨w1, w2, w3⟩ := bind_IV h.1 (pof M (nI i) 2) (parg M (nI q)) v hv.2.2.2.2
    refine w1.foc ⟨b, q4, ?_, q6, ?_, ?_, ?_⟩ (w3.trans h.2.2.2)
    · exact (ppart_n (k := 1) (by omega) (by decide)).trans (by rw [h.1.1.1]; exact q3)
    · rw [w2]; exact q7.tr a9
    · rw [w2]; exact q8.tr a10
    · rw [q9, if_pos rfl]; exact a8 (by decide)
/-- a finalizer is executed, where its place allows it -/
theorem IV.exec (hS : SCX X L lab) (h : IV X L lab M hN cA cB np nr) (h5 : M 2 5 = 1) (hi : i < np) (hk : M 4 (7 * i) = nI 9) (hv : pexecV M (nI i)) (hA : ∀ n b, n < 65000 → M 4 (7 * i + 1) = nI n → sle (X 14 b) (X 15 n) → sle (X 14 b) (X 14 n) → sle (X 14 b) (inS X 14 cA (M 2 7))) (hB : ∀ n, n < 65000 → M 4 (7 * i + 1) = nI n → sle (X 15 n) (inS X 15 cB (M 2 7))) : IVS X L lab (pexec M (nI i) v) := by
  obtain ⟨v1, v2, v3, v4, v5⟩ := hv
  have hnp := h.2.1.2.1
  have hnr := h.2.1.2.2.2
  have ht : tn (M 2 21) = np := by rw [h.2.1.1]; exact tn_nI (by omega)
  obtain ⟨n, h', p, a1, a2, a3, a4, a5, a6, a7, a8, -⟩ := (h.2.2.2.1 i hi).node hS hk (by decide)
  obtain ⟨-, -, -, -, f9, -⟩ := frk_h h' (by omega)
  rcases a7 with ⟨z, -⟩ | ⟨z, -⟩
  · exact absurd z (by decide)
  obtain rfl := f9 z.symm
  obtain ⟨m', b1, b2, b3, b4, b5, b6, b7⟩ := hS.part a1 a6 (by decide) (i := 1) (by decide)
  have hfin := hS.fin a1 a6 b2 b3
  obtain ⟨q, hq⟩ : ∃ q, q = 7230 + tn (pof M (nI i) 4) := ⟨_, rfl⟩
  obtain ⟨N, eN⟩ : ∃ N, N = zup (zup M 2 q 1) 2 14 (zup M 2 q 1 2 14 + 1) := ⟨_, rfl⟩
  have hlt : tn (pof M (nI i) 4) < 1200 := v3.1
  have e2 : ∀ k, k ≠ 14 → k ≠ q → N 2 k = M 2 k := fun k k1 k2 => by rw [eN, zup_ne _ _ _ _ (by omega), zup_ne _ _ _ _ (by omega)]
  have er : ∀ r, r ≠ 2 → N r = M r := fun r hr => by rw [eN, zup_r hr, zup_r hr]
  have hN : IV X L lab N hN cA cB np nr := h.same (er 1 (by decide)) (er 4 (by decide)) (fun k hk => e2 k (by omega) (by omega)) (fun r hr => ⟨e2 _ (by omega) (by omega), e2 _ (by omega) (by omega)⟩)
  have e7 : N 2 7 = M 2 7 := e2 7 (by decide) (by omega)
  have e21 : N 2 21 = M 2 21 := e2 21 (by decide) (by omega)
  have hpv : pushV N := ⟨by rw [e21]; exact v5.1, by rw [e7]; exact v5.2⟩
  obtain ⟨g1, g2, g3, g4, g5⟩ := hN.push hpv (κ := 13) (k := 13) (n := -9) (e := -9) (s := -9) (x := v) (α := inS X 14 cA (M 2 7)) (β := inS X 15 cB (M 2 7)) rfl (by decide) (by decide) ⟨fun z => absurd z (by decide), fun _ => by rw [e7]; exact ⟨sle.rf, sle.rf⟩, fun z => absurd z (by decide)⟩
  have e4 : ∀ k, k < 7 → pof (ppush N 13 (-9) (-9) (-9) v) (nI i) (nI k) = M 4 (7 * i + k) := fun k hk => by
    rw [pof_n (by omega) (by omega), ppush_o (by rw [e21, ht]; omega), er 4 (by decide)]
  have ed : pexec M (nI i) v = pfocusOn (ppush N 13 (-9) (-9) (-9) v) (ppart (ppush N 13 (-9) (-9) (-9) v) (pof (ppush N 13 (-9) (-9) (-9) v) (nI i) 1) 2) (pof (ppush N 13 (-9) (-9) (-9) v) (nI i) 2) (pof (ppush N 13 (-9) (-9) (-9) v) (nI i) 3) := by
    rw [eN, hq]; rfl
  rw [ed]
  refine g1.foc ⟨m', b1, ?_, b5, ?_, ?_, ?_⟩ ?_
  · rw [show pof (ppush N 13 (-9) (-9) (-9) v) (nI i) 1 = _ from e4 1 (by decide), a3]
    refine (ppart_n (k := 2) (by omega) (by decide)).trans ?_
    rw [ppush_1 (by decide) (by decide), er 1 (by decide), h.1.1]
    exact b3
  · rw [g3, g4]; exact hA n m' a2 a3 hfin (b7 (by decide) (by decide))
  · rw [g3, g5]; exact b6.tr (hB n a2 a3)
  · rw [show pof (ppush N 13 (-9) (-9) (-9) v) (nI i) 3 = _ from e4 3 (by decide), b4]; exact a8 (by decide)
  · rw [ppush_2 (by decide) (by decide) (by decide), e2 5 (by decide) (by omega)]; exact h5
theorem PO.c9 (hS : SCX X L lab) (h : PO X L lab M hN cA cB np nr i) (hk : M 4 (7 * i) = nI 9) (hv : M 2 (7230 + tn (pof M (nI i) 4)) = 0 → pexecV M (nI i)) : IVS X L lab (if M 2 (7230 + tn (pof M (nI i) 4)) = 0 then pexec M (nI i) v else pbecome M v) := by
  obtain ⟨n, h', p, a1, a2, a3, a4, a5, a6, a7, a8, a9, a10, -⟩ := h.node hS hk (by decide)
  obtain ⟨-, -, -, -, f9, -⟩ := frk_h h' (by omega)
  rcases a7 with ⟨z, -⟩ | ⟨z, -⟩
  · exact absurd z (by decide)
  obtain rfl := f9 z.symm
  by_cases q : M 2 (7230 + tn (pof M (nI i) 4)) = 0
  · rw [if_pos q]
    have e1 : M 4 (7 * i + 1) = nI n := (h.cell (k := 1) (by decide)).symm.trans a3
    have en : ∀ m, m < 65000 → M 4 (7 * i + 1) = nI m → m = n := fun m hm z => (nI_eq (by omega) (by omega)).mp (z.symm.trans e1)
    refine (h.1).exec hS h.2.2.2 h.2.1 hk (hv q) (fun m b hm z _ hb => hb.tr (by rw [en m hm z]; exact a9)) (fun m hm z => by rw [en m hm z]; exact a10)
  · rw [if_neg q]; exact h.1.val v
end CMS
