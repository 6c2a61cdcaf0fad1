/-! Many steps, in both. -/
theorem ppush_2 {M : zI} {k n e s x : Int32} {j : Nat} (h : j ≠ 21) (h7 : j ≠ 7) (h8 : j ≠ 8) : ppush M k n e s x 2 j = M 2 j := by
  unfold ppush
  iterate 10 (rw [zup_ne _ _ _ _ (by omega)])
theorem pcheck_16 {M : zI} : pcheck M 2 16 = M 2 16 ∨ pcheck M 2 16 = 0 := by
  unfold pcheck
  split
  · exact Or.inr (zup_at _ _ _ _)
  · exact Or.inl rfl
theorem pperf_16 {M : zI} {a v : Int32} : pperf M a v 2 16 = 0 ∨ pperf M a v 2 16 = 2 := by
  unfold pperf
  split
  · exact Or.inl (zup_at _ _ _ _)
  · exact Or.inr pfocus_v.1
theorem n1_of {x : Int32} (h : x = 0 ∨ x = 2) : ¬ x = 1 := by
  rcases h with h | h <;> rw [h] <;> decide
/-- where an operation is performed no value is left -/
theorem pstep_7 {M : zI} (h16 : ¬ M 2 16 = 2) (h : pof (pcl1 M) (M 2 7) 0 = 7) : ¬ pstep M 2 16 = 1 := by
  rw [pstep_v h16]
  have e : pcomes (pcl1 M) (M 2 7) (pcl1 M 2 20) = (1, pperf (pcl1 M) (parg (pcl1 M) (pof (pcl1 M) (M 2 7) 1)) (pcl1 M 2 20)) := pcomes_7 h
  have e1 : (pcomes (pcl1 M) (M 2 7) (pcl1 M 2 20)).1 = 1 := by rw [e]
  rw [pcloses_1 e1, if_neg (show ¬ ((1 : Int32) = 0) by decide), e]
  refine n1_of ?_
  rcases pcheck_16 (M := zup (pperf (pcl1 M) (parg (pcl1 M) (pof (pcl1 M) (M 2 7) 1)) (pcl1 M 2 20)) 2 6 (pperf (pcl1 M) (parg (pcl1 M) (pof (pcl1 M) (M 2 7) 1)) (pcl1 M 2 20) 2 6 + 1)) with q | q
  · rw [q, zup_ne _ _ _ _ (by omega)]; exact pperf_16
  · exact Or.inl q
/-- a step from an expression that isn't a leaf leaves no value -/
theorem pstep_k {M : zI} (h16 : M 2 16 = 2) (h0 : ¬ pkind M (M 2 17) = 0) (h1 : ¬ pkind M (M 2 17) = 1) : ¬ pstep M 2 16 = 1 := by
  rw [pstep_e h16]
  unfold popens
  rw [if_neg h0, if_neg h1]
  split
  · rw [if_pos rfl]
    exact n1_of (Or.inl (zup_at _ _ _ _))
  · rw [if_neg (show ¬ ((1 : Int32) = 0) by decide)]
    have k : ∀ N : zI, N 2 16 = 2 → ∀ n x, popP N n x 2 16 = 2 := by
      intro N hN n x
      unfold popP
      rw [zup_ne _ _ _ _ (by omega), ppush_2 (by decide) (by decide) (by decide)]; exact hN
    have k2 : pop1 M 2 16 = 2 := by
      unfold pop1
      rw [zup_ne _ _ _ _ (by omega), zup_ne _ _ _ _ (by omega)]; exact h16
    have k3 : (if pkind M (M 2 17) = 12 then popP (pop1 M) (M 2 17) (M 2 23) else popP M (M 2 17) (popE M)) 2 16 = 2 := by
      split
      · exact k _ k2 _ _
      · exact k _ h16 _ _
    dsimp only
    refine n1_of ?_
    rcases pcheck_16 (M := zup (if pkind M (M 2 17) = 12 then popP (pop1 M) (M 2 17) (M 2 23) else popP M (M 2 17) (popE M)) 2 6 ((if pkind M (M 2 17) = 12 then popP (pop1 M) (M 2 17) (M 2 23) else popP M (M 2 17) (popE M)) 2 6 + 1)) with q | q
    · rw [q, zup_ne _ _ _ _ (by omega)]; exact Or.inr k3
    · exact Or.inl q
theorem US.mk {b0 n0 b : Nat} {X : zCt} {R : zRf} {C : zI} (h : CO b0 n0 X R C) (hU : KU b C) (hG : MG b (qM X)) (hb : b < 1000000000) : US X C b := by
  obtain ⟨s, s1, s2, s3⟩ := hG
  obtain ⟨u1, w, w1, w2, w3⟩ := hU
  refine ⟨hb, fun r hr => ?_, ⟨s, s1, s2, fun r _ => s3 r⟩, w, w1, w2, fun r _ => w3 r⟩
  obtain ⟨u, a, e⟩ := u1 r
  exact ⟨u, a, (h.2.2.2.2.1.2.2.2.2.2.1 r hr).symm.trans e⟩
/-- a run that was begun, with what bounds it -/
def RI (b0 n0 : Nat) (X : zCt) (R : zRf) (C : zI) (b : Nat) : Prop := RN b0 n0 X R C ∧ (b0 ≤ (qg X).1 ∧ n0 ≤ (qg X).1) ∧ DM C ∧ KU b C ∧ MG b (qM X)
/-- a value in the focus stands for slots -/
def vl (M : zI) : Nat := if M 2 16 = 1 then 56 else 0
theorem vl_le (M : zI) : vl M ≤ 56 := by unfold vl; split <;> omega
set_option maxHeartbeats 1000000 in
theorem RI.step {b0 n0 c b : Nat} {g : zG} {f M : zI} {t : zTs} {y : zGs} {n : zNs} {R : zRf} {C : zI} (h : RI b0 n0 (g, f, M, t, y, n) R C b) (hb : b < 1000000000) (hc : c + 27 ≤ n0) (h1 : C 17 2 = 1) :
    ((iv 101 (C 19 1) ∧ iv 61 (C 17 11) ∧ bstepV b0 g R f C c bK (tn (C 19 1))) ∧ pstepV M) ∧ (bstepc g R f C (tn (C 19 1)) + vl (pstep M) ≤ 56 + vl M ∧ 3 * min 4 (bstepc g R f C (tn (C 19 1)) / 5) + vk (pstep M) ≤ 5 + vk M) ∧
    ∃ y' n', RI b0 n0 ((bstep g R f C bK (tn (C 19 1))).1, (bstep g R f C bK (tn (C 19 1))).2.2.1, pstep M, t, y', n') (bstep g R f C bK (tn (C 19 1))).2.1 (bstep g R f C bK (tn (C 19 1))).2.2.2 (b + 1) := by
  obtain ⟨⟨hC, hB, h2, st, hst, h3, h6, hS⟩, ⟨hb0, hn0⟩, hD, hU, hG⟩ := h
  have h2 : C 17 2 = M 2 5 := h2
  have h6 : M 2 6 = nI st := h6
  have m5 : M 2 5 = 1 := h2.symm.trans h1
  obtain ⟨d, nv, nr, nf, np⟩ := n
  obtain ⟨sg, el, rg, ci, mz, fi⟩ := y
  have hd : d ≤ 100 := hC.2.2.2.1.1
  have d1 : C 19 1 = nI d := hC.2.2.2.2.1.1.1
  have ed : tn (C 19 1) = d := by rw [d1]; exact tn_nI (by omega)
  have ht : iv 61 (C 17 11) := by
    obtain ⟨k, k1, k2, -⟩ := hC.2.2.2.2.1.2.2.2.2.2.2.2.2.1
    rw [k2]; exact iv_nI (by omega) (by decide)
  have hv : iv 101 (C 19 1) := by rw [d1]; exact iv_nI (by omega) (by decide)
  have hUS := US.mk hC hU hG hb
  rw [ed]
  have fin : (bstepV b0 g R f C c bK d ∧ pstepV M ∧ ∃ y n, RN b0 n0 ((bstep g R f C bK d).1, (bstep g R f C bK d).2.2.1, pstep M, t, y, n) (bstep g R f C bK d).2.1 (bstep g R f C bK d).2.2.2) → (bstepc g R f C d + vl (pstep M) ≤ 56 + vl M ∧ 3 * min 4 (bstepc g R f C d / 5) + vk (pstep M) ≤ 5 + vk M) →
      ((iv 101 (C 19 1) ∧ iv 61 (C 17 11) ∧ bstepV b0 g R f C c bK d) ∧ pstepV M) ∧ (bstepc g R f C d + vl (pstep M) ≤ 56 + vl M ∧ 3 * min 4 (bstepc g R f C d / 5) + vk (pstep M) ≤ 5 + vk M) ∧
      ∃ y' n', RI b0 n0 ((bstep g R f C bK d).1, (bstep g R f C bK d).2.2.1, pstep M, t, y', n') (bstep g R f C bK d).2.1 (bstep g R f C bK d).2.2.2 (b + 1) := by
    rintro ⟨q1, q2, y', n', q3⟩ q4
    have hz : zXt g (bstep g R f C bK d).1 := (KF.step (g := g) (R := R) (f := f) (C := C) (k := bK) (dp := d)).1
    exact ⟨⟨⟨hv, ht, q1⟩, q2⟩, q4, y', n', q3, ⟨Nat.le_trans hb0 hz.1.1, Nat.le_trans hn0 hz.1.1⟩, hD.step d1 hd q1, hU.step, (MH.step (b := b) ⟨MF.rf M, hG⟩).2⟩
  rcases hS with hS | hS | hS | hS | hS | hS
  · -- a value is out
    have m16 : M 2 16 = 1 := hS.2.2.1
    have hd1 : 1 ≤ d := hS.2.2.2.1
    have r4 : R 17 4 = none := hS.2.2.2.2.1
    obtain ⟨D, rfl⟩ : ∃ D, d = D + 1 := ⟨d - 1, by omega⟩
    obtain ⟨w, w1, w2, w3⟩ := hD.get d1 (by omega)
    refine fin (RN.val hC hB hb0 hn0 h2 ⟨h3, h6⟩ hS hc w1 w2 w3 hUS) ?_
    obtain ⟨x, κ, x1, h7, hbl, -, ⟨y1, y2, y3, y4, y5, -⟩, -, k2, -⟩ := CO.pop hC hB
    have hnp : np ≤ 39800 := hC.2.2.2.2.2.2.2.2
    have e1 : vl M = 56 := if_pos m16
    rw [e1]
    by_cases k7 : f x 0 = 7
    · have e7 : pof (pcl1 M) (M 2 7) 0 = 7 := by
        rw [h7, show (0 : Int32) = nI 0 from rfl, pof_n (by omega) (by decide)]
        exact y4.trans (y5.symm.trans k7)
      have e2 : vl (pstep M) = 0 := if_neg (pstep_7 (by rw [m16]; decide) e7)
      have e3 : vk (pstep M) = 0 := vk_perf (by rw [m16]; decide) e7
      have e4 : vk M = 7 := vk_1 m16 (fun z => by
        have z2 : pof (pcl1 M) (M 2 7) 0 = 14 := z
        rw [e7] at z2; exact absurd z2 (by decide))
      have := bstepc_111 (g := g) (R := R) (f := f) (C := C) (dp := D + 1)
      omega
    · have := bstepc_5 (g := g) (R := R) (f := f) (C := C) (dp := D + 1) (fun _ x' hx' => by
        obtain rfl : x = x' := Option.some.inj (hbl.symm.trans hx')
        exact k7)
      have := vl_le (pstep M)
      have := vk_le (pstep M)
      have := vk_5 m16
      omega
  · -- a node is to be seen
    have m16 : M 2 16 = 2 := hS.2.2.1
    obtain ⟨e, e1, -⟩ := CO.into hC hB hb0 hn0 hS.2.2.2.1 m16 h1 m5 ⟨h3, h6⟩ hS.2.1 hS.2.2.2.2
    refine fin (RN.expr hC hB hb0 hn0 h2 ⟨h3, h6⟩ hS) ?_
    obtain ⟨m, a1, a2, a3, a4, -⟩ := hS.2.2.2.1
    have a2 : M 2 17 = nI m := a2
    have a4 : R 17 4 = some (t.2.1 m) := a4
    have hN := hC.1.1
    have a1' : m < t.1 := a1
    have hN' : t.1 ≤ 65000 := hN
    obtain ⟨k, b1, b2, b3⟩ := hC.1.at a1 a3
    have b2 : M 1 (5 * m) = nI k := b2
    have hk : pkind M (M 2 17) = nI k := by rw [a2, pkind_n (by omega)]; exact b2
    have hf : f (t.2.1 m) 0 = sgn k := b3.1.2.2.1
    rw [bstepc_s a4]
    by_cases k2 : k < 2
    · have e0 : bintoc f (t.2.1 m) = 0 := by
        unfold bintoc
        rw [hf]
        have hs : k = 0 ∨ k = 1 := by omega
        rcases hs with rfl | rfl <;> rfl
      have := vl_le (pstep M)
      have := vk_leaf m16 (by
        rw [hk]
        have hs : k = 0 ∨ k = 1 := by omega
        rcases hs with rfl | rfl
        · exact Or.inl rfl
        · exact Or.inr rfl)
      omega
    · have e3 : vk (pstep M) ≤ 2 := vk_2 (pstep_k m16 (by rw [hk]; exact fun z => absurd ((nI_eq (b := 0) (by omega) (by decide)).mp z) (by omega)) (by rw [hk]; exact fun z => absurd ((nI_eq (b := 1) (by omega) (by decide)).mp z) (by omega)))
      have e2 : vl (pstep M) = 0 := if_neg (pstep_k m16 (by rw [hk]; exact fun z => absurd ((nI_eq (b := 0) (by omega) (by decide)).mp z) (by omega)) (by rw [hk]; exact fun z => absurd ((nI_eq (b := 1) (by omega) (by decide)).mp z) (by omega)))
      have := bintoc_5 f (t.2.1 m)
      omega
  · exact absurd (m5.symm.trans hS.1) (by decide)
  · exact absurd (m5.symm.trans hS.1) (by decide)
  · exact absurd (m5.symm.trans hS.1) (by decide)
  · exact absurd (m5.symm.trans hS.1) (by decide)
theorem RI.mono {b0 n0 b b' : Nat} {X : zCt} {R : zRf} {C : zI} (h : RI b0 n0 X R C b) (k : b ≤ b') : RI b0 n0 X R C b' := ⟨h.1, h.2.1, h.2.2.1, h.2.2.2.1.mono k, h.2.2.2.2.mono k⟩
/-- steps, as many as are asked for -/
theorem RI.run {b0 n0 c : Nat} {t : zTs} (hc : c + 27 ≤ n0) : ∀ (j b : Nat) (g : zG) (f M : zI) (y : zGs) (n : zNs) (R : zRf) (C : zI), RI b0 n0 (g, f, M, t, y, n) R C b → b + j ≤ 1000000000 →
    (brunV b0 c j (g, R, f, C) ∧ prunV j M) ∧ (brunc j (g, R, f, C) + vl (prunA j M) ≤ 56 * j + vl M ∧ 3 * brunk j (g, R, f, C) + vk (prunA j M) ≤ 5 * j + vk M) ∧ KF (g, R, f, C) (brun j (g, R, f, C)) ∧
    ∃ y' n', RI b0 n0 ((brun j (g, R, f, C)).1, (brun j (g, R, f, C)).2.2.1, prunA j M, t, y', n') (brun j (g, R, f, C)).2.1 (brun j (g, R, f, C)).2.2.2 (b + j) := by
  intro j
  induction j with
  | zero => intro b g f M y n R C h _; exact ⟨⟨trivial, trivial⟩, ⟨by show 0 + vl M ≤ _; omega, by show 3 * 0 + vk M ≤ _; omega⟩, KF.rf _, y, n, h⟩
  | succ j ih =>
    intro b g f M y n R C h hb
    have h2 : C 17 2 = M 2 5 := h.1.2.2.1
    by_cases q : C 17 2 = 1
    · have q' : M 2 5 = 1 := h2.symm.trans q
      obtain ⟨⟨a1, a2⟩, a3, y', n', a4⟩ := h.step (by omega) hc q
      obtain ⟨⟨b1, b2⟩, b3, b4, y2, n2, b5⟩ := ih (b + 1) _ _ _ _ _ _ _ a4 (by omega)
      have e1 : brun (j + 1) (g, R, f, C) = brun j (bstep g R f C bK (tn (C 19 1))) := if_pos q
      have e2 : prunA (j + 1) M = prunA j (pstep M) := if_pos q'
      have e3 : brunc (j + 1) (g, R, f, C) = bstepc g R f C (tn (C 19 1)) + brunc j (bstep g R f C bK (tn (C 19 1))) := if_pos q
      have e4 : brunk (j + 1) (g, R, f, C) = min 4 (bstepc g R f C (tn (C 19 1)) / 5) + brunk j (bstep g R f C bK (tn (C 19 1))) := if_pos q
      rw [e1, e2, e3, e4]
      refine ⟨⟨fun _ => ⟨a1, b1⟩, fun _ => ⟨a2, b2⟩⟩, ?_, KF.step.tr b4, y2, n2, ?_⟩
      · have b3' : brunc j (bstep g R f C bK (tn (C 19 1))) + vl (prunA j (pstep M)) ≤ 56 * j + vl (pstep M) := b3.1
        have b3k : 3 * brunk j (bstep g R f C bK (tn (C 19 1))) + vk (prunA j (pstep M)) ≤ 5 * j + vk (pstep M) := b3.2
        exact ⟨by omega, by omega⟩
      · rw [show b + (j + 1) = b + 1 + j by omega]; exact b5
    · have q' : ¬ M 2 5 = 1 := fun z => q (h2.trans z)
      have e1 : brun (j + 1) (g, R, f, C) = (g, R, f, C) := if_neg q
      have e2 : prunA (j + 1) M = M := if_neg q'
      have e3 : brunc (j + 1) (g, R, f, C) = 0 := if_neg q
      have e4 : brunk (j + 1) (g, R, f, C) = 0 := if_neg q
      rw [e1, e2, e3, e4]
      exact ⟨⟨fun z => absurd z q, fun z => absurd z q'⟩, ⟨by omega, by omega⟩, KF.rf _, y, n, h.mono (by omega)⟩
/-- what the reference's steps leave as it was -/
theorem MH.runA {b : Nat} {M : zI} : ∀ (j : Nat) (N : zI), MH b M N → MH (b + j) M (prunA j N) := by
  intro j
  induction j generalizing b with
  | zero => intro N h; exact h
  | succ j ih =>
    intro N h
    unfold prunA
    split
    · rw [show b + (j + 1) = b + 1 + j by omega]; exact ih _ h.step
    · exact h.mono (by omega)
