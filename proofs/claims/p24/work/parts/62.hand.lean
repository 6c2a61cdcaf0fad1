/-! A run's step from a value: the search for a handler. -/
theorem EN.eok {b0 n0 c : Nat} {g : zG} {f : zI} {T : Nat → Int32} {t : zTs} {k n : Nat} (h : EN b0 n0 g f T t k n) (hc : c + 27 ≤ n0) : eOK g c (t.2.1 n) := by
  have h1 := h.1.1
  by_cases hk : k = 15
  · obtain ⟨⟨e5, e6, -, -, l5, l6⟩, -⟩ := h.2.2.2.2.2 hk
    refine ⟨fun b hb => ?_, fun b hb => ?_⟩
    · obtain rfl : t.2.1 n + 1 = b := Option.some.inj (e5.symm.trans hb)
      exact ⟨l5, by omega⟩
    · obtain rfl : t.2.1 n + 2 = b := Option.some.inj (e6.symm.trans hb)
      exact ⟨l6, by omega⟩
  · obtain ⟨e5, e6⟩ := h.2.2.2.2.1 hk
    exact ⟨fun b hb => absurd (e5.symm.trans hb) (fun z => by cases z), fun b hb => absurd (e6.symm.trans hb) (fun z => by cases z)⟩
/-- a frame with a node, as the search sees it -/
theorem FK.node {b0 n0 : Nat} {X : zCt} {κ i x : Nat} (hT : TR b0 n0 (qg X) (qf X) ((qM X) 1) (qt X)) (h : FK X κ i x) (hi : i < 40000) (hκ : κ ≤ 12) (h2 : ¬ κ = 2) : ∃ n k, n < (qt X).1 ∧ n < 65000 ∧ pof (qM X) (nI i) 1 = nI n ∧ (qg X).2.2.2 x 1 = some ((qt X).2.1 n) ∧ k ≤ 15 ∧ EN b0 n0 (qg X) (qf X) ((qM X) 1) (qt X) k n ∧ κ = frk k ∧
    XR X ((qM X) 4 (7 * i + 2)) ((qM X) 4 (7 * i + 3)) ((qg X).2.2.2 x 2) ∧ CV X n ((qM X) 4 (7 * i + 2)) ((qM X) 4 (7 * i + 3)) := by
  have hN := hT.1
  obtain ⟨n, k, n1, n2, n3, n4, n5, n6, n7⟩ := h.1 hκ
  have n1 : n < (qt X).1 := n1
  obtain ⟨k', a1, a2, a3⟩ := hT.at n1 (fun e => absurd ((nI_eq (by omega) (by decide)).mp (n5.symm.trans e)) (by omega))
  obtain rfl : k' = k := (nI_eq (by omega) (by omega)).mp (a2.symm.trans n5)
  exact ⟨n, k', n1, by omega, (pof_n (k := 1) (by omega) (by decide)).trans n2, n3, n4, a3, n6.resolve_right (fun q => h2 q.1), n7 h2⟩
set_option maxHeartbeats 1000000 in
/-- the handler, in both -/
theorem CO.hand {b0 n0 c : Nat} {g : zG} {f M : zI} {t : zTs} {sg rg mz fi : Nat → Nat} {el : Nat → Nat → Prop} {ci : Nat → Nat → Nat} {d nv nr nf np : Nat} {R : zRf} {C : zI} (h : CO b0 n0 (g, f, M, t, (sg, el, rg, ci, mz, fi), (d, nv, nr, nf, np)) R C) (hc : c + 27 ≤ n0) {a0 : Nat} (ha : a0 < 6) :
    ∀ j, j ≤ d → ∀ k, j < k → ∀ m, phV M k (if j = 0 then -9 else nI (fi (j - 1))) ∧ bphV g f c (R 20) j ∧
      ((bphA g f (R 20) (nI a0) j m = -1 ∧ (phA M (nI a0) k m (if j = 0 then -9 else nI (fi (j - 1))) (nI (d - j))).1 = -9) ∨
        ∃ p x, p < j ∧ bphA g f (R 20) (nI a0) j m = nI p ∧ phA M (nI a0) k m (if j = 0 then -9 else nI (fi (j - 1))) (nI (d - j)) = (nI (fi p), nI (d - 1 - p)) ∧ R 20 p = some x ∧ zIn b0 g x 2 ∧ fi p < np ∧ FK (g, f, M, t, (sg, el, rg, ci, mz, fi), (d, nv, nr, nf, np)) 12 (fi p) x ∧
          ¬ pclause M (pof M (nI (fi p)) 1) (nI a0) = -9 ∧ M 4 (7 * fi p + 5) = (if p = 0 then -9 else nI (fi (p - 1)))) := by
  have hb := h.2.2.2.2.2
  have hN : t.1 ≤ 65000 := h.1.1
  have hnp : np ≤ 39800 := hb.2.2.2
  intro j
  induction j with
  | zero =>
    intro _ k hk m
    obtain ⟨k, rfl⟩ : ∃ k', k = k' + 1 := ⟨k - 1, by omega⟩
    exact ⟨Or.inl rfl, fun q hq => absurd hq (Nat.not_lt_zero q), Or.inl ⟨rfl, rfl⟩⟩
  | succ j ih =>
    intro hj k hk m
    obtain ⟨k, rfl⟩ : ∃ k', k = k' + 1 := ⟨k - 1, by omega⟩
    obtain ⟨x, x1, ⟨y1, y2, y3, κ, y4, y5, y6, y7, y8⟩, x3, x4⟩ := h.2.2.2.1.2.2 j (by show j < d; omega)
    have y1 : fi j < np := y1
    have x1 : R 20 j = some x := x1
    have y7 : f x 0 = nI κ := y7
    have x4 : M 4 (7 * fi j + 5) = (if j = 0 then -9 else nI (fi (j - 1))) := x4
    have hgd : (R 20 j).getD 0 = x := by rw [x1]; rfl
    have hif : (if j + 1 = 0 then (-9 : Int32) else nI (fi (j + 1 - 1))) = nI (fi j) := if_neg (by omega)
    rw [hif]
    have h9 : ¬ nI (fi j) = -9 := (iv_nI (N := 40000) (by omega) (by decide)).nn (by decide)
    have p0 : pof M (nI (fi j)) 0 = nI κ := (pof_n (k := 0) (by omega) (by decide)).trans y6
    have p5 : pof M (nI (fi j)) 5 = (if j = 0 then -9 else nI (fi (j - 1))) := (pof_n (k := 5) (by omega) (by decide)).trans x4
    have hs1 : nI (d - (j + 1)) + 1 = nI (d - j) := (ixA rfl (ixC 1)).trans (congrArg nI (by omega))
    have ihk := ih (by omega) k (by omega)
    have ke : ∀ q, q < 100 → (nI κ = nI q ↔ κ = q) := fun q hq => nI_eq (by omega) (by omega)
    -- what the frame of a mask or a handler has
    have hnode : κ = 8 ∨ κ = 12 → ∃ n k', n < t.1 ∧ n < 65000 ∧ pof M (nI (fi j)) 1 = nI n ∧ g.2.2.2 x 1 = some (t.2.1 n) ∧ k' ≤ 15 ∧ EN b0 n0 g f (M 1) t k' n ∧ κ = frk k' := by
      intro hκ
      obtain ⟨n, k', a1, a2, a3, a4, a5, a6, a7, -, -⟩ := FK.node (b0 := b0) (n0 := n0) h.1 y8 (by omega) (by omega) (by omega)
      exact ⟨n, k', a1, a2, a3, a4, a5, a6, a7⟩
    have hV : bphV g f c (R 20) (j + 1) := by
      intro q hq
      by_cases e : q = j
      · subst e
        refine ⟨by rw [hgd]; exact x1, fun hk8 => ?_⟩
        rw [hgd, y7] at hk8
        obtain ⟨n, k', a1, a2, a3, a4, a5, a6, a7⟩ := hnode (hk8.imp (ke 8 (by decide)).mp (ke 12 (by decide)).mp)
        rw [hgd, pA_eq a4]
        exact ⟨a4, a6.eok hc⟩
      · exact (ihk m).2.1 q (by omega)
    refine ⟨?_, hV, ?_⟩
    · refine Or.inr ⟨iv_nI (by omega) (by decide), fun q => ?_, fun q => ?_, by rw [p5]; exact (ihk m).1⟩
      · obtain ⟨n, k', a1, a2, a3, -⟩ := hnode (Or.inl ((ke 8 (by decide)).mp (p0.symm.trans q)))
        rw [a3]; exact iv_nI a2 (by decide)
      · have h12 := (ke 12 (by decide)).mp (p0.symm.trans q)
        obtain ⟨n, k', a1, a2, a3, a4, a5, a6, a7⟩ := hnode (Or.inr h12)
        obtain rfl : k' = 15 := (show ∀ k, k < 16 → 12 = frk k → k = 15 by decide) k' (by omega) (h12.symm.trans a7)
        rw [a3]
        exact ⟨iv_nI a2 (by decide), (HN.clause (w := 0) (a6.2.2.2.2.2 rfl) hN a1 (by decide)).1⟩
    · have hB : bphA g f (R 20) (nI a0) (j + 1) m = (if f x 0 = 8 ∧ f (pA g x 1) 1 = nI a0 then bphA g f (R 20) (nI a0) j (m + 1) else if f x 0 = 12 ∧ ¬ bclause g (pA g x 1) (nI a0) = none then (if m = 0 then nI j else bphA g f (R 20) (nI a0) j (m + -1)) else bphA g f (R 20) (nI a0) j m) := by
        show (if f ((R 20 j).getD 0) 0 = 8 ∧ f (pA g ((R 20 j).getD 0) 1) 1 = nI a0 then _ else _) = _
        rw [hgd]
      have hP : phA M (nI a0) (k + 1) m (nI (fi j)) (nI (d - (j + 1))) = (if pof M (nI (fi j)) 0 = 12 ∧ ¬ pclause M (pof M (nI (fi j)) 1) (nI a0) = -9 then (if pmk M (nI a0) (nI (fi j)) m = 0 then (nI (fi j), nI (d - (j + 1))) else phA M (nI a0) k (pmk M (nI a0) (nI (fi j)) m + -1) (pof M (nI (fi j)) 5) (nI (d - (j + 1)) + 1)) else phA M (nI a0) k (pmk M (nI a0) (nI (fi j)) m) (pof M (nI (fi j)) 5) (nI (d - (j + 1)) + 1)) := if_neg h9
      rw [hB, hP, p5, hs1, p0, y7]
      have up : ∀ m', ((bphA g f (R 20) (nI a0) j m' = -1 ∧ (phA M (nI a0) k m' (if j = 0 then -9 else nI (fi (j - 1))) (nI (d - j))).1 = -9) ∨
          ∃ p x, p < j + 1 ∧ bphA g f (R 20) (nI a0) j m' = nI p ∧ phA M (nI a0) k m' (if j = 0 then -9 else nI (fi (j - 1))) (nI (d - j)) = (nI (fi p), nI (d - 1 - p)) ∧ R 20 p = some x ∧ zIn b0 g x 2 ∧ fi p < np ∧ FK (g, f, M, t, (sg, el, rg, ci, mz, fi), (d, nv, nr, nf, np)) 12 (fi p) x ∧
            ¬ pclause M (pof M (nI (fi p)) 1) (nI a0) = -9 ∧ M 4 (7 * fi p + 5) = (if p = 0 then -9 else nI (fi (p - 1)))) := fun m' => (ihk m').2.2.imp id (fun ⟨p, x, q1, q2⟩ => ⟨p, x, by omega, q2⟩)
      by_cases k8 : κ = 8
      · subst k8
        obtain ⟨n, k', a1, a2, a3, a4, a5, a6, a7⟩ := hnode (Or.inl rfl)
        obtain rfl : k' = 11 := (show ∀ k, k < 16 → 8 = frk k → k = 11 by decide) k' (by omega) a7
        have hfa : f (t.2.1 n) 1 = M 1 (5 * n + 1) := a6.1.2.2.2 (Or.inr (Or.inr (Or.inr (Or.inr (Or.inl rfl)))))
        rw [if_neg (fun q : nI 8 = 12 ∧ _ => absurd q.1 (by decide)), if_neg (fun q : nI 8 = 12 ∧ _ => absurd q.1 (by decide)), pA_eq a4, hfa]
        unfold pmk
        rw [p0, a3, parg_n (by omega)]
        by_cases q : M 1 (5 * n + 1) = nI a0
        · rw [if_pos ⟨rfl, q⟩, if_pos ⟨rfl, q⟩]; exact up _
        · rw [if_neg (fun z => q z.2), if_neg (fun z => q z.2)]; exact up _
      · have e8 : ¬ nI κ = 8 := fun q => k8 ((ke 8 (by decide)).mp q)
        have hpm : pmk M (nI a0) (nI (fi j)) m = m := if_neg (fun q => e8 (p0.symm.trans q.1))
        rw [if_neg (fun q => e8 q.1), hpm]
        by_cases k12 : κ = 12
        · subst k12
          obtain ⟨n, k', a1, a2, a3, a4, a5, a6, a7⟩ := hnode (Or.inr rfl)
          obtain rfl : k' = 15 := (show ∀ k, k < 16 → 12 = frk k → k = 15 by decide) k' (by omega) a7
          rw [pA_eq a4, a3]
          rcases (HN.clause (w := a0) (a6.2.2.2.2.2 rfl) hN a1 (by omega)).2 with ⟨q1, q2⟩ | ⟨q0, v0, b, q1, q2, q3, r1, r2, r3, r4, r5, r6, r7, -⟩
          · rw [if_neg (fun z => z.2 q2), if_neg (fun z => z.2 q1)]; exact up _
          · have n9 : ¬ pclause M (nI n) (nI a0) = -9 := by rw [q3]; exact (iv_nI (N := 65000) (by omega) (by decide)).nn (by decide)
            rw [if_pos (show nI 12 = 12 ∧ ¬ bclause g (t.2.1 n) (nI a0) = none from ⟨rfl, by rw [r7]; exact fun z => by cases z⟩), if_pos (show nI 12 = 12 ∧ ¬ pclause M (nI n) (nI a0) = -9 from ⟨rfl, n9⟩)]
            by_cases m0 : m = 0
            · rw [if_pos m0, if_pos m0]
              exact Or.inr ⟨j, x, Nat.lt_succ_self _, rfl, by rw [show d - (j + 1) = d - 1 - j by omega], x1, y3, y1, y8, by rw [a3]; exact n9, x4⟩
            · rw [if_neg m0, if_neg m0]; exact up _
        · have e12 : ¬ nI κ = 12 := fun q => k12 ((ke 12 (by decide)).mp q)
          rw [if_neg (fun q => e12 q.1), if_neg (fun q => e12 q.1)]; exact up _
