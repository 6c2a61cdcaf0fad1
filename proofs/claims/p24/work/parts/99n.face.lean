/-! What is defined changes, the run goes on. -/
section FACE
variable {b0 n0 b b' : Nat} {Z : Nat → Prop} {g G : zG} {f F M N : zI} {t t' : zTs} {y : zGs} {n : zNs} {R R' : zRf} {C C' : zI}
def CCg (M N C C' : zI) (R R' : zRf) : Prop := (∀ j, 5 ≤ j → j < 24 → N 2 j = M 2 j) ∧ (C' 17 2 = C 17 2 ∧ C' 17 3 = C 17 3 ∧ C' 17 6 = C 17 6 ∧ C' 17 7 = C 17 7) ∧ (R' 17 4 = R 17 4 ∧ R' 17 5 = R 17 5) ∧ R' 17 0 = R 17 0
set_option maxHeartbeats 1000000 in
theorem RN.mv2 (h : RN b0 n0 (g, f, M, t, y, n) R C) (hE : EXh n0 Z g f M t G F N t' n.2.2.2.2) (hT : TR b0 n0 G F (N 1) t') (hR : ∀ p, p < n.1 → R' 20 p = R 20 p) (hC : CCc n M N C C') (hF : CCg M N C C' R R') (hB : BO b0 n0 (G, F, N, t', y, n) R') : RN b0 n0 (G, F, N, t', y, n) R' C' := by
  obtain ⟨h1, h2, h3, st, s1, s2, s3, hS⟩ := h
  obtain ⟨w, ⟨z2, z3, z6, z7⟩, ⟨r4, r5⟩, r0⟩ := hF
  have hI := h1.IN2
  refine ⟨h1.mv hE hT hR hC, hB, z2.trans (h3.trans (w 5 (by omega) (by omega)).symm), st, s1, z3.trans s2, (w 6 (by omega) (by omega)).trans s3, ?_⟩
  rcases hS with hS | hS | hS | hS | hS | hS
  · obtain ⟨a1, a2, a3, a4, a5, a6, a7⟩ := hS
    refine Or.inl ⟨(w 5 (by omega) (by omega)).trans a1, a2, (w 16 (by omega) (by omega)).trans a3, a4, r4.trans a5, z6.trans (a6.trans (w 20 (by omega) (by omega)).symm), a7.imp id ?_⟩
    rintro ⟨p1, p2, p3⟩
    have p2 : n.1 = 1 := p2
    have hlt : y.2.2.2.2.2 0 < n.2.2.2.2 := by
      obtain ⟨x, -, x2, -⟩ := h1.2.2.2.1.2.2 0 (by show 0 < n.1; omega)
      exact x2.1
    exact ⟨p1, p2, (hE.2.1 (7 * y.2.2.2.2.2 0) (by omega)).trans p3⟩
  · obtain ⟨a1, a2, a3, a4, a5⟩ := hS
    exact Or.inr (Or.inl ⟨(w 5 (by omega) (by omega)).trans a1, a2, (w 16 (by omega) (by omega)).trans a3, a4.mv hE hI ⟨w 17 (by omega) (by omega), w 18 (by omega) (by omega), w 19 (by omega) (by omega)⟩ r4 r5, a5⟩)
  · obtain ⟨a1, a2, a3, a4, a5⟩ := hS
    exact Or.inr (Or.inr (Or.inl ⟨(w 5 (by omega) (by omega)).trans a1, (w 16 (by omega) (by omega)).trans a2, a3, r4.trans a4, z6.trans (a5.trans (w 20 (by omega) (by omega)).symm)⟩))
  · obtain ⟨a1, a2, a3, a4, a5, ⟨a, a6, a7⟩, a8⟩ := hS
    exact Or.inr (Or.inr (Or.inr (Or.inl ⟨(w 5 (by omega) (by omega)).trans a1, (w 16 (by omega) (by omega)).trans a2, r4.trans a3, z6.trans (a4.trans (w 20 (by omega) (by omega)).symm), z7.trans (a5.trans (w 15 (by omega) (by omega)).symm), ⟨a, a6, (w 15 (by omega) (by omega)).trans a7⟩, a8⟩)))
  · exact Or.inr (Or.inr (Or.inr (Or.inr (Or.inl ⟨(w 5 (by omega) (by omega)).trans hS.1, (w 16 (by omega) (by omega)).trans hS.2⟩))))
  · exact Or.inr (Or.inr (Or.inr (Or.inr (Or.inr ⟨(w 5 (by omega) (by omega)).trans hS.1, (w 16 (by omega) (by omega)).trans hS.2⟩))))
theorem RQ.mv2 (h : RQ b0 n0 (g, f, M, t, y, n) R C b) (hE : EXh n0 Z g f M t G F N t' n.2.2.2.2) (hT : TR b0 n0 G F (N 1) t') (hR : ∀ p, p < n.1 → R' 20 p = R 20 p) (hC : CCc n M N C C') (hF : CCg M N C C' R R') (hB : BO b0 n0 (G, F, N, t', y, n) R') (hU : UC b' C') : RQ b0 n0 (G, F, N, t', y, n) R' C' b' := by
  refine ⟨?_, dm_of h.2.1 hC.1.1 hC.1.2.1, hU, ?_⟩
  · rcases h.1 with h | ⟨h1, h2, ⟨h3, h4⟩, ⟨h5, h6⟩, h7, h8⟩
    · exact Or.inl (h.mv2 hE hT hR hC hF hB)
    · exact Or.inr ⟨h1.mv hE hT hR hC, hB, ⟨hF.2.1.1.trans h3, (hF.1 5 (by omega) (by omega)).trans h4⟩, ⟨hF.2.1.2.1.trans h5, (hF.1 6 (by omega) (by omega)).trans h6⟩, h7, hF.2.2.2.trans h8⟩
  · have h := h.2.2.2
    rcases h with h | h
    · exact Or.inl ((hF.1 5 (by omega) (by omega)).trans h)
    · exact Or.inr ((hF.1 15 (by omega) (by omega)).trans h)
end FACE
