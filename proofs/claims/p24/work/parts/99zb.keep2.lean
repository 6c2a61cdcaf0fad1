/-! keep, in both: a slot that was kept before. -/
section KEEPD
variable {b0 n0 c k : Nat} {g : zG} {f M : zI} {t : zTs} {y : zGs} {n : zNs} {R : zRf} {C : zI}
theorem IMG.mono {b b' i : Nat} (h : IMG b0 n0 g f M t R b i) (hb : b ≤ b') : IMG b0 n0 g f M t R b' i := by
  rcases h with z | ⟨a, z1, z2, z3, y', n', z4, z5⟩
  · exact Or.inl z
  · exact Or.inr ⟨a, z1, z2, z3, y', n', z4.mono hb, z5⟩
theorem WR.keepT {i a : Nat} (hW : CW b0 g c) (hF : CF c R) (h : WR b0 n0 c k (g, R, f, C) M t y n) (hk : 120 * k ≤ 64800) (hi : i < 2) (hRi : R 26 i = some a) : (RA b0 g a ∧ c + 27 ≤ a) ∧ (n.1 ≤ 100 ∧ C 19 1 = nI n.1 ∧ iv 1001 (C 21 1) ∧ iv 1001 (C 21 5) ∧ M 2 21 = nI n.2.2.2.2 ∧ n.2.2.2.2 ≤ 39800) ∧ (bkeep c g R f C (nI i) n.1).2 = (pkeep M (nI i)).1 ∧ WR b0 n0 c (k + 1) (bkeep c g R f C (nI i) n.1).1 (pkeep M (nI i)).2 t y n := by
  obtain ⟨⟨⟨w1, w2, w3⟩, w4, w5⟩, ⟨hTX, v3, v4⟩, ⟨⟨u1, u2⟩, u3⟩, ⟨q1, q2, q3⟩, ⟨⟨i1, i2⟩, i3, i4, i5⟩, hbd⟩ := h
  have u2 : t.1 ≤ 120 * k := u2
  have i3 : M 0 4 = FB R := i3
  have hb : 201 * k ≤ 201 * (k + 1) := by omega
  have hpx : ¬ (nI i < 0 ∨ 1 < nI i) := by
    have z : i = 0 ∨ i = 1 := by omega
    rcases z with rfl | rfl <;> decide
  have hpx2 : ¬ nI i < 0 ∧ nI i < 2 := ⟨nI_pos (by omega), nI_lt (b := 2) hi (by decide)⟩
  have htn : tn (nI i) = i := tn_nI (by omega)
  have hsel : (IMG b0 n0 g f M t R (201 * k) i ∧ IMB b0 n0 g f M t R i) ∧ IMG b0 n0 g f M t R (201 * k) (1 - i) ∧ IMB b0 n0 g f M t R (1 - i) := by
    have z : i = 0 ∨ i = 1 := by omega
    rcases z with rfl | rfl
    · exact ⟨⟨i1, i4⟩, i2, i5⟩
    · exact ⟨⟨i2, i5⟩, i1, i4⟩
  obtain ⟨⟨hI, hB⟩, hI', hB'⟩ := hsel
  obtain ⟨ra, ha⟩ := hI.some hRi
  have hU : UC (201 * (k + 1)) (iC f a) := by
    rcases hI with z | ⟨a', z1, -, -, y', n', z4, -⟩
    · rw [z] at hRi; cases hRi
    · obtain rfl : a' = a := Option.some.inj (z1.symm.trans hRi)
      exact UC.mono z4.2.2.1 hb
  have h4 : (pkeep M (nI i)).2 0 4 = FB R := by
    unfold pkeep
    rw [if_neg hpx]
    show zup (pkeep2 M (nI i)) 0 4 (M 0 4 ||| 1 <<< (nI i &&& 31)) 0 4 = FB R
    rw [zup_at, i3]
    exact (FB_bit (R := R) hi).2.2 (by rw [hRi]; exact fun z => by cases z)
  obtain ⟨r1, r2⟩ := WR.keepA hW hF w1 w2 w3 w4 w5 hTX v3 v4 u1 (by omega) (by omega) u3 (RQ.mono q1 hb) q2 (GL.mono q3 hb) hi hRi ra ha hU (hI'.mono hb) (fun a' ha' => ⟨fun z => (hB a hRi).1 (by rw [ha', z]), (hB' a' ha').2⟩) hbd (by omega) h4
  have eb : bkeep c g R f C (nI i) n.1 = ((kpG c g R a n.1, R, kpF c g R f C a n.1, C), C 17 2) := bkeep_t (bkp1_s (by rw [htn]; exact hRi)) hpx2
  refine ⟨⟨ra, by omega⟩, r1, ?_, by rw [eb]; exact r2⟩
  rw [eb]
  unfold pkeep
  rw [if_neg hpx]
  exact q1.base.2.2.1
end KEEPD
