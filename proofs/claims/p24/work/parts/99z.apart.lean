/-! Two images lie apart. -/
section APART
variable {b0 n0 b i : Nat} {g : zG} {f M : zI} {t : zTs} {R : zRf}
theorem RA.apart {a a' : Nat} (h : RA b0 g a) (h' : RA b0 g a') (hn : a ≠ a') : a + 9 ≤ a' ∨ a' + 9 ≤ a := by
  obtain ⟨⟨a1, a2, a3, a4, a5, a6, a7, a8, a9⟩, -⟩ := h
  obtain ⟨⟨b1, b2, b3, b4, b5, b6, b7, b8, b9⟩, -⟩ := h'
  have t1 := a1.2.2
  have t2 := b1.2.2
  rcases Nat.lt_or_ge a a' with q | q
  · rcases Nat.lt_or_ge a' (a + 9) with z | z
    · have hs : a' = a + 1 ∨ a' = a + 2 ∨ a' = a + 3 ∨ a' = a + 4 ∨ a' = a + 5 ∨ a' = a + 6 ∨ a' = a + 7 ∨ a' = a + 8 := by omega
      rcases hs with rfl | rfl | rfl | rfl | rfl | rfl | rfl | rfl
      · have := a2.2.2; omega
      · have := a3.2.2; omega
      · have := a4.2.2; omega
      · have := a5.2.2; omega
      · have := a6.2.2; omega
      · have := a7.2.2; omega
      · have := a8.2.2; omega
      · have := a9.2.2; omega
    · exact Or.inl z
  · rcases Nat.lt_or_ge a (a' + 9) with z | z
    · have hs : a = a' + 1 ∨ a = a' + 2 ∨ a = a' + 3 ∨ a = a' + 4 ∨ a = a' + 5 ∨ a = a' + 6 ∨ a = a' + 7 ∨ a = a' + 8 := by omega
      rcases hs with rfl | rfl | rfl | rfl | rfl | rfl | rfl | rfl
      · have := b2.2.2; omega
      · have := b3.2.2; omega
      · have := b4.2.2; omega
      · have := b5.2.2; omega
      · have := b6.2.2; omega
      · have := b7.2.2; omega
      · have := b8.2.2; omega
      · have := b9.2.2; omega
    · exact Or.inr z
theorem IMG.some {a : Nat} (h : IMG b0 n0 g f M t R b i) (ha : R 26 i = some a) : RA b0 g a ∧ n0 ≤ a := by
  rcases h with z | ⟨a', z1, z2, z3, -⟩
  · rw [z] at ha; cases ha
  · obtain rfl : a' = a := Option.some.inj (z1.symm.trans ha)
    exact ⟨z2, z3⟩
end APART
