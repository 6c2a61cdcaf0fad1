/-! The trees after a text: the old ones and the new. -/
section JOIN
variable {b0 n0 : Nat} {g G : zG} {f F : zI} {R R' : zRf} {C C' M N : zI} {t t' : zTs} {m : Nat}
/-- the old nodes' expressions, among more nodes -/
theorem EN.more {T T' : Nat → Int32} {k n : Nat} (h : EN b0 n0 g f T t k n) (hk : T (5 * n) = nI k) (hk2 : k ≤ 15) (hn : n < t.1) (hu : t.1 ≤ 65536) (htt : t.1 ≤ t'.1) (hT : ∀ j, j < 5 * t.1 → T' j = T j) (ho : ∀ i, i < t.1 → t'.2.1 i = t.2.1 i ∧ t'.2.2.1 i = t.2.2.1 i ∧ t'.2.2.2 i = t.2.2.2 i) : EN b0 n0 g f T' t' k n := by
  have hA : AG b0 0 t.1 (fun _ => True) g f T t g f T' t' := ⟨zLe.rf, fun _ _ _ _ => ⟨fun _ => ⟨rfl, rfl⟩, fun _ => ⟨rfl, rfl⟩⟩, fun i _ hi => hT _ (by omega), fun i _ hi _ j hj => hT _ (by omega), fun i _ hi _ _ j hj => hT _ (by omega), fun i _ hi => ho i hi, hu⟩
  exact EN.fr (ub := t.1) (ub' := t'.1) (fs := 0) h hk hk2 hA (Nat.zero_le _) hn trivial htt (fun q => by
    obtain ⟨-, h', d2, d3, -⟩ := h.2.2.2.1 q
    exact ⟨h', Nat.zero_le _, d2, d3⟩)
theorem KB.mv {S T : bSt} (h : KB S T) : zLe S.1 T.1 ∧ ZZ n0 S.1 (fun _ => False) ∧ ∀ y, n0 ≤ y → y < S.1.1 → ¬ False → T.1.2.2.2 y = S.1.2.2.2 y ∧ (S.1.2.1 y ≠ 1 → T.2.2.1 y = S.2.2.1 y) ∧ ∀ k, k < 8 → T.2.2.1 y k = S.2.2.1 y k :=
  ⟨h.1.1, ZZ.non n0 _, fun y _ hy _ => ⟨(h.1.2 y hy).1, fun _ => (h.1.2 y hy).2, fun k _ => by rw [(h.1.2 y hy).2]⟩⟩
theorem TR.join (hT : TR b0 n0 g f (M 1) t) (hx : zLe g G ∧ ZZ n0 g (fun _ => False) ∧ ∀ y, n0 ≤ y → y < g.1 → ¬ False → G.2.2.2 y = g.2.2.2 y ∧ (g.2.1 y ≠ 1 → F y = f y) ∧ ∀ k, k < 8 → F y k = f y k) (hN : ∀ j, j < 5 * t.1 → N 1 j = M 1 j) (htt : t.1 ≤ t'.1 ∧ t'.1 ≤ 65000) (ho : ∀ i, i < t.1 → t'.2.1 i = t.2.1 i ∧ t'.2.2.1 i = t.2.2.1 i ∧ t'.2.2.2 i = t.2.2.2 i)
    (hnew : ∀ n, t.1 ≤ n → n < t'.1 → N 1 (5 * n) = nI 16 ∨ ∃ k, k ≤ 15 ∧ N 1 (5 * n) = nI k ∧ EN b0 n0 G F (N 1) t' k n) : TR b0 n0 G F (N 1) t' := by
  have h1 := hT.mv hx
  refine ⟨htt.2, fun n hn => ?_⟩
  by_cases q : n < t.1
  · rcases h1.2 n q with h | ⟨k, k1, k2, k3⟩
    · exact Or.inl ((hN _ (by omega)).trans h)
    · exact Or.inr ⟨k, k1, (hN _ (by omega)).trans k2, k3.more k2 k1 q (by have := hT.1; omega) htt.1 hN ho⟩
  · exact hnew n (by omega) hn
end JOIN
