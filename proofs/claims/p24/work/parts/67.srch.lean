/-! The search for a pending finalizer, in both: the path; what bounds it. -/
/-- how often resumptions were used; the stamps; b bounds them -/
def US (X : zCt) (C : zI) (b : Nat) : Prop := b < 1000000000 ∧ (∀ r, r < nR X → ∃ u, u ≤ b ∧ (qM X) 2 (3630 + 3 * r + 2) = nI u) ∧
  (∃ s, s ≤ b ∧ (qM X) 0 27 = nI s ∧ ∀ r, r < 1000 → ∃ u, u ≤ s ∧ (qM X) 19 r = nI u) ∧ (∃ s, s ≤ b ∧ C 13 4 = nI s ∧ ∀ r, r < 1000 → ∃ u, u ≤ s ∧ C 16 r = nI u)
/-- the path of n resumptions: how many frames of each are left, and the next -/
def SS (X : zCt) (M C : zI) (R : zRf) (n : Nat) : Prop := C 13 2 = nI n ∧
  (∀ j, j < n → ∃ r q, r + j + 1 ≤ nR X ∧ q ≤ mZ X r ∧ R 14 j = some (rG X r) ∧ C 15 j = nI q ∧ M 18 j = nI q ∧ (1 ≤ q → M 17 j = nI (cI X r (q - 1)))) ∧
  ∀ r, r < nR X → (M 19 r = M 0 27 ↔ C 16 r = C 13 4)
/-- what the search leaves as it was -/
def SM (M0 M : zI) : Prop := (∀ k, k ≠ 0 → k ≠ 17 → k ≠ 18 → k ≠ 19 → M k = M0 k) ∧ ∀ j, j ≠ 27 → M 0 j = M0 0 j
def SC (C0 C : zI) : Prop := (∀ k, k ≠ 13 → k ≠ 15 → k ≠ 16 → C k = C0 k) ∧ ∀ j, j ≠ 2 → j ≠ 4 → C 13 j = C0 13 j
def sq (C : zI) : Nat → Nat
  | 0 => 0
  | j + 1 => sq C j + (tn (C 15 j) + 1)
def un (C : zI) : Nat → Nat
  | 0 => 0
  | k + 1 => un C k + (if C 16 k = C 13 4 then 0 else 102)
theorem sq_eq {C D : zI} : ∀ n, (∀ j, j < n → D 15 j = C 15 j) → sq D n = sq C n := by
  intro n
  induction n with
  | zero => intro _; rfl
  | succ n ih =>
    intro h
    show sq D n + (tn (D 15 n) + 1) = sq C n + (tn (C 15 n) + 1)
    rw [ih (fun j hj => h j (by omega)), h n (by omega)]
theorem un_eq {C D : zI} (h4 : D 13 4 = C 13 4) : ∀ n, (∀ j, j < n → D 16 j = C 16 j) → un D n = un C n := by
  intro n
  induction n with
  | zero => intro _; rfl
  | succ n ih =>
    intro h
    show un D n + (if D 16 n = D 13 4 then 0 else 102) = un C n + (if C 16 n = C 13 4 then 0 else 102)
    rw [ih (fun j hj => h j (by omega)), h n (by omega), h4]
theorem un_vis {C D : zI} {r : Nat} (h4 : D 13 4 = C 13 4) (hr : ¬ C 16 r = C 13 4) (hd : D 16 r = D 13 4) (ho : ∀ j, j ≠ r → D 16 j = C 16 j) : ∀ n, r < n → un D n + 102 = un C n := by
  intro n
  induction n with
  | zero => intro h; omega
  | succ n ih =>
    intro h
    show un D n + (if D 16 n = D 13 4 then 0 else 102) + 102 = un C n + (if C 16 n = C 13 4 then 0 else 102)
    by_cases e : r = n
    · subst e
      rw [if_pos hd, if_neg hr, un_eq h4 r (fun j hj => ho j (by omega))]
    · have := ih (by omega)
      rw [ho n (fun z => e z.symm), h4]
      omega
theorem un_le {C : zI} : ∀ n, un C n ≤ 102 * n := by
  intro n
  induction n with
  | zero => exact Nat.le_refl _
  | succ n ih =>
    show un C n + (if C 16 n = C 13 4 then 0 else 102) ≤ _
    split <;> omega
/-- the frame at the top of the path -/
theorem CO.top {b0 n0 c : Nat} {g : zG} {f M : zI} {t : zTs} {sg rg mz fi : Nat → Nat} {el : Nat → Nat → Prop} {ci : Nat → Nat → Nat} {d nv nr nf np : Nat} {R : zRf} {C : zI} (h : CO b0 n0 (g, f, M, t, (sg, el, rg, ci, mz, fi), (d, nv, nr, nf, np)) R C) (hc : c + 27 ≤ n0) {r q : Nat} (hr : r < nr) (hq : q < mz r) :
    ∃ a x, g.2.2.2 (rg r) 1 = some a ∧ ¬ (c ≤ a ∧ a < c + 27) ∧ g.2.2.1 a = mz r ∧ mz r ≤ 100 ∧ f (rg r) 0 = nI r ∧ g.2.2.2 a q = some x ∧ ci r q < np ∧ zIn b0 g x 2 ∧ (1 ≤ q → M 4 (7 * ci r q + 5) = nI (ci r (q - 1))) ∧
      ∃ κ, 1 ≤ κ ∧ κ ≤ 14 ∧ M 4 (7 * ci r q) = nI κ ∧ f x 0 = nI κ ∧ FK (g, f, M, t, (sg, el, rg, ci, mz, fi), (d, nv, nr, nf, np)) κ (ci r q) x ∧ (κ = 14 → ∃ r1, r1 < r ∧ M 4 (7 * ci r q + 4) = nI r1 ∧ g.2.2.2 x 4 = some (rg r1)) := by
  have hnr : nr ≤ 1000 := h.2.2.2.2.2.2.1
  obtain ⟨⟨s1, s2, s3, s4, s5, s6⟩, a, t1, t2, t3, t4, t5⟩ := h.2.2.1 r hr
  obtain ⟨x, z1, ⟨y1, y2, y3, κ, y4, y5, y6, y7, y8⟩, z3, z4⟩ := t5 q hq
  have t2 : n0 ≤ a := t2
  refine ⟨a, x, t1, by omega, t4, s4, s3, z1, y1, y3, z3, κ, y4, y5, y6, y7, y8, fun e => ?_⟩
  subst e
  obtain ⟨r1, u1, u2⟩ := z4 y6
  obtain ⟨r2, v1, v2, v3, -⟩ := y8.2.2.2 (Or.inr rfl)
  have v1 : r2 < nr := v1
  obtain rfl : r2 = r1 := (nI_eq (by omega) (by omega)).mp (v2.symm.trans u2)
  exact ⟨r2, u1, u2, v3⟩
