/-! Both objects, new. -/
theorem pi_r {r j : Nat} (hr : r ≠ 2) : pinit r j = 0 := by
  unfold pinit
  rw [zup_r hr]
  unfold pbegin
  try dsimp only
  rw [zup_r hr, zup_r hr, zup_r hr, zup_r hr, zup_r hr, zup_r hr, zup_r hr]
  refine (if_neg (fun z => hr z.1)).trans ?_
  unfold pini0
  rw [zup_r hr, zup_r hr, zup_r hr, zup_r hr, zup_r hr]
theorem pini0_lo {j : Nat} (hj : j < 5) : pini0 2 j = -9 := by
  have hs : j = 0 ∨ j = 1 ∨ j = 2 ∨ j = 3 ∨ j = 4 := by omega
  unfold pini0
  rcases hs with rfl | rfl | rfl | rfl | rfl <;> simp [zup]
theorem pini0_hi {j : Nat} (hj : 5 ≤ j) : pini0 2 j = 0 := by
  unfold pini0
  rw [zup_ne _ _ _ _ (by omega), zup_ne _ _ _ _ (by omega), zup_ne _ _ _ _ (by omega), zup_ne _ _ _ _ (by omega), zup_ne _ _ _ _ (by omega)]
theorem pi_lo {j : Nat} (hj : j < 5) : pinit 2 j = -9 := by
  unfold pinit
  rw [zup_ne _ _ _ _ (by omega)]
  unfold pbegin
  try dsimp only
  rw [zup_ne _ _ _ _ (by omega), zup_ne _ _ _ _ (by omega), zup_ne _ _ _ _ (by omega), zup_ne _ _ _ _ (by omega), zup_ne _ _ _ _ (by omega), zup_ne _ _ _ _ (by omega), zup_ne _ _ _ _ (by omega)]
  exact (if_neg (by omega)).trans (pini0_lo hj)
theorem pi_hi {j : Nat} (hj : 5 ≤ j) (a7 : j ≠ 7) (a15 : j ≠ 15) (a16 : j ≠ 16) (a17 : j ≠ 17) (a18 : j ≠ 18) (a19 : j ≠ 19) : pinit 2 j = 0 := by
  by_cases a5 : j = 5
  · subst a5
    unfold pinit
    exact zup_at _ _ _ _
  · unfold pinit
    rw [zup_ne _ _ _ _ (Or.inr a5)]
    unfold pbegin
    try dsimp only
    rw [zup_ne _ _ _ _ (Or.inr a19), zup_ne _ _ _ _ (Or.inr a18), zup_ne _ _ _ _ (Or.inr a17), zup_ne _ _ _ _ (Or.inr a16), zup_ne _ _ _ _ (Or.inr a15), zup_ne _ _ _ _ (Or.inr a7), zup_ne _ _ _ _ (Or.inr a5)]
    by_cases q : j < 30
    · exact if_pos ⟨rfl, hj, q⟩
    · exact (if_neg (by omega)).trans (pini0_hi hj)
theorem pi_h (j : Nat) (h : 5 ≤ j ∧ j ≠ 7 ∧ j ≠ 15 ∧ j ≠ 16 ∧ j ≠ 17 ∧ j ≠ 18 ∧ j ≠ 19) : pinit 2 j = 0 := pi_hi h.1 h.2.1 h.2.2.1 h.2.2.2.1 h.2.2.2.2.1 h.2.2.2.2.2.1 h.2.2.2.2.2.2
theorem pi_7 : pinit 2 7 = -9 := by
  unfold pinit
  rw [zup_ne _ _ _ _ (by omega)]
  unfold pbegin
  try dsimp only
  rw [zup_ne _ _ _ _ (by omega), zup_ne _ _ _ _ (by omega), zup_ne _ _ _ _ (by omega), zup_ne _ _ _ _ (by omega), zup_ne _ _ _ _ (by omega), zup_at]
theorem pi_15 : pinit 2 15 = -9 := by
  unfold pinit
  rw [zup_ne _ _ _ _ (by omega)]
  unfold pbegin
  try dsimp only
  rw [zup_ne _ _ _ _ (by omega), zup_ne _ _ _ _ (by omega), zup_ne _ _ _ _ (by omega), zup_ne _ _ _ _ (by omega), zup_at]
def t00 : zTs := (0, fun _ => 0, fun _ _ => False, fun _ => False)
def y00 : zGs := (fun _ => 0, fun _ _ => False, fun _ => 0, fun _ _ => 0, fun _ => 0, fun _ => 0)
def n00 : zNs := (0, 0, 0, 0, 0)
theorem WR0 {b0 n0 c : Nat} {g : zG} {f C : zI} {R : zRf} (hn : n0 = g.1) (hb : b0 ≤ g.1) (hc : c + 27 ≤ n0) (ht : ∀ x, b0 ≤ x → x < g.1 → g.2.1 x ≠ 1) (h8 : R 8 0 = none) (h17 : R 17 0 = none) (h18 : ∀ p, p < 4 → R 18 p = none) (h26 : ∀ i, i < 2 → R 26 i = none) (hC : ∀ j k, j < 27 → C j k = 0) : WR b0 n0 c 0 (g, R, f, C) pinit t00 y00 n00 := by
  have hT : TR b0 n0 g f (pinit 1) t00 := ⟨Nat.zero_le _, fun n h => absurd h (Nat.not_lt_zero n)⟩
  have hCN : CN (g, f, pinit, t00, y00, n00) C := by
    refine ⟨⟨hC 19 1 (by decide), (hC 19 2 (by decide)).trans (pi_h 8 (by decide)).symm⟩, pi_h 22 (by decide), ⟨pi_h 11 (by decide), hC 21 1 (by decide)⟩, ⟨pi_h 23 (by decide), hC 21 5 (by decide)⟩, pi_h 21 (by decide), fun r h => absurd h (Nat.not_lt_zero r), fun r h => absurd h (Nat.not_lt_zero r), ⟨?_, ?_, ?_⟩, ⟨0, Nat.zero_le _, hC 17 11 (by decide), pi_h 9 (by decide), fun k h => absurd h (Nat.not_lt_zero k)⟩, ?_, fun a ha => ?_⟩
    · exact (hC 21 2 (by decide)).trans (pi_h 12 (by decide)).symm
    · exact (hC 21 3 (by decide)).trans (pi_h 13 (by decide)).symm
    · exact (hC 21 6 (by decide)).trans (pi_h 14 (by decide)).symm
    · unfold bcntP
      rw [hC 25 0 (by decide), hC 25 1 (by decide), hC 25 2 (by decide), hC 25 3 (by decide), hC 25 4 (by decide), hC 25 5 (by decide)]
      exact pi_h 10 (by decide)
    · exact (hC 25 a (by decide)).trans (pi_h (24 + a) (by omega)).symm
  have hCO : CO b0 n0 (g, f, pinit, t00, y00, n00) R C := ⟨hT, fun e h => absurd h (Nat.not_lt_zero e), fun e h => absurd h (Nat.not_lt_zero e), ⟨Nat.zero_le _, pi_7, fun e h => absurd h (Nat.not_lt_zero e)⟩, hCN, ⟨Nat.zero_le _, Nat.zero_le _, Nat.zero_le _, Nat.zero_le _⟩⟩
  have hBO : BO b0 n0 (g, f, pinit, t00, y00, n00) R := ⟨Or.inl ⟨pi_lo (j := 0) (by decide), h17⟩, fun p hp => Or.inl ⟨pi_lo (j := 1 + p) (by omega), h18 p hp⟩⟩
  have z : ∀ j, j < 27 → C j = fun _ => 0 := fun j hj => funext (fun k => hC j k hj)
  refine ⟨⟨⟨hc, hb, by show n0 ≤ g.1; omega⟩, fun a ha => absurd ha.2.2 (ht a ha.1 ha.2.1), fun x x0 x1 => by
    have x1 : x < g.1 := x1
    omega⟩, ⟨⟨0, fun _ => 0, ⟨Nat.zero_le _, pi_r (by decide), fun k h => absurd h (Nat.not_lt_zero k)⟩, hC 0 1 (by decide)⟩, fun j => by
    show iv 7 (C 6 j)
    rw [hC 6 j (by decide)]; exact iv_nI (n := 0) (by decide) (by decide), h8⟩, ⟨⟨pi_r (by decide), Nat.le_refl _⟩, fun n _ h => absurd h (Nat.not_lt_zero n), fun n n' _ _ h => absurd h (Nat.not_lt_zero n')⟩,
    ⟨⟨Or.inr ⟨hCO, hBO, ⟨hC 17 2 (by decide), pi_h 5 (by decide)⟩, ⟨hC 17 3 (by decide), pi_h 6 (by decide)⟩, rfl, h17⟩, ⟨0, 0, hC 19 1 (by decide), hC 19 2 (by decide), Nat.le_refl _, Nat.zero_le _⟩, fun r => ⟨0, Nat.zero_le _, hC 22 r (by decide)⟩, Or.inr pi_15⟩, fun _ => hC 17 2 (by decide), ⟨0, Nat.zero_le _, hC 13 4 (by decide), fun r => ⟨0, Nat.le_refl _, hC 16 r (by decide)⟩⟩, 0, Nat.zero_le _, pi_r (by decide), fun r => ⟨0, Nat.le_refl _, pi_r (by decide)⟩⟩,
    ⟨⟨Or.inl (h26 0 (by decide)), Or.inl (h26 1 (by decide))⟩, ?_, fun a ha => ?_, fun a ha => ?_⟩, fun a ha => ?_, fun p hp a ha => ?_⟩
  · show pinit 0 4 = FB R
    unfold FB
    rw [if_pos (h26 0 (by decide)), if_pos (h26 1 (by decide)), pi_r (by decide)]; rfl
  · have ha : R 26 0 = some a := ha
    rw [h26 0 (by decide)] at ha; cases ha
  · have ha : R 26 1 = some a := ha
    rw [h26 1 (by decide)] at ha; cases ha
  · have ha : R 17 0 = some a := ha
    rw [h17] at ha; cases ha
  · have ha : R 18 p = some a := ha
    rw [h18 p hp] at ha; cases ha
