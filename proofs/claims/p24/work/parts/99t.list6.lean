/-! listing, in both: the call. -/
theorem pput_r {q : Nat × zI} {x : Int32} {r : Nat} (h : r ≠ 13) : (pput q x).2 r = q.2 r := zup_r h
theorem pputc_r {c : Prop} [Decidable c] {q : Nat × zI} {x : Int32} {r : Nat} (h : r ≠ 13) : (pputc c q x).2 r = q.2 r := by
  unfold pputc
  split
  · exact pput_r h
  · rfl
theorem playNum_r {M : zI} {n : Nat} {v b : Int32} {r : Nat} (h : r ≠ 13) : (playNum M n v b).2 r = M r := by
  unfold playNum
  rw [pput_r h, pputc_r h, pputc_r h, pputc_r h]
theorem plp1_r {q : Nat × zI} {x : Int32} {r : Nat} (h : r ≠ 12) : (plp1 q x).2 r = q.2 r := zup_r h
theorem plpC_r {x : Int32} {r : Nat} (h : r ≠ 12) : ∀ (k : Nat) (q : Nat × zI), (plpC x k q).2 r = q.2 r := by
  intro k
  induction k with
  | zero => intro q; rfl
  | succ k ih =>
    intro q
    show (plpC x k (if pclause q.2 x (nI k) = -9 then q else plpC1 x k q)).2 r = _
    rw [ih]
    split
    · rfl
    · show zup (zup (zup q.2 12 _ _) 12 _ _) 12 _ _ r = q.2 r
      rw [zup_r h, zup_r h, zup_r h]
theorem plpP_r {x : Int32} {r : Nat} (h : r ≠ 12) : ∀ (k : Nat) (q : Nat × zI), (plpP x k q).2 r = q.2 r := by
  intro k
  induction k with
  | zero => intro q; rfl
  | succ k ih =>
    intro q
    show (plpP x k (plp1 q (ppart q.2 x (nI (k + 1))))).2 r = _
    rw [ih, plp1_r h]
theorem playParts_r {M : zI} {n : Nat} {x : Int32} {r : Nat} (h : r ≠ 12) : (playParts M n x).2 r = M r := by
  unfold playParts
  split
  · rw [plp1_r h, plpC_r h, plp1_r h]
  · rw [plpP_r h]
theorem pllA_r {M : zI} {n : Nat} {x : Int32} {r : Nat} (h : r ≠ 13) : (pllA M n x).2 r = M r := by
  unfold pllA pllN
  split
  · show zup (zup M 13 _ _) 13 _ _ r = M r
    rw [zup_r h, zup_r h]
  · exact zup_r h
theorem pllB_r {M : zI} {n : Nat} {x : Int32} {r : Nat} (h : r ≠ 12) : (pllB M n x).2 r = M r := by
  unfold pllB
  split
  · exact playParts_r h
  · rfl
theorem pll_r {r : Nat} (h2 : r ≠ 12) (h3 : r ≠ 13) : ∀ (j n left : Nat) (b : Int32) (M : zI), (pll j n left b M).2 r = M r := by
  intro j
  induction j with
  | zero => intro n left b M; rfl
  | succ j ih =>
    intro n left b M
    cases left with
    | zero => rfl
    | succ left =>
      show (if ¬ M 12 left < 0 ∧ pkind M (M 12 left) = 0 then pll j (playNum M n (parg M (M 12 left)) b).1 left 1 (playNum M n (parg M (M 12 left)) b).2 else pll j (pllA M n (M 12 left)).1 (pllB (pllA M n (M 12 left)).2 left (M 12 left)).1 0 (pllB (pllA M n (M 12 left)).2 left (M 12 left)).2).2 r = M r
      split
      · rw [ih, playNum_r h3]
      · rw [ih, pllB_r h2, pllA_r h3]
theorem play_r {M : zI} {r : Nat} (h2 : r ≠ 12) (h3 : r ≠ 13) : (play M).2 r = M r := by
  unfold play
  rw [pll_r h2 h3]
  exact zup_r h2
section LIST6
variable {b0 n0 c k : Nat} {g : zG} {f M : zI} {t : zTs} {y : zGs} {n : zNs} {R : zRf} {C : zI}
theorem WR.listing (h : WR b0 n0 c k (g, R, f, C) M t y n) (hk : 120 * k ≤ 64800) (x : Int32) : (∀ b, R 17 0 = some b → g.2.2.1 (pA g b 2) < 240 ∧ ¬ (c ≤ pA g b 2 ∧ pA g b 2 < c + 27)) ∧ (¬ x < 0 → ¬ M 2 0 = -9 → pllV pllf 0 1 0 (play0 M) ∧ (play M).1 ≤ 400) ∧ blisting g f R x = (plisting M x).1 ∧ WR b0 n0 c (k + 1) (g, R, f, C) (plisting M x).2 t y n := by
  have h' := h
  obtain ⟨⟨⟨w1, w2, w3⟩, -⟩, ⟨⟨len, tx, v1, v2⟩, -⟩, ⟨⟨-, u2⟩, -⟩, ⟨q1, -⟩, -, hbd⟩ := h
  have u2 : t.1 ≤ 120 * k := u2
  have hBO := q1.base.2.1
  have hsm : ∀ N : zI, (∀ r, r ≠ 12 → r ≠ 13 → N r = M r) → WR b0 n0 c (k + 1) (g, R, f, C) N t y n := fun N hN => by
    have n0' := hN 0 (by decide) (by decide)
    have n1 := hN 1 (by decide) (by decide)
    have n2 := hN 2 (by decide) (by decide)
    exact h'.sm hk ⟨len, tx, v1.at rfl (congrFun n0' 8) (hN 6 (by decide) (by decide)), v2⟩ (fun _ _ => rfl) (fun _ _ => rfl) (fun r _ _ _ a b => hN r a b) (fun j _ => congrFun n0' j) (fun j _ => congrFun n2 j) (hBO.sm n1 (fun j _ => congrFun n2 j)) (hbd.sm n1 (hN 11 (by decide) (by decide)) (fun j _ => congrFun n2 j))
  have hb : ∀ b, R 17 0 = some b → ∃ A N, pA g b 2 = A ∧ n0 ≤ A ∧ g.2.2.1 A = N ∧ N < 240 ∧ pllV pllf 0 1 0 (play0 M) ∧ (play M).1 = N ∧ ∀ i, i < N → (play M).2 13 i = f A i := fun b hb => by
    obtain ⟨r0, a1, a2, a3, -, A, N, e, m1, ⟨m2, -⟩, m3, m4, m5, m6, m7⟩ := hbd.1 b hb
    have m1 : g.2.2.2 b 2 = some A := m1
    obtain ⟨z1, z2, z3⟩ := m7 M (fun _ _ => rfl) a1
    exact ⟨A, N, by unfold pA; rw [m1]; rfl, m2, m4, m5, z1, z2, z3⟩
  have hmain : R 17 0 = none ↔ M 2 0 = -9 := by
    rcases hBO.1 with ⟨z1, z2⟩ | ⟨m, a, z1, z2, -, z4, -⟩
    · exact ⟨fun _ => z1, fun _ => z2⟩
    · have z1 : m < t.1 := z1
      have z2 : M 2 0 = nI m := z2
      have z4 : R 17 0 = some a := z4
      exact ⟨fun z => (by rw [z4] at z; cases z), fun z => absurd z (by rw [z2]; exact (iv_nI (N := 65000) (by omega) (by decide)).nn (by decide))⟩
  refine ⟨fun b hb' => ?_, fun _ hm => ?_, ?_⟩
  · obtain ⟨A, N, e1, e2, e3, e4, -⟩ := hb b hb'
    rw [e1, e3]
    exact ⟨e4, fun z => by omega⟩
  · cases hb' : R 17 0 with
    | none => exact absurd (hmain.mp hb') hm
    | some b =>
      obtain ⟨A, N, -, -, -, e4, e5, e6, -⟩ := hb b hb'
      exact ⟨e5, by omega⟩
  · by_cases q : x < 0
    · rw [blisting_b q, show plisting M x = (-1, M) from if_pos q]
      exact ⟨rfl, hsm M (fun _ _ _ => rfl)⟩
    · cases hb' : R 17 0 with
      | none =>
        rw [blisting_n q hb', show plisting M x = (-2, M) from (if_neg q).trans (if_pos (hmain.mp hb'))]
        exact ⟨rfl, hsm M (fun _ _ _ => rfl)⟩
      | some b =>
        obtain ⟨A, N, e1, e2, e3, e4, e5, e6, e7⟩ := hb b hb'
        have hm : ¬ M 2 0 = -9 := fun z => by rw [hmain.mpr z] at hb'; cases hb'
        have ep : plisting M x = (if x < nI (play M).1 then (play M).2 13 (tn x) else -9, (play M).2) := (if_neg q).trans (if_neg hm)
        rw [ep]
        refine ⟨?_, hsm _ (fun r a b => play_r a b)⟩
        show blisting g f R x = if x < nI (play M).1 then (play M).2 13 (tn x) else -9
        rw [e6]
        obtain ⟨i, i1, i2⟩ := nI_of q
        by_cases q2 : x < nI N
        · rw [if_pos q2, blisting_s q hb' (by rw [e1, e3]; exact q2), e1]
          rw [i2, tn_nI (by omega)]
          rw [i2] at q2
          exact (e7 i ((nI_ltI (by omega) (by omega)).mp q2)).symm
        · rw [if_neg q2, blisting_e q hb' (by rw [e1, e3]; exact q2)]
end LIST6
