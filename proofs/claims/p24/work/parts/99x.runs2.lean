/-! run, answer, drop, restart, in both. -/
section RUNS2
variable {b0 n0 c k : Nat} {g : zG} {f M : zI} {t : zTs} {y : zGs} {n : zNs} {R : zRf} {C : zI}
theorem WR.same (h : WR b0 n0 c k (g, R, f, C) M t y n) (hk : 120 * k ≤ 64800) : WR b0 n0 c (k + 1) (g, R, f, C) M t y n := by
  have h' := h
  obtain ⟨-, -, -, ⟨q1, q2, q3⟩, -⟩ := h
  exact h'.runs hk (KF.rf _) (MF.rf _) (RQ.mono q1 (by omega)) q2 (GL.mono q3 (by omega))
theorem WR.run (h : WR b0 n0 c k (g, R, f, C) M t y n) (hk : 120 * k ≤ 64800) (x : Int32) : (¬ (x < 1 ∨ 200 < x) → C 17 2 = 1 → brunV b0 c (tn x) (g, R, f, C)) ∧ (¬ (x < 1 ∨ 200 < x) → M 2 5 = 1 → prunV (tn x) M) ∧ (¬ (x < 1 ∨ 200 < x) → brunc (tn x) (g, R, f, C) ≤ 11256 ∧ brunk (tn x) (g, R, f, C) ≤ 335) ∧ (brunM g R f C x).2 = (prun M x).1 ∧ ∃ y' n', WR b0 n0 c (k + 1) (brunM g R f C x).1 (prun M x).2 t y' n' := by
  have h' := h
  obtain ⟨⟨⟨w1, w2, w3⟩, -⟩, -, -, ⟨q1, q2, q3⟩, -⟩ := h
  obtain ⟨a1, a2, a3, a4, a5, a6, y', n', a7, a8⟩ := RQ.run q1 q3 ⟨w2, w3⟩ (by omega) w1 x
  refine ⟨a1, a2, a3, a4, y', n', ?_⟩
  have hMN : MN (brunM g R f C x).1.2.1 (brunM g R f C x).1.2.2.2 := by
    by_cases z : x < 1 ∨ 200 < x
    · rw [brunM_b z]; exact q2
    · by_cases z2 : C 17 2 = 1
      · intro z3
        have z4 : (brunM g R f C x).1.2.1 17 0 = R 17 0 := a5.2.2.2.2.1 0 (by decide) (by decide)
        have z5 : C 17 2 = 0 := q2 (z4.symm.trans z3)
        exact absurd (z5.symm.trans z2) (by decide)
      · rw [brunM_s z z2]; exact q2
  generalize brunM g R f C x = Q at a5 a7 a8 hMN ⊢
  obtain ⟨⟨G, R', F, C'⟩, v⟩ := Q
  exact h'.runs hk a5 a6 (RQ.mono a7 (by omega)) hMN (GL.mono a8 (by omega))
theorem WR.answer (h : WR b0 n0 c k (g, R, f, C) M t y n) (hk : 120 * k ≤ 64800) (v : Int32) : (banswer R C v).1 = (panswer M v).1 ∧ WR b0 n0 c (k + 1) (g, (banswer R C v).2.1, f, (banswer R C v).2.2) (panswer M v).2 t y n := by
  have h' := h
  obtain ⟨⟨⟨w1, w2, w3⟩, -⟩, -, -, ⟨q1, q2, q3⟩, -⟩ := h
  obtain ⟨a4, a5, a6, a7, a8⟩ := RQ.answer q1 q3 v
  refine ⟨a4, ?_⟩
  have hMN : MN (banswer R C v).2.1 (banswer R C v).2.2 := by
    by_cases z2 : C 17 2 = 3
    · intro z3
      have z4 : (banswer R C v).2.1 17 0 = R 17 0 := a5.2.2.2.2.1 0 (by decide) (by decide)
      have z5 : C 17 2 = 0 := q2 (z4.symm.trans z3)
      exact absurd (z5.symm.trans z2) (by decide)
    · rw [banswer_f z2]; exact q2
  exact h'.runs hk a5 a6 (RQ.mono a7 (by omega)) hMN (GL.mono a8 (by omega))
theorem WR.drop (h : WR b0 n0 c k (g, R, f, C) M t y n) (hk : 120 * k ≤ 64800) (v : Int32) : (bdrop g R f C v n.1).2 = (pdrop M v).1 ∧ (M 2 5 = 3 → iv 39999 (pdr1 M 2 21)) ∧ ∃ y' n', WR b0 n0 c (k + 1) (bdrop g R f C v n.1).1 (pdrop M v).2 t y' n' := by
  have h' := h
  obtain ⟨⟨⟨w1, w2, w3⟩, -⟩, -, -, ⟨q1, q2, q3⟩, -⟩ := h
  obtain ⟨a4, a3, a5, a6, y', n', a7, a8⟩ := RQ.drop q1 q3 ⟨w2, w3⟩ v
  refine ⟨a4, a3, y', n', ?_⟩
  have hMN : MN (bdrop g R f C v n.1).1.2.1 (bdrop g R f C v n.1).1.2.2.2 := by
    by_cases z2 : C 17 2 = 3
    · intro z3
      have z4 : (bdrop g R f C v n.1).1.2.1 17 0 = R 17 0 := a5.2.2.2.2.1 0 (by decide) (by decide)
      have z5 : C 17 2 = 0 := q2 (z4.symm.trans z3)
      exact absurd (z5.symm.trans z2) (by decide)
    · rw [bdrop_f z2]; exact q2
  generalize bdrop g R f C v n.1 = Q at a5 a7 a8 hMN ⊢
  obtain ⟨⟨G, R', F, C'⟩, v⟩ := Q
  exact h'.runs hk a5 a6 (RQ.mono a7 (by omega)) hMN (GL.mono a8 (by omega))
theorem WR.restart (h : WR b0 n0 c k (g, R, f, C) M t y n) (hk : 120 * k ≤ 64800) : (brest g R C).1 = (prestart M).1 ∧ ∃ y' n', WR b0 n0 c (k + 1) (g, (brest g R C).2.1, f, (brest g R C).2.2) (prestart M).2 t y' n' := by
  have h' := h
  obtain ⟨⟨⟨w1, w2, w3⟩, -⟩, -, ⟨⟨-, u2⟩, -⟩, ⟨q1, q2, q3⟩, -⟩ := h
  have u2 : t.1 ≤ 120 * k := u2
  have hBO := q1.base.2.1
  have e0 : C 17 2 = M 2 5 := q1.base.2.2.1
  have hmain : R 17 0 = none ↔ M 2 0 = -9 := by
    rcases hBO.1 with ⟨z1, z2⟩ | ⟨m, a, z1, z2, -, z4, -⟩
    · exact ⟨fun _ => z1, fun _ => z2⟩
    · have z1 : m < t.1 := z1
      have z2 : M 2 0 = nI m := z2
      have z4 : R 17 0 = some a := z4
      exact ⟨fun z => (by rw [z4] at z; cases z), fun z => absurd z (by rw [z2]; exact (iv_nI (N := 65000) (by omega) (by decide)).nn (by decide))⟩
  by_cases q : C 17 2 = 0
  · have hm : R 17 0 = none := by
      rcases q1.1 with ⟨-, -, -, st, -, -, -, z | z | z | z | z | z⟩ | z
      · exact absurd ((e0.symm.trans q).symm.trans z.1) (by decide)
      · exact absurd ((e0.symm.trans q).symm.trans z.1) (by decide)
      · exact absurd ((e0.symm.trans q).symm.trans z.1) (by decide)
      · exact absurd ((e0.symm.trans q).symm.trans z.1) (by decide)
      · exact absurd ((e0.symm.trans q).symm.trans z.1) (by decide)
      · exact absurd ((e0.symm.trans q).symm.trans z.1) (by decide)
      · exact z.2.2.2.2.2
    rw [brest_0 q, show prestart M = (-2, M) from if_pos (hmain.mp hm)]
    exact ⟨rfl, y, n, h'.same hk⟩
  · obtain ⟨a, ha⟩ : ∃ a, R 17 0 = some a := by
      cases z : R 17 0 with
      | none => exact absurd (q2 z) q
      | some a => exact ⟨a, rfl⟩
    have hm : ¬ M 2 0 = -9 := fun z => by rw [hmain.mpr z] at ha; cases ha
    rw [brest_1 q, show prestart M = (M 2 5, pbegin M) from if_neg hm]
    have hU : UC (201 * k) C := q1.2.2.1
    obtain ⟨k1, k2, k3, k4⟩ := CO.begins (y := y) (n := n) q1.base.1.1 hBO ha hU q3
    refine ⟨e0, y, (0, 0, 0, 0, 0), h'.runs hk k1 k2 (RQ.mono k3 (by omega)) (fun z => ?_) (GL.mono k4 (by omega))⟩
    have z4 : (bbegin g R C).1 17 0 = R 17 0 := k1.2.2.2.2.1 0 (by decide) (by decide)
    rw [z4, ha] at z; cases z
end RUNS2
