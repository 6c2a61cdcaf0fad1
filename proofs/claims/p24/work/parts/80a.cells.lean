/-! The cells of a step: five for each three steps, and no more than seven thirds beside. -/
/-- a value in the focus stands for cells, but less where a clause is on top -/
def vk (M : zI) : Nat := if M 2 16 = 1 then (if pof M (M 2 7) 0 = 14 then 5 else 7) else if M 2 16 = 2 then (if pof M (M 2 7) 0 = 14 then 0 else 2) else 0
theorem vk_le (M : zI) : vk M ≤ 7 := by
  unfold vk
  repeat' split
  all_goals omega
theorem vk_2 {M : zI} (h : ¬ M 2 16 = 1) : vk M ≤ 2 := by
  unfold vk
  rw [if_neg h]
  repeat' split
  all_goals omega
theorem vk_0 {M : zI} (h : ¬ M 2 16 = 1) (h2 : M 2 16 = 2 → pof M (M 2 7) 0 = 14) : vk M = 0 := by
  unfold vk
  rw [if_neg h]
  split
  · rename_i q
    rw [if_pos (h2 q)]
  · rfl
theorem vk_1 {M : zI} (h : M 2 16 = 1) (h2 : ¬ pof M (M 2 7) 0 = 14) : vk M = 7 := by
  unfold vk
  rw [if_pos h, if_neg h2]
theorem vk_5 {M : zI} (h : M 2 16 = 1) : 5 ≤ vk M := by
  unfold vk
  rw [if_pos h]
  split <;> omega
theorem pcheck_7a {M : zI} : pcheck M 2 7 = M 2 7 ∧ pcheck M 4 = M 4 := by
  unfold pcheck
  split
  · exact ⟨by rw [zup_ne _ _ _ _ (by omega), zup_ne _ _ _ _ (by omega)], by rw [zup_r (by decide), zup_r (by decide)]⟩
  · exact ⟨rfl, rfl⟩
theorem pcheck_16a {M : zI} : pcheck M 2 16 = M 2 16 ∨ pcheck M 2 16 = 0 := by
  unfold pcheck
  split
  · exact Or.inr (zup_at _ _ _ _)
  · exact Or.inl rfl
theorem pbecome_7 {M : zI} {v : Int32} : pbecome M v 2 7 = M 2 7 ∧ pbecome M v 4 = M 4 := by
  unfold pbecome
  try dsimp only
  exact ⟨by rw [zup_ne _ _ _ _ (by omega), zup_ne _ _ _ _ (by omega), zup_ne _ _ _ _ (by omega)], by rw [zup_r (by decide), zup_r (by decide), zup_r (by decide)]⟩
theorem pof_eq {M N : zI} (h7 : N 2 7 = M 2 7) (h4 : N 4 = M 4) : pof N (N 2 7) 0 = pof M (M 2 7) 0 := by
  unfold pof
  rw [h7, h4]
/-- a step from a leaf -/
theorem vk_leaf {M : zI} (h16 : M 2 16 = 2) (h : pkind M (M 2 17) = 0 ∨ pkind M (M 2 17) = 1) : vk (pstep M) ≤ 5 + vk M := by
  obtain ⟨v, e⟩ : ∃ v, popens M = (1, pbecome M v) := by
    unfold popens
    by_cases q : pkind M (M 2 17) = 0
    · exact ⟨_, if_pos q⟩
    · exact ⟨_, (if_neg q).trans (if_pos (h.resolve_left q))⟩
  have e1 : pstep M = pcheck (zup (pbecome M v) 2 6 (pbecome M v 2 6 + 1)) := by
    rw [pstep_e h16, e]
    exact if_neg (show ¬ ((1 : Int32) = 0) by decide)
  have e7 : pstep M 2 7 = M 2 7 ∧ pstep M 4 = M 4 := by
    rw [e1]
    exact ⟨pcheck_7a.1.trans ((zup_ne _ _ _ _ (by omega)).trans pbecome_7.1), pcheck_7a.2.trans ((zup_r (by decide)).trans pbecome_7.2)⟩
  have e2 := pof_eq e7.1 e7.2
  unfold vk
  rw [e2, h16]
  by_cases q : pof M (M 2 7) 0 = 14
  · rw [if_pos q, if_pos q]
    repeat' split
    all_goals omega
  · rw [if_neg q, if_neg q, if_neg (show ¬ (2 : Int32) = 1 by decide), if_pos rfl]
    repeat' split
    all_goals omega
theorem ppush_7 {M : zI} {k n e s x : Int32} : ppush M k n e s x 2 7 = M 2 21 := by
  unfold ppush
  try dsimp only
  rw [zup_ne _ _ _ _ (by omega), zup_at]
theorem ppush_4 {M : zI} {k n e s x : Int32} : ppush M k n e s x 4 (7 * tn (M 2 21)) = k := by
  unfold ppush
  try dsimp only
  rw [zup_ne _ _ _ _ (by omega), zup_ne _ _ _ _ (by omega), zup_ne _ _ _ _ (by omega), zup_ne _ _ _ _ (by omega), zup_ne _ _ _ _ (by omega), zup_ne _ _ _ _ (by omega), zup_ne _ _ _ _ (by omega), zup_ne _ _ _ _ (by omega)]
  exact zup_at _ _ _ _
theorem ppush_top {M : zI} {k n e s x : Int32} : pof (ppush M k n e s x) (ppush M k n e s x 2 7) 0 = k := by
  unfold pof
  rw [ppush_7]
  exact ppush_4
theorem pbindTo_7 {M : zI} {e c v : Int32} : pbindTo M e c v 2 7 = M 2 7 ∧ pbindTo M e c v 4 = M 4 := by
  unfold pbindTo
  try dsimp only
  exact ⟨by rw [zup_ne _ _ _ _ (by omega), zup_ne _ _ _ _ (by omega), zup_ne _ _ _ _ (by omega), zup_ne _ _ _ _ (by omega)], by rw [zup_r (by decide), zup_r (by decide), zup_r (by decide), zup_r (by decide)]⟩
theorem pfocusOn_7 {M : zI} {n e s : Int32} : pfocusOn M n e s 2 7 = M 2 7 ∧ pfocusOn M n e s 4 = M 4 := by
  unfold pfocusOn
  exact ⟨by rw [zup_ne _ _ _ _ (by omega), zup_ne _ _ _ _ (by omega), zup_ne _ _ _ _ (by omega), zup_ne _ _ _ _ (by omega)], by rw [zup_r (by decide), zup_r (by decide), zup_r (by decide), zup_r (by decide)]⟩
theorem pperf_top {M : zI} {a v : Int32} : pperf M a v 2 16 = 0 ∨ pperf M a v 2 16 = 2 ∧ pof (pperf M a v) (pperf M a v 2 7) 0 = 14 := by
  unfold pperf
  split
  · exact Or.inl (zup_at _ _ _ _)
  · refine Or.inr ⟨pfocus_v.1, ?_⟩
    exact (pof_eq (M := pf6 M a) (N := pfocusOn (pf7 M a v) (ppart (pf6 M a) (pfc M a) 1) (pf6 M a 2 22) (pf3 M a 2 11)) (pfocusOn_7.1.trans pbindTo_7.1) (pfocusOn_7.2.trans pbindTo_7.2)).trans ppush_top
/-- a step in which an operation is performed -/
theorem vk_perf {M : zI} (h16 : ¬ M 2 16 = 2) (h : pof (pcl1 M) (M 2 7) 0 = 7) : vk (pstep M) = 0 := by
  have e : pcomes (pcl1 M) (M 2 7) (pcl1 M 2 20) = (1, pperf (pcl1 M) (parg (pcl1 M) (pof (pcl1 M) (M 2 7) 1)) (pcl1 M 2 20)) := pcomes_7 h
  have e1 : (pcomes (pcl1 M) (M 2 7) (pcl1 M 2 20)).1 = 1 := by rw [e]
  obtain ⟨N, eN⟩ : ∃ N, N = pperf (pcl1 M) (parg (pcl1 M) (pof (pcl1 M) (M 2 7) 1)) (pcl1 M 2 20) := ⟨_, rfl⟩
  have hN := pperf_top (M := pcl1 M) (a := parg (pcl1 M) (pof (pcl1 M) (M 2 7) 1)) (v := pcl1 M 2 20)
  rw [← eN] at hN e
  have ep : pstep M = pcheck (zup N 2 6 (N 2 6 + 1)) := by
    rw [pstep_v h16, pcloses_1 e1, e]
    exact if_neg (show ¬ ((1 : Int32) = 0) by decide)
  have p16 : zup N 2 6 (N 2 6 + 1) 2 16 = N 2 16 := zup_ne _ _ _ _ (by omega)
  have p7 : pof (pstep M) (pstep M 2 7) 0 = pof N (N 2 7) 0 := by
    rw [ep]
    exact pof_eq (pcheck_7a.1.trans (zup_ne _ _ _ _ (by omega))) (pcheck_7a.2.trans (zup_r (by decide)))
  have q16 : pstep M 2 16 = N 2 16 ∨ pstep M 2 16 = 0 := by
    rw [ep, ← p16]
    exact pcheck_16a
  refine vk_0 (fun z => ?_) (fun z => ?_)
  · rcases q16 with q | q
    · rcases hN with w | ⟨w, -⟩
      · rw [q, w] at z; exact absurd z (by decide)
      · rw [q, w] at z; exact absurd z (by decide)
    · rw [q] at z; exact absurd z (by decide)
  · rw [p7]
    rcases q16 with q | q
    · rcases hN with w | ⟨-, w⟩
      · rw [q, w] at z; exact absurd z (by decide)
      · exact w
    · rw [q] at z; exact absurd z (by decide)
