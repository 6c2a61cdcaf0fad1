/-! The law's states: what defining, loading, stepping, answering lead to. -/
section LS2
variable {M N : zI} {l : List Nat} {b0 n0 c k : Nat} {g : zG} {f : zI} {hb : Int32 → Bool → Nat → List Nat} {hi : Int32 → Bool → Nat → List WIt} {how v0 : Int32}
theorem pfault_w (hH : ∀ b mf tr, HDs b mf tr (hb b mf tr) (hi b mf tr)) (hh : how = 0 ∨ how = 1) (hv : v0 = (if how = 1 then 8388608 else 0)) (hT : TXT M (wrB hb hi 71 [itE v0 false] 0)) (hO : OB b0 n0 c k M g f) (hk : 120 * k ≤ 64800) (hL : LABM M) : (pfault M how).1 = -9 := by
  obtain ⟨n, n1, n2, n3⟩ := hO.parse hk hh
  obtain ⟨P, N', e1, e2, -⟩ := LABM.parse hH hv hT n1 n2 n3 hL
  unfold pfault
  rw [if_neg (by rcases hh with rfl | rfl <;> decide), e1]
  exact e2
theorem pdefine_w (hH : ∀ b mf tr, HDs b mf tr (hb b mf tr) (hi b mf tr)) (hT : TXT M (wrB hb hi 71 [itE 8388608 false] 0)) (hO : OB b0 n0 c k M g f) (hk : 120 * k ≤ 64800) (hL : LABM M) (hZ : Z01 M) {p : Nat} (hp : p < 4) :
    (pdefine M (nI p)).1 = nI (wrT hi 71 [itE 8388608 false] 0) ∧ LABM (pdefine M (nI p)).2 ∧ Z01 (pdefine M (nI p)).2 ∧ (pdefine M (nI p)).2 0 4 = M 0 4 := by
  obtain ⟨n, n1, n2, n3⟩ := hO.parse hk (how := 1) (Or.inr rfl)
  obtain ⟨P, N', e1, e2, e3, e4, e5, e6, e7, e8, e9, lab, l1, l2, l3, l4⟩ := LABM.parse (v0 := 8388608) hH rfl hT n1 n2 n3 hL
  have h9 : ¬ (pparse M 1).1 = -9 := by rw [e1]; exact (iv_nI (N := 65000) (by omega) (by decide)).nn (by decide)
  have ep : pdefine M (nI p) = (P 0 16, zup P 2 (1 + p) (nI n)) := by
    unfold pdefine
    rw [if_neg (fun z => z.elim (nI_nlt (b := 0) (by omega) (by omega)) (nI_nlt (a := 3) (by omega) (by omega))), if_neg h9, e1, tn_nI (by omega)]
  rw [ep]
  have p2 : P 2 = M 2 := e7 2 (by decide) (by decide) (by decide) (by decide) (by decide) (by decide) (by decide)
  refine ⟨e3, ⟨lab, N', ?_, by omega, ?_, fun k hk => ?_⟩, fun q hq => ?_, ?_⟩
  · show zup P 2 (1 + p) (nI n) 0 1 = _
    rw [zup_r (by decide)]; exact e6
  · show ∀ n_1, n_1 < N' → NDL (zup P 2 (1 + p) (nI n) 1) lab N' n_1
    rw [zup_r (by decide)]; exact l1
  · show zup P 2 (1 + p) (nI n) 2 k = -9 ∨ ∃ r, r < N' ∧ zup P 2 (1 + p) (nI n) 2 k = nI r ∧ lab r = 0 ∧ ∃ κ, κ ≤ 15 ∧ zup P 2 (1 + p) (nI n) 1 (5 * r) = nI κ
    rw [show zup P 2 (1 + p) (nI n) 1 = P 1 from zup_r (by decide)]
    by_cases q : k = 1 + p
    · subst q
      rw [zup_at]
      exact Or.inr ⟨n, e4, rfl, l3, l4⟩
    · rw [zup_ne _ _ _ _ (Or.inr q), p2]
      exact l2 k hk
  · show zup P 2 (1 + p) (nI n) 2 (7230 + q) = 0 ∨ zup P 2 (1 + p) (nI n) 2 (7230 + q) = 1
    rw [zup_ne _ _ _ _ (by omega), p2]; exact hZ q hq
  · show zup P 2 (1 + p) (nI n) 0 4 = _
    rw [zup_r (by decide)]
    exact e8 4 (by decide) (by decide) (by decide) (by decide) (by decide) (by decide)
theorem pbegin_lo {M : zI} {j : Nat} (h : j < 5 ∨ 30 ≤ j) : pbegin M 2 j = M 2 j := by
  unfold pbegin
  rw [zup_ne _ _ _ _ (by omega), zup_ne _ _ _ _ (by omega), zup_ne _ _ _ _ (by omega), zup_ne _ _ _ _ (by omega), zup_ne _ _ _ _ (by omega), zup_ne _ _ _ _ (by omega), zup_ne _ _ _ _ (by omega)]
  exact if_neg (by omega)
theorem pbegin_z {M : zI} {j : Nat} (h : 5 ≤ j ∧ j < 30) (h5 : j ≠ 5) (h7 : j ≠ 7) (h15 : j ≠ 15) (h16 : j ≠ 16) (h17 : j ≠ 17) (h18 : j ≠ 18) (h19 : j ≠ 19) : pbegin M 2 j = 0 := by
  unfold pbegin
  rw [zup_ne _ _ _ _ (by omega), zup_ne _ _ _ _ (by omega), zup_ne _ _ _ _ (by omega), zup_ne _ _ _ _ (by omega), zup_ne _ _ _ _ (by omega), zup_ne _ _ _ _ (by omega), zup_ne _ _ _ _ (by omega)]
  exact if_pos ⟨rfl, h⟩
theorem pbegin_v {M : zI} : pbegin M 2 5 = 1 ∧ pbegin M 2 7 = -9 ∧ pbegin M 2 16 = 2 ∧ pbegin M 2 17 = M 2 0 := by
  have h0 : (zup (zup (zup (zup (pfill M 30) 2 5 1) 2 7 (-9)) 2 15 (-9)) 2 16 2) 2 0 = M 2 0 := by
    rw [zup_ne _ _ _ _ (by omega), zup_ne _ _ _ _ (by omega), zup_ne _ _ _ _ (by omega), zup_ne _ _ _ _ (by omega)]
    exact if_neg (by omega)
  unfold pbegin
  try dsimp only
  rw [h0]
  refine ⟨?_, ?_, ?_, ?_⟩ <;> simp (disch := omega) only [zup_ne, zup_at]
theorem NQ.begin (hZ : Z01 M) : NQ (pbegin M) := by
  refine ⟨0, 0, 0, 0, 0, 0, 0, ⟨⟨?_, by decide, Or.inl pbegin_v.2.1, fun i hi => absurd hi (Nat.not_lt_zero i)⟩, ⟨?_, by decide⟩, ⟨?_, ?_⟩, ⟨?_, ?_, ?_⟩, fun q hq => ?_⟩, by decide, by decide, by decide, by decide, by decide, fun z => ?_, fun z => ?_⟩
  · exact pbegin_z (by decide) (by decide) (by decide) (by decide) (by decide) (by decide) (by decide) (by decide)
  · exact pbegin_z (by decide) (by decide) (by decide) (by decide) (by decide) (by decide) (by decide) (by decide)
  · exact pbegin_z (by decide) (by decide) (by decide) (by decide) (by decide) (by decide) (by decide) (by decide)
  · exact pbegin_z (by decide) (by decide) (by decide) (by decide) (by decide) (by decide) (by decide) (by decide)
  · exact pbegin_z (by decide) (by decide) (by decide) (by decide) (by decide) (by decide) (by decide) (by decide)
  · exact pbegin_z (by decide) (by decide) (by decide) (by decide) (by decide) (by decide) (by decide) (by decide)
  · exact pbegin_z (by decide) (by decide) (by decide) (by decide) (by decide) (by decide) (by decide) (by decide)
  · rw [pbegin_lo (by omega)]; exact hZ q hq
  · rw [pbegin_v.1] at z; exact absurd z (by decide)
  · rw [pbegin_v.1] at z; exact absurd z (by decide)
theorem FT.begin : FT (pbegin M) := by
  intro X L lab hS h1 h2
  obtain ⟨r, r1, r2, r3, r4, r5⟩ := hS.2.1
  have hr : tn (X 2 0) = r := by rw [r3]; exact tn_nI (by omega)
  have e0 : M 2 0 = nI r := by rw [← r3, ← h2 0 (by decide)]; exact (pbegin_lo (by omega)).symm
  refine ⟨fun _ => 0, fun _ => 0, fun _ => 0, 0, 0, ⟨⟨h1, h2⟩, ⟨?_, by decide, ?_, by decide⟩, Or.inl pbegin_v.2.1, fun i hi => absurd hi (Nat.not_lt_zero i), fun i hi => absurd hi (Nat.not_lt_zero i)⟩, fun _ => ⟨r, r1, ?_, r5, ?_, ?_, fun z => absurd r4 z⟩, fun z => ?_⟩
  · exact pbegin_z (by decide) (by decide) (by decide) (by decide) (by decide) (by decide) (by decide) (by decide)
  · exact pbegin_z (by decide) (by decide) (by decide) (by decide) (by decide) (by decide) (by decide) (by decide)
  · rw [pbegin_v.2.2.2]; exact e0
  · unfold inS
    rw [pbegin_v.2.1, if_pos rfl, hr]; exact sle.rf
  · unfold inS
    rw [pbegin_v.2.1, if_pos rfl, hr]; exact sle.rf
  · rw [pbegin_v.1] at z; exact absurd z (by decide)
theorem pload_w (hH : ∀ b mf tr, HDs b mf tr (hb b mf tr) (hi b mf tr)) (hT : TXT M (wrB hb hi 71 [itE 0 false] 0)) (hO : OB b0 n0 c k M g f) (hk : 120 * k ≤ 64800) (hL : LABM M) (hZ : Z01 M) :
    (pload M).1 = nI (wrT hi 71 [itE 0 false] 0) ∧ LABM (pload M).2 ∧ NQ (pload M).2 ∧ FT (pload M).2 ∧ (pload M).2 2 5 = 1 ∧ (pload M).2 0 4 = M 0 4 := by
  obtain ⟨n, n1, n2, n3⟩ := hO.parse hk (how := 0) (Or.inl rfl)
  obtain ⟨P, N', e1, e2, e3, e4, e5, e6, e7, e8, e9, lab, l1, l2, l3, l4⟩ := LABM.parse (v0 := 0) hH rfl hT n1 n2 n3 hL
  have h9 : ¬ (pparse M 0).1 = -9 := by rw [e1]; exact (iv_nI (N := 65000) (by omega) (by decide)).nn (by decide)
  have ep : pload M = (P 0 16, pbegin (zup P 2 0 (nI n))) := by
    unfold pload
    rw [if_neg h9, e1]
  rw [ep]
  have p2 : P 2 = M 2 := e7 2 (by decide) (by decide) (by decide) (by decide) (by decide) (by decide) (by decide)
  have br : ∀ r, r ≠ 2 → pbegin (zup P 2 0 (nI n)) r = P r := fun r hr => (pbegin_0 hr).trans (zup_r hr)
  have b2 : ∀ k, k < 5 → pbegin (zup P 2 0 (nI n)) 2 k = zup P 2 0 (nI n) 2 k := fun k hk => pbegin_lo (Or.inl hk)
  refine ⟨e3, ⟨lab, N', ?_, by omega, ?_, fun k hk => ?_⟩, NQ.begin (fun q hq => ?_), FT.begin, (pbegin_v (M := zup P 2 0 (nI n))).1, ?_⟩
  · show pbegin (zup P 2 0 (nI n)) 0 1 = _
    rw [br 0 (by decide)]; exact e6
  · show ∀ n_1, n_1 < N' → NDL (pbegin (zup P 2 0 (nI n)) 1) lab N' n_1
    rw [br 1 (by decide)]; exact l1
  · show pbegin (zup P 2 0 (nI n)) 2 k = -9 ∨ ∃ r, r < N' ∧ pbegin (zup P 2 0 (nI n)) 2 k = nI r ∧ lab r = 0 ∧ ∃ κ, κ ≤ 15 ∧ pbegin (zup P 2 0 (nI n)) 1 (5 * r) = nI κ
    rw [br 1 (by decide), b2 k hk]
    by_cases q : k = 0
    · subst q
      rw [zup_at]
      exact Or.inr ⟨n, e4, rfl, l3, l4⟩
    · rw [zup_ne _ _ _ _ (Or.inr q), p2]
      exact l2 k hk
  · rw [zup_ne _ _ _ _ (by omega), p2]; exact hZ q hq
  · show pbegin (zup P 2 0 (nI n)) 0 4 = _
    rw [br 0 (by decide)]
    exact e8 4 (by decide) (by decide) (by decide) (by decide) (by decide) (by decide)
/-- one step -/
theorem OB.one (h : OB b0 n0 c k M g f) (hk : 120 * k ≤ 64800) (h5 : M 2 5 = 1) : pstepV M ∧ MF M (pstep M) ∧ (∃ st, st < 1000 ∧ M 2 6 = nI st) ∧ prun M 1 = (pstep M 2 5, pstep M) := by
  obtain ⟨g, R, f, C, t, y, n, -, -, h, -⟩ := h
  obtain ⟨-, a2, -, -, -, a6, -⟩ := RQ.run h.2.2.2.1.1 h.2.2.2.1.2.2 h.1.1.2 (by omega) h.1.1.1 1
  have hr : ¬ ((1 : Int32) < 1 ∨ 200 < (1 : Int32)) := by decide
  have e : prunA 1 M = pstep M := if_pos h5
  have ep : prun M 1 = (pstep M 2 5, pstep M) := by
    unfold prun
    rw [if_neg hr, if_pos h5, show tn 1 = 1 from rfl, e]
  rw [ep] at a6
  refine ⟨(a2 hr h5 h5).1, a6, ?_, ep⟩
  rcases h.2.2.2.1.1.1 with ⟨-, -, -, st, -, -, x6, x | x | x | x | x | x⟩ | ⟨-, -, ⟨-, x⟩, -⟩
  · exact ⟨st, x.2.1, x6⟩
  · exact ⟨st, x.2.1, x6⟩
  · exact absurd (h5.symm.trans x.1) (by decide)
  · exact absurd (h5.symm.trans x.1) (by decide)
  · exact absurd (h5.symm.trans x.1) (by decide)
  · exact absurd (h5.symm.trans x.1) (by decide)
  · exact absurd (h5.symm.trans x) (by decide)
theorem MF.lab (h : MF M N) (hL : LABM M) : LABM N := hL.of (h.1 1 (by decide) (by decide) (by decide) (by decide) (by decide) (by decide) (by decide)) (h.2.1 1 (by decide) (by decide)) h.2.2
theorem OB.step (h : OB b0 n0 c k M g f) (hk : 120 * k ≤ 64800) (h5 : M 2 5 = 1) (hL : LABM M) (hq : NQ M) : LABM (pstep M) ∧ NQ (pstep M) ∧ (FT M → FT (pstep M)) ∧ pstep M 0 4 = M 0 4 := by
  obtain ⟨a1, a2, ⟨st, s1, s2⟩, -⟩ := h.one hk h5
  refine ⟨a2.lab hL, hq.step h5 s1 s2 a1, fun hF X L lab hS h1 h2 => ?_, a2.2.1 4 (by decide) (by decide)⟩
  have e1 : pstep M 1 = M 1 := a2.1 1 (by decide) (by decide) (by decide) (by decide) (by decide) (by decide) (by decide)
  exact (hF X L lab hS (by rw [← e1]; exact h1) (fun k hk => by rw [← a2.2.2 k hk]; exact h2 k hk)).step hS h5 a1
theorem OB.ans (h : OB b0 n0 c k M g f) (hL : LABM M) (hq : NQ M) (v : Int32) : LABM (panswer M v).2 ∧ NQ (panswer M v).2 ∧ (FT M → FT (panswer M v).2) ∧ (panswer M v).2 0 4 = M 0 4 := by
  obtain ⟨g, R, f, C, t, y, n, -, -, h, -⟩ := h
  obtain ⟨-, -, a2, -⟩ := RQ.answer h.2.2.2.1.1 h.2.2.2.1.2.2 v
  refine ⟨a2.lab hL, hq.ans v, fun hF X L lab hS h1 h2 => ?_, a2.2.1 4 (by decide) (by decide)⟩
  have e1 : (panswer M v).2 1 = M 1 := a2.1 1 (by decide) (by decide) (by decide) (by decide) (by decide) (by decide) (by decide)
  exact (hF X L lab hS (by rw [← e1]; exact h1) (fun k hk => by rw [← a2.2.2 k hk]; exact h2 k hk)).ans v
theorem OB.drp (h : OB b0 n0 c k M g f) (hL : LABM M) (hq : NQ M) (v : Int32) : LABM (pdrop M v).2 ∧ NQ (pdrop M v).2 ∧ (M 2 5 = 3 → pdepth (pdrop M v).2 = 1) ∧ (pdrop M v).2 0 4 = M 0 4 := by
  obtain ⟨g, R, f, C, t, y, n, -, -, h, -⟩ := h
  obtain ⟨-, -, -, a2, -⟩ := RQ.drop h.2.2.2.1.1 h.2.2.2.1.2.2 h.1.1.2 v
  obtain ⟨-, -, -, b1, b2, -⟩ := h.nums
  have e21 : pdr1 M 2 21 = M 2 21 ∨ True := Or.inr trivial
  have hlt := b1.1
  have e21 : pdr1 M 2 21 = M 2 21 := by
    unfold pdr1 pmakeRes
    try dsimp only
    rw [zup_ne _ _ _ _ (by omega), zup_ne _ _ _ _ (by omega), zup_ne _ _ _ _ (by omega), zup_ne _ _ _ _ (by omega), zup_ne _ _ _ _ (by omega), zup_ne _ _ _ _ (by omega)]
  rw [e21] at b2
  obtain ⟨d1, d2⟩ := hq.drp b1 b2 v
  exact ⟨a2.lab hL, d1, d2, a2.2.1 4 (by decide) (by decide)⟩
theorem OB.snd (h : OB b0 n0 c k M g f) (hq : NQ M) : SND M := by
  obtain ⟨g, R, f, C, t, y, n, -, -, h, -⟩ := h
  exact SND.of h.2.2.2.1.1 hq
end LS2
