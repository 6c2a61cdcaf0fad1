/-! What a run leaves open was foretold: the search for a handler; frames are pushed again. -/
section PRF
variable {X M N : zI} {L : List Nat} {lab hN : Nat → Nat} {cA cB : Nat → Int32} {np nr κ i : Nat} {T : Nat → Int32}
theorem pclause_x1 (h : M 1 = X 1) (n w : Int32) : pclause M n w = pclause X n w := by
  unfold pclause
  rw [h]
  have : ∀ (k : Nat) (c : Int32), pclA M w k c = pclA X w k c := by
    intro k
    induction k with
    | zero => intro c; rfl
    | succ k ih =>
      intro c
      unfold pclA
      rw [h, ih]
  exact this _ _
/-- a mask -/
theorem SCX.mask (h : SCX X L lab) {m : Nat} (hm : m ∈ L) (hk : X 1 (5 * m) = nI 11) : ∃ a p, a < 6 ∧ X 1 (5 * m + 1) = nI a ∧ p < 65000 ∧ X 1 (5 * m + 2) = nI p ∧ X 14 m = pmasked (X 14 p) (nI a) := by
  obtain ⟨h65, hp, ha, -⟩ := h.kind hm hk (by decide)
  obtain ⟨-, ⟨f1, f2⟩, -⟩ := h.1 m hm
  obtain ⟨p, -, p2, p3⟩ := hp 0 (by decide)
  obtain ⟨a, a1, a2⟩ := ha (Or.inr rfl)
  have hpk : pkind X (nI m) = 11 := pk_e (N := X) (M := X) rfl h65 hk
  refine ⟨a, p, a1, a2, p2, p3, ?_⟩
  rw [f1, (plv_n (M := X) (N := X) rfl h65 hk (by decide) (by decide)).1]
  unfold plvE
  rw [if_neg (by rw [hpk]; decide), if_pos hpk, parg_n2 (M := X) (N := X) rfl h65, a2]
  unfold pS
  rw [if_pos (by decide), if_neg (by decide), if_neg (by decide), or_0, or_0, p3, tn_nI (by omega)]
/-- what stands above a frame, neither a mask nor a handler, may be left by it -/
theorem FI.leav (hS : SCX X L lab) (h : FI X L lab hN cA cB nr T i) (h8 : ¬ T (7 * i) = nI 8) (h12 : ¬ T (7 * i) = nI 12) : sle (cA i) (inS X 14 cA (T (7 * i + 5))) := by
  obtain ⟨-, κ, k1, k2, k3, k4, k5, k6⟩ := h
  by_cases q : κ ≤ 12
  · obtain ⟨n, h, p, a1, a2, a3, a4, a5, a6, -, a8, -, a10, -⟩ := k4 q
    obtain ⟨f8, f12, f1, f2, -⟩ := frk_h h (by omega)
    have hp : p < ari h := by
      rcases a6 with ⟨-, z, rfl⟩ | ⟨-, rfl⟩
      · rw [f2 a3 z]; decide
      · exact f1 a3
    obtain ⟨m', b1, b2, b3, -, -, -, b7⟩ := hS.part a1 a5 a4 hp
    rw [a8, b3, tn_nI (by omega)]
    refine (b7 (fun z => ?_) (fun z => ?_)).tr a10
    · subst z
      rcases a6 with ⟨-, z, -⟩ | ⟨z, -⟩
      · omega
      · exact h8 (by rw [k3, z]; rfl)
    · subst z
      rcases a6 with ⟨-, z, -⟩ | ⟨z, -⟩
      · omega
      · exact h12 (by rw [k3, z]; rfl)
  · have : κ = 13 ∨ κ = 14 := by omega
    rcases this with q2 | q2
    · exact (k5 q2).1
    · obtain ⟨r, -, -, -, -, z, -⟩ := k6 q2
      exact z
/-- a frame's node -/
theorem FI.node (hS : SCX X L lab) (h : FI X L lab hN cA cB nr T i) {κ : Nat} (hk : T (7 * i) = nI κ) (hκ : κ ≤ 12) : ∃ n h p, n ∈ L ∧ n < 65000 ∧ T (7 * i + 1) = nI n ∧ 2 ≤ h ∧ h ≤ 15 ∧ X 1 (5 * n) = nI h ∧ ((κ = 2 ∧ h ≤ 5 ∧ p = 1) ∨ (κ = frk h ∧ p = 0)) ∧ (¬ κ = 2 → ¬ lab n = 0 → HR hN nr (T (7 * i + 3)) (lab n)) ∧
    cA i = X 14 (tn (X 1 (5 * n + 2 + p))) ∧ cB i = X 15 (tn (X 1 (5 * n + 2 + p))) ∧ sle (X 14 n) (inS X 14 cA (T (7 * i + 5))) ∧ sle (X 15 n) (inS X 15 cB (T (7 * i + 5))) ∧ (κ = 11 → ¬ lab n = 0 ∧ HR hN nr (T (7 * i + 4)) (lab n)) := by
  obtain ⟨-, κ', k1, k2, k3, k4, -⟩ := h
  obtain rfl : κ' = κ := (nI_eq (by omega) (by omega)).mp (k3.symm.trans hk)
  obtain ⟨n, h, p, a1, a⟩ := k4 hκ
  exact ⟨n, h, p, a1, hS.lt a1, a⟩
/-- nobody handles the operation: it may be left, with some level -/
theorem phA_un (hS : SCX X L lab) (h : IV X L lab M hN cA cB np nr) {a : Nat} (ha : a < 6) : ∀ (k c : Nat) (x s : Int32), c + k ≤ 1000 → phV M k x → OXP np x → (phA M (nI a) k (nI c) x s).1 = -9 → bt (inS X 14 cA x) (4 * a + min c 3) = true → ∃ l, l < 4 ∧ bt (X 14 (tn (X 2 0))) (4 * a + l) = true := by
  obtain ⟨⟨e1, -⟩, ⟨-, b2, -, b4⟩, -, hF, -⟩ := h
  intro k
  induction k with
  | zero => intro c x s _ h _ _ _; exact h.elim
  | succ k ih =>
    intro c x s hc hv hx hr hb
    by_cases h9 : x = -9
    · subst h9
      exact ⟨min c 3, by omega, by unfold inS at hb; rw [if_pos rfl] at hb; exact hb⟩
    · rcases hv with hv | ⟨-, -, -, hv⟩
      · exact absurd hv h9
      rcases hx with hx | ⟨i, i1, rfl⟩
      · exact absurd hx h9
      have p0 : pof M (nI i) 0 = M 4 (7 * i) := pof_n (k := 0) (by omega) (by decide)
      have p1 : pof M (nI i) 1 = M 4 (7 * i + 1) := pof_n (k := 1) (by omega) (by decide)
      have p5 : pof M (nI i) 5 = M 4 (7 * i + 5) := pof_n (k := 5) (by omega) (by decide)
      have hFi := hF i i1
      have hO : OXP np (M 4 (7 * i + 5)) := hFi.1.imp id (fun ⟨b, b1, b2⟩ => ⟨b, by omega, b2⟩)
      rw [inS_n (by omega)] at hb
      rw [p5] at hv
      unfold phA at hr
      rw [if_neg h9, p5] at hr
      by_cases h12 : M 4 (7 * i) = nI 12
      · have hpm : pmk M (nI a) (nI i) (nI c) = nI c := by
          unfold pmk
          rw [if_neg (fun z => absurd ((nI_eq (b := 8) (by decide) (by decide)).mp ((p0.trans h12).symm.trans z.1)) (by decide))]
        obtain ⟨n, h, p, a1, n65, a2, a3, a4, a5, a6, -, a8, -, a10, -⟩ := hFi.node hS h12 (by decide)
        obtain ⟨f8, f12, -⟩ := frk_h h (by omega)
        rcases a6 with ⟨z, -⟩ | ⟨a6, rfl⟩
        · exact absurd z (by decide)
        obtain rfl := f12 a6.symm
        obtain ⟨m', d1, d2, d3, -, -, d4, -⟩ := hS.hand a1 a5
        have ecA : cA i = X 14 m' := by
          rw [a8, show 5 * n + 2 + 0 = 5 * n + 2 from rfl, d3, tn_nI (by omega)]
        rw [ecA] at hb
        rw [hpm, p0, p1, h12, a2, pclause_x1 e1] at hr
        by_cases q : pclause X (nI n) (nI a) = -9
        · rw [if_neg (fun z => z.2 q)] at hr
          exact ih c _ _ (by omega) hv hO hr (a10 _ (d4 _ (pofhA_no ha (by omega) 6 0 _ rfl (Or.inl q) hb)))
        · rw [if_pos ⟨rfl, q⟩] at hr
          by_cases c0 : nI c = 0
          · rw [if_pos c0] at hr
            exact absurd hr h9
          · rw [if_neg c0] at hr
            have c1 : 1 ≤ c := by
              rcases Nat.eq_zero_or_pos c with z | z
              · exact absurd (by rw [z]; rfl) c0
              · exact z
            have ec : nI c + -1 = nI (c - 1) := by
              rw [← show nI c - 1 = nI (c - 1) from ixS rfl (ixC 1) c1, Int32.sub_eq_add_neg]
            rw [ec] at hr
            exact ih (c - 1) _ _ (by omega) hv hO hr (a10 _ (d4 _ (pofhA_dn ha c1 q 6 0 _ rfl (Nat.zero_le _) hb)))
      · rw [if_neg (fun z => h12 (p0.symm.trans z.1))] at hr
        by_cases h8 : M 4 (7 * i) = nI 8
        · obtain ⟨n, h, p, a1, n65, a2, a3, a4, a5, a6, -, a8, -, a10, -⟩ := hFi.node hS h8 (by decide)
          obtain ⟨f8, -⟩ := frk_h h (by omega)
          rcases a6 with ⟨z, -⟩ | ⟨a6, rfl⟩
          · exact absurd z (by decide)
          obtain rfl := f8 a6.symm
          obtain ⟨a0, m', d1, d2, d3, d4, d5⟩ := hS.mask a1 a5
          have ecA : cA i = X 14 m' := by
            rw [a8, show 5 * n + 2 + 0 = 5 * n + 2 from rfl, d4, tn_nI (by omega)]
          rw [ecA] at hb
          have eg : parg M (pof M (nI i) 1) = nI a0 := by
            rw [p1, a2, parg_n (by omega), e1]; exact d2
          by_cases q : a0 = a
          · subst q
            have hpm : pmk M (nI a0) (nI i) (nI c) = nI (c + 1) := by
              unfold pmk
              rw [if_pos ⟨p0.trans h8, eg⟩]
              exact ixA rfl (ixC 1)
            rw [hpm] at hr
            refine ih (c + 1) _ _ (by omega) hv hO hr (a10 _ ?_)
            rw [d5]
            exact frai_up ha hb
          · have hpm : pmk M (nI a) (nI i) (nI c) = nI c := by
              unfold pmk
              rw [if_neg (fun z => q ((nI_eq (by omega) (by omega)).mp (eg.symm.trans z.2)))]
            rw [hpm] at hr
            refine ih c _ _ (by omega) hv hO hr (a10 _ ?_)
            rw [d5]
            exact frai_ot d1 ha (by omega) q hb
        · have hpm : pmk M (nI a) (nI i) (nI c) = nI c := by
            unfold pmk
            rw [if_neg (fun z => h8 (p0.symm.trans z.1))]
          rw [hpm] at hr
          exact ih c _ _ (by omega) hv hO hr ((hFi.leav hS h8 h12) _ hb)
/-- somebody handles it: the frames down to there -/
theorem phA_fd (h : IV X L lab M hN cA cB np nr) {a : Int32} : ∀ (k : Nat) (m x s : Int32), OXP np x → ¬ (phA M a k m x s).1 = -9 → ∃ i j, i < np ∧ j < k ∧ phA M a k m x s = (nI i, s + nI j) ∧ M 4 (7 * i) = nI 12 ∧ ¬ pclause M (pof M (nI i) 1) a = -9 ∧ ∀ hh, M 4 (7 * i + 1) = nI hh → CHN np (M 4) hh (j + 1) x := by
  obtain ⟨-, ⟨-, b2, -, -⟩, -, hF, -⟩ := h
  intro k
  induction k with
  | zero => intro m x s _ h; exact absurd rfl h
  | succ k ih =>
    intro m x s hx hn
    by_cases h9 : x = -9
    · exact absurd (by unfold phA; rw [if_pos h9]) hn
    · rcases hx with hx | ⟨i, i1, rfl⟩
      · exact absurd hx h9
      have p0 : pof M (nI i) 0 = M 4 (7 * i) := pof_n (k := 0) (by omega) (by decide)
      have p5 : pof M (nI i) 5 = M 4 (7 * i + 5) := pof_n (k := 5) (by omega) (by decide)
      have hO : OXP np (M 4 (7 * i + 5)) := (hF i i1).1.imp id (fun ⟨b, b1, b2⟩ => ⟨b, by omega, b2⟩)
      have hrec : ∀ m', phA M a (k + 1) m (nI i) s = phA M a k m' (pof M (nI i) 5) (s + 1) → ∃ i' j, i' < np ∧ j < k + 1 ∧ phA M a (k + 1) m (nI i) s = (nI i', s + nI j) ∧ M 4 (7 * i') = nI 12 ∧ ¬ pclause M (pof M (nI i') 1) a = -9 ∧ ∀ hh, M 4 (7 * i' + 1) = nI hh → CHN np (M 4) hh (j + 1) (nI i) := fun m' e => by
        rw [e, p5] at hn ⊢
        obtain ⟨i', j, c1, c2, c3, c4, c5, c6⟩ := ih m' _ (s + 1) hO hn
        refine ⟨i', j + 1, c1, by omega, ?_, c4, c5, fun hh z => ⟨i, i1, rfl, Or.inr (c6 hh z)⟩⟩
        rw [c3, Int32.add_assoc]
        exact congrArg (fun z => (nI i', s + z)) ((ixA (ixC 1) rfl).trans (congrArg nI (Nat.add_comm 1 j)))
      by_cases q : pof M (nI i) 0 = 12 ∧ ¬ pclause M (pof M (nI i) 1) a = -9
      · by_cases q0 : pmk M a (nI i) m = 0
        · refine ⟨i, 0, i1, by omega, ?_, p0.symm.trans q.1, q.2, fun hh z => ⟨i, i1, rfl, Or.inl ⟨rfl, p0.symm.trans q.1, z⟩⟩⟩
          unfold phA
          rw [if_neg h9, if_pos q, if_pos q0]
          exact congrArg (fun z => (nI i, z)) (Int32.add_zero s).symm
        · exact hrec (pmk M a (nI i) m + -1) (by
            conv => lhs; unfold phA
            rw [if_neg h9, if_pos q, if_neg q0])
      · exact hrec (pmk M a (nI i) m) (by
          conv => lhs; unfold phA
          rw [if_neg h9, if_neg q])
/-- the frames of a resumption, the lowest first -/
theorem CHN.ci {h : Nat} : ∀ (m : Nat) (x : Int32), CHN np T h m x → ∃ ci : Nat → Nat, 1 ≤ m ∧ (∀ p, p < m → ci p < np) ∧ x = nI (ci (m - 1)) ∧ (∀ p, p < m → 1 ≤ p → T (7 * ci p + 5) = nI (ci (p - 1))) ∧ T (7 * ci 0) = nI 12 ∧ T (7 * ci 0 + 1) = nI h := by
  intro m
  induction m with
  | zero => intro x q; exact q.elim
  | succ m ih =>
    rintro x ⟨i, i1, i2, c⟩
    rcases c with ⟨rfl, c2, c3⟩ | c
    · exact ⟨fun _ => i, by omega, fun _ _ => i1, i2, fun p hp hp1 => by omega, c2, c3⟩
    · obtain ⟨ci, d1, d2, d3, d4, d5, d6⟩ := ih _ c
      refine ⟨fun p => if p = m then i else ci p, by omega, fun p hp => ?_, ?_, fun p hp hp1 => ?_, ?_, ?_⟩
      · show (if p = m then i else ci p) < np
        by_cases q : p = m
        · rw [if_pos q]; exact i1
        · rw [if_neg q]; exact d2 p (by omega)
      · show x = nI (if m + 1 - 1 = m then i else _)
        rw [if_pos (by omega)]; exact i2
      · show T (7 * (if p = m then i else ci p) + 5) = nI (if p - 1 = m then i else ci (p - 1))
        rw [if_neg (show ¬ p - 1 = m by omega)]
        by_cases q : p = m
        · subst q; rw [if_pos rfl]; exact d3
        · rw [if_neg q]; exact d4 p (by omega) hp1
      · show T (7 * (if 0 = m then i else ci 0)) = _
        rw [if_neg (by omega)]; exact d5
      · show T (7 * (if 0 = m then i else ci 0) + 1) = _
        rw [if_neg (by omega)]; exact d6
/-- frames are pushed again: what holds of them holds of the copies -/
theorem ppu_go {T0 : Nat → Int32} {cA0 cB0 : Nat → Int32} {np0 : Nat} {w : Nat → Nat} (h0 : np0 ≤ 40000) (hF0 : ∀ i, i < np0 → FI X L lab hN cA0 cB0 nr T0 i) : ∀ (j : Nat) (M : zI) (cA cB : Nat → Int32) (np : Nat), IV X L lab M hN cA cB np nr → np0 ≤ np → (∀ i, i < 7 * np0 → M 4 i = T0 i) → ppuV j M →
    (∀ q, q < j → w q < np0 ∧ M 16 q = nI (w q)) → (∀ q, q + 1 < j → T0 (7 * w q + 5) = nI (w (q + 1))) →
    (1 ≤ j → ∃ κ, 1 ≤ κ ∧ κ ≤ 14 ∧ T0 (7 * w (j - 1)) = nI κ ∧ FQ X L lab hN cA cB nr κ (T0 (7 * w (j - 1) + 1)) (T0 (7 * w (j - 1) + 3)) (T0 (7 * w (j - 1) + 4)) (M 2 7) (cA0 (w (j - 1))) (cB0 (w (j - 1)))) →
    ∃ cA' cB' np', IV X L lab (ppu j M) hN cA' cB' np' nr := by
  intro j
  induction j with
  | zero => intro M cA cB np h _ _ _ _ _ _; exact ⟨cA, cB, np, h⟩
  | succ j ih =>
    intro M cA cB np h hnp hT hv hw hl hq
    obtain ⟨v1, v2, v3, v4⟩ := hv
    obtain ⟨w1, w2⟩ := hw j (Nat.lt_succ_self _)
    obtain ⟨κ, k1, k2, k3, k4⟩ := hq (by omega)
    rw [Nat.add_sub_cancel] at k3 k4
    have pc : ∀ k, k < 7 → pof M (M 16 j) (nI k) = T0 (7 * w j + k) := fun k hk => by
      rw [w2, pof_n (by omega) (by omega)]
      exact hT _ (by omega)
    have e : ppu1 M j = ppush M (T0 (7 * w j)) (T0 (7 * w j + 1)) (T0 (7 * w j + 2)) (T0 (7 * w j + 3)) (T0 (7 * w j + 4)) := by
      unfold ppu1
      rw [show pof M (M 16 j) 0 = _ from pc 0 (by decide), show pof M (M 16 j) 1 = _ from pc 1 (by decide), show pof M (M 16 j) 2 = _ from pc 2 (by decide), show pof M (M 16 j) 3 = _ from pc 3 (by decide), show pof M (M 16 j) 4 = _ from pc 4 (by decide)]
      rfl
    have ht : tn (M 2 21) = np := by rw [h.2.1.1]; exact tn_nI (by have := h.2.1.2.1; omega)
    obtain ⟨g1, g2, g3, g4, g5⟩ := h.push ⟨v2, v3⟩ (e := T0 (7 * w j + 2)) k3 k1 k2 k4
    rw [← e] at g1 g3
    show ∃ cA' cB' np', IV X L lab (ppu j (ppu1 M j)) hN cA' cB' np' nr
    refine ih (ppu1 M j) _ _ _ g1 (by omega) (fun i hi => ?_) v4 (fun q hq => ⟨(hw q (by omega)).1, ?_⟩) (fun q hq => hl q (by omega)) (fun hj => ?_)
    · rw [e, ppush_o (by rw [ht]; omega)]
      exact hT i hi
    · rw [e, ppush_1 (by decide) (by decide)]
      exact (hw q (by omega)).2
    · obtain ⟨-, κ', c1, c2, c3, c4⟩ := hF0 (w (j - 1)) (hw (j - 1) (by omega)).1
      have hl' := hl (j - 1) (by omega)
      rw [show j - 1 + 1 = j by omega] at hl'
      refine ⟨κ', c1, c2, c3, c4.mono (Nat.le_refl _) (fun _ _ => rfl) ?_ ?_⟩
      · rw [hl', g3, inS_n (by omega), g4]; exact sle.rf
      · rw [hl', g3, inS_n (by omega), g5]; exact sle.rf
end PRF
