/-! What a run leaves open was foretold: the searches. -/
def CHS (X : zI) (hN : Nat → Nat) (np nr : Nat) (T : Nat → Int32) (S : Int32) : Nat → Int32 → Prop
  | 0, _ => True
  | m + 1, x => ∃ i, i < np ∧ x = nI i ∧ (T (7 * i) = nI 9 → ∀ n, n < 65000 → T (7 * i + 1) = nI n → sle (X 15 n) S) ∧ (T (7 * i) = nI 14 → ∀ r, r < nr → T (7 * i + 4) = nI r → sle (X 15 (hN r)) S) ∧ CHS X hN np nr T S m (T (7 * i + 5))
theorem frk_h0 : ∀ h, h < 16 → (frk h = 8 → h = 11) ∧ (frk h = 12 → h = 15) ∧ (2 ≤ h → 1 ≤ ari h) ∧ (2 ≤ h → h ≤ 5 → ari h = 2) := by decide +kernel
theorem frk_h1 : ∀ h, h < 16 → (frk h = 9 → h = 12) ∧ (frk h = 1 → 2 ≤ h → h ≤ 5) ∧ ¬ frk h = 2 ∧ (frk h = 3 → h = 6) := by decide +kernel
theorem frk_h2 : ∀ h, h < 16 → (frk h = 4 → h = 7) ∧ (frk h = 5 → h = 8) ∧ (frk h = 7 → h = 10) ∧ (frk h = 10 → h = 13) := by decide +kernel
theorem frk_h3 : ∀ h, h < 16 → (frk h = 11 → h = 14) ∧ (2 ≤ h → 1 ≤ frk h) ∧ (2 ≤ h → frk h ≤ 12) := by decide +kernel
theorem frk_h (h : Nat) (k : h < 16) : (frk h = 8 → h = 11) ∧ (frk h = 12 → h = 15) ∧ (2 ≤ h → 1 ≤ ari h) ∧ (2 ≤ h → h ≤ 5 → ari h = 2) ∧ (frk h = 9 → h = 12) ∧ (frk h = 1 → 2 ≤ h → h ≤ 5) ∧ ¬ frk h = 2 ∧ (frk h = 3 → h = 6) ∧ (frk h = 4 → h = 7) ∧ (frk h = 5 → h = 8) ∧ (frk h = 7 → h = 10) ∧ (frk h = 10 → h = 13) ∧ (frk h = 11 → h = 14) ∧ (2 ≤ h → 1 ≤ frk h) ∧ (2 ≤ h → frk h ≤ 12) := by
  obtain ⟨a, b, c, d⟩ := frk_h0 h k
  obtain ⟨e, f, g, i⟩ := frk_h1 h k
  obtain ⟨j, l, m, n⟩ := frk_h2 h k
  obtain ⟨o, p, q⟩ := frk_h3 h k
  exact ⟨a, b, c, d, e, f, g, i, j, l, m, n, o, p, q⟩
section SRC
variable {X M N : zI} {L : List Nat} {lab hN : Nat → Nat} {cA cB : Nat → Int32} {np nr κ i : Nat} {T : Nat → Int32}
theorem SCX.lt (h : SCX X L lab) {m : Nat} (hm : m ∈ L) : m < 65000 := (h.1 m hm).1.1
/-- what stands above a frame may be left by it, late; what it does itself, too -/
theorem FI.late (hS : SCX X L lab) (hnr : nr ≤ 1200) (h : FI X L lab hN cA cB nr T i) : sle (cB i) (inS X 15 cB (T (7 * i + 5))) ∧ (T (7 * i) = nI 9 → ∀ n, n < 65000 → T (7 * i + 1) = nI n → sle (X 15 n) (inS X 15 cB (T (7 * i + 5)))) ∧ (T (7 * i) = nI 14 → ∀ r, r < nr → T (7 * i + 4) = nI r → sle (X 15 (hN r)) (inS X 15 cB (T (7 * i + 5)))) := by
  obtain ⟨-, κ, k1, k2, k3, k4, k5, k6⟩ := h
  have ke : ∀ j, j < 100 → T (7 * i) = nI j → κ = j := fun j hj z => (nI_eq (by omega) (by omega)).mp (k3.symm.trans z)
  refine ⟨?_, fun q n hn e => ?_, fun q r hr e => ?_⟩
  · by_cases q : κ ≤ 12
    · obtain ⟨n, h, p, a1, a2, a3, a4, a5, a6, -, -, a9, -, a11, -⟩ := k4 q
      obtain ⟨-, -, f1, f2, -⟩ := frk_h h (by omega)
      have hp : p < ari h := by
        rcases a6 with ⟨-, z, rfl⟩ | ⟨-, rfl⟩
        · rw [f2 a3 z]; decide
        · exact f1 a3
      obtain ⟨m', b1, b2, b3, -, -, b6, -⟩ := hS.part a1 a5 a4 hp
      rw [a9, b3, tn_nI (by omega)]
      exact b6.tr a11
    · have : κ = 13 ∨ κ = 14 := by omega
      rcases this with q2 | q2
      · exact (k5 q2).2
      · obtain ⟨r, -, -, -, -, -, z⟩ := k6 q2
        exact z
  · obtain rfl := ke 9 (by decide) q
    obtain ⟨n', h, p, a1, a2, a3, a4, a5, a6, -, -, -, -, a11, -⟩ := k4 (by decide)
    obtain rfl : n' = n := (nI_eq (by have := hS.lt a1; omega) (by omega)).mp (a2.symm.trans e)
    exact a11
  · obtain rfl := ke 14 (by decide) q
    obtain ⟨r', r1, r2, r3, r4, r5, r6⟩ := k6 rfl
    obtain rfl : r' = r := (nI_eq (by omega) (by omega)).mp (r2.symm.trans e)
    rw [← r4]; exact r6
theorem CHS.mono {S S' : Int32} (hs : sle S S') : ∀ (m : Nat) (x : Int32), CHS X hN np nr T S m x → CHS X hN np nr T S' m x := by
  intro m
  induction m with
  | zero => intro x _; exact trivial
  | succ m ih =>
    rintro x ⟨i, a, b, c, d, e⟩
    exact ⟨i, a, b, fun q n hn z => (c q n hn z).tr hs, fun q r hr z => (d q r hr z).tr hs, ih _ e⟩
/-- what the frames of a resumption may leave late -/
theorem CHN.late (hS : SCX X L lab) (hnp : np ≤ 40000) (hnr : nr ≤ 1200) (hF : ∀ i, i < np → FI X L lab hN cA cB nr T i) {hh : Nat} (hL : hh ∈ L) : ∀ (m : Nat) (x : Int32), CHN np T hh m x → CHS X hN np nr T (X 15 (tn (X 1 (5 * hh + 2)))) m x ∧ ∃ i, i < np ∧ x = nI i ∧ sle (cB i) (X 15 (tn (X 1 (5 * hh + 2)))) := by
  intro m
  induction m with
  | zero => intro x q; exact q.elim
  | succ m ih =>
    rintro x ⟨i, i1, i2, c⟩
    have h65 := hS.lt hL
    rcases c with ⟨rfl, c2, c3⟩ | c
    · have no : ∀ j, j < 100 → j ≠ 12 → ¬ T (7 * i) = nI j := fun j hj h12 z => h12 ((nI_eq (by omega) (by omega)).mp (z.symm.trans c2))
      refine ⟨⟨i, i1, i2, fun q => absurd q (no 9 (by decide) (by decide)), fun q => absurd q (no 14 (by decide) (by decide)), trivial⟩, i, i1, i2, ?_⟩
      obtain ⟨-, κ, k1, k2, k3, k4, -⟩ := hF i i1
      obtain rfl : κ = 12 := (nI_eq (by omega) (by omega)).mp (k3.symm.trans c2)
      obtain ⟨n, h, p, a1, a2, a3, a4, a5, a6, -, -, a9, -⟩ := k4 (by decide)
      obtain rfl : n = hh := (nI_eq (by have := hS.lt a1; omega) (by omega)).mp (a2.symm.trans c3)
      rcases a6 with ⟨z, -⟩ | ⟨-, rfl⟩
      · exact absurd z (by decide)
      · rw [a9]; exact sle.rf
    · obtain ⟨d1, b, b1, b2, b3⟩ := ih _ c
      obtain ⟨f1, f2, f3⟩ := (hF i i1).late hS hnr
      rw [b2, inS_n (by omega)] at f1 f2 f3
      exact ⟨⟨i, i1, i2, fun q n hn e => (f2 q n hn e).tr b3, fun q r hr e => (f3 q r hr e).tr b3, d1⟩, i, i1, i2, f1.tr b3⟩
/-- the search for a pending finalizer -/
theorem ppd_late (hS : SCX X L lab) (h : IV X L lab M hN cA cB np nr) {S : Int32} : ∀ (k n : Nat) (N : zI), SM M N → (∀ e, e < n → ∃ m, m ≤ 1000 ∧ N 18 e = nI m ∧ CHS X hN np nr (M 4) S m (N 17 e)) →
    SM M (ppd k n N).2 ∧ ((ppd k n N).1 = -9 ∨ ∃ i, i < np ∧ (ppd k n N).1 = nI i ∧ M 4 (7 * i) = nI 9 ∧ ∀ n, n < 65000 → M 4 (7 * i + 1) = nI n → sle (X 15 n) S) := by
  obtain ⟨-, ⟨-, b2, -, b4⟩, -, hF, hR⟩ := h
  intro k
  induction k with
  | zero => intro n N hM _; exact ⟨hM, Or.inl rfl⟩
  | succ k ih =>
    intro n N hM hE
    cases n with
    | zero => exact ⟨hM, Or.inl rfl⟩
    | succ n =>
      have h4 : N 4 = M 4 := hM.1 4 (by decide) (by decide) (by decide) (by decide)
      have h2 : N 2 = M 2 := hM.1 2 (by decide) (by decide) (by decide) (by decide)
      unfold ppd
      by_cases q0 : N 18 n = 0
      · rw [if_pos q0]
        exact ih n N hM (fun e he => hE e (by omega))
      · rw [if_neg q0]
        obtain ⟨m, m1, m2, m3⟩ := hE n (Nat.lt_succ_self _)
        obtain ⟨m, rfl⟩ : ∃ m', m = m' + 1 := ⟨m - 1, by
          rcases Nat.eq_zero_or_pos m with z | z
          · exact absurd (m2.trans (by rw [z]; rfl)) q0
          · omega⟩
        obtain ⟨i, i1, i2, i3, i4, i5⟩ := m3
        have p0 : pof N (N 17 n) 0 = M 4 (7 * i) := by rw [i2]; exact (pof_n (k := 0) (by omega) (by decide)).trans (congrFun h4 _)
        have p4 : pof N (N 17 n) 4 = M 4 (7 * i + 4) := by rw [i2]; exact (pof_n (k := 4) (by omega) (by decide)).trans (congrFun h4 _)
        have p5 : pof N (N 17 n) 5 = M 4 (7 * i + 5) := by rw [i2]; exact (pof_n (k := 5) (by omega) (by decide)).trans (congrFun h4 _)
        obtain ⟨w1, w2, w3⟩ := ppdA_v N n
        obtain ⟨sA, -, -⟩ := ppdA_m N n
        have eA : ∀ e, e < n + 1 → ∃ m, m ≤ 1000 ∧ ppdA N n 18 e = nI m ∧ CHS X hN np nr (M 4) S m (ppdA N n 17 e) := fun e he => by
          by_cases q : e = n
          · subst q
            refine ⟨m, by omega, w2.trans ?_, ?_⟩
            · rw [m2]; exact ixS rfl (ixC 1) (by omega)
            · rw [w1, p5]; exact i5
          · rw [(w3 e q).1, (w3 e q).2]
            exact hE e he
        by_cases c9 : pof N (N 17 n) 0 = 9 ∧ N 2 (7230 + tn (pof N (N 17 n) 4)) = 0
        · rw [if_pos c9]
          exact ⟨hM.tr sA, Or.inr ⟨i, i1, i2, p0.symm.trans c9.1, i3 (p0.symm.trans c9.1)⟩⟩
        · rw [if_neg c9]
          by_cases c14 : pof N (N 17 n) 0 = 14 ∧ puses N (pof N (N 17 n) 4) = 0 ∧ ¬ N 19 (tn (pof N (N 17 n) 4)) = N 0 27
          · rw [if_pos c14]
            have k14 : M 4 (7 * i) = nI 14 := p0.symm.trans c14.1
            obtain ⟨-, κ, k1, k2, k3, -, -, k6⟩ := hF i i1
            obtain rfl : κ = 14 := (nI_eq (by omega) (by omega)).mp (k3.symm.trans k14)
            obtain ⟨r, r1, r2, -⟩ := k6 rfl
            have hr1200 : r < 1200 := by omega
            rw [p4, r2]
            obtain ⟨sB, -, -, y1, y2, y3⟩ := ppdB_m (M := ppdA N n) (n := n + 1) hr1200
            have hA2 : ppdA N n 2 = M 2 := (sA.1 2 (by decide) (by decide) (by decide) (by decide)).trans h2
            refine ih (n + 2) _ ((hM.tr sA).tr sB) (fun e he => ?_)
            by_cases q : e = n + 1
            · subst q
              obtain ⟨hL, mm, v1, v2, v3⟩ := hR r r1
              refine ⟨mm, v1, ?_, ?_⟩
              · rw [y2, hA2]; exact v2
              · rw [y1, hA2]
                obtain ⟨p, -, p2, p3, -, pp, -⟩ := hS.hand hL (by
                  -- the lowest frame is a handler's
                  have : ∀ (m : Nat) (x : Int32), CHN np (M 4) (hN r) m x → X 1 (5 * hN r) = nI 15 := by
                    intro m
                    induction m with
                    | zero => intro x z; exact z.elim
                    | succ m ihm =>
                      rintro x ⟨j, j1, j2, c⟩
                      rcases c with ⟨-, c2, c3⟩ | c
                      · obtain ⟨-, κ, k1, k2, k3, k4, -⟩ := hF j j1
                        obtain rfl : κ = 12 := (nI_eq (by omega) (by omega)).mp (k3.symm.trans c2)
                        obtain ⟨n', h', p', a1, a2, a3, a4, a5, a6, -⟩ := k4 (by decide)
                        obtain rfl : n' = hN r := (nI_eq (by have := hS.lt a1; omega) (by have := hS.lt hL; omega)).mp (a2.symm.trans c3)
                        rcases a6 with ⟨z, -⟩ | ⟨z, -⟩
                        · exact absurd z (by decide)
                        · rw [a5, (frk_h h' (by omega)).2.1 z.symm]
                      · exact ihm _ c
                  exact this _ _ v3)
                have l := (CHN.late hS b2 b4 hF hL _ _ v3).1
                rw [p3, tn_nI (by omega)] at l
                exact (l.mono pp _ _).mono (i4 k14 r r1 r2) _ _
            · rw [(y3 e q).1, (y3 e q).2]
              exact eA e (by omega)
          · rw [if_neg c14]
            exact ih (n + 1) _ (hM.tr sA) eA
end SRC
