/-! What a run leaves open was foretold: what holds of frames and resumptions between two steps. -/
/-- what may be left above place x of the pool -/
def inS (X : zI) (r : Nat) (c : Nat → Int32) (x : Int32) : Int32 := if x = -9 then X r (tn (X 2 0)) else c (tn x)
/-- y is a resumption of the handler that label l names -/
def HR (hN : Nat → Nat) (nr : Nat) (y : Int32) (l : Nat) : Prop := ∃ r, r < nr ∧ y = nI r ∧ hN r + 1 = l
/-- the m frames from x on are there, the last one is a frame of handler h -/
def CHN (np : Nat) (T : Nat → Int32) (h : Nat) : Nat → Int32 → Prop
  | 0, _ => False
  | m + 1, x => ∃ i, i < np ∧ x = nI i ∧ ((m = 0 ∧ T (7 * i) = nI 12 ∧ T (7 * i + 1) = nI h) ∨ CHN np T h m (T (7 * i + 5)))
/-- a frame's cells, what may be left above it -/
def FQ (X : zI) (L : List Nat) (lab hN : Nat → Nat) (cA cB : Nat → Int32) (nr κ : Nat) (t1 t3 t4 t5 α β : Int32) : Prop :=
  (κ ≤ 12 → ∃ n h p, n ∈ L ∧ t1 = nI n ∧ 2 ≤ h ∧ h ≤ 15 ∧ X 1 (5 * n) = nI h ∧ ((κ = 2 ∧ h ≤ 5 ∧ p = 1) ∨ (κ = frk h ∧ p = 0)) ∧ (¬ κ = 2 → ¬ lab n = 0 → HR hN nr t3 (lab n)) ∧
    α = X 14 (tn (X 1 (5 * n + 2 + p))) ∧ β = X 15 (tn (X 1 (5 * n + 2 + p))) ∧ sle (X 14 n) (inS X 14 cA t5) ∧ sle (X 15 n) (inS X 15 cB t5) ∧ (κ = 11 → ¬ lab n = 0 ∧ HR hN nr t4 (lab n))) ∧
  (κ = 13 → sle α (inS X 14 cA t5) ∧ sle β (inS X 15 cB t5)) ∧
  (κ = 14 → ∃ r, r < nr ∧ t4 = nI r ∧ α = X 14 (hN r) ∧ β = X 15 (hN r) ∧ sle α (inS X 14 cA t5) ∧ sle β (inS X 15 cB t5))
def FI (X : zI) (L : List Nat) (lab hN : Nat → Nat) (cA cB : Nat → Int32) (nr : Nat) (T : Nat → Int32) (i : Nat) : Prop :=
  (T (7 * i + 5) = -9 ∨ ∃ b, b < i ∧ T (7 * i + 5) = nI b) ∧ ∃ κ, 1 ≤ κ ∧ κ ≤ 14 ∧ T (7 * i) = nI κ ∧ FQ X L lab hN cA cB nr κ (T (7 * i + 1)) (T (7 * i + 3)) (T (7 * i + 4)) (T (7 * i + 5)) (cA i) (cB i)
def OXP (np : Nat) (x : Int32) : Prop := x = -9 ∨ ∃ i, i < np ∧ x = nI i
def IV (X : zI) (L : List Nat) (lab : Nat → Nat) (M : zI) (hN : Nat → Nat) (cA cB : Nat → Int32) (np nr : Nat) : Prop :=
  (M 1 = X 1 ∧ ∀ k, k < 5 → M 2 k = X 2 k) ∧ (M 2 21 = nI np ∧ np ≤ 40000 ∧ M 2 11 = nI nr ∧ nr ≤ 1200) ∧ OXP np (M 2 7) ∧ (∀ i, i < np → FI X L lab hN cA cB nr (M 4) i) ∧
  ∀ r, r < nr → hN r ∈ L ∧ ∃ m, m ≤ 1000 ∧ M 2 (3630 + 3 * r + 1) = nI m ∧ CHN np (M 4) (hN r) m (M 2 (3630 + 3 * r))
section INV
variable {X M N : zI} {L : List Nat} {lab hN hN' : Nat → Nat} {cA cB cA' cB' : Nat → Int32} {np nr np' nr' κ : Nat} {T T' : Nat → Int32}
theorem HR.mono {y : Int32} {l : Nat} (hr : nr ≤ nr') (hn : ∀ r, r < nr → hN' r = hN r) (h : HR hN nr y l) : HR hN' nr' y l := by
  obtain ⟨r, a, b, c⟩ := h
  exact ⟨r, by omega, b, by rw [hn r a]; exact c⟩
theorem CHN.mono (hp : np ≤ np') (hT : ∀ j, j < 7 * np → T' j = T j) {h : Nat} : ∀ (m : Nat) (x : Int32), CHN np T h m x → CHN np' T' h m x := by
  intro m
  induction m with
  | zero => intro x q; exact q.elim
  | succ m ih =>
    rintro x ⟨i, a, b, c⟩
    refine ⟨i, by omega, b, ?_⟩
    rcases c with ⟨c1, c2, c3⟩ | c
    · exact Or.inl ⟨c1, (hT _ (by omega)).trans c2, (hT _ (by omega)).trans c3⟩
    · right
      rw [hT _ (by omega)]
      exact ih _ c
theorem FQ.mono {t1 t3 t4 t5 t5' α β : Int32} (hr : nr ≤ nr') (hn : ∀ r, r < nr → hN' r = hN r) (hA : sle (inS X 14 cA t5) (inS X 14 cA' t5')) (hB : sle (inS X 15 cB t5) (inS X 15 cB' t5')) (h : FQ X L lab hN cA cB nr κ t1 t3 t4 t5 α β) : FQ X L lab hN' cA' cB' nr' κ t1 t3 t4 t5' α β := by
  obtain ⟨h1, h2, h3⟩ := h
  refine ⟨fun q => ?_, fun q => ?_, fun q => ?_⟩
  · obtain ⟨n, k, p, a1, a2, a3, a4, a5, a6, a7, a8, a9, a10, a11, a12⟩ := h1 q
    exact ⟨n, k, p, a1, a2, a3, a4, a5, a6, fun z y => (a7 z y).mono hr hn, a8, a9, a10.tr hA, a11.tr hB, fun z => ⟨(a12 z).1, (a12 z).2.mono hr hn⟩⟩
  · exact ⟨(h2 q).1.tr hA, (h2 q).2.tr hB⟩
  · obtain ⟨r, a, b, c, d, e, f⟩ := h3 q
    exact ⟨r, by omega, b, by rw [hn r a]; exact c, by rw [hn r a]; exact d, e.tr hA, f.tr hB⟩
theorem inS_eq {r : Nat} {c c' : Nat → Int32} {x : Int32} (hx : OXP np x) (hp : np ≤ 40000) (h : ∀ i, i < np → c' i = c i) : inS X r c' x = inS X r c x := by
  unfold inS
  rcases hx with rfl | ⟨i, a, rfl⟩
  · rw [if_pos rfl, if_pos rfl]
  · have h9 : ¬ nI i = -9 := (iv_nI (N := 40000) (by omega) (by decide)).nn (by decide)
    rw [if_neg h9, if_neg h9, tn_nI (by omega)]
    exact h i a
theorem inS_n {r i : Nat} {c : Nat → Int32} (hi : i < 40000) : inS X r c (nI i) = c i := by
  unfold inS
  rw [if_neg ((iv_nI (N := 40000) hi (by decide)).nn (by decide)), tn_nI (by omega)]
theorem FI.mono {i : Nat} (hi : i < np) (hp : np ≤ 40000) (hr : nr ≤ nr') (hn : ∀ r, r < nr → hN' r = hN r) (hA : ∀ i, i < np → cA' i = cA i) (hB : ∀ i, i < np → cB' i = cB i) (hT : ∀ j, j < 7 * np → T' j = T j) (h : FI X L lab hN cA cB nr T i) : FI X L lab hN' cA' cB' nr' T' i := by
  obtain ⟨h1, κ, k1, k2, k3, k4⟩ := h
  have e : ∀ j, j < 7 → T' (7 * i + j) = T (7 * i + j) := fun j hj => hT _ (by omega)
  have hO : OXP np (T (7 * i + 5)) := h1.imp id (fun ⟨b, b1, b2⟩ => ⟨b, by omega, b2⟩)
  refine ⟨?_, κ, k1, k2, (e 0 (by decide)).trans k3, ?_⟩
  · rw [e 5 (by decide)]; exact h1
  · rw [e 1 (by decide), e 3 (by decide), e 4 (by decide), e 5 (by decide), hA i hi, hB i hi]
    refine k4.mono hr hn ?_ ?_
    · rw [inS_eq hO hp hA]; exact sle.rf
    · rw [inS_eq hO hp hB]; exact sle.rf
/-- cells that are not looked at change, and the top -/
theorem IV.top (h : IV X L lab M hN cA cB np nr) (h1 : N 1 = M 1) (h4 : N 4 = M 4) (h2 : ∀ k, k < 5 ∨ k = 11 ∨ k = 21 → N 2 k = M 2 k) (h3 : ∀ r, r < nr → N 2 (3630 + 3 * r) = M 2 (3630 + 3 * r) ∧ N 2 (3630 + 3 * r + 1) = M 2 (3630 + 3 * r + 1)) (h7 : OXP np (N 2 7)) : IV X L lab N hN cA cB np nr := by
  obtain ⟨⟨a1, a2⟩, ⟨b1, b2, b3, b4⟩, c, d, e⟩ := h
  refine ⟨⟨h1.trans a1, fun k hk => (h2 k (Or.inl hk)).trans (a2 k hk)⟩, ⟨(h2 21 (by omega)).trans b1, b2, (h2 11 (by omega)).trans b3, b4⟩, h7, fun i hi => ?_, fun r hr => ?_⟩
  · rw [h4]; exact d i hi
  · obtain ⟨e1, m, e2, e3, e4⟩ := e r hr
    refine ⟨e1, m, e2, (h3 r hr).2.trans e3, ?_⟩
    rw [h4, (h3 r hr).1]; exact e4
theorem IV.same (h : IV X L lab M hN cA cB np nr) (h1 : N 1 = M 1) (h4 : N 4 = M 4) (h2 : ∀ k, k < 5 ∨ k = 7 ∨ k = 11 ∨ k = 21 → N 2 k = M 2 k) (h3 : ∀ r, r < nr → N 2 (3630 + 3 * r) = M 2 (3630 + 3 * r) ∧ N 2 (3630 + 3 * r + 1) = M 2 (3630 + 3 * r + 1)) : IV X L lab N hN cA cB np nr :=
  h.top h1 h4 (fun k hk => h2 k (by omega)) h3 (by rw [h2 7 (by omega)]; exact h.2.2.1)
theorem ppush_21 {k n e s x : Int32} : ppush M k n e s x 2 21 = M 2 21 + 1 := by
  unfold ppush
  try dsimp only
  rw [zup_ne _ _ _ _ (by omega), zup_ne _ _ _ _ (by omega), zup_r (by decide), zup_r (by decide), zup_r (by decide), zup_r (by decide), zup_r (by decide), zup_r (by decide), zup_r (by decide)]
  exact zup_at _ _ _ _
theorem ppush_o {k n e s x : Int32} {j : Nat} (h : j < 7 * tn (M 2 21)) : ppush M k n e s x 4 j = M 4 j := by
  unfold ppush
  try dsimp only
  rw [zup_r (by decide), zup_r (by decide), zup_ne _ _ _ _ (by omega), zup_ne _ _ _ _ (by omega), zup_ne _ _ _ _ (by omega), zup_ne _ _ _ _ (by omega), zup_ne _ _ _ _ (by omega), zup_ne _ _ _ _ (by omega), zup_ne _ _ _ _ (by omega), zup_r (by decide)]
theorem ppush_c {k n e s x : Int32} {t : Nat} (ht : tn (M 2 21) = t) : ppush M k n e s x 4 (7 * t) = k ∧ ppush M k n e s x 4 (7 * t + 1) = n ∧ ppush M k n e s x 4 (7 * t + 2) = e ∧ ppush M k n e s x 4 (7 * t + 3) = s ∧ ppush M k n e s x 4 (7 * t + 4) = x ∧ ppush M k n e s x 4 (7 * t + 5) = M 2 7 := by
  subst ht
  have z : ∀ j, j < 6 → ppush M k n e s x 4 (7 * tn (M 2 21) + j) = zup (zup (zup (zup (zup (zup (zup M 2 21 (M 2 21 + 1)) 4 (7 * tn (M 2 21) + 0) k) 4 (7 * tn (M 2 21) + 1) n) 4 (7 * tn (M 2 21) + 2) e) 4 (7 * tn (M 2 21) + 3) s) 4 (7 * tn (M 2 21) + 4) x) 4 (7 * tn (M 2 21) + 5) ((zup (zup (zup (zup (zup (zup M 2 21 (M 2 21 + 1)) 4 (7 * tn (M 2 21) + 0) k) 4 (7 * tn (M 2 21) + 1) n) 4 (7 * tn (M 2 21) + 2) e) 4 (7 * tn (M 2 21) + 3) s) 4 (7 * tn (M 2 21) + 4) x) 2 7) 4 (7 * tn (M 2 21) + j) := fun j hj => by
    unfold ppush
    try dsimp only
    rw [zup_r (by decide), zup_r (by decide), zup_ne _ _ _ _ (by omega)]
  refine ⟨(z 0 (by decide)).trans ?_, (z 1 (by decide)).trans ?_, (z 2 (by decide)).trans ?_, (z 3 (by decide)).trans ?_, (z 4 (by decide)).trans ?_, (z 5 (by decide)).trans ?_⟩
  · simp (disch := omega) only [zup_at, zup_ne]
  · simp (disch := omega) only [zup_at, zup_ne]
  · simp (disch := omega) only [zup_at, zup_ne]
  · simp (disch := omega) only [zup_at, zup_ne]
  · simp (disch := omega) only [zup_at, zup_ne]
  · rw [zup_at]
    simp (disch := omega) only [zup_r, zup_ne]
/-- a frame is pushed -/
theorem IV.push (h : IV X L lab M hN cA cB np nr) (hv : pushV M) {k n e s x α β : Int32} (hk : k = nI κ) (k1 : 1 ≤ κ) (k2 : κ ≤ 14) (hF : FQ X L lab hN cA cB nr κ n s x (M 2 7) α β) :
    IV X L lab (ppush M k n e s x) hN (zu1 cA np α) (zu1 cB np β) (np + 1) nr ∧ np < 39999 ∧ ppush M k n e s x 2 7 = nI np ∧ inS X 14 (zu1 cA np α) (nI np) = α ∧ inS X 15 (zu1 cB np β) (nI np) = β := by
  obtain ⟨⟨a1, a2⟩, ⟨b1, b2, b3, b4⟩, c, d, e0⟩ := h
  have ht : tn (M 2 21) = np := by rw [b1]; exact tn_nI (by omega)
  have hnp : np < 39999 := by have := hv.1.1; omega
  have h7 : ppush M k n e s x 2 7 = nI np := ppush_7.trans b1
  obtain ⟨w0, w1, w2, w3, w4, w5⟩ := ppush_c (M := M) (k := k) (n := n) (e := e) (s := s) (x := x) ht
  have hA : ∀ i, i < np → zu1 cA np α i = cA i := fun i hi => zu1_ne _ _ _ (by omega)
  have hB : ∀ i, i < np → zu1 cB np β i = cB i := fun i hi => zu1_ne _ _ _ (by omega)
  have hT : ∀ j, j < 7 * np → ppush M k n e s x 4 j = M 4 j := fun j hj => ppush_o (by rw [ht]; exact hj)
  refine ⟨⟨⟨(ppush_1 (by decide) (by decide)).trans a1, fun k hk => (ppush_2 (by omega) (by omega) (by omega)).trans (a2 k hk)⟩, ⟨ppush_21.trans (ixA b1 (ixC 1)), by omega, (ppush_2 (by decide) (by decide) (by decide)).trans b3, b4⟩, Or.inr ⟨np, Nat.lt_succ_self _, h7⟩, fun i hi => ?_, fun r hr => ?_⟩, hnp, h7, ?_, ?_⟩
  · by_cases q : i = np
    · subst q
      refine ⟨?_, κ, k1, k2, w0.trans hk, ?_⟩
      · rw [w5]; exact c
      · rw [w1, w3, w4, w5, zu1_at, zu1_at]
        refine hF.mono (Nat.le_refl _) (fun _ _ => rfl) ?_ ?_
        · rw [inS_eq c b2 hA]; exact sle.rf
        · rw [inS_eq c b2 hB]; exact sle.rf
    · exact (d i (by omega)).mono (by omega) b2 (Nat.le_refl _) (fun _ _ => rfl) hA hB hT
  · obtain ⟨e1, m, e2, e3, e4⟩ := e0 r hr
    refine ⟨e1, m, e2, (ppush_2 (by omega) (by omega) (by omega)).trans e3, ?_⟩
    rw [ppush_2 (by omega) (by omega) (by omega)]
    exact e4.mono (Nat.le_succ _) hT m _
  · rw [inS_n (by omega), zu1_at]
  · rw [inS_n (by omega), zu1_at]
/-- a resumption is made -/
theorem IV.made (h : IV X L lab M hN cA cB np nr) (hr : nr < 1200) {t n : Int32} {hh m : Nat} (hL : hh ∈ L) (hm : m ≤ 1000) (hn : n = nI m) (hC : CHN np (M 4) hh m t) :
    IV X L lab (pmakeRes M t n) (zu1 hN nr hh) cA cB np (nr + 1) := by
  obtain ⟨⟨a1, a2⟩, ⟨b1, b2, b3, b4⟩, c, d, e0⟩ := h
  have ht : tn (M 2 11) = nr := by rw [b3]; exact tn_nI (by omega)
  have e : pmakeRes M t n = zup (zup (zup (zup M 2 11 (M 2 11 + 1)) 2 (3630 + 3 * nr) t) 2 (3630 + 3 * nr + 1) n) 2 (3630 + 3 * nr + 2) 0 := by
    unfold pmakeRes
    rw [ht]
  rw [e]
  have hn' : ∀ r, r < nr → zu1 hN nr hh r = hN r := fun r hr => zu1_ne _ _ _ (by omega)
  have w : ∀ k, k < 3630 → k ≠ 11 → zup (zup (zup (zup M 2 11 (M 2 11 + 1)) 2 (3630 + 3 * nr) t) 2 (3630 + 3 * nr + 1) n) 2 (3630 + 3 * nr + 2) 0 2 k = M 2 k := fun k hk h11 => by
    simp (disch := omega) only [zup_ne]
  have w4 : zup (zup (zup (zup M 2 11 (M 2 11 + 1)) 2 (3630 + 3 * nr) t) 2 (3630 + 3 * nr + 1) n) 2 (3630 + 3 * nr + 2) 0 4 = M 4 := by
    simp only [zup_r (show (4 : Nat) ≠ 2 by decide)]
  have w1 : zup (zup (zup (zup M 2 11 (M 2 11 + 1)) 2 (3630 + 3 * nr) t) 2 (3630 + 3 * nr + 1) n) 2 (3630 + 3 * nr + 2) 0 1 = M 1 := by
    simp only [zup_r (show (1 : Nat) ≠ 2 by decide)]
  refine ⟨⟨w1.trans a1, fun k hk => (w k (by omega) (by omega)).trans (a2 k hk)⟩, ⟨(w 21 (by decide) (by decide)).trans b1, b2, ?_, by omega⟩, ?_, fun i hi => ?_, fun r hr => ?_⟩
  · simp (disch := omega) only [zup_at, zup_ne]
    exact ixA b3 (ixC 1)
  · rw [w 7 (by decide) (by decide)]; exact c
  · rw [w4]
    exact (d i hi).mono hi b2 (Nat.le_succ _) hn' (fun _ _ => rfl) (fun _ _ => rfl) (fun _ _ => rfl)
  · by_cases q : r = nr
    · subst q
      refine ⟨by rw [zu1_at]; exact hL, m, hm, ?_, ?_⟩
      · simp (disch := omega) only [zup_at, zup_ne]
        exact hn
      · rw [w4, zu1_at]
        simp (disch := omega) only [zup_at, zup_ne]
        exact hC
    · obtain ⟨e1, m', e2, e3, e4⟩ := e0 r (by omega)
      refine ⟨by rw [zu1_ne _ _ _ q]; exact e1, m', e2, ?_, ?_⟩
      · simp (disch := omega) only [zup_ne]
        exact e3
      · rw [w4, zu1_ne _ _ _ q]
        simp (disch := omega) only [zup_ne]
        exact e4
end INV
