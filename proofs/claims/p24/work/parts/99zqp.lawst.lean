/-! The law's states: the text that was written, the trees, what was foretold. -/
/-- the text is l -/
def TXT (M : zI) (l : List Nat) : Prop := l.length ≤ 120 ∧ M 0 8 = nI l.length ∧ ∀ i, i < l.length → M 6 i = nI (l.getD i 0)
/-- the trees that there are, their labels; the roots -/
def LABM (M : zI) : Prop := ∃ lab N, M 0 1 = nI N ∧ N < 2 ^ 31 ∧ (∀ n, n < N → NDL (M 1) lab N n) ∧ ∀ k, k < 5 → M 2 k = -9 ∨ ∃ r, r < N ∧ M 2 k = nI r ∧ lab r = 0 ∧ ∃ κ, κ ≤ 15 ∧ M 1 (5 * r) = nI κ
def Z01 (M : zI) : Prop := ∀ q, q < 1200 → M 2 (7230 + q) = 0 ∨ M 2 (7230 + q) = 1
/-- what is left open, whatever sets there are for these trees, was foretold -/
def FT (M : zI) : Prop := ∀ X L lab, SCX X L lab → M 1 = X 1 → (∀ k, k < 5 → M 2 k = X 2 k) → IVS X L lab M
section LST
variable {M N : zI} {l : List Nat} {b0 n0 c k : Nat} {g : zG} {f : zI}
theorem RT.of {tx : Nat → Nat} {len : Nat} : ∀ (l : List Nat) (p : Nat), p + l.length = len → (∀ i, i < l.length → tx (p + i) = l.getD i 0) → RT tx len p l := by
  intro l
  induction l with
  | nil => intro p h _; exact h
  | cons c l ih =>
    intro p h h2
    have hlc : (c :: l).length = l.length + 1 := rfl
    refine ⟨h2 0 (by omega), ih (p + 1) (by omega) (fun i hi => ?_)⟩
    have := h2 (i + 1) (by show i + 1 < l.length + 1; omega)
    rw [show p + 1 + i = p + (i + 1) by omega, this]
    rfl
theorem TXT.nil : TXT (zup M 0 8 0) [] := ⟨by decide, zup_at _ _ _ _, fun i hi => absurd hi (Nat.not_lt_zero i)⟩
/-- a byte is written -/
theorem TXT.write (h : TXT M l) {c : Nat} (h1 : 32 ≤ c) (h2 : c ≤ 126) (hl : l.length < 120) : pwrite M (nI c) = (nI (l.length + 1), zup (zup M 6 l.length (nI c)) 0 8 (nI (l.length + 1))) ∧ TXT (pwrite M (nI c)).2 (l ++ [c]) ∧ (∀ r, r ≠ 0 → r ≠ 6 → (pwrite M (nI c)).2 r = M r) ∧ ∀ j, j ≠ 8 → (pwrite M (nI c)).2 0 j = M 0 j := by
  obtain ⟨a1, a2, a3⟩ := h
  have e : pwrite M (nI c) = (nI (l.length + 1), zup (zup M 6 l.length (nI c)) 0 8 (nI (l.length + 1))) := by
    unfold pwrite
    rw [if_neg (fun z => z.elim (nI_nlt (b := 32) (by omega) (by omega)) (nI_nlt (a := 126) (by omega) (by omega))), if_neg (fun z => by
      rw [a2] at z
      have := (nI_eq (b := 120) (by omega) (by decide)).mp z
      omega), a2, tn_nI (by omega), show nI l.length + 1 = nI (l.length + 1) from ixA rfl (ixC 1)]
  rw [e]
  have hle : (l ++ [c]).length = l.length + 1 := by simp
  refine ⟨rfl, ⟨by omega, ?_, fun i hi => ?_⟩, fun r r0 r6 => ?_, fun j hj => ?_⟩
  · rw [hle]; show zup (zup M 6 l.length (nI c)) 0 8 (nI (l.length + 1)) 0 8 = _; exact zup_at _ _ _ _
  · show zup (zup M 6 l.length (nI c)) 0 8 (nI (l.length + 1)) 6 i = _
    rw [zup_r (by decide)]
    by_cases q : i = l.length
    · subst q
      rw [zup_at]
      rw [List.getD_eq_getElem?_getD, List.getElem?_append_right (Nat.le_refl _), Nat.sub_self]; rfl
    · rw [zup_ne _ _ _ _ (Or.inr q), a3 i (by omega), List.getD_eq_getElem?_getD, List.getD_eq_getElem?_getD, List.getElem?_append_left (by omega)]
  · show zup (zup M 6 l.length (nI c)) 0 8 (nI (l.length + 1)) r = _
    rw [zup_r r0, zup_r r6]
  · show zup (zup M 6 l.length (nI c)) 0 8 (nI (l.length + 1)) 0 j = _
    rw [zup_ne _ _ _ _ (Or.inr hj), zup_r (by decide)]
theorem LABM.of (h : LABM M) (h1 : N 1 = M 1) (h0 : N 0 1 = M 0 1) (h2 : ∀ k, k < 5 → N 2 k = M 2 k) : LABM N := by
  obtain ⟨lab, n, a1, a2, a3, a4⟩ := h
  refine ⟨lab, n, h0.trans a1, a2, by rw [h1]; exact a3, fun k hk => ?_⟩
  rw [h1, h2 k hk]; exact a4 k hk
theorem Z01.of (h : Z01 M) (h2 : ∀ q, q < 1200 → N 2 (7230 + q) = M 2 (7230 + q)) : Z01 N := fun q hq => by rw [h2 q hq]; exact h q hq
/-- what a reading of a text leaves, in any state -/
theorem OB.parse (h : OB b0 n0 c k M g f) (hk : 120 * k ≤ 64800) {how : Int32} (hh : how = 0 ∨ how = 1) : ∃ N, M 0 1 = nI N ∧ N ≤ 64800 ∧ MB N (ppar0 M) (pparN (pparM M how)) := by
  obtain ⟨g, R, f, C, t, y, n, -, -, h, -⟩ := h
  obtain ⟨⟨⟨w1, w2, w3⟩, w4, w5⟩, ⟨⟨len', tx, v1, v2⟩, v3, v4⟩, ⟨⟨u1, u2⟩, u3⟩, -⟩ := h
  have u2 : t.1 ≤ 120 * k := u2
  obtain ⟨-, -, p2, -⟩ := PARSE (b0 := b0) (n0 := n0) (g := g) (R := R) (f := f) (C := C) (M := M) (t := t) (how := how) (z := how) v1 ⟨w2, w3⟩ v4 v3 u1 (by omega) (by rcases hh with rfl | rfl <;> rfl)
  exact ⟨t.1, u1, by omega, p2⟩
variable {hb : Int32 → Bool → Nat → List Nat} {hi : Int32 → Bool → Nat → List WIt} {how v0 : Int32}
set_option maxHeartbeats 1000000 in
/-- the text that was written, read: no fault, and as many expressions as were begun -/
theorem LABM.parse (hH : ∀ b mf tr, HDs b mf tr (hb b mf tr) (hi b mf tr)) (hv : v0 = (if how = 1 then 8388608 else 0)) (hT : TXT M (wrB hb hi 71 [itE v0 false] 0)) {n : Nat} (hn : M 0 1 = nI n) (hn9 : n ≤ 64800) (hM : MB n (ppar0 M) (pparN (pparM M how))) (hL : LABM M) :
    ∃ P N', pparse M how = (nI n, P) ∧ P 0 15 = -9 ∧ P 0 16 = nI (wrT hi 71 [itE v0 false] 0) ∧ n < N' ∧ N' < 65000 ∧ P 0 1 = nI N' ∧ (∀ r, r ≠ 0 → r ≠ 1 → r ≠ 7 → r ≠ 8 → r ≠ 9 → r ≠ 10 → r ≠ 11 → P r = M r) ∧ (∀ j, j ≠ 1 → j ≠ 13 → j ≠ 14 → j ≠ 15 → j ≠ 16 → j ≠ 17 → P 0 j = M 0 j) ∧
      (∀ j, P 11 j = if j = n then nI N' else M 11 j) ∧ ∃ lab', (∀ j, j < N' → NDL (P 1) lab' N' j) ∧ (∀ k, k < 5 → M 2 k = -9 ∨ ∃ r, r < N' ∧ M 2 k = nI r ∧ lab' r = 0 ∧ ∃ κ, κ ≤ 15 ∧ P 1 (5 * r) = nI κ) ∧ lab' n = 0 ∧ ∃ κ, κ ≤ 15 ∧ P 1 (5 * n) = nI κ := by
  obtain ⟨lab, n', a1, a2, a3, a4⟩ := hL
  obtain rfl : n' = n := (nI_eq (by omega) (by omega)).mp (a1.symm.trans hn)
  obtain ⟨t1, t2, t3⟩ := hT
  obtain ⟨l, el⟩ : ∃ l, l = wrB hb hi 71 [itE v0 false] 0 := ⟨_, rfl⟩
  rw [← el] at t1 t2 t3
  obtain ⟨tx, etx⟩ : ∃ tx : Nat → Nat, tx = fun i => l.getD i 0 := ⟨_, rfl⟩
  have hR : RT tx l.length 0 l := RT.of l 0 (Nat.zero_add _) (fun i _ => by rw [etx, Nat.zero_add])
  have z0 : ∀ j, j ≠ 13 → j ≠ 14 → j ≠ 15 → j ≠ 16 → ppar0 M 0 j = M 0 j := fun j j1 j2 j3 j4 => by
    unfold ppar0
    rw [zup_ne _ _ _ _ (Or.inr j4), zup_ne _ _ _ _ (Or.inr j1), zup_ne _ _ _ _ (Or.inr j3), zup_ne _ _ _ _ (Or.inr j2)]
  have zr : ∀ r, r ≠ 0 → ppar0 M r = M r := fun r hr => by
    unfold ppar0
    rw [zup_r hr, zup_r hr, zup_r hr, zup_r hr]
  have hP : PST lab tx l.length (ppar0 M) 0 n' 0 0 := by
    refine ⟨⟨t1, (z0 8 (by decide) (by decide) (by decide) (by decide)).trans t2, fun k hk => ?_⟩, ⟨?_, Nat.zero_le _, ?_⟩, ⟨(z0 1 (by decide) (by decide) (by decide) (by decide)).trans hn, by omega, ?_, by omega, ?_, by omega⟩, by rw [zr 1 (by decide)]; exact a3⟩
    · rw [zr 6 (by decide), etx]; exact t3 k hk
    · unfold ppar0; rw [zup_ne _ _ _ _ (by omega), zup_ne _ _ _ _ (by omega), zup_ne _ _ _ _ (by omega), zup_at]; rfl
    · unfold ppar0; rw [zup_ne _ _ _ _ (by omega), zup_ne _ _ _ _ (by omega), zup_at]
    · unfold ppar0; rw [zup_ne _ _ _ _ (by omega), zup_at]; rfl
    · unfold ppar0; exact zup_at _ _ _ _
  obtain ⟨Q, p', N', lab', e1, e2, e3, e4, e5, e6, e7⟩ := PTX hH hv 71 71 (Nat.le_refl _) lab (ppar0 M) 0 n' 0 [] v0 false [] pparf hP trivial ⟨rfl, rfl, rfl⟩ (Or.inl (by rw [← el]; exact hR)) (by decide) (by decide) (by omega) (by decide) (by decide)
  have eQ : pparM M how = Q := e1
  obtain ⟨s1, s2, s3, s4⟩ := e2.skip (l := []) e3 (fun c l' z => by cases z)
  have hs : s1 = l.length := s3
  subst hs
  have hsk : pparN Q = pskip Q := by
    unfold pparN
    rw [if_pos e2.2.1.2.2, if_neg]
    rw [s2.2.1.1, s2.1.2.1]
    exact nI_nlt (Nat.le_refl _) (by omega)
  rw [eQ, hsk] at hM
  obtain ⟨m1, m2, -⟩ := hM
  have h15 : pskip Q 0 15 = -9 := s2.2.1.2.2
  have h01 : pskip Q 0 1 = nI N' := s2.2.2.1.1
  have hpp : pparse M how = (nI n', zup (pskip Q) 11 n' (nI N')) := by
    unfold pparse
    rw [eQ, hsk, if_pos h15, hn, tn_nI (by omega), h01]
  have hN9 : N' ≤ 64900 := s2.2.2.1.2.1
  refine ⟨zup (pskip Q) 11 n' (nI N'), N', hpp, ?_, ?_, e4, by omega, ?_, fun r r0 r1 r7 r8 r9 r10 r11 => ?_, fun j j1 j13 j14 j15 j16 j17 => ?_, fun j => ?_, lab', ?_, fun k hk => ?_, (e6 rfl).1, ?_⟩
  · rw [zup_r (by decide)]; exact h15
  · rw [zup_r (by decide)]; exact s2.2.2.1.2.2.2.2.1
  · rw [zup_r (by decide)]; exact h01
  · rw [zup_r r11, m1 r r0 r1 r7 r8 r9 r10]; exact zr r r0
  · rw [zup_r (by decide), m2 j j1 j13 j14 j15 j16 j17]; exact z0 j j13 j14 j15 j16
  · by_cases q : j = n'
    · subst q; rw [if_pos rfl, zup_at]
    · rw [if_neg q, zup_ne _ _ _ _ (Or.inr q), m1 11 (by decide) (by decide) (by decide) (by decide) (by decide) (by decide), zr 11 (by decide)]
  · rw [zup_r (by decide)]; exact s2.2.2.2
  · refine (a4 k hk).imp id ?_
    rintro ⟨r, r1, r2, r3, κ, κ1, κ2⟩
    refine ⟨r, by omega, r2, (e5 r r1).trans r3, κ, κ1, ?_⟩
    rw [zup_r (by decide), s4 1 (by decide), e7 r r1, zr 1 (by decide)]; exact κ2
  · obtain ⟨κ, κ1, κ2⟩ := (e6 rfl).2
    exact ⟨κ, κ1, by rw [zup_r (by decide), s4 1 (by decide)]; exact κ2⟩
end LST
