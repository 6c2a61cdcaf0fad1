/-! The listing, in both: the bytes; the run. -/
def LB0 (C M : zI) (n : Nat) : Prop := C 9 1 = nI n ∧ ∀ i, i < n → C 10 i = M 13 i
def EF (C C' : zI) : Prop := (∀ r, r ≠ 9 → r ≠ 10 → C' r = C r) ∧ C' 9 5 = C 9 5
theorem EF.rf (C : zI) : EF C C := ⟨fun _ _ _ => rfl, rfl⟩
theorem EF.tr {C C' C2 : zI} (h : EF C C') (k : EF C' C2) : EF C C2 := ⟨fun r a b => (k.1 r a b).trans (h.1 r a b), k.2.trans h.2⟩
theorem LB0.put {C M : zI} {n : Nat} (h : LB0 C M n) (hn : n < 240) (x : Int32) : LB0 (lput C x) (zup M 13 n x) (n + 1) ∧ EF C (lput C x) ∧ lput C x 9 2 = 0 := by
  obtain ⟨h1, h2⟩ := h
  have h240 : zup C 9 2 0 9 1 < 240 := by rw [zup_ne _ _ _ _ (by omega), h1]; exact nI_lt (b := 240) hn (by decide)
  rw [lput_t h240, h1, tn_nI (by omega), show nI n + 1 = nI (n + 1) from ixA (a := n) (b := 1) rfl (ixC 1)]
  refine ⟨⟨zup_at _ _ _ _, fun i hi => ?_⟩, ⟨fun r a b => by rw [zup_r a, zup_r b, zup_r a], ?_⟩, ?_⟩
  · rw [zup_r (by decide)]
    by_cases q : i = n
    · subst q; rw [zup_at, zup_at]
    · rw [zup_ne _ _ _ _ (Or.inr q), zup_r (by decide), zup_ne _ _ _ _ (Or.inr q)]; exact h2 i (by omega)
  · rw [zup_ne _ _ _ _ (by omega), zup_r (by decide), zup_ne _ _ _ _ (by omega)]
  · rw [zup_ne _ _ _ _ (by omega), zup_r (by decide), zup_at]
theorem LB0.opt {C M : zI} {n : Nat} (c c' : Prop) [Decidable c] [Decidable c'] (hcc : c' ↔ ¬ c) (h : LB0 C M n) (hn : n + (if c' then 1 else 0) ≤ 240) (x : Int32) : ∃ M', pputc c' (n, M) x = (n + (if c' then 1 else 0), M') ∧ LB0 (if c then C else lput C x) M' (n + (if c' then 1 else 0)) ∧ EF C (if c then C else lput C x) ∧ ∀ r, r ≠ 13 → M' r = M r := by
  by_cases q : c
  · have q' : ¬ c' := fun z => hcc.mp z q
    rw [if_pos q, if_neg q']
    exact ⟨M, pputc_f q', h, EF.rf C, fun _ _ => rfl⟩
  · have q' : c' := hcc.mpr q
    rw [if_pos q'] at hn
    rw [if_neg q, if_pos q']
    obtain ⟨a, b, -⟩ := h.put (by omega) x
    exact ⟨_, pputc_t q', a, b, fun r hr => zup_r hr⟩
theorem lt_100 (v : Int32) : 99 < v ↔ ¬ v < 100 := by
  rw [Int32.lt_iff_toInt_lt, Int32.lt_iff_toInt_lt]
  have a : (99 : Int32).toInt = 99 := by decide
  have b : (100 : Int32).toInt = 100 := by decide
  rw [a, b]; omega
theorem lt_10 (v : Int32) : 9 < v ↔ ¬ v < 10 := by
  rw [Int32.lt_iff_toInt_lt, Int32.lt_iff_toInt_lt]
  have a : (9 : Int32).toInt = 9 := by decide
  have b : (10 : Int32).toInt = 10 := by decide
  rw [a, b]; omega
theorem own_0 (v : Int32) : own 0 v = (if 99 < v then 1 else 0) + (if 9 < v then 1 else 0) + 1 := by
  unfold own
  rw [if_pos rfl]
  by_cases q : 99 < v
  · have q9 : 9 < v := by
      rw [Int32.lt_iff_toInt_lt] at q ⊢
      have a : (99 : Int32).toInt = 99 := by decide
      have b : (9 : Int32).toInt = 9 := by decide
      rw [a] at q; rw [b]; omega
    rw [if_pos q, if_pos q, if_pos q9]
  · rw [if_neg q, if_neg q]
    by_cases q9 : 9 < v
    · rw [if_pos q9, if_pos q9]
    · rw [if_neg q9, if_neg q9]
/-- a number's bytes -/
theorem LB0.num {C M : zI} {n : Nat} (h : LB0 C M n) (v : Int32) (hn : n + (if C 9 2 = 0 then 0 else 1) + own 0 v ≤ 240) : ∃ M', playNum M n v (C 9 2) = (n + (if C 9 2 = 0 then 0 else 1) + own 0 v, M') ∧ LB0 (lnum C v) M' (n + (if C 9 2 = 0 then 0 else 1) + own 0 v) ∧ EF C (lnum C v) ∧ lnum C v 9 2 = 1 ∧ ∀ r, r ≠ 13 → M' r = M r := by
  have ec : (if ¬ C 9 2 = 0 then 1 else 0) = (if C 9 2 = 0 then 0 else 1) := by
    by_cases q : C 9 2 = 0
    · rw [if_pos q, if_neg (fun z => z q)]
    · rw [if_neg q, if_pos q]
  rw [own_0] at hn ⊢
  obtain ⟨M1, a1, a2, a3, a4⟩ := h.opt (C 9 2 = 0) (¬ C 9 2 = 0) Iff.rfl (by rw [ec]; omega) 32
  rw [ec] at a1 a2
  obtain ⟨M2, b1, b2, b3, b4⟩ := a2.opt (v < 100) (99 < v) (lt_100 v) (by omega) (48 + v / 100)
  obtain ⟨M3, c1, c2, c3, c4⟩ := b2.opt (v < 10) (9 < v) (lt_10 v) (by omega) (48 + (v / 10 - v / 10 / 10 * 10))
  obtain ⟨d2, d3, -⟩ := c2.put (by omega) (48 + (v - v / 10 * 10))
  refine ⟨zup M3 13 (n + (if C 9 2 = 0 then 0 else 1) + (if 99 < v then 1 else 0) + (if 9 < v then 1 else 0)) (48 + (v - v / 10 * 10)), ?_, ⟨?_, fun i hi => ?_⟩, ⟨fun r r9 r10 => ?_, ?_⟩, zup_at _ _ _ _, fun r hr => ?_⟩
  · unfold playNum
    rw [a1, b1, c1]
    show (_ + 1, _) = _
    refine Prod.ext ?_ rfl
    show _ + 1 = _
    omega
  · show lnum C v 9 1 = _
    unfold lnum
    rw [zup_ne _ _ _ _ (by omega)]
    refine d2.1.trans (congrArg nI ?_)
    omega
  · show lnum C v 10 i = _
    unfold lnum
    rw [zup_r (by decide)]
    exact d2.2 i (by omega)
  · unfold lnum
    rw [zup_r r9]
    exact (d3.1 r r9 r10).trans ((c3.1 r r9 r10).trans ((b3.1 r r9 r10).trans (a3.1 r r9 r10)))
  · unfold lnum
    rw [zup_ne _ _ _ _ (by omega)]
    exact d3.2.trans (c3.2.trans (b3.2.trans a3.2))
  · rw [zup_r hr, c4 r hr, b4 r hr, a4 r hr]
/-- how many bytes stand for a sign -/
def em (k : Nat) : Nat := if k = 8 ∨ k = 10 ∨ k = 11 ∨ k = 13 then 2 else 1
theorem em_own (k : Nat) (hk : 1 ≤ k) (a : Int32) : own k a = em k + (if k = 15 then 1 else 0) := by
  unfold own em
  rw [if_neg (by omega)]
  by_cases q : k = 15
  · rw [if_pos (by omega), if_neg (by omega), if_pos q]
  · rw [if_neg q]
    by_cases q2 : k = 8 ∨ k = 10 ∨ k = 11 ∨ k = 13
    · rw [if_pos (by omega), if_pos q2]
    · rw [if_neg (by omega), if_neg q2]
theorem sgo : ∀ k, k < 16 → 2 ≤ k → psignOf (nI k) = sgn k := by decide +kernel
theorem pnm_n : ∀ k, k < 16 → ¬ (k = 8 ∨ k = 10 ∨ k = 11 ∨ k = 13) → ¬ nI k = 8 ∧ ¬ nI k = 10 ∧ ¬ nI k = 11 ∧ ¬ nI k = 13 := by decide +kernel
theorem sgn_d1 : ∀ k, k < 16 → 2 ≤ k → ¬ (k = 8 ∨ k = 10 ∨ k = 11 ∨ k = 13) → ¬ sgn k = 38 ∧ ¬ sgn k = 48 ∧ ¬ sgn k = 61 := by decide +kernel
theorem sgn_d2 : ∀ k, k < 16 → 2 ≤ k → ¬ (k = 8 ∨ k = 10 ∨ k = 11 ∨ k = 13) → ¬ sgn k = 94 ∧ ¬ sgn k = 97 ∧ ¬ sgn k = 126 := by decide +kernel
section LST3
variable {b0 n0 fs e : Nat} {g : zG} {f : zI} {t : zTs} {T : Nat → Int32}
theorem LB0.sign {C M : zI} {n x k : Nat} (h : LB0 C M n) (hT : M 1 = T) (hx : x < 65000) (hk : 1 ≤ k ∧ k ≤ 15) (hkT : T (5 * x) = nI k) (hE : EN b0 n0 g f T (e, t.2) k x) (hn : n + em k ≤ 240) : ∃ M', pllA M n (nI x) = (n + em k, M') ∧ LB0 (lhead f C (t.2.1 x)) M' (n + em k) ∧ EF C (lhead f C (t.2.1 x)) ∧ lhead f C (t.2.1 x) 9 2 = 0 ∧ ∀ r, r ≠ 13 → M' r = M r := by
  obtain ⟨⟨-, -, e0, e1⟩, ⟨d1, d2, d3⟩, -⟩ := hE
  have e0 : f (t.2.1 x) 0 = sgn k := e0
  have hkp : ∀ N : zI, N 1 = T → pkind N (nI x) = nI k := fun N hN => by rw [pkind_n (by omega), hN]; exact hkT
  have hpa : ∀ N : zI, N 1 = T → parg N (nI x) = T (5 * x + 1) := fun N hN => by rw [parg_n (by omega), hN]
  have hx0 : ¬ nI x < 0 := nI_pos (by omega)
  have hS : pllS M (nI x) = if nI k = 1 then 97 + T (5 * x + 1) else psignOf (nI k) := by
    unfold pllS
    rw [if_neg hx0, hkp M hT, hpa M hT]
  have hone : em k = 1 → ∀ y : Int32, pllS M (nI x) = y → pnamed (zup M 13 n y) (nI x) = -9 → lhead f C (t.2.1 x) = lput C y → ∃ M', pllA M n (nI x) = (n + em k, M') ∧ LB0 (lhead f C (t.2.1 x)) M' (n + em k) ∧ EF C (lhead f C (t.2.1 x)) ∧ lhead f C (t.2.1 x) 9 2 = 0 ∧ ∀ r, r ≠ 13 → M' r = M r := fun hm y y1 y2 y3 => by
    rw [hm] at hn ⊢
    obtain ⟨a1, a2, a3⟩ := h.put (by omega) y
    rw [y3]
    refine ⟨zup M 13 n y, ?_, a1, a2, a3, fun r hr => zup_r hr⟩
    unfold pllA pllN
    rw [y1, if_neg (fun z => z.2 y2)]
  have htwo : em k = 2 → ∀ y y' : Int32, pllS M (nI x) = y → pnamed (zup M 13 n y) (nI x) = y' → ¬ y' = -9 → lhead f C (t.2.1 x) = lput (lput C y) y' → ∃ M', pllA M n (nI x) = (n + em k, M') ∧ LB0 (lhead f C (t.2.1 x)) M' (n + em k) ∧ EF C (lhead f C (t.2.1 x)) ∧ lhead f C (t.2.1 x) 9 2 = 0 ∧ ∀ r, r ≠ 13 → M' r = M r := fun hm y y' y1 y2 y4 y3 => by
    rw [hm] at hn ⊢
    obtain ⟨a1, a2, a3⟩ := h.put (by omega) y
    obtain ⟨b1, b2, b3⟩ := a1.put (by omega) y'
    rw [y3]
    refine ⟨zup (zup M 13 n y) 13 (n + 1) y', ?_, b1, a2.tr b2, b3, fun r hr => by rw [zup_r hr, zup_r hr]⟩
    unfold pllA pllN
    rw [y1, if_pos ⟨hx0, by rw [y2]; exact y4⟩, y2]
  have hM1 : ∀ y, zup M 13 n y 1 = T := fun y => (zup_r (by decide)).trans hT
  by_cases k1 : k = 1
  · subst k1
    have e1 : f (t.2.1 x) 1 = T (5 * x + 1) := e1 (by omega)
    refine hone (by decide) (97 + T (5 * x + 1)) (by rw [hS, if_pos (by rfl)]) ?_ (by rw [lhead_97 (by rw [e0]; decide), e1])
    unfold pnamed
    rw [hkp _ (hM1 _)]
    rfl
  have k2 : 2 ≤ k := by omega
  have k1n : ¬ nI k = 1 := fun z => k1 ((nI_eq (b := 1) (by omega) (by decide)).mp z)
  rw [if_neg k1n, sgo k (by omega) k2] at hS
  by_cases q : k = 8 ∨ k = 10 ∨ k = 11 ∨ k = 13
  · have ev : f (t.2.1 x) 1 = T (5 * x + 1) := e1 (by omega)
    have hm : em k = 2 := if_pos q
    have hnn : ∀ (c v : Nat), c < 200 → v < 200 → T (5 * x + 1) = nI v → ¬ (nI c + T (5 * x + 1) = -9) := fun c v hc hv hq z => by
      rw [hq, show nI c + nI v = nI (c + v) from ixA rfl rfl] at z
      exact absurd z ((iv_nI (N := 1000) (by omega) (by decide)).nn (by decide))
    rcases q with rfl | rfl | rfl | rfl
    · obtain ⟨v, v1, v2, -⟩ := d1 (Or.inr rfl)
      refine htwo hm (sgn 8) (97 + T (5 * x + 1)) hS ?_ (hnn 97 v (by decide) (by omega) v2) (by rw [lhead_61 (by rw [e0]; decide), ev]; rfl)
      unfold pnamed
      rw [hkp _ (hM1 _), hpa _ (hM1 _)]
      rfl
    · obtain ⟨v, v1, v2⟩ := d2 (Or.inl rfl)
      refine htwo hm (sgn 10) (65 + T (5 * x + 1)) hS ?_ (hnn 65 v (by decide) (by omega) v2) (by rw [lhead_94 (by rw [e0]; decide), ev, e0])
      unfold pnamed
      rw [hkp _ (hM1 _), hpa _ (hM1 _)]
      rfl
    · obtain ⟨v, v1, v2⟩ := d2 (Or.inr rfl)
      refine htwo hm (sgn 11) (65 + T (5 * x + 1)) hS ?_ (hnn 65 v (by decide) (by omega) v2) (by rw [lhead_126 (by rw [e0]; decide), ev, e0])
      unfold pnamed
      rw [hkp _ (hM1 _), hpa _ (hM1 _)]
      rfl
    · obtain ⟨v, v1, v2⟩ := d3 rfl
      refine htwo hm (sgn 13) (48 + T (5 * x + 1)) hS ?_ (hnn 48 v (by decide) (by omega) v2) (by rw [lhead_38 (by rw [e0]; decide), ev]; rfl)
      unfold pnamed
      rw [hkp _ (hM1 _), hpa _ (hM1 _)]
      rfl
  · have hm : em k = 1 := if_neg q
    obtain ⟨s1, s2, s3⟩ := sgn_d1 k (by omega) k2 q
    obtain ⟨s4, s5, s6⟩ := sgn_d2 k (by omega) k2 q
    obtain ⟨n8, n10, n11, n13⟩ := pnm_n k (by omega) q
    refine hone hm (sgn k) hS ?_ (by rw [lhead_d (by rw [e0]; exact s1) (by rw [e0]; exact s2) (by rw [e0]; exact s3) (by rw [e0]; exact s4) (by rw [e0]; exact s5) (by rw [e0]; exact s6), e0])
    unfold pnamed
    rw [hkp _ (hM1 _), if_neg n8]
    by_cases q9 : nI k = 9
    · rw [if_pos q9]
    rw [if_neg q9, if_neg n10, if_neg n11]
    by_cases q12 : nI k = 12
    · rw [if_pos q12]
    rw [if_neg q12, if_neg n13]
theorem lparts_0 {S : zRf × zI} {x k : Nat} (hE : EN b0 n0 g f T (e, t.2) k x) (hk : k ≤ 1) : lparts g f S (t.2.1 x) = S := by
  obtain ⟨-, -, hp, -, hn, -⟩ := hE
  have ha : ari k = 0 := by
    have : k = 0 ∨ k = 1 := by omega
    rcases this with rfl | rfl <;> rfl
  have h5 : g.2.2.2 (t.2.1 x) 5 = none := (hn (by omega)).1
  have h2 : g.2.2.2 (t.2.1 x) 2 = none := (hp 0 (by decide)).2 (by omega)
  have h3 : g.2.2.2 (t.2.1 x) 3 = none := (hp 1 (by decide)).2 (by omega)
  have h4 : g.2.2.2 (t.2.1 x) 4 = none := (hp 2 (by decide)).2 (by omega)
  unfold lparts lclauses lpart
  rw [if_pos h5, if_pos h4, if_pos h3, if_pos h2]
end LST3
