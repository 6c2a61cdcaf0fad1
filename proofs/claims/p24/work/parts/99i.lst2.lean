/-! The listing, in both: the parts of an expression. -/
section LST2
variable {b0 n0 fs e : Nat} {g : zG} {f : zI} {t : zTs} {T : Nat → Int32}
theorem LPl.mono {a : Nat → Nat} {S : zRf × zI} {M : zI} {p U U' : Nat} (h : LPl T a fs e S M p U) (hU : U ≤ U' ∧ U' ≤ 130) : LPl T a fs e S M p U' := ⟨h.1, h.2.1.fr p U U' hU.1 (fun _ _ => ⟨rfl, rfl, rfl⟩), hU.2⟩
/-- a clause's three -/
theorem LPl.cl1 {S : zRf × zI} {M : zI} {p U x w : Nat} {qs : List Nat} {τ : Nat → Nat} (hT : M 1 = T) (he : e ≤ 65000) (hx : fs ≤ x ∧ x < e) (hN : HN b0 n0 g f T (e, t.2) x (t.2.1 x)) (hc : chC T qs (T (5 * x + 3))) (hq : ∀ q ∈ qs, x < q ∧ q < e ∧ ∃ b, q < b ∧ T (5 * q + 2) = nI b ∧ WTx T e b (τ q)) (hw : w < 7) (h : LPl T t.2.1 fs e S M p U) (hU : U + csm τ (qs.filter (fun q => tn (T (5 * q + 4)) = w)) ≤ 130) :
    ∃ p' M', (if pclause M (nI x) (nI w) = -9 then (p, M) else plpC1 (nI x) w (p, M)) = (p', M') ∧ LPl T t.2.1 fs e (lplanC g f S (t.2.1 x) (nI w)) M' p' (U + csm τ (qs.filter (fun q => tn (T (5 * q + 4)) = w))) ∧ PF S (lplanC g f S (t.2.1 x) (nI w)) ∧ ∀ r, r ≠ 12 → M' r = M r := by
  subst hT
  rcases (hN.clause (M := M) (t := (e, t.2)) (w := w) he hx.2 hw).2 with ⟨z1, z2⟩ | ⟨q, v, b, z1, z2, z3, z4, z5, z6, z7, z8, z9, za, zb, -⟩
  · rw [if_pos z1]
    refine ⟨p, M, rfl, ?_, ?_, fun _ _ => rfl⟩
    · unfold lplanC
      rw [if_pos z2]
      exact h.mono ⟨by omega, hU⟩
    · unfold lplanC
      rw [if_pos z2]
      exact PF.rf S
  · have z2 : q < e := z2
    have z5 : b < e := z5
    have hn9 : ¬ pclause M (nI x) (nI w) = -9 := by rw [z3]; exact (iv_nI (N := 65000) (by omega) (by decide)).nn (by decide)
    -- q is one of the chain
    have hqm : q ∈ qs ∧ M 1 (5 * q + 4) = nI w := by
      obtain ⟨-, qs', c1, c2, c3, -⟩ := hN
      have hqq : qs = qs' := chC_un qs qs' _ hc c1 (fun q hq' => by have := (hq q hq').2.1; omega) (fun q hq' => by have : q < e := (c3 q hq').2.1; omega)
      subst hqq
      rcases (ch_look (w := nI w) qs _ 8 hc (by omega) (fun q hq' => by have := (hq q hq').2.1; omega)).2 with ⟨q', y1, y2, y3⟩ | ⟨-, y2⟩
      · have e1 : pclause M (nI x) (nI w) = nI q' := by
          show pclA M (nI w) 8 (M 1 (5 * tn (nI x) + 3)) = _
          rw [tn_nI (by omega)]; exact y3
        have l2 := (hq q' y1).2.1
        obtain rfl : q' = q := (nI_eq (by omega) (by omega)).mp (e1.symm.trans z3)
        exact ⟨y1, y2⟩
      · have e1 : pclause M (nI x) (nI w) = -9 := by
          show pclA M (nI w) 8 (M 1 (5 * tn (nI x) + 3)) = _
          rw [tn_nI (by omega)]; exact y2
        exact absurd e1 hn9
    obtain ⟨hq1, hq2⟩ := hqm
    obtain ⟨-, -, b', w1, w2, w3⟩ := hq q hq1
    obtain rfl : b' = b := (nI_eq (by have := w3.lt; omega) (by omega)).mp (w2.symm.trans z6)
    have hmem : q ∈ qs.filter (fun q => tn (M 1 (5 * q + 4)) = w) := List.mem_filter.mpr ⟨hq1, decide_eq_true (by rw [hq2, tn_nI (by omega)])⟩
    have hle := csm_mem τ _ _ hmem
    rw [if_neg hn9]
    obtain ⟨p1, f1⟩ := h.node (s := τ q) (by omega) w3 (by omega)
    obtain ⟨p2, f2⟩ := p1.byte (y := 97 + v) (by omega) (by omega)
    obtain ⟨p3, f3⟩ := p2.byte (y := if w = 6 then 58 else 65 + w) (by omega) (by split <;> omega)
    have e97 : 97 + bclvar g f (t.2.1 x) (nI w) = nI (97 + v) := by rw [zb]; exact ixA (a := 97) (b := v) (ixC 97) rfl
    have ew : (if nI w = 6 then (58 : Int32) else 65 + nI w) = nI (if w = 6 then 58 else 65 + w) := by
      by_cases q6 : w = 6
      · rw [if_pos q6, if_pos (by rw [q6]; rfl)]; rfl
      · rw [if_neg q6, if_neg (fun z : nI w = 6 => q6 ((nI_eq (b := 6) (by omega) (by decide)).mp z))]
        exact ixA (a := 65) (b := w) (ixC 65) rfl
    have ecl : lplanC g f S (t.2.1 x) (nI w) = lplan (lplan (lplan S (some (t.2.1 b')) 0) none (nI (97 + v))) none (nI (if w = 6 then 58 else 65 + w)) := by
      unfold lplanC
      have za : bclause g (t.2.1 x) (nI w) = some (t.2.1 b') := za
      rw [if_neg (by rw [za]; exact fun z => by cases z), za, e97, ew]
    have epl : plpC1 (nI x) w (p, M) = (p + 1 + 1 + 1, zup (zup (zup M 12 p (nI b')) 12 (p + 1) (-(nI (97 + v)))) 12 (p + 1 + 1) (-(nI (if w = 6 then 58 else 65 + w)))) := by
      unfold plpC1
      have e1 : ppart M (pclause M (nI x) (nI w)) 1 = nI b' := by
        rw [z3]
        show M 1 (5 * tn (nI q) + 1 + tn 1) = _
        rw [tn_nI (by omega), show tn (1 : Int32) = 1 from rfl]; exact z6
      have e2 : parg M (pclause M (nI x) (nI w)) = nI v := by rw [z3, parg_n (by omega)]; exact z9
      have e3 : (if (nI w : Int32) = 6 then (-58 : Int32) else -(65 + nI w)) = -(nI (if w = 6 then 58 else 65 + w)) := by
        by_cases q6 : w = 6
        · rw [if_pos q6, if_pos (by rw [q6]; rfl)]; rfl
        · rw [if_neg q6, if_neg (fun z : nI w = 6 => q6 ((nI_eq (b := 6) (by omega) (by decide)).mp z))]
          rw [show (65 : Int32) + nI w = nI (65 + w) from ixA (a := 65) (b := w) (ixC 65) rfl]
      show (p + 3, zup (zup (zup M 12 p (ppart M (pclause M (nI x) (nI w)) 1)) 12 (p + 1) (-(97 + parg M (pclause M (nI x) (nI w))))) 12 (p + 2) (if (nI w : Int32) = 6 then -58 else -(65 + nI w))) = _
      rw [e1, e2, e3, show (97 : Int32) + nI v = nI (97 + v) from ixA (a := 97) (b := v) (ixC 97) rfl]
    rw [ecl, epl]
    exact ⟨_, _, rfl, p3.mono ⟨by omega, hU⟩, f1.tr (f2.tr f3), fun r hr => by rw [zup_r hr, zup_r hr, zup_r hr]⟩
/-- all clauses -/
theorem LPl.cls {x : Nat} {qs : List Nat} {τ : Nat → Nat} (he : e ≤ 65000) (hx : fs ≤ x ∧ x < e) (hN : HN b0 n0 g f T (e, t.2) x (t.2.1 x)) (hc : chC T qs (T (5 * x + 3))) (hq : ∀ q ∈ qs, x < q ∧ q < e ∧ ∃ b, q < b ∧ T (5 * q + 2) = nI b ∧ WTx T e b (τ q)) : ∀ (c : Nat) (S : zRf × zI) (M : zI) (p U : Nat), c ≤ 7 → M 1 = T → LPl T t.2.1 fs e S M p U → U + csm τ (qs.filter (fun q => tn (T (5 * q + 4)) < c)) ≤ 130 →
    ∃ p' M', plpC (nI x) c (p, M) = (p', M') ∧ LPl T t.2.1 fs e (lplanL g f (t.2.1 x) c S) M' p' (U + csm τ (qs.filter (fun q => tn (T (5 * q + 4)) < c))) ∧ PF S (lplanL g f (t.2.1 x) c S) ∧ ∀ r, r ≠ 12 → M' r = M r := by
  intro c
  induction c with
  | zero =>
    intro S M p U _ hT h hU
    exact ⟨p, M, rfl, h.mono ⟨by omega, hU⟩, PF.rf S, fun _ _ => rfl⟩
  | succ c ih =>
    intro S M p U hc7 hT h hU
    have hs := csm_lt τ (fun q => tn (T (5 * q + 4))) c qs
    obtain ⟨p1, M1, a1, a2, a3, a4⟩ := h.cl1 hT he hx hN hc hq (w := c) (by omega) (by omega)
    obtain ⟨p2, M2, d1, d2, d3, d4⟩ := ih (lplanC g f S (t.2.1 x) (nI c)) M1 p1 _ (by omega) ((a4 1 (by decide)).trans hT) a2 (by omega)
    refine ⟨p2, M2, ?_, d2.mono ⟨by omega, hU⟩, a3.tr d3, fun r hr => (d4 r hr).trans (a4 r hr)⟩
    show plpC (nI x) c (if pclause M (nI x) (nI c) = -9 then (p, M) else plpC1 (nI x) c (p, M)) = _
    rw [a1, d1]
/-- what an expression's parts are -/
theorem LPl.parts {S : zRf × zI} {M : zI} {p U x k : Nat} {qs : List Nat} {σ τ : Nat → Nat} (hT : M 1 = T) (he : e ≤ 65000) (hx : fs ≤ x ∧ x < e) (hk : 2 ≤ k ∧ k ≤ 15) (hkT : T (5 * x) = nI k) (hE : EN b0 n0 g f T (e, t.2) k x) (hσ : ∀ i, i < ari k → ∃ m, x < m ∧ T (5 * x + 2 + i) = nI m ∧ WTx T e m (σ i)) (hc : k = 15 → chC T qs (T (5 * x + 3))) (hq : ∀ q ∈ qs, x < q ∧ q < e ∧ ∃ b, q < b ∧ T (5 * q + 2) = nI b ∧ WTx T e b (τ q)) (h : LPl T t.2.1 fs e S M p U) (hU : U + (if k = 15 then 1 else 0) + sm σ (ari k) + csm τ qs ≤ 130) :
    ∃ p' M', playParts M p (nI x) = (p', M') ∧ LPl T t.2.1 fs e (lparts g f S (t.2.1 x)) M' p' (U + (if k = 15 then 1 else 0) + sm σ (ari k) + csm τ qs) ∧ PF S (lparts g f S (t.2.1 x)) ∧ ∀ r, r ≠ 12 → M' r = M r := by
  obtain ⟨-, -, hp, -, hn, hh⟩ := hE
  have hgt : ∀ i, i < 3 → ari k ≤ i → g.2.2.2 (t.2.1 x) (2 + i) = none := fun i i3 hi => (hp i i3).2 hi
  have hgs : ∀ i, i < 3 → i < ari k → ∃ m, fs ≤ m ∧ T (5 * x + 2 + i) = nI m ∧ g.2.2.2 (t.2.1 x) (2 + i) = some (t.2.1 m) ∧ WTx T e m (σ i) := fun i i3 hi => by
    obtain ⟨m, m1, m2, m3⟩ := hσ i hi
    obtain ⟨m', n1, n2, n3, -, n4, -⟩ := (hp i i3).1 hi
    have n2 : m' < e := n2
    obtain rfl : m = m' := (nI_eq (by have := m3.lt; omega) (by omega)).mp (m2.symm.trans n3)
    exact ⟨m, by omega, m2, n4, m3⟩
  have hkp : pkind M (nI x) = nI k := by rw [pkind_n (by omega), hT]; exact hkT
  have hpp : ∀ (N : zI) (j : Nat), N 1 = T → j < 4 → ppart N (nI x) (nI (j + 1)) = T (5 * x + 2 + j) := fun N j hN hj => by
    show N 1 (5 * tn (nI x) + 1 + tn (nI (j + 1))) = _
    rw [tn_nI (by omega), tn_nI (by omega), hN]
    exact congrArg T (by omega)
  have hps : ∀ (S : zRf × zI) (y : Nat), lpart S (some y) = lplan S (some y) 0 := fun S y => if_neg (fun z => by cases z)
  have hpn : ∀ (S : zRf × zI), lpart S none = S := fun S => if_pos rfl
  by_cases k15 : k = 15
  · subst k15
    have a1 : ari 15 = 1 := rfl
    rw [if_pos rfl, a1] at hU ⊢
    have hs1 : sm σ 1 = σ 0 := Nat.zero_add _
    rw [hs1] at hU ⊢
    obtain ⟨m, m1, m2, m3, m4⟩ := hgs 0 (by decide) (by decide)
    have hN := hh rfl
    have hfl := csm_fl τ (fun q => tn (T (5 * q + 4)) < 7) qs
    obtain ⟨p1, f1⟩ := h.byte (y := 125) (by omega) (by decide)
    obtain ⟨p2, M2, d1, d2, d3, d4⟩ := LPl.cls (g := g) (f := f) (T := T) he hx hN (hc rfl) hq 7 _ _ _ _ (Nat.le_refl _) ((zup_r (by decide)).trans hT) p1 (by omega)
    obtain ⟨p3, f3⟩ := d2.node (s := σ 0) (by omega) m4 m1
    have hM2 : M2 1 = T := (d4 1 (by decide)).trans ((zup_r (by decide)).trans hT)
    have ecl : lparts g f S (t.2.1 x) = lplan (lplanL g f (t.2.1 x) 7 (lplan S none (nI 125))) (some (t.2.1 m)) 0 := by
      unfold lparts lclauses
      have h5 : g.2.2.2 (t.2.1 x) 5 = some (t.2.1 x + 1) := hN.1.1
      rw [if_neg (by rw [h5]; exact fun z => by cases z)]
      rw [show g.2.2.2 (t.2.1 x) 4 = none from hgt 2 (by decide) (by decide), hpn, show g.2.2.2 (t.2.1 x) 3 = none from hgt 1 (by decide) (by decide), hpn, show g.2.2.2 (t.2.1 x) 2 = some (t.2.1 m) from m3, hps]
      rfl
    have epl : playParts M p (nI x) = (p2 + 1, zup M2 12 p2 (nI m)) := by
      unfold playParts
      rw [hkp, if_pos (by rfl)]
      show plp1 (plpC (nI x) 7 (p + 1, zup M 12 p (-125))) (ppart (plpC (nI x) 7 (p + 1, zup M 12 p (-125))).2 (nI x) 1) = _
      have e125 : -(nI 125) = (-125 : Int32) := by decide
      rw [e125] at d1
      rw [d1]
      show (p2 + 1, zup M2 12 p2 (ppart M2 (nI x) (nI (0 + 1)))) = _
      rw [hpp M2 0 hM2 (by decide), m2]
    rw [ecl, epl]
    exact ⟨_, _, rfl, p3.mono ⟨by omega, by omega⟩, f1.tr (d3.tr f3), fun r hr => by rw [zup_r hr, d4 r hr, zup_r hr]⟩
  · have k15n : ¬ nI k = 15 := fun z => k15 ((nI_eq (b := 15) (by omega) (by decide)).mp z)
    rw [if_neg k15] at hU ⊢
    have h5 : g.2.2.2 (t.2.1 x) 5 = none := (hn k15).1
    have hari := (sgn_p k (by omega) hk.1).2.2.2.2
    have hpa : pparts (nI k) = nI (ari k) := (sgn_p k (by omega) hk.1).2.2.2.1
    have epl0 : playParts M p (nI x) = plpP (nI x) (ari k) (p, M) := by
      unfold playParts
      rw [hkp, if_neg k15n, hpa, tn_nI (by omega)]
    have ecl0 : lparts g f S (t.2.1 x) = lpart (lpart (lpart S (g.2.2.2 (t.2.1 x) 4)) (g.2.2.2 (t.2.1 x) 3)) (g.2.2.2 (t.2.1 x) 2) := by
      unfold lparts lclauses
      rw [if_pos h5]
    have ha : ari k = 1 ∨ ari k = 2 ∨ ari k = 3 := by omega
    rcases ha with ha | ha | ha
    · rw [ha] at hU epl0 ⊢
      have hs1 : sm σ 1 = σ 0 := Nat.zero_add _
      rw [hs1] at hU ⊢
      obtain ⟨m, m1, m2, m3, m4⟩ := hgs 0 (by decide) (by omega)
      obtain ⟨q1, f1⟩ := h.node (s := σ 0) (by omega) m4 m1
      have ecl : lparts g f S (t.2.1 x) = lplan S (some (t.2.1 m)) 0 := by
        rw [ecl0, show g.2.2.2 (t.2.1 x) 4 = none from hgt 2 (by decide) (by omega), hpn, show g.2.2.2 (t.2.1 x) 3 = none from hgt 1 (by decide) (by omega), hpn, show g.2.2.2 (t.2.1 x) 2 = some (t.2.1 m) from m3, hps]
      have epl : playParts M p (nI x) = (p + 1, zup M 12 p (nI m)) := by
        rw [epl0]
        show (p + 1, zup M 12 p (ppart M (nI x) (nI (0 + 1)))) = _
        rw [hpp M 0 hT (by decide), m2]
      rw [ecl, epl]
      exact ⟨_, _, rfl, q1.mono ⟨by omega, by omega⟩, f1, fun r hr => by rw [zup_r hr]⟩
    · rw [ha] at hU epl0 ⊢
      have hs1 : sm σ 2 = σ 0 + σ 1 := congrArg (· + σ 1) (Nat.zero_add _)
      rw [hs1] at hU ⊢
      obtain ⟨m, m1, m2, m3, m4⟩ := hgs 0 (by decide) (by omega)
      obtain ⟨m', m1', m2', m3', m4'⟩ := hgs 1 (by decide) (by omega)
      obtain ⟨q1, f1⟩ := h.node (s := σ 1) (by omega) m4' m1'
      obtain ⟨q2, f2⟩ := q1.node (s := σ 0) (by omega) m4 m1
      have ecl : lparts g f S (t.2.1 x) = lplan (lplan S (some (t.2.1 m')) 0) (some (t.2.1 m)) 0 := by
        rw [ecl0, show g.2.2.2 (t.2.1 x) 4 = none from hgt 2 (by decide) (by omega), hpn, show g.2.2.2 (t.2.1 x) 3 = some (t.2.1 m') from m3', hps, show g.2.2.2 (t.2.1 x) 2 = some (t.2.1 m) from m3, hps]
      have epl : playParts M p (nI x) = (p + 1 + 1, zup (zup M 12 p (nI m')) 12 (p + 1) (nI m)) := by
        rw [epl0]
        show (p + 1 + 1, zup (zup M 12 p (ppart M (nI x) (nI (1 + 1)))) 12 (p + 1) (ppart (zup M 12 p (ppart M (nI x) (nI (1 + 1)))) (nI x) (nI (0 + 1)))) = _
        rw [hpp M 1 hT (by decide), hpp _ 0 ((zup_r (by decide)).trans hT) (by decide), m2, m2']
      rw [ecl, epl]
      exact ⟨_, _, rfl, q2.mono ⟨by omega, by omega⟩, f1.tr f2, fun r hr => by rw [zup_r hr, zup_r hr]⟩
    · rw [ha] at hU epl0 ⊢
      have hs1 : sm σ 3 = σ 0 + σ 1 + σ 2 := congrArg (· + σ 1 + σ 2) (Nat.zero_add _)
      rw [hs1] at hU ⊢
      obtain ⟨m, m1, m2, m3, m4⟩ := hgs 0 (by decide) (by omega)
      obtain ⟨m', m1', m2', m3', m4'⟩ := hgs 1 (by decide) (by omega)
      obtain ⟨mm, mm1, mm2, mm3, mm4⟩ := hgs 2 (by decide) (by omega)
      obtain ⟨q0, f0⟩ := h.node (s := σ 2) (by omega) mm4 mm1
      obtain ⟨q1, f1⟩ := q0.node (s := σ 1) (by omega) m4' m1'
      obtain ⟨q2, f2⟩ := q1.node (s := σ 0) (by omega) m4 m1
      have ecl : lparts g f S (t.2.1 x) = lplan (lplan (lplan S (some (t.2.1 mm)) 0) (some (t.2.1 m')) 0) (some (t.2.1 m)) 0 := by
        rw [ecl0, show g.2.2.2 (t.2.1 x) 4 = some (t.2.1 mm) from mm3, hps, show g.2.2.2 (t.2.1 x) 3 = some (t.2.1 m') from m3', hps, show g.2.2.2 (t.2.1 x) 2 = some (t.2.1 m) from m3, hps]
      have epl : playParts M p (nI x) = (p + 1 + 1 + 1, zup (zup (zup M 12 p (nI mm)) 12 (p + 1) (nI m')) 12 (p + 1 + 1) (nI m)) := by
        rw [epl0]
        have e0 : ppart M (nI x) (nI (2 + 1)) = nI mm := by rw [hpp M 2 hT (by decide), mm2]
        show plpP (nI x) 2 (plp1 (p, M) (ppart M (nI x) (nI (2 + 1)))) = _
        rw [e0]
        show plpP (nI x) 1 (plp1 (p + 1, zup M 12 p (nI mm)) (ppart (zup M 12 p (nI mm)) (nI x) (nI (1 + 1)))) = _
        rw [hpp _ 1 ((zup_r (by decide)).trans hT) (by decide), m2']
        show (p + 1 + 1 + 1, zup (zup (zup M 12 p (nI mm)) 12 (p + 1) (nI m')) 12 (p + 1 + 1) (ppart (zup (zup M 12 p (nI mm)) 12 (p + 1) (nI m')) (nI x) (nI (0 + 1)))) = _
        rw [hpp _ 0 ((zup_r (by decide)).trans ((zup_r (by decide)).trans hT)) (by decide), m2]
      rw [ecl, epl]
      exact ⟨_, _, rfl, q2.mono ⟨by omega, by omega⟩, f0.tr (f1.tr f2), fun r hr => by rw [zup_r hr, zup_r hr, zup_r hr]⟩
end LST2
