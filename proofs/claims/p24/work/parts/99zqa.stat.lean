/-! What a run leaves open was foretold: the sets of a node and of its parts. -/
theorem sle_l {x y : Int32} : sle x (x ||| y) := fun i h => by rw [b_or, h]; rfl
theorem sle_r {x y : Int32} : sle y (x ||| y) := fun i h => by rw [b_or, h, Bool.or_true]
/-- node m's parts and clauses have its label, or their own -/
def LB (X : zI) (lab : Nat → Nat) (m : Nat) : Prop :=
  (∀ κ i m', X 1 (5 * m) = nI κ → κ ≤ 15 → i < ari κ → X 1 (5 * m + 2 + i) = nI m' → m' < 65000 → lab m' = lab m ∧ ¬ X 1 (5 * m') = nI 16) ∧
  (X 1 (5 * m) = nI 14 → ∃ h, X 1 (5 * m + 4) = nI h ∧ h < 65000 ∧ lab m = h + 1) ∧
  (X 1 (5 * m) = nI 15 → ∀ w q, w < 7 → q < 65000 → pclause X (nI m) (nI w) = nI q → X 1 (5 * q) = nI 16 ∧ ∀ b, b < 65000 → X 1 (5 * q + 2) = nI b → lab b = if w = 6 then lab m else m + 1)
/-- what stays while a run goes on: the trees, the roots, the sets -/
def SCX (X : zI) (L : List Nat) (lab : Nat → Nat) : Prop :=
  (∀ m ∈ L, RD X L m ∧ FXm X m ∧ LB X lab m) ∧ (∃ r, r ∈ L ∧ r < 65000 ∧ X 2 0 = nI r ∧ lab r = 0 ∧ ¬ X 1 (5 * r) = nI 16) ∧
  ∀ p, p < 4 → X 2 (1 + p) = -9 ∨ ∃ r, r ∈ L ∧ r < 65000 ∧ X 2 (1 + p) = nI r ∧ lab r = 0 ∧ ¬ X 1 (5 * r) = nI 16
section STAT
variable {X : zI} {L : List Nat} {lab : Nat → Nat} {m κ : Nat}
theorem plvE_ge {N : zI} {x s : Int32} (h : ¬ pkind N x = 11) : sle s (plvE N x s) := by
  unfold plvE
  rw [if_neg h]
  by_cases h1 : pkind N x = 10
  · rw [if_pos h1]; exact sle_l
  rw [if_neg h1]
  by_cases h2 : pkind N x = 12
  · rw [if_pos h2]; exact sle.rf
  rw [if_neg h2]
  by_cases h3 : pkind N x = 13
  · rw [if_pos h3]; exact sle_l
  rw [if_neg h3]
  by_cases h4 : pkind N x = 14
  · rw [if_pos h4]; exact sle_l
  rw [if_neg h4]; exact sle.rf
theorem pltE_ge {N : zI} {x s : Int32} : sle s (pltE N x s) := by
  unfold pltE
  by_cases h2 : pkind N x = 12
  · rw [if_pos h2]; exact sle_l
  rw [if_neg h2]
  by_cases h3 : pkind N x = 13
  · rw [if_pos h3]; exact sle_l
  rw [if_neg h3]
  by_cases h4 : pkind N x = 14
  · rw [if_pos h4]; exact sle_l
  rw [if_neg h4]; exact sle.rf
theorem pS_ge {r i : Nat} (hi : i < ari κ) (h3 : ari κ ≤ 3) : sle (X r (tn (X 1 (5 * m + 2 + i)))) (pS X X κ m r) := by
  unfold pS
  have hs : i = 0 ∨ i = 1 ∨ i = 2 := by omega
  rcases hs with rfl | rfl | rfl
  · rw [if_pos (show 0 < ari κ from hi)]; exact sle_l.tr sle_l
  · rw [if_pos (show 1 < ari κ from hi)]; exact sle_r.tr sle_l
  · rw [if_pos (show 2 < ari κ from hi)]; exact sle_r
theorem SCX.kind (h : SCX X L lab) (hm : m ∈ L) (hk : X 1 (5 * m) = nI κ) (h15 : κ ≤ 15) : m < 65000 ∧ (∀ i, i < ari κ → ∃ m', m' ∈ L ∧ m' < 65000 ∧ X 1 (5 * m + 2 + i) = nI m') ∧ (κ = 10 ∨ κ = 11 → ∃ a, a < 6 ∧ X 1 (5 * m + 1) = nI a) ∧
    (κ = 13 → ∃ p, p < 4 ∧ X 1 (5 * m + 1) = nI p ∧ (X 2 (1 + p) = -9 ∨ ∃ r, r ∈ L ∧ r < 65000 ∧ X 2 (1 + p) = nI r)) ∧ (κ = 14 → ∃ h, h ∈ L ∧ h < 65000 ∧ X 1 (5 * m + 4) = nI h) ∧
    (κ = 15 → plpV X (nI m) ∧ ∃ qs, chC (X 1) qs (X 1 (5 * m + 3)) ∧ qs.length ≤ 7 ∧ ∀ q ∈ qs, q ∈ L ∧ q < 65000) := by
  obtain ⟨⟨h65, hR⟩, -⟩ := h.1 m hm
  rcases hR with ⟨z, -⟩ | ⟨κ', k1, k2, k3⟩
  · exact absurd ((nI_eq (by omega) (by decide)).mp (hk.symm.trans z)) (by omega)
  · obtain rfl : κ' = κ := (nI_eq (by omega) (by omega)).mp (k2.symm.trans hk)
    exact ⟨h65, k3⟩
/-- a part of a node that is no handler -/
theorem SCX.part (h : SCX X L lab) (hm : m ∈ L) (hk : X 1 (5 * m) = nI κ) (h15 : κ ≤ 15) {i : Nat} (hi : i < ari κ) : ∃ m', m' ∈ L ∧ m' < 65000 ∧ X 1 (5 * m + 2 + i) = nI m' ∧ lab m' = lab m ∧ ¬ X 1 (5 * m') = nI 16 ∧ sle (X 15 m') (X 15 m) ∧ (¬ κ = 11 → ¬ κ = 15 → sle (X 14 m') (X 14 m)) := by
  obtain ⟨h65, hp, -, -, -, hH⟩ := h.kind hm hk h15
  obtain ⟨m', a1, a2, a3⟩ := hp i hi
  obtain ⟨-, ⟨f1, f2⟩, l1, -⟩ := h.1 m hm
  obtain ⟨b1, b2⟩ := l1 κ i m' hk h15 hi a3 a2
  have hpk := pk_e (N := X) (M := X) rfl h65 hk
  have e : tn (X 1 (5 * m + 2 + i)) = m' := by rw [a3]; exact tn_nI (by omega)
  have h2 : 2 ≤ κ := by
    rcases Nat.lt_or_ge κ 2 with q | q
    · exact absurd hi (by have : κ = 0 ∨ κ = 1 := by omega
                          rcases this with rfl | rfl <;> exact Nat.not_lt_zero _)
    · exact q
  have h3 := (sgn_p κ (by omega) h2).2.2.2.2.2
  refine ⟨m', a1, a2, a3, b1, b2, ?_, fun q q2 => ?_⟩
  · rw [f2]
    by_cases q : κ = 15
    · subst q
      obtain ⟨-, qs, c1, c2, c3⟩ := hH rfl
      have c0 : ¬ pkind X (nI m) < 2 := by rw [hpk]; decide
      have p1 : ppart X (nI m) 1 = X 1 (5 * m + 2 + 0) := ppt_e (N := X) (M := X) rfl (by omega) (j := 1) (by decide)
      have e3 : 5 * tn (nI m) + 3 = 5 * m + 3 := by rw [tn_nI (by omega)]
      have hi0 : i = 0 := by have : i < 1 := hi
                             omega
      subst hi0
      rw [show plate X (nI m) = pchA X 15 8 (X 1 (5 * tn (nI m) + 3)) (X 15 (tn (ppart X (nI m) 1))) from (if_neg c0).trans (if_pos hpk), e3, p1, e]
      exact fun j hj => (pch_b (N := X) (M := X) rfl 15 qs _ 8 _ c1 (by omega) (fun q hq => (c3 q hq).2)).mpr (Or.inl hj)
    · rw [(plv_n (M := X) (N := X) rfl h65 hk h2 (by omega)).2]
      have := pS_ge (X := X) (m := m) (r := 15) hi h3
      rw [e] at this
      exact this.tr pltE_ge
  · rw [f1, (plv_n (M := X) (N := X) rfl h65 hk h2 (by omega)).1]
    have := pS_ge (X := X) (m := m) (r := 14) hi h3
    rw [e] at this
    exact this.tr (plvE_ge (by rw [hpk]; exact fun z => q ((nI_eq (b := 11) (by omega) (by decide)).mp z)))
/-- a finalizer -/
theorem SCX.fin (h : SCX X L lab) (hm : m ∈ L) (hk : X 1 (5 * m) = nI 12) {b : Nat} (hb : b < 65000) (e : X 1 (5 * m + 2 + 1) = nI b) : sle (X 14 b) (X 15 m) := by
  obtain ⟨h65, -⟩ := h.kind hm hk (by decide)
  obtain ⟨-, ⟨f1, f2⟩, -⟩ := h.1 m hm
  have hpk : pkind X (nI m) = 12 := pk_e (N := X) (M := X) rfl h65 hk
  rw [f2, (plv_n (M := X) (N := X) rfl h65 hk (by decide) (by decide)).2]
  unfold pltE
  rw [if_pos hpk, show ppart X (nI m) 2 = X 1 (5 * m + 1 + 2) from ppt_e (N := X) (M := X) rfl h65 (j := 2) (by decide), show 5 * m + 1 + 2 = 5 * m + 2 + 1 by omega, e, tn_nI (by omega)]
  exact sle_r
/-- an operation -/
theorem SCX.perf (h : SCX X L lab) (hm : m ∈ L) (hk : X 1 (5 * m) = nI 10) {a : Nat} (ha : a < 6) (e : X 1 (5 * m + 1) = nI a) : bt (X 14 m) (4 * a) = true := by
  obtain ⟨h65, -⟩ := h.kind hm hk (by decide)
  obtain ⟨-, ⟨f1, f2⟩, -⟩ := h.1 m hm
  have hpk : pkind X (nI m) = 10 := pk_e (N := X) (M := X) rfl h65 hk
  rw [f1, (plv_n (M := X) (N := X) rfl h65 hk (by decide) (by decide)).1]
  unfold plvE
  rw [if_pos hpk, parg_n2 (M := X) (N := X) rfl h65, e, show 4 * nI a = nI (4 * a) from ixM (ixC 4) rfl, b_or, b_one (by omega) (by omega), decide_eq_true rfl, Bool.or_true]
/-- a call -/
theorem SCX.call (h : SCX X L lab) (hm : m ∈ L) (hk : X 1 (5 * m) = nI 13) {p r : Nat} (hp : p < 4) (e : X 1 (5 * m + 1) = nI p) (hr : r < 65000) (e2 : X 2 (1 + p) = nI r) : sle (X 14 r) (X 14 m) ∧ sle (X 15 r) (X 15 m) := by
  obtain ⟨h65, -⟩ := h.kind hm hk (by decide)
  obtain ⟨-, ⟨f1, f2⟩, -⟩ := h.1 m hm
  have hpk : pkind X (nI m) = 13 := pk_e (N := X) (M := X) rfl h65 hk
  have hc : ∀ s, pcal X s (nI m) = X s r := fun s => by
    unfold pcal
    rw [parg_n2 (M := X) (N := X) rfl h65, e, tn_nI (by omega), e2, if_neg ((iv_nI (N := 65000) hr (by decide)).nn (by decide)), tn_nI (by omega)]
  rw [f1, f2, (plv_n (M := X) (N := X) rfl h65 hk (by decide) (by decide)).1, (plv_n (M := X) (N := X) rfl h65 hk (by decide) (by decide)).2]
  unfold plvE pltE
  rw [if_neg (by rw [hpk]; decide), if_neg (by rw [hpk]; decide), if_neg (by rw [hpk]; decide), if_pos hpk, if_neg (by rw [hpk]; decide), if_pos hpk, hc, hc]
  exact ⟨sle_r, sle_r⟩
/-- an @ -/
theorem SCX.at (h : SCX X L lab) (hm : m ∈ L) (hk : X 1 (5 * m) = nI 14) {o : Nat} (ho : o < 65000) (e : lab m = o + 1) : o ∈ L ∧ sle (X 14 o) (X 14 m) ∧ sle (X 15 o) (X 15 m) := by
  obtain ⟨h65, -, -, -, hA, -⟩ := h.kind hm hk (by decide)
  obtain ⟨-, ⟨f1, f2⟩, -, l2, -⟩ := h.1 m hm
  obtain ⟨h', a1, a2, a3⟩ := hA rfl
  obtain ⟨h'', b1, b2, b3⟩ := l2 hk
  obtain rfl : h'' = o := by omega
  obtain rfl : h' = h'' := (nI_eq (by omega) (by omega)).mp (a3.symm.trans b1)
  have hpk : pkind X (nI m) = 14 := pk_e (N := X) (M := X) rfl h65 hk
  rw [f1, f2, (plv_n (M := X) (N := X) rfl h65 hk (by decide) (by decide)).1, (plv_n (M := X) (N := X) rfl h65 hk (by decide) (by decide)).2]
  unfold plvE pltE
  have e3 : 5 * tn (nI m) + 4 = 5 * m + 4 := by rw [tn_nI (by omega)]
  rw [if_neg (by rw [hpk]; decide), if_neg (by rw [hpk]; decide), if_neg (by rw [hpk]; decide), if_neg (by rw [hpk]; decide), if_pos hpk, if_neg (by rw [hpk]; decide), if_neg (by rw [hpk]; decide), if_pos hpk, e3, b1, tn_nI (by omega)]
  exact ⟨a1, sle_r, sle_r⟩
theorem pclA_ch {M : zI} {w : Int32} : ∀ (qs : List Nat) (k : Nat) (x : Int32), chC (M 1) qs x → (∀ q ∈ qs, q < 65000) → pclA M w k x = -9 ∨ (∃ q, q ∈ qs ∧ pclA M w k x = nI q) := by
  intro qs
  induction qs with
  | nil =>
    intro k x h _
    have h : x = -9 := h
    left
    cases k with
    | zero => exact h
    | succ k => exact (if_pos h).trans h
  | cons q qs ih =>
    intro k x h h3
    obtain ⟨h1, h2⟩ := h
    have hq := h3 q (List.mem_cons_self ..)
    cases k with
    | zero => exact Or.inr ⟨q, List.mem_cons_self .., h1⟩
    | succ k =>
      have h9 : ¬ x = -9 := by rw [h1]; exact (iv_nI hq (by decide)).nn (by decide)
      have ht : tn x = q := by rw [h1]; exact tn_nI (by omega)
      show (if x = -9 then x else if M 1 (5 * tn x + 4) = w then x else pclA M w k (M 1 (5 * tn x + 3))) = -9 ∨ ∃ q', q' ∈ q :: qs ∧ (if x = -9 then x else if M 1 (5 * tn x + 4) = w then x else pclA M w k (M 1 (5 * tn x + 3))) = nI q'
      rw [if_neg h9, ht]
      by_cases q2 : M 1 (5 * q + 4) = w
      · rw [if_pos q2]; exact Or.inr ⟨q, List.mem_cons_self .., h1⟩
      · rw [if_neg q2]
        rcases ih k _ h2 (fun p hp => h3 p (List.mem_cons_of_mem _ hp)) with z | ⟨p, hp, z⟩
        · exact Or.inl z
        · exact Or.inr ⟨p, List.mem_cons_of_mem _ hp, z⟩
/-- a handler: what it handles, its clauses -/
theorem SCX.hand (h : SCX X L lab) (hm : m ∈ L) (hk : X 1 (5 * m) = nI 15) : ∃ p, p ∈ L ∧ p < 65000 ∧ X 1 (5 * m + 2) = nI p ∧ sle (X 15 p) (X 14 m) ∧ sle (X 15 p) (X 15 m) ∧ sle (pofhA X (nI m) 6 0 (X 14 p)) (X 14 m) ∧
    ∀ w, w < 7 → pclause X (nI m) (nI w) = -9 ∨ ∃ q b, q < 65000 ∧ pclause X (nI m) (nI w) = nI q ∧ X 1 (5 * q + 2) = nI b ∧ b ∈ L ∧ b < 65000 ∧ ¬ X 1 (5 * b) = nI 16 ∧ sle (X 14 b) (X 14 m) ∧ sle (X 15 b) (X 15 m) ∧ lab b = if w = 6 then lab m else m + 1 := by
  obtain ⟨h65, hp, -, -, -, hH⟩ := h.kind hm hk (by decide)
  obtain ⟨-, ⟨f1, f2⟩, -, -, l3⟩ := h.1 m hm
  obtain ⟨p, a1, a2, a3⟩ := hp 0 (by decide)
  obtain ⟨-, qs, c1, c2, c3⟩ := hH rfl
  have hpk := pk_e (N := X) (M := X) rfl h65 hk
  have c0 : ¬ pkind X (nI m) < 2 := by rw [hpk]; decide
  have c16 : ¬ pkind X (nI m) = 16 := by rw [hpk]; decide
  have p1 : ppart X (nI m) 1 = X 1 (5 * m + 2 + 0) := ppt_e (N := X) (M := X) rfl (by omega) (j := 1) (by decide)
  have e3 : 5 * tn (nI m) + 3 = 5 * m + 3 := by rw [tn_nI (by omega)]
  have ep : tn (ppart X (nI m) 1) = p := by rw [p1, a3]; exact tn_nI (by omega)
  have eL : X 14 m = pchA X 14 8 (X 1 (5 * m + 3)) (pofhA X (nI m) 6 0 (X 14 p) ||| X 15 p) := by
    rw [f1, show pleaves X (nI m) = pchA X 14 8 (X 1 (5 * tn (nI m) + 3)) (pofh X (nI m)) from (if_neg c0).trans ((if_neg c16).trans (if_pos hpk)), e3]
    unfold pofh
    rw [ep]
  have eT : X 15 m = pchA X 15 8 (X 1 (5 * m + 3)) (X 15 p) := by
    rw [f2, show plate X (nI m) = pchA X 15 8 (X 1 (5 * tn (nI m) + 3)) (X 15 (tn (ppart X (nI m) 1))) from (if_neg c0).trans (if_pos hpk), e3, ep]
  have bL : ∀ i, bt (X 14 m) i = true ↔ bt (pofhA X (nI m) 6 0 (X 14 p) ||| X 15 p) i = true ∨ ∃ q ∈ qs, bt (X 14 q) i = true := fun i => by
    rw [eL]; exact pch_b (N := X) (M := X) rfl 14 qs _ 8 _ c1 (by omega) (fun q hq => (c3 q hq).2)
  have bT : ∀ i, bt (X 15 m) i = true ↔ bt (X 15 p) i = true ∨ ∃ q ∈ qs, bt (X 15 q) i = true := fun i => by
    rw [eT]; exact pch_b (N := X) (M := X) rfl 15 qs _ 8 _ c1 (by omega) (fun q hq => (c3 q hq).2)
  refine ⟨p, a1, a2, a3, fun i hi => (bL i).mpr (Or.inl (sle_r i hi)), fun i hi => (bT i).mpr (Or.inl hi), fun i hi => (bL i).mpr (Or.inl (sle_l i hi)), fun w hw => ?_⟩
  rcases pclA_ch (M := X) (w := nI w) qs 8 _ c1 (fun q hq => (c3 q hq).2) with z | ⟨q, hq, z⟩
  · left
    unfold pclause
    rw [e3]; exact z
  · right
    have hc : pclause X (nI m) (nI w) = nI q := by
      unfold pclause
      rw [e3]; exact z
    obtain ⟨d1, d2⟩ := l3 hk w q hw (c3 q hq).2 hc
    obtain ⟨⟨q65, hR⟩, ⟨g1, g2⟩, -⟩ := h.1 q (c3 q hq).1
    rcases hR with ⟨-, b, b1, b2, b3, b4⟩ | ⟨κ', k1, k2, -⟩
    · obtain ⟨v1, v2⟩ := mlvC (M := X) (N := X) q65 d1 b3 b2 rfl
      rw [v1] at g1
      rw [v2] at g2
      refine ⟨q, b, q65, hc, b3, b1, b2, b4, fun i hi => (bL i).mpr (Or.inr ⟨q, hq, ?_⟩), fun i hi => (bT i).mpr (Or.inr ⟨q, hq, ?_⟩), d2 b b2 b3⟩
      · rw [g1]; exact hi
      · rw [g2]; exact hi
    · exact absurd ((nI_eq (by omega) (by decide)).mp (k2.symm.trans d1)) (by omega)
end STAT
/-- levels go down where an operation is handled -/
theorem flow_dn {s : Int32} {a c : Nat} (ha : a < 6) (hc : 1 ≤ c) (h : bt s (4 * a + min c 3) = true) : bt (phandled s (nI a)) (4 * a + min (c - 1) 3) = true := by
  rw [b_handled ha (by omega)]
  unfold flow inrg
  have hs : c = 1 ∨ c = 2 ∨ c = 3 ∨ 4 ≤ c := by omega
  rcases hs with rfl | rfl | rfl | q
  · have h : bt s (4 * a + 1) = true := h
    show _ = true
    rw [show 4 * a + min (1 - 1) 3 = 4 * a by omega, h, decide_eq_true (show 4 * a ≤ 4 * a ∧ 4 * a + 1 < 4 * a + 4 by omega)]
    simp
  · have h : bt s (4 * a + 2) = true := h
    rw [show 4 * a + min (2 - 1) 3 = 4 * a + 1 by omega, show 4 * a + 1 + 1 = 4 * a + 2 by omega, h, decide_eq_true (show 4 * a ≤ 4 * a + 1 ∧ 4 * a + 2 < 4 * a + 4 by omega)]
    simp
  · have h : bt s (4 * a + 3) = true := h
    rw [show 4 * a + min (3 - 1) 3 = 4 * a + 2 by omega, show 4 * a + 2 + 1 = 4 * a + 3 by omega, h, decide_eq_true (show 4 * a ≤ 4 * a + 2 ∧ 4 * a + 3 < 4 * a + 4 by omega)]
    simp
  · rw [show min c 3 = 3 by omega] at h
    rw [show 4 * a + min (c - 1) 3 = 4 * a + 3 by omega, h, decide_eq_true (show 4 * a + 3 = 4 * a + 3 from rfl)]
    simp
theorem flow_ot {s : Int32} {a k l : Nat} (hk : k < 6) (ha : a < 6) (hl : l < 4) (hne : ¬ k = a) (h : bt s (4 * a + l) = true) : bt (phandled s (nI k)) (4 * a + l) = true := by
  rw [b_handled hk (by omega)]
  unfold flow inrg
  rw [h, decide_eq_false (show ¬ (4 * k ≤ 4 * a + l ∧ 4 * a + l < 4 * k + 4) by omega)]
  simp
theorem frai_up {s : Int32} {a c : Nat} (ha : a < 6) (h : bt s (4 * a + min c 3) = true) : bt (pmasked s (nI a)) (4 * a + min (c + 1) 3) = true := by
  rw [b_masked ha (by omega)]
  unfold frai inrg
  have hs : c = 0 ∨ c = 1 ∨ c = 2 ∨ 3 ≤ c := by omega
  rcases hs with rfl | rfl | rfl | q
  · have h : bt s (4 * a + 0) = true := h
    rw [show 4 * a + min (0 + 1) 3 = 4 * a + 1 by omega, show 4 * a + 1 - 1 = 4 * a + 0 by omega, h, decide_eq_true (show 4 * a + 1 ≤ 4 * a + 1 ∧ 4 * a + 1 < 4 * a + 4 by omega)]
    simp
  · have h : bt s (4 * a + 1) = true := h
    rw [show 4 * a + min (1 + 1) 3 = 4 * a + 2 by omega, show 4 * a + 2 - 1 = 4 * a + 1 by omega, h, decide_eq_true (show 4 * a + 1 ≤ 4 * a + 2 ∧ 4 * a + 2 < 4 * a + 4 by omega)]
    simp
  · have h : bt s (4 * a + 2) = true := h
    rw [show 4 * a + min (2 + 1) 3 = 4 * a + 3 by omega, show 4 * a + 3 - 1 = 4 * a + 2 by omega, h, decide_eq_true (show 4 * a + 1 ≤ 4 * a + 3 ∧ 4 * a + 3 < 4 * a + 4 by omega)]
    simp
  · rw [show min c 3 = 3 by omega] at h
    rw [show min (c + 1) 3 = 3 by omega, h, decide_eq_true (show 4 * a + 3 = 4 * a + 3 from rfl)]
    simp
theorem frai_ot {s : Int32} {a k l : Nat} (hk : k < 6) (ha : a < 6) (hl : l < 4) (hne : ¬ k = a) (h : bt s (4 * a + l) = true) : bt (pmasked s (nI k)) (4 * a + l) = true := by
  rw [b_masked hk (by omega)]
  unfold frai inrg
  rw [h, decide_eq_false (show ¬ (4 * k ≤ 4 * a + l ∧ 4 * a + l < 4 * k + 4) by omega)]
  simp
/-- an operation without a clause passes a handler; one with a clause, masked, goes down a level -/
theorem pofhA_no {X : zI} {x : Int32} {a l : Nat} (ha : a < 6) (hl : l < 4) : ∀ (j k : Nat) (s : Int32), k + j = 6 → (pclause X x (nI a) = -9 ∨ a < k) → bt s (4 * a + l) = true → bt (pofhA X x j k s) (4 * a + l) = true := by
  intro j
  induction j with
  | zero => intro k s _ _ h; exact h
  | succ j ih =>
    intro k s hk hc h
    show bt (pofhA X x j (k + 1) (if pclause X x (nI k) = -9 then s else phandled s (nI k))) _ = true
    refine ih (k + 1) _ (by omega) (hc.imp id (fun q => by omega)) ?_
    by_cases q : pclause X x (nI k) = -9
    · rw [if_pos q]; exact h
    · rw [if_neg q]
      refine flow_ot (by omega) ha hl (fun e => ?_) h
      rcases hc with c | c
      · exact q (by rw [e]; exact c)
      · omega
theorem pofhA_dn {X : zI} {x : Int32} {a c : Nat} (ha : a < 6) (hc1 : 1 ≤ c) (hc : ¬ pclause X x (nI a) = -9) : ∀ (j k : Nat) (s : Int32), k + j = 6 → k ≤ a → bt s (4 * a + min c 3) = true → bt (pofhA X x j k s) (4 * a + min (c - 1) 3) = true := by
  intro j
  induction j with
  | zero => intro k s h1 h2; omega
  | succ j ih =>
    intro k s hk hka h
    show bt (pofhA X x j (k + 1) (if pclause X x (nI k) = -9 then s else phandled s (nI k))) _ = true
    by_cases e : k = a
    · subst e
      rw [if_neg hc]
      exact pofhA_no ha (by omega) j (k + 1) _ (by omega) (Or.inr (Nat.lt_succ_self _)) (flow_dn ha hc1 h)
    · refine ih (k + 1) _ (by omega) (by omega) ?_
      by_cases q : pclause X x (nI k) = -9
      · rw [if_pos q]; exact h
      · rw [if_neg q]
        exact flow_ot (by omega) ha (by omega) e h
