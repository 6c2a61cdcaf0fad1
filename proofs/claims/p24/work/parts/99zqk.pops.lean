/-! A text that was written is read: what reading does to the tables, where all is well. -/
/-- from place p on the text is l -/
def RT (tx : Nat → Nat) (len : Nat) : Nat → List Nat → Prop
  | p, [] => p = len
  | p, c :: l => tx p = c ∧ RT tx len (p + 1) l
/-- so it is, perhaps behind a blank -/
def RB (tx : Nat → Nat) (len p : Nat) (l : List Nat) : Prop := RT tx len p l ∨ (tx p = 32 ∧ RT tx len (p + 1) l)
/-- a stack's entry: node, kind, stage, letters, may, letter -/
abbrev PE : Type := Nat × Nat × Nat × Int32 × Nat × Nat
def arj (k : Nat) : Nat := if k = 16 then 1 else ari k
/-- a node's parts and their labels -/
def NDL (T : Nat → Int32) (lab : Nat → Nat) (N n : Nat) : Prop := ∃ κ, κ ≤ 16 ∧ T (5 * n) = nI κ ∧
  (∀ i, i < arj κ → T (5 * n + 2 + i) = -9 ∨ ∃ m, m < N ∧ T (5 * n + 2 + i) = nI m ∧ lab m = lab n ∧ ¬ T (5 * m) = nI 16) ∧
  (κ = 14 → ∃ h, h < 65000 ∧ T (5 * n + 4) = nI h ∧ lab n = h + 1) ∧
  (κ = 15 → T (5 * n + 3) = -9 ∨ ∃ q w, q < N ∧ w < 6 ∧ T (5 * n + 3) = nI q ∧ T (5 * q) = nI 16 ∧ T (5 * q + 3) = -9 ∧ T (5 * q + 4) = nI w ∧ lab q = n + 1)
def STP (T A7 A8 A9 A10 : Nat → Int32) (lab : Nat → Nat) (N : Nat) : List PE → Prop
  | [] => True
  | (n, k, st, b, m, x) :: S => ((n < N ∧ k ≤ 16 ∧ st ≤ arj k ∧ m < 65000) ∧ (A7 S.length = nI n ∧ A8 S.length = nI st ∧ A9 S.length = b ∧ A10 S.length = nI m) ∧ T (5 * n) = nI k ∧ lab n = m ∧ (k = 8 → x < 26 ∧ T (5 * n + 1) = nI x) ∧ (k = 15 → st = 0 → T (5 * n + 3) = -9) ∧
      (match S with
        | [] => m = 0 ∧ ¬ k = 16
        | (n', k', st', _, m', _) :: _ => (¬ k = 16 → m = m') ∧ (k = 16 → k' = 15 ∧ m = n' + 1 ∧ st' = 1 ∧ T (5 * n' + 3) = nI n) ∧ (¬ k = 16 → k' = 15 → st' = 0) ∧ n' < n)) ∧ STP T A7 A8 A9 A10 lab N S
/-- what an entry above S has for its owner -/
def HLs : List PE → Nat → Prop
  | [], m => m = 0
  | (_, k', st', _, m', _) :: _, m => m = m' ∧ (k' = 15 → st' = 0)
theorem ars1 {a e f : Nat} (h : a + 1 + 5 * (14 - e) ≤ f + 1) : a + 5 * (14 - (e + 1)) ≤ f := by omega
theorem ars2 {r a e f : Nat} (h : a + 1 + 5 * (14 - e) ≤ f + 1) (hr : r ≤ 4) (he : e < 14) : r + a + 1 + 5 * (14 - (e + 1)) ≤ f := by omega
/-- a state of reading: the text, the place, N nodes, e expressions, d entries -/
def PST (lab : Nat → Nat) (tx : Nat → Nat) (len : Nat) (M : zI) (p N e d : Nat) : Prop :=
  (len ≤ 120 ∧ M 0 8 = nI len ∧ ∀ k, k < len → M 6 k = nI (tx k)) ∧ (M 0 14 = nI p ∧ p ≤ len ∧ M 0 15 = -9) ∧ (M 0 1 = nI N ∧ N ≤ 64900 ∧ M 0 13 = nI d ∧ d ≤ 120 ∧ M 0 16 = nI e ∧ e ≤ 200) ∧ ∀ n, n < N → NDL (M 1) lab N n
section POPS
variable {lab lab' : Nat → Nat} {tx : Nat → Nat} {len p N e d : Nat} {M : zI} {T T' A7 A8 A9 A10 B7 B8 B9 B10 : Nat → Int32} {l : List Nat}
theorem RT.le : ∀ (l : List Nat) (p : Nat), RT tx len p l → p ≤ len := by
  intro l
  induction l with
  | nil => intro p h; exact Nat.le_of_eq h
  | cons c l ih => intro p h; have := ih _ h.2; omega
theorem RT.lt {c p : Nat} (h : RT tx len p (c :: l)) : p < len := by have := RT.le _ _ h.2; omega
/-- nothing but cells of row 0 that aren't read changes, and the place -/
theorem PST.mv {P : zI} (h : PST lab tx len M p N e d) {p' : Nat} (hp : p' ≤ len) (h14 : P 0 14 = nI p') (h0 : ∀ k, k ≠ 14 → k ≠ 17 → P 0 k = M 0 k) (hr : ∀ r, r ≠ 0 → P r = M r) : PST lab tx len P p' N e d := by
  obtain ⟨⟨a1, a2, a3⟩, ⟨b1, b2, b3⟩, ⟨c1, c2, c3, c4, c5, c6⟩, f⟩ := h
  exact ⟨⟨a1, (h0 8 (by decide) (by decide)).trans a2, fun k hk => by rw [hr 6 (by decide)]; exact a3 k hk⟩, ⟨h14, hp, (h0 15 (by decide) (by decide)).trans b3⟩, ⟨(h0 1 (by decide) (by decide)).trans c1, c2, (h0 13 (by decide) (by decide)).trans c3, c4, (h0 16 (by decide) (by decide)).trans c5, c6⟩, by rw [hr 1 (by decide)]; exact f⟩
theorem PST.here (h : PST lab tx len M p N e d) : phere M = if p < len then nI (tx p) else 0 := by
  obtain ⟨⟨a1, a2, a3⟩, ⟨b1, b2, b3⟩, -⟩ := h
  unfold phere
  rw [b1, a2, tn_nI (by omega)]
  by_cases q : p < len
  · rw [if_pos q, if_pos (nI_lt q (by omega))]; exact a3 p q
  · rw [if_neg q, if_neg (nI_nlt (by omega) (by omega))]
/-- blanks are skipped -/
theorem PST.skip (h : PST lab tx len M p N e d) (ht : RB tx len p l) (hl : ∀ c l', l = c :: l' → ¬ c = 32 ∧ c < 200) : ∃ p', PST lab tx len (pskip M) p' N e d ∧ RT tx len p' l ∧ (∀ r, r ≠ 0 → pskip M r = M r) := by
  have hr : ∀ r, r ≠ 0 → pskip M r = M r := fun r hr => pskip_row hr
  have h0 : ∀ k, k ≠ 14 → k ≠ 17 → pskip M 0 k = M 0 k := fun k hk _ => pskip_0 hk
  have stop : ∀ (j : Nat) (P : zI) (p : Nat), P 0 14 = nI p → P 0 8 = nI len → len ≤ 120 → (∀ k, k < len → P 6 k = nI (tx k)) → RT tx len p l → pskA j P = P := by
    intro j P p e14 e8 hlen h6 hR
    cases j with
    | zero => rfl
    | succ j =>
      unfold pskA
      have hp := RT.le _ _ hR
      rw [e14, e8, tn_nI (by omega), if_neg]
      rintro ⟨z1, z2⟩
      have hlt : p < len := (nI_ltI (by omega) (by omega)).mp z1
      rw [h6 p hlt] at z2
      cases l with
      | nil => have : p = len := hR
               omega
      | cons c l' =>
        obtain ⟨q1, q2⟩ := hl c l' rfl
        have : tx p = c := hR.1
        rw [this] at z2
        exact q1 ((nI_eq (b := 32) (by omega) (by decide)).mp z2)
  have hP := h
  obtain ⟨⟨a1, a2, a3⟩, ⟨b1, b2, b3⟩, -⟩ := h
  rcases ht with ht | ⟨ht, ht2⟩
  · have es : pskip M = M := stop 121 M p b1 a2 a1 a3 ht
    rw [es]
    exact ⟨p, hP, ht, fun _ _ => rfl⟩
  · have hp := RT.le _ _ ht2
    have hlt : p < len := by omega
    have e1 : pskip M = pskA 120 (zup M 0 14 (M 0 14 + 1)) := by
      show (if M 0 14 < M 0 8 ∧ M 6 (tn (M 0 14)) = 32 then pskA 120 (zup M 0 14 (M 0 14 + 1)) else M) = _
      rw [if_pos]
      refine ⟨by rw [b1, a2]; exact nI_lt hlt (by omega), ?_⟩
      rw [b1, tn_nI (by omega), a3 p hlt, ht]; rfl
    have e14 : zup M 0 14 (M 0 14 + 1) 0 14 = nI (p + 1) := by rw [zup_at, b1]; exact ixA rfl (ixC 1)
    have es : pskip M = zup M 0 14 (M 0 14 + 1) := by
      rw [e1]
      exact stop 120 _ (p + 1) e14 ((zup_ne _ _ _ _ (by omega)).trans a2) a1 (fun k hk => by rw [zup_r (by decide)]; exact a3 k hk) ht2
    refine ⟨p + 1, hP.mv hp (by rw [es]; exact e14) h0 hr, ht2, hr⟩
/-- a byte is passed -/
theorem PST.next {c : Nat} (h : PST lab tx len M p N e d) (ht : RT tx len p (c :: l)) : PST lab tx len (patn M) (p + 1) N e d ∧ RT tx len (p + 1) l ∧ phere M = nI c ∧ (∀ r, r ≠ 0 → patn M r = M r) ∧ M 6 (tn (M 0 14)) = nI c := by
  have hlt := RT.lt ht
  obtain ⟨a1, b1, b2, b3⟩ : _ ∧ _ ∧ _ ∧ _ := ⟨h.1, h.2.1.1, h.2.1.2.1, h.2.1.2.2⟩
  refine ⟨h.mv hlt ?_ (fun k hk _ => zup_ne _ _ _ _ (Or.inr hk)) (fun r hr => zup_r hr), ht.2, ?_, fun r hr => zup_r hr, ?_⟩
  · show zup M 0 14 (M 0 14 + 1) 0 14 = _
    rw [zup_at, b1]; exact ixA rfl (ixC 1)
  · rw [h.here, if_pos hlt, ht.1]
  · rw [b1, tn_nI (by omega), h.1.2.2 p hlt, ht.1]
/-- a sign between two others is taken -/
theorem PST.take {c lo hi : Nat} (h : PST lab tx len M p N e d) (ht : RT tx len p (c :: l)) (h1 : lo ≤ c) (h2 : c ≤ hi) (h3 : ¬ c = 32) (h4 : hi < 200) : ptake M (nI lo) (nI hi) = (nI (c - lo), patn M) := by
  have hn := h.next ht
  have es : pskip M = M := by
    have hlt := RT.lt ht
    show (if M 0 14 < M 0 8 ∧ M 6 (tn (M 0 14)) = 32 then pskA 120 (zup M 0 14 (M 0 14 + 1)) else M) = M
    refine if_neg (fun z => ?_)
    have := z.2
    rw [hn.2.2.2.2] at this
    exact h3 ((nI_eq (b := 32) (by omega) (by decide)).mp this)
  unfold ptake
  rw [es, hn.2.2.1, if_neg (fun z => z.elim (nI_nlt (by omega) (by omega)) (nI_nlt (by omega) (by omega))), hn.2.2.2.2, show nI c - nI lo = nI (c - lo) from ixS rfl rfl h1]
/-- labels and nodes: what there was -/
theorem NDL.mono {n : Nat} (h : NDL T lab N n) {N' : Nat} (hN : N ≤ N') (hn : n < N) (hl : ∀ j, j < N → lab' j = lab j) (hT : ∀ j, j < 5 * N → T' j = T j) : NDL T' lab' N' n := by
  obtain ⟨κ, k1, k2, k3, k4, k5⟩ := h
  refine ⟨κ, k1, (hT _ (by omega)).trans k2, fun i hi => ?_, fun q => ?_, fun q => ?_⟩
  · have hi2 : i < 3 := by
      unfold arj at hi
      by_cases q : κ = 16
      · rw [if_pos q] at hi; omega
      · rw [if_neg q] at hi
        have := ari_le3 κ (by omega)
        omega
    rw [hT _ (by omega)]
    refine (k3 i hi).imp id ?_
    rintro ⟨m, m1, m2, m3, m4⟩
    exact ⟨m, by omega, m2, by rw [hl m m1, hl n hn]; exact m3, by rw [hT _ (by omega)]; exact m4⟩
  · rw [hT _ (by omega), hl n hn]; exact k4 q
  · rw [hT _ (by omega)]
    refine (k5 q).imp id ?_
    rintro ⟨q, w, q1, q2, q3, q4, q5, q6, q7⟩
    exact ⟨q, w, by omega, q2, q3, by rw [hT _ (by omega)]; exact q4, by rw [hT _ (by omega)]; exact q5, by rw [hT _ (by omega)]; exact q6, by rw [hl q q1]; exact q7⟩
theorem STP.mono : ∀ (S : List PE) {N' : Nat}, N ≤ N' → (∀ j, j < N → lab' j = lab j) → (∀ j, j < 5 * N → T' j = T j) → (∀ j, j < S.length → B7 j = A7 j ∧ B8 j = A8 j ∧ B9 j = A9 j ∧ B10 j = A10 j) → STP T A7 A8 A9 A10 lab N S → STP T' B7 B8 B9 B10 lab' N' S := by
  intro S
  induction S with
  | nil => intro _ _ _ _ _ _; exact trivial
  | cons x S ih =>
    intro N' hN hl hT hA h
    obtain ⟨n, k, st, b, m, x⟩ := x
    obtain ⟨⟨⟨a1, a2, a3, a4⟩, ⟨b1, b2, b3, b4⟩, c, e, f, g, i⟩, hS⟩ := h
    obtain ⟨h7, h8, h9, h10⟩ := hA S.length (by show S.length < S.length + 1; omega)
    refine ⟨⟨⟨by omega, a2, a3, a4⟩, ⟨h7.trans b1, h8.trans b2, h9.trans b3, h10.trans b4⟩, (hT _ (by omega)).trans c, (hl n a1).trans e, fun q => ⟨(f q).1, (hT _ (by omega)).trans (f q).2⟩, fun q q2 => (hT _ (by omega)).trans (g q q2), ?_⟩, ih hN hl hT (fun j hj => hA j (by show j < S.length + 1; omega)) hS⟩
    cases S with
    | nil => exact i
    | cons y S =>
      obtain ⟨n', k', st', b', m', x'⟩ := y
      have hn' : n' < N := hS.1.1.1
      exact ⟨i.1, fun q => ⟨(i.2.1 q).1, (i.2.1 q).2.1, (i.2.1 q).2.2.1, (hT _ (by omega)).trans (i.2.1 q).2.2.2⟩, i.2.2⟩
/-- an expression is made -/
theorem PST.make (h : PST lab tx len M p N e d) {k : Nat} {a : Int32} (hk : k ≤ 13 ∨ k = 15) (hN : N < 64900) (he : e < 200) (m : Nat) : PST (zu1 lab N m) tx len (pmake M (nI k) a) p (N + 1) (e + 1) d ∧
    (pmake M (nI k) a 1 (5 * N) = nI k ∧ pmake M (nI k) a 1 (5 * N + 1) = a ∧ pmake M (nI k) a 1 (5 * N + 2) = -9 ∧ pmake M (nI k) a 1 (5 * N + 3) = -9 ∧ pmake M (nI k) a 1 (5 * N + 4) = -9) ∧ (∀ j, j < 5 * N → pmake M (nI k) a 1 j = M 1 j) ∧ (∀ r, r ≠ 0 → r ≠ 1 → pmake M (nI k) a r = M r) := by
  obtain ⟨⟨a1, a2, a3⟩, ⟨b1, b2, b3⟩, ⟨c1, c2, c3, c4, c5, c6⟩, f⟩ := h
  have ht : tn (M 0 1) = N := by rw [c1]; exact tn_nI (by omega)
  have e0 : pmake M (nI k) a = zup (zup (zup (zup (zup (zup (zup M 0 1 (nI (N + 1))) 1 (5 * N) (nI k)) 1 (5 * N + 1) a) 1 (5 * N + 2) (-9)) 1 (5 * N + 3) (-9)) 1 (5 * N + 4) (-9)) 0 16 (nI (e + 1)) := by
    unfold pmake pmakeE pmake1
    try dsimp only
    rw [if_neg (show ¬ nI k = 16 from fun z => by have := (nI_eq (b := 16) (by omega) (by decide)).mp z; omega), ht, show M 0 1 + 1 = nI (N + 1) from ixA c1 (ixC 1)]
    have : zup (zup (zup (zup (zup (zup M 0 1 (nI (N + 1))) 1 (5 * N) (nI k)) 1 (5 * N + 1) a) 1 (5 * N + 2) (-9)) 1 (5 * N + 3) (-9)) 1 (5 * N + 4) (-9) 0 16 = M 0 16 := by
      simp (disch := omega) only [zup_r, zup_ne]
    rw [this, show M 0 16 + 1 = nI (e + 1) from ixA c5 (ixC 1)]
  obtain ⟨P, eP⟩ : ∃ P, P = pmake M (nI k) a := ⟨_, rfl⟩
  rw [← eP] at e0 ⊢
  have p0 : ∀ j, j ≠ 1 → j ≠ 16 → P 0 j = M 0 j := fun j j1 j2 => by rw [e0]; simp (disch := omega) only [zup_r, zup_ne]
  have p1 : ∀ j, j < 5 * N → P 1 j = M 1 j := fun j hj => by rw [e0]; simp (disch := omega) only [zup_r, zup_ne]
  have pr : ∀ r, r ≠ 0 → r ≠ 1 → P r = M r := fun r r0 r1 => by rw [e0]; simp only [zup_r r0, zup_r r1]
  have q0 : P 1 (5 * N) = nI k := by rw [e0]; simp (disch := omega) only [zup_r, zup_ne, zup_at]
  have q1 : P 1 (5 * N + 1) = a := by rw [e0]; simp (disch := omega) only [zup_r, zup_ne, zup_at]
  have q2 : P 1 (5 * N + 2) = -9 := by rw [e0]; simp (disch := omega) only [zup_r, zup_ne, zup_at]
  have q3 : P 1 (5 * N + 3) = -9 := by rw [e0]; simp (disch := omega) only [zup_r, zup_ne, zup_at]
  have q4 : P 1 (5 * N + 4) = -9 := by rw [e0]; simp (disch := omega) only [zup_r, zup_ne, zup_at]
  have r1 : P 0 1 = nI (N + 1) := by rw [e0]; simp (disch := omega) only [zup_r, zup_ne, zup_at]
  have r16 : P 0 16 = nI (e + 1) := by rw [e0]; exact zup_at _ _ _ _
  refine ⟨⟨⟨a1, (p0 8 (by decide) (by decide)).trans a2, fun k hk => by rw [pr 6 (by decide) (by decide)]; exact a3 k hk⟩, ⟨(p0 14 (by decide) (by decide)).trans b1, b2, (p0 15 (by decide) (by decide)).trans b3⟩, ⟨r1, by omega, (p0 13 (by decide) (by decide)).trans c3, c4, r16, by omega⟩, fun n hn => ?_⟩, ⟨q0, q1, q2, q3, q4⟩, p1, pr⟩
  by_cases q : n = N
  · subst q
    refine ⟨k, by omega, q0, fun i hi => Or.inl ?_, fun q => by omega, fun q => Or.inl q3⟩
    have hi2 : i < 3 := by
      unfold arj at hi
      rw [if_neg (show ¬ k = 16 by omega)] at hi
      have := ari_le3 k (by omega)
      omega
    have : i = 0 ∨ i = 1 ∨ i = 2 := by omega
    rcases this with rfl | rfl | rfl
    · exact q2
    · exact q3
    · exact q4
  · exact (f n (by omega)).mono (Nat.le_succ _) (by omega) (fun j hj => zu1_ne _ _ _ (by omega)) p1
end POPS
