/-! A text that was written is read: an expression is begun; a part is attached; an entry is closed; a clause is begun. -/
section PENT
variable {lab : Nat → Nat} {tx : Nat → Nat} {len p N e d : Nat} {M : zI} {S : List PE}
theorem arj_k : ∀ k, k < 17 → arj k ≤ 3 := by decide +kernel
theorem pmake_x {k : Nat} {a : Int32} (hk : k < 16) (c1 : M 0 1 = nI N) (hN : N < 65000) : pmake M (nI k) a = zup (zup (zup (zup (zup (zup (zup M 0 1 (nI (N + 1))) 1 (5 * N) (nI k)) 1 (5 * N + 1) a) 1 (5 * N + 2) (-9)) 1 (5 * N + 3) (-9)) 1 (5 * N + 4) (-9)) 0 16 (M 0 16 + 1) := by
  have ht : tn (M 0 1) = N := by rw [c1]; exact tn_nI (by omega)
  unfold pmake pmakeE pmake1
  try dsimp only
  rw [if_neg (show ¬ nI k = 16 from fun z => by have := (nI_eq (b := 16) (by omega) (by decide)).mp z; omega), ht, show M 0 1 + 1 = nI (N + 1) from ixA c1 (ixC 1)]
  have : zup (zup (zup (zup (zup (zup M 0 1 (nI (N + 1))) 1 (5 * N) (nI k)) 1 (5 * N + 1) a) 1 (5 * N + 2) (-9)) 1 (5 * N + 3) (-9)) 1 (5 * N + 4) (-9) 0 16 = M 0 16 := by
    simp (disch := omega) only [zup_r, zup_ne]
  rw [this]
set_option maxHeartbeats 1000000 in
/-- an expression with parts is begun -/
theorem PST.enter (h : PST lab tx len M p N e d) (hS : STP (M 1) (M 7) (M 8) (M 9) (M 10) lab N S) (hd : S.length = d) {k m x : Nat} {a b : Int32} (hk : 2 ≤ k ∧ k ≤ 15) (hN : N < 64900) (he : e < 200) (hd9 : d < 120) (hm : m < 65000) (h14 : k = 14 → 1 ≤ m) (hx : k = 8 → x < 26 ∧ a = nI x)
    (hc : HLs S m) :
    PST (zu1 lab N m) tx len (pbwF M (nI k) a b (nI m)) p (N + 1) (e + 1) (d + 1) ∧ STP (pbwF M (nI k) a b (nI m) 1) (pbwF M (nI k) a b (nI m) 7) (pbwF M (nI k) a b (nI m) 8) (pbwF M (nI k) a b (nI m) 9) (pbwF M (nI k) a b (nI m) 10) (zu1 lab N m) (N + 1) ((N, k, 0, b, m, x) :: S) ∧
      (∀ j, j < 5 * N → pbwF M (nI k) a b (nI m) 1 j = M 1 j) ∧ (∀ r, r ≠ 0 → r ≠ 1 → r < 7 ∨ 10 < r → pbwF M (nI k) a b (nI m) r = M r) := by
  obtain ⟨⟨a1, a2, a3⟩, ⟨b1, b2, b3⟩, ⟨c1, c2, c3, c4, c5, c6⟩, f⟩ := h
  have ht : tn (nI N) = N := tn_nI (by omega)
  have htd : tn (nI d) = d := tn_nI (by omega)
  obtain ⟨z, ez⟩ : ∃ z, z = (if nI k = 14 then nI m - 1 else -9) := ⟨_, rfl⟩
  have e0 : pbwF M (nI k) a b (nI m) = zup (zup (zup (zup (zup (zup (zup (zup (zup (zup (zup (zup (zup (zup M 0 1 (nI (N + 1))) 1 (5 * N) (nI k)) 1 (5 * N + 1) a) 1 (5 * N + 2) (-9)) 1 (5 * N + 3) (-9)) 1 (5 * N + 4) (-9)) 0 16 (nI (e + 1))) 0 17 (nI N)) 1 (5 * N + 4) z) 7 d (nI N)) 8 d 0) 9 d b) 10 d (nI m)) 0 13 (nI (d + 1)) := by
    unfold pbwF
    rw [pmake_x (by omega) c1 (by omega), show M 0 16 + 1 = nI (e + 1) from ixA c5 (ixC 1), c1]
    obtain ⟨P, eP⟩ : ∃ P, P = zup (zup (zup (zup (zup (zup (zup M 0 1 (nI (N + 1))) 1 (5 * N) (nI k)) 1 (5 * N + 1) a) 1 (5 * N + 2) (-9)) 1 (5 * N + 3) (-9)) 1 (5 * N + 4) (-9)) 0 16 (nI (e + 1)) := ⟨_, rfl⟩
    rw [← eP]
    have p13 : P 0 13 = nI d := by
      rw [eP]; simp (disch := omega) only [zup_r, zup_ne]; exact c3
    unfold pbw4
    rw [zup_at, ht, ← ez]
    unfold penter
    try dsimp only
    have q13 : zup (zup P 0 17 (nI N)) 1 (5 * N + 4) z 0 13 = nI d := by
      simp (disch := omega) only [zup_r, zup_ne]; exact p13
    rw [q13, htd]
    have q13' : zup (zup (zup (zup (zup (zup P 0 17 (nI N)) 1 (5 * N + 4) z) 7 d (nI N)) 8 d 0) 9 d b) 10 d (nI m) 0 13 + 1 = nI (d + 1) := by
      simp (disch := omega) only [zup_r, zup_ne]
      rw [p13]; exact ixA rfl (ixC 1)
    rw [q13']
  obtain ⟨Q, eQ⟩ : ∃ Q, Q = pbwF M (nI k) a b (nI m) := ⟨_, rfl⟩
  rw [← eQ] at e0 ⊢
  have q0 : ∀ j, j ≠ 1 → j ≠ 16 → j ≠ 13 → j ≠ 17 → Q 0 j = M 0 j := fun j j1 j2 j3 j4 => by rw [e0]; simp (disch := omega) only [zup_r, zup_ne]
  have q1 : ∀ j, j < 5 * N → Q 1 j = M 1 j := fun j hj => by rw [e0]; simp (disch := omega) only [zup_r, zup_ne]
  have qr : ∀ r, r ≠ 0 → r ≠ 1 → r < 7 ∨ 10 < r → Q r = M r := fun r r0 r1 r2 => by
    rw [e0]
    have n7 : r ≠ 7 := by omega
    have n8 : r ≠ 8 := by omega
    have n9 : r ≠ 9 := by omega
    have n10 : r ≠ 10 := by omega
    simp only [zup_r r0, zup_r r1, zup_r n7, zup_r n8, zup_r n9, zup_r n10]
  have c0 : Q 1 (5 * N) = nI k := by rw [e0]; simp (disch := omega) only [zup_r, zup_ne, zup_at]
  have c1' : Q 1 (5 * N + 1) = a := by rw [e0]; simp (disch := omega) only [zup_r, zup_ne, zup_at]
  have c2' : Q 1 (5 * N + 2) = -9 := by rw [e0]; simp (disch := omega) only [zup_r, zup_ne, zup_at]
  have c3' : Q 1 (5 * N + 3) = -9 := by rw [e0]; simp (disch := omega) only [zup_r, zup_ne, zup_at]
  have c4' : Q 1 (5 * N + 4) = z := by rw [e0]; simp (disch := omega) only [zup_r, zup_ne, zup_at]
  have s7 : Q 7 d = nI N ∧ Q 8 d = 0 ∧ Q 9 d = b ∧ Q 10 d = nI m := by
    refine ⟨?_, ?_, ?_, ?_⟩ <;> (rw [e0]; simp (disch := omega) only [zup_r, zup_ne, zup_at])
  have so : ∀ j, j < d → Q 7 j = M 7 j ∧ Q 8 j = M 8 j ∧ Q 9 j = M 9 j ∧ Q 10 j = M 10 j := fun j hj => by
    refine ⟨?_, ?_, ?_, ?_⟩ <;> (rw [e0]; simp (disch := omega) only [zup_r, zup_ne, zup_at])
  have w1 : Q 0 1 = nI (N + 1) := by rw [e0]; simp (disch := omega) only [zup_r, zup_ne, zup_at]
  have w16 : Q 0 16 = nI (e + 1) := by rw [e0]; simp (disch := omega) only [zup_r, zup_ne, zup_at]
  have w13 : Q 0 13 = nI (d + 1) := by rw [e0]; exact zup_at _ _ _ _
  have hlab : ∀ j, j < N → zu1 lab N m j = lab j := fun j hj => zu1_ne _ _ _ (by omega)
  refine ⟨⟨⟨a1, (q0 8 (by decide) (by decide) (by decide) (by decide)).trans a2, fun k hk => by rw [qr 6 (by decide) (by decide) (by decide)]; exact a3 k hk⟩, ⟨(q0 14 (by decide) (by decide) (by decide) (by decide)).trans b1, b2, (q0 15 (by decide) (by decide) (by decide) (by decide)).trans b3⟩, ⟨w1, by omega, w13, by omega, w16, by omega⟩, fun n hn => ?_⟩, ⟨⟨⟨Nat.lt_succ_self _, by omega, Nat.zero_le _, hm⟩, ⟨by rw [hd]; exact s7.1, by rw [hd]; exact s7.2.1, by rw [hd]; exact s7.2.2.1, by rw [hd]; exact s7.2.2.2⟩, c0, zu1_at _ _ _, fun q => ⟨(hx q).1, c1'.trans (hx q).2⟩, fun _ _ => c3', ?_⟩, hS.mono S (Nat.le_succ _) hlab q1 (fun j hj => so j (by omega))⟩, q1, qr⟩
  · by_cases q : n = N
    · subst q
      refine ⟨k, by omega, c0, fun i hi => Or.inl ?_, fun q => ?_, fun q => Or.inl c3'⟩
      · have hi2 : i < 3 := by
          have := arj_k k (by omega)
          omega
        have : i = 0 ∨ i = 1 ∨ (i = 2 ∧ ¬ k = 14) := by
          by_cases q : k = 14
          · subst q
            have : i < 1 := hi
            omega
          · omega
        rcases this with rfl | rfl | ⟨rfl, q⟩
        · exact c2'
        · exact c3'
        · rw [show 5 * n + 2 + 2 = 5 * n + 4 from rfl, c4', ez, if_neg (fun y : nI k = 14 => q ((nI_eq (b := 14) (by omega) (by decide)).mp y))]
      · refine ⟨m - 1, by omega, ?_, by rw [zu1_at]; have := h14 q; omega⟩
        rw [c4', ez, if_pos (show nI k = 14 by rw [q]; rfl)]
        exact ixS rfl (ixC 1) (h14 q)
    · exact (f n (by omega)).mono (Nat.le_succ _) (by omega) hlab q1
  · cases S with
    | nil => exact ⟨hc, by omega⟩
    | cons y S =>
      obtain ⟨n', k', st', b', m', x'⟩ := y
      exact ⟨fun _ => hc.1, fun q => by omega, fun _ => hc.2, hS.1.1.1⟩
/-- a part is attached to the entry on top -/
theorem PST.attach {n k st m x : Nat} {b : Int32} (h : PST lab tx len M p N e d) (hS : STP (M 1) (M 7) (M 8) (M 9) (M 10) lab N ((n, k, st, b, m, x) :: S)) (hd : S.length + 1 = d) {c : Nat} (hst : st < arj k) (hc : c < N) (hcl : lab c = m) (hc16 : ¬ M 1 (5 * c) = nI 16) (h15 : k = 15 → st = 0) :
    PST lab tx len (pattach M (nI c)) p N e d ∧ STP (pattach M (nI c) 1) (pattach M (nI c) 7) (pattach M (nI c) 8) (pattach M (nI c) 9) (pattach M (nI c) 10) lab N ((n, k, st + 1, b, m, x) :: S) ∧ (∀ j, j ≠ 5 * n + 2 + st → pattach M (nI c) 1 j = M 1 j) ∧ (∀ r, r ≠ 1 → r ≠ 8 → pattach M (nI c) r = M r) := by
  obtain ⟨⟨a1, a2, a3⟩, ⟨b1, b2, b3⟩, ⟨c1, c2, c3, c4, c5, c6⟩, f⟩ := h
  obtain ⟨⟨⟨u1, u2, u3, u4⟩, ⟨s1, s2, s3, s4⟩, v, w, v8, v15, vc⟩, hSS⟩ := hS
  have htop : ptop M = S.length := by unfold ptop; rw [c3, tn_nI (by omega)]; omega
  have ha3 := arj_k k (by omega)
  have e0 : pattach M (nI c) = zup (zup M 1 (5 * n + 2 + st) (nI c)) 8 S.length (nI (st + 1)) := by
    unfold pattach
    try dsimp only
    rw [htop, s1, s2, tn_nI (by omega), tn_nI (by omega), zup_ne M 1 (5 * n + 2 + st) (nI c) (b := 8) (j := S.length) (by omega), s2, show nI st + 1 = nI (st + 1) from ixA rfl (ixC 1)]
  rw [e0]
  have q1 : ∀ j, j ≠ 5 * n + 2 + st → zup (zup M 1 (5 * n + 2 + st) (nI c)) 8 S.length (nI (st + 1)) 1 j = M 1 j := fun j hj => by simp (disch := omega) only [zup_r, zup_ne]
  have q1c : zup (zup M 1 (5 * n + 2 + st) (nI c)) 8 S.length (nI (st + 1)) 1 (5 * n + 2 + st) = nI c := by simp (disch := omega) only [zup_r, zup_ne, zup_at]
  have qr : ∀ r, r ≠ 1 → r ≠ 8 → zup (zup M 1 (5 * n + 2 + st) (nI c)) 8 S.length (nI (st + 1)) r = M r := fun r r1 r8 => by rw [zup_r r8, zup_r r1]
  have q8 : ∀ j, j ≠ S.length → zup (zup M 1 (5 * n + 2 + st) (nI c)) 8 S.length (nI (st + 1)) 8 j = M 8 j := fun j hj => by simp (disch := omega) only [zup_r, zup_ne]
  obtain ⟨Q, eQ⟩ : ∃ Q, Q = zup (zup M 1 (5 * n + 2 + st) (nI c)) 8 S.length (nI (st + 1)) := ⟨_, rfl⟩
  have q88 : zup (zup M 1 (5 * n + 2 + st) (nI c)) 8 S.length (nI (st + 1)) 8 S.length = nI (st + 1) := zup_at _ _ _ _
  rw [← eQ] at q1 q1c qr q8 q88 ⊢
  -- a cell of row 1 that is no part st of n
  have hk16 : ∀ j, j < N → Q 1 (5 * j) = M 1 (5 * j) := fun j _ => q1 _ (by omega)
  refine ⟨⟨⟨a1, by rw [qr 0 (by decide) (by decide)]; exact a2, fun k hk => by rw [qr 6 (by decide) (by decide)]; exact a3 k hk⟩, ⟨by rw [qr 0 (by decide) (by decide)]; exact b1, b2, by rw [qr 0 (by decide) (by decide)]; exact b3⟩, ⟨by rw [qr 0 (by decide) (by decide)]; exact c1, c2, by rw [qr 0 (by decide) (by decide)]; exact c3, c4, by rw [qr 0 (by decide) (by decide)]; exact c5, c6⟩, fun j hj => ?_⟩, ⟨⟨⟨u1, u2, hst, u4⟩, ⟨by rw [qr 7 (by decide) (by decide)]; exact s1, q88, by rw [qr 9 (by decide) (by decide)]; exact s3, by rw [qr 10 (by decide) (by decide)]; exact s4⟩, (q1 _ (by omega)).trans v, w, fun q => ⟨(v8 q).1, (q1 _ (by omega)).trans (v8 q).2⟩, fun _ q => by omega, ?_⟩, ?_⟩, q1, qr⟩
  · obtain ⟨κ, k1, k2, k3, k4, k5⟩ := f j hj
    have hκ3 := arj_k κ (by omega)
    refine ⟨κ, k1, (hk16 j hj).trans k2, fun i hi => ?_, fun q => ?_, fun q => ?_⟩
    · by_cases z : 5 * j + 2 + i = 5 * n + 2 + st
      · have : j = n ∧ i = st := by omega
        obtain ⟨rfl, rfl⟩ := this
        rw [q1c]
        exact Or.inr ⟨c, hc, rfl, by rw [hcl, w], by rw [hk16 c hc]; exact hc16⟩
      · rw [q1 _ z]
        refine (k3 i hi).imp id ?_
        rintro ⟨y, y1, y2, y3, y4⟩
        exact ⟨y, y1, y2, y3, by rw [hk16 y y1]; exact y4⟩
    · have hne : 5 * j + 4 ≠ 5 * n + 2 + st := by
        intro z
        have : j = n ∧ st = 2 := by omega
        obtain ⟨rfl, rfl⟩ := this
        obtain rfl : κ = k := (nI_eq (by omega) (by omega)).mp (k2.symm.trans v)
        rw [q] at hst
        exact absurd hst (by decide)
      rw [q1 _ hne]; exact k4 q
    · have hne : ∀ j, M 1 (5 * j) = nI 15 ∨ M 1 (5 * j) = nI 16 → 5 * j + 3 ≠ 5 * n + 2 + st ∧ 5 * j + 4 ≠ 5 * n + 2 + st := fun j hj => by
        have : ∀ s, 1 ≤ s → s ≤ 2 → st = s → j = n → False := fun s h1 h2 h3 h4 => by
          subst h4
          rcases hj with hj | hj
          · obtain rfl : k = 15 := (nI_eq (by omega) (by decide)).mp (v.symm.trans hj)
            have : st < 1 := hst
            omega
          · obtain rfl : k = 16 := (nI_eq (by omega) (by decide)).mp (v.symm.trans hj)
            have : st < 1 := hst
            omega
        exact ⟨fun z => this 1 (by omega) (by omega) (by omega) (by omega), fun z => this 2 (by omega) (by omega) (by omega) (by omega)⟩
      have k15 : M 1 (5 * j) = nI 15 := by rw [k2, q]
      rw [q1 _ (hne j (Or.inl k15)).1]
      refine (k5 q).imp id ?_
      rintro ⟨y, z, y1, y2, y3, y4, y5, y6, y7⟩
      have h16 := hne y (Or.inr y4)
      exact ⟨y, z, y1, y2, y3, (hk16 y y1).trans y4, (q1 _ h16.1).trans y5, (q1 _ h16.2).trans y6, y7⟩
  · cases S with
    | nil => exact vc
    | cons y S' =>
      obtain ⟨n', k', st', b', m', x'⟩ := y
      refine ⟨vc.1, fun q => ?_, vc.2.2⟩
      obtain ⟨z1, z2, z3, z4⟩ := vc.2.1 q
      refine ⟨z1, z2, z3, ?_⟩
      rw [q1 _ (by
        intro z
        have hn' := hSS.1.2.2.1
        have : n' = n ∧ st = 1 := by omega
        obtain ⟨rfl, rfl⟩ := this
        subst q
        exact absurd hst (by decide))]
      exact z4
  · have gen : ∀ (S0 : List PE), S0.length ≤ S.length → STP (M 1) (M 7) (M 8) (M 9) (M 10) lab N S0 → STP (Q 1) (Q 7) (Q 8) (Q 9) (Q 10) lab N S0 := by
      intro S0
      induction S0 with
      | nil => intro _ _; exact trivial
      | cons y S0 ih =>
        intro hl hz
        obtain ⟨n', k', st', b', m', x'⟩ := y
        have hl : S0.length + 1 ≤ S.length := hl
        obtain ⟨⟨⟨u1', u2', u3', u4'⟩, ⟨s1', s2', s3', s4'⟩, v', w', v8', v15', vc'⟩, hz'⟩ := hz
        have h3 : M 1 (5 * n') = nI 15 → 5 * n' + 3 ≠ 5 * n + 2 + st := fun h z => by
          have : n' = n ∧ st = 1 := by omega
          obtain ⟨rfl, rfl⟩ := this
          obtain rfl : k = 15 := (nI_eq (by omega) (by decide)).mp (v.symm.trans h)
          exact absurd hst (by decide)
        refine ⟨⟨⟨u1', u2', u3', u4'⟩, ⟨by rw [qr 7 (by decide) (by decide)]; exact s1', (q8 _ (by omega)).trans s2', by rw [qr 9 (by decide) (by decide)]; exact s3', by rw [qr 10 (by decide) (by decide)]; exact s4'⟩, (q1 _ (by omega)).trans v', w', fun q => ⟨(v8' q).1, (q1 _ (by omega)).trans (v8' q).2⟩, fun q q2 => by rw [q1 _ (h3 (by rw [v', q]))]; exact v15' q q2, ?_⟩, ih (by omega) hz'⟩
        cases S0 with
        | nil => exact vc'
        | cons y S1 =>
          obtain ⟨n2, k2, st2, b2, m2, x2⟩ := y
          refine ⟨vc'.1, fun q => ?_, vc'.2.2⟩
          obtain ⟨z1, z2, z3, z4⟩ := vc'.2.1 q
          refine ⟨z1, z2, z3, ?_⟩
          have v2 : M 1 (5 * n2) = nI k2 := hz'.1.2.2.1
          rw [q1 _ (by
            intro z
            have : n2 = n ∧ st = 1 := by omega
            obtain ⟨rfl, rfl⟩ := this
            obtain rfl : k = k2 := (nI_eq (by omega) (by have := hz'.1.1.2.1; omega)).mp (v.symm.trans v2)
            rw [z1] at hst
            exact absurd hst (by decide))]
          exact z4
    exact gen S (Nat.le_refl _) hSS
/-- an entry is closed -/
theorem PST.pop {y : PE} (h : PST lab tx len M p N e d) (hS : STP (M 1) (M 7) (M 8) (M 9) (M 10) lab N (y :: S)) (hd : S.length + 1 = d) :
    PST lab tx len (pgoC M) p N e S.length ∧ STP (pgoC M 1) (pgoC M 7) (pgoC M 8) (pgoC M 9) (pgoC M 10) lab N S ∧ (∀ r, r ≠ 0 → pgoC M r = M r) ∧ pgoC M 0 13 = nI S.length := by
  obtain ⟨⟨a1, a2, a3⟩, ⟨b1, b2, b3⟩, ⟨c1, c2, c3, c4, c5, c6⟩, f⟩ := h
  have qr : ∀ r, r ≠ 0 → pgoC M r = M r := fun r hr => zup_r hr
  have q0 : ∀ j, j ≠ 13 → pgoC M 0 j = M 0 j := fun j hj => zup_ne _ _ _ _ (Or.inr hj)
  have q13 : pgoC M 0 13 = nI S.length := by
    show zup M 0 13 (M 0 13 - 1) 0 13 = _
    rw [zup_at, c3]
    exact (ixS rfl (ixC 1) (by omega)).trans (congrArg nI (by omega))
  refine ⟨⟨⟨a1, (q0 8 (by decide)).trans a2, fun k hk => by rw [qr 6 (by decide)]; exact a3 k hk⟩, ⟨(q0 14 (by decide)).trans b1, b2, (q0 15 (by decide)).trans b3⟩, ⟨(q0 1 (by decide)).trans c1, c2, q13, by omega, (q0 16 (by decide)).trans c5, c6⟩, by rw [qr 1 (by decide)]; exact f⟩, ?_, qr, q13⟩
  rw [qr 1 (by decide), qr 7 (by decide), qr 8 (by decide), qr 9 (by decide), qr 10 (by decide)]
  exact hS.2
end PENT
