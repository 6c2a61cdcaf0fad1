/-! A text that was written is read: a clause is begun; what is still to come. -/
section PCLA
variable {lab : Nat → Nat} {tx : Nat → Nat} {len p N e d : Nat} {M : zI} {S : List PE}
/-- the entries below are of smaller nodes -/
theorem STP.below {T A7 A8 A9 A10 : Nat → Int32} : ∀ (S : List PE) (y : PE), STP T A7 A8 A9 A10 lab N (y :: S) → ∀ z ∈ S, z.1 < y.1 := by
  intro S
  induction S with
  | nil => intro y _ z hz; cases hz
  | cons w S ih =>
    intro y h z hz
    obtain ⟨n, k, st, b, m, x⟩ := y
    obtain ⟨n', k', st', b', m', x'⟩ := w
    have h1 : n' < n := h.1.2.2.2.2.2.2.2.2.2
    rcases List.mem_cons.mp hz with rfl | hz
    · exact h1
    · have := ih _ h.2 z hz
      exact Nat.lt_trans this h1
theorem ne53 {j n i : Nat} (h : ¬ j = n) (hi : i < 3) : 5 * j + 2 + i ≠ 5 * n + 3 := by omega
set_option maxHeartbeats 1000000 in
theorem PST.clause {n m x a y : Nat} {b : Int32} {l : List Nat} (h : PST lab tx len M p N e d) (hS : STP (M 1) (M 7) (M 8) (M 9) (M 10) lab N ((n, 15, 1, b, m, x) :: S)) (hd : S.length + 1 = d) (h3 : M 1 (5 * n + 3) = -9) (ht : RT tx len p ((65 + a) :: (120 + y) :: l)) (ha : a < 3) (hy : y < 3) (hN : N < 64900) (hd9 : d < 120) :
    PST (zu1 lab N (n + 1)) tx len (pbclause M (nI n)) (p + 2) (N + 1) e (d + 1) ∧ RT tx len (p + 2) l ∧
    STP (pbclause M (nI n) 1) (pbclause M (nI n) 7) (pbclause M (nI n) 8) (pbclause M (nI n) 9) (pbclause M (nI n) 10) (zu1 lab N (n + 1)) (N + 1) ((N, 16, 0, b ||| (1 <<< (nI (23 + y) &&& 31)), n + 1, 0) :: (n, 15, 1, b, m, x) :: S) ∧ (∀ j, j < N → pbclause M (nI n) 1 (5 * j) = M 1 (5 * j)) := by
  obtain ⟨hb1, hb2, hb3, hb4, hb5⟩ := h.next ht
  have htk := hb1.take (lo := 97) (hi := 122) hb2 (by omega) (by omega) (by omega) (by decide)
  obtain ⟨hc1, hc2, hc3, hc4, hc5⟩ := hb1.next hb2
  have hn65 : n < 65000 := by have := hS.1.1.1; omega
  have htn : tn (nI n) = n := tn_nI (by omega)
  have hph : phere M = nI (65 + a) := hb3
  have h58 : ¬ phere M = 58 := by rw [hph]; exact fun z => by have := (nI_eq (b := 58) (by omega) (by decide)).mp z; omega
  have h65 : phere M - 65 = nI a := by rw [hph]; exact (ixS rfl (ixC 65) (by omega)).trans (congrArg nI (by omega))
  have hw : pbc1 M = nI a := by unfold pbc1; rw [if_neg h58]; exact h65
  have hcl : pclause M (nI n) (pbc1 M) = -9 := by
    unfold pclause
    rw [htn, h3]; rfl
  have e1 : pbclause M (nI n) = pbcD (patn (patn M)) (nI n) (nI a) (nI (23 + y)) (phere M = 58) := by
    rw [pbclause_yes ⟨Or.inr (by rw [h65]; exact fun z => z.elim (nI_nlt (b := 0) (by omega) (by omega)) (nI_nlt (a := 5) (by omega) (by omega))), hcl⟩]
    rw [show ptake (patn M) 97 122 = (nI (120 + y - 97), patn (patn M)) from htk, if_pos hc1.2.1.2.2, hw, show 120 + y - 97 = 23 + y by omega]
  obtain ⟨⟨a1, a2, a3⟩, ⟨b1, b2, b3⟩, ⟨c1, c2, c3, c4, c5, c6⟩, f⟩ := hc1
  have hr2 : ∀ r, r ≠ 0 → patn (patn M) r = M r := fun r hr => (hc4 r hr).trans (hb4 r hr)
  rw [hr2 1 (by decide)] at f
  obtain ⟨P, eP⟩ : ∃ P, P = patn (patn M) := ⟨_, rfl⟩
  rw [← eP] at a2 a3 b1 b3 c1 c3 c5 e1 hr2
  obtain ⟨⟨⟨u1, u2, u3, u4⟩, ⟨s1, s2, s3, s4⟩, v, w, v8, v15, vc⟩, hSS⟩ := hS
  have htd : tn (nI d) = d := tn_nI (by omega)
  have htN : tn (nI N) = N := tn_nI (by omega)
  have e2 : pbclause M (nI n) = zup (zup (zup (zup (zup (zup (zup (zup (zup (zup (zup (zup (zup (zup (zup P 0 1 (nI (N + 1))) 1 (5 * N) 16) 1 (5 * N + 1) (nI (23 + y))) 1 (5 * N + 2) (-9)) 1 (5 * N + 3) (-9)) 1 (5 * N + 4) (-9)) 0 16 (nI e)) 1 (5 * N + 3) (-9)) 1 (5 * N + 4) (nI a)) 1 (5 * n + 3) (nI N)) 7 d (nI N)) 8 d 0) 9 d (b ||| (1 <<< (nI (23 + y) &&& 31)))) 10 d (nI (n + 1))) 0 13 (nI (d + 1)) := by
    rw [e1]
    have em : pmake P 16 (nI (23 + y)) = zup (zup (zup (zup (zup (zup (zup P 0 1 (nI (N + 1))) 1 (5 * N) 16) 1 (5 * N + 1) (nI (23 + y))) 1 (5 * N + 2) (-9)) 1 (5 * N + 3) (-9)) 1 (5 * N + 4) (-9)) 0 16 (nI e) := by
      unfold pmake pmakeE pmake1
      try dsimp only
      rw [if_pos rfl, c1, htN, show nI N + 1 = nI (N + 1) from ixA rfl (ixC 1)]
      have : zup (zup (zup (zup (zup (zup P 0 1 (nI (N + 1))) 1 (5 * N) 16) 1 (5 * N + 1) (nI (23 + y))) 1 (5 * N + 2) (-9)) 1 (5 * N + 3) (-9)) 1 (5 * N + 4) (-9) 0 16 = nI e := by
        simp (disch := omega) only [zup_r, zup_ne]; exact c5
      rw [this, Int32.add_zero]
    have ec : pbcC P (nI n) (nI a) (nI (23 + y)) = zup (zup (zup (zup (zup (zup (zup (zup (zup (zup P 0 1 (nI (N + 1))) 1 (5 * N) 16) 1 (5 * N + 1) (nI (23 + y))) 1 (5 * N + 2) (-9)) 1 (5 * N + 3) (-9)) 1 (5 * N + 4) (-9)) 0 16 (nI e)) 1 (5 * N + 3) (-9)) 1 (5 * N + 4) (nI a)) 1 (5 * n + 3) (nI N) := by
      unfold pbcC
      try dsimp only
      rw [em, c1, htN, htn]
      have : zup (zup (zup (zup (zup (zup (zup P 0 1 (nI (N + 1))) 1 (5 * N) 16) 1 (5 * N + 1) (nI (23 + y))) 1 (5 * N + 2) (-9)) 1 (5 * N + 3) (-9)) 1 (5 * N + 4) (-9)) 0 16 (nI e) 1 (5 * n + 3) = -9 := by
        simp (disch := omega) only [zup_r, zup_ne]
        rw [hr2 1 (by decide)]; exact h3
      rw [this]
    unfold pbcD
    rw [ec, if_neg h58, c1]
    obtain ⟨Q, eQ⟩ : ∃ Q, Q = zup (zup (zup (zup (zup (zup (zup (zup (zup (zup P 0 1 (nI (N + 1))) 1 (5 * N) 16) 1 (5 * N + 1) (nI (23 + y))) 1 (5 * N + 2) (-9)) 1 (5 * N + 3) (-9)) 1 (5 * N + 4) (-9)) 0 16 (nI e)) 1 (5 * N + 3) (-9)) 1 (5 * N + 4) (nI a)) 1 (5 * n + 3) (nI N) := ⟨_, rfl⟩
    rw [← eQ]
    have q13 : Q 0 13 = nI d := by
      rw [eQ]; simp (disch := omega) only [zup_r, zup_ne]; exact c3
    have q9 : Q 9 (d - 1) = b := by
      rw [eQ]; simp only [zup_r (show (9 : Nat) ≠ 1 by decide), zup_r (show (9 : Nat) ≠ 0 by decide)]
      rw [hr2 9 (by decide), show d - 1 = S.length by omega]; exact s3
    unfold penter
    try dsimp only
    rw [q13, htd, q9]
    have q13' : zup (zup (zup (zup Q 7 d (nI N)) 8 d 0) 9 d (b ||| (1 <<< (nI (23 + y) &&& 31)))) 10 d (nI n + 1) 0 13 + 1 = nI (d + 1) := by
      simp (disch := omega) only [zup_r, zup_ne]
      rw [q13]; exact ixA rfl (ixC 1)
    rw [q13', show nI n + 1 = nI (n + 1) from ixA rfl (ixC 1)]
  obtain ⟨Q, eQ⟩ : ∃ Q, Q = pbclause M (nI n) := ⟨_, rfl⟩
  rw [← eQ] at e2 ⊢
  have q0 : ∀ j, j ≠ 1 → j ≠ 16 → j ≠ 13 → Q 0 j = P 0 j := fun j j1 j2 j3 => by rw [e2]; simp (disch := omega) only [zup_r, zup_ne]
  have q1 : ∀ j, j < 5 * N → j ≠ 5 * n + 3 → Q 1 j = M 1 j := fun j hj hj2 => by rw [e2]; simp (disch := omega) only [zup_r, zup_ne]; rw [hr2 1 (by decide)]
  have q6 : Q 6 = M 6 := by
    rw [e2]
    simp only [zup_r (show (6 : Nat) ≠ 0 by decide), zup_r (show (6 : Nat) ≠ 1 by decide), zup_r (show (6 : Nat) ≠ 7 by decide), zup_r (show (6 : Nat) ≠ 8 by decide), zup_r (show (6 : Nat) ≠ 9 by decide), zup_r (show (6 : Nat) ≠ 10 by decide)]
    exact hr2 6 (by decide)
  have c0 : Q 1 (5 * N) = nI 16 := by rw [e2]; simp (disch := omega) only [zup_r, zup_ne, zup_at]; rfl
  have c2' : Q 1 (5 * N + 2) = -9 := by rw [e2]; simp (disch := omega) only [zup_r, zup_ne, zup_at]
  have c3' : Q 1 (5 * N + 3) = -9 := by rw [e2]; simp (disch := omega) only [zup_r, zup_ne, zup_at]
  have c4' : Q 1 (5 * N + 4) = nI a := by rw [e2]; simp (disch := omega) only [zup_r, zup_ne, zup_at]
  have cn : Q 1 (5 * n + 3) = nI N := by rw [e2]; simp (disch := omega) only [zup_r, zup_ne, zup_at]
  have s7 : Q 7 d = nI N ∧ Q 8 d = 0 ∧ Q 9 d = (b ||| (1 <<< (nI (23 + y) &&& 31))) ∧ Q 10 d = nI (n + 1) := by
    refine ⟨?_, ?_, ?_, ?_⟩ <;> (rw [e2]; simp (disch := omega) only [zup_r, zup_ne, zup_at])
  have so : ∀ j, j < d → Q 7 j = M 7 j ∧ Q 8 j = M 8 j ∧ Q 9 j = M 9 j ∧ Q 10 j = M 10 j := fun j hj => by
    refine ⟨?_, ?_, ?_, ?_⟩
    · rw [e2]; simp (disch := omega) only [zup_r, zup_ne]; rw [hr2 7 (by decide)]
    · rw [e2]; simp (disch := omega) only [zup_r, zup_ne]; rw [hr2 8 (by decide)]
    · rw [e2]; simp (disch := omega) only [zup_r, zup_ne]; rw [hr2 9 (by decide)]
    · rw [e2]; simp (disch := omega) only [zup_r, zup_ne]; rw [hr2 10 (by decide)]
  have w1 : Q 0 1 = nI (N + 1) := by rw [e2]; simp (disch := omega) only [zup_r, zup_ne, zup_at]
  have w16 : Q 0 16 = nI e := by rw [e2]; simp (disch := omega) only [zup_r, zup_ne, zup_at]
  have w13 : Q 0 13 = nI (d + 1) := by rw [e2]; exact zup_at _ _ _ _
  have hlab : ∀ j, j < N → zu1 lab N (n + 1) j = lab j := fun j hj => zu1_ne _ _ _ (by omega)
  have hk : ∀ j, j < N → Q 1 (5 * j) = M 1 (5 * j) := fun j hj => q1 _ (by omega) (by omega)
  have hbl := STP.below S (n, 15, 1, b, m, x) (T := M 1) (A7 := M 7) (A8 := M 8) (A9 := M 9) (A10 := M 10) (lab := lab) (N := N) ⟨⟨⟨u1, u2, u3, u4⟩, ⟨s1, s2, s3, s4⟩, v, w, v8, v15, vc⟩, hSS⟩
  refine ⟨⟨⟨a1, (q0 8 (by decide) (by decide) (by decide)).trans a2, fun k hk => by rw [q6, ← hr2 6 (by decide)]; exact a3 k hk⟩, ⟨(q0 14 (by decide) (by decide) (by decide)).trans b1, b2, (q0 15 (by decide) (by decide) (by decide)).trans b3⟩, ⟨w1, by omega, w13, by omega, w16, c6⟩, fun j hj => ?_⟩, hc2, ⟨⟨⟨Nat.lt_succ_self _, by decide, Nat.zero_le _, by omega⟩, ⟨?_, ?_, ?_, ?_⟩, c0, zu1_at _ _ _, fun q => absurd q (by decide), fun q => absurd q (by decide), fun q => absurd rfl q, fun _ => ⟨rfl, rfl, rfl, cn⟩, fun q => absurd rfl q, u1⟩, ⟨⟨by omega, u2, u3, u4⟩, ⟨?_, ?_, ?_, ?_⟩, (hk n u1).trans v, (hlab n u1).trans w, fun q => absurd q (by decide), fun _ q => absurd q (by decide), ?_⟩, ?_⟩, hk⟩
  · by_cases q : j = N
    · subst q
      exact ⟨16, Nat.le_refl _, c0, fun i hi => Or.inl (by
        have : i < 1 := hi
        obtain rfl : i = 0 := by omega
        exact c2'), fun q => absurd q (by decide), fun q => absurd q (by decide)⟩
    · by_cases q2 : j = n
      · subst q2
        obtain ⟨κ, k1, k2, k3, k4, k5⟩ := f j u1
        obtain rfl : κ = 15 := (nI_eq (by omega) (by decide)).mp (k2.symm.trans v)
        refine ⟨15, by decide, (hk j u1).trans v, fun i hi => ?_, fun q => absurd q (by decide), fun _ => Or.inr ⟨N, a, Nat.lt_succ_self _, by omega, cn, c0, c3', c4', zu1_at _ _ _⟩⟩
        have hi1 : i < 1 := hi
        obtain rfl : i = 0 := by omega
        rw [q1 _ (by omega) (by omega)]
        refine (k3 0 hi).imp id ?_
        rintro ⟨z, z1, z2, z3, z4⟩
        exact ⟨z, by omega, z2, by rw [hlab z z1, hlab j u1]; exact z3, by rw [hk z z1]; exact z4⟩
      · have hj : j < N := by omega
        obtain ⟨κ, k1, k2, k3, k4, k5⟩ := f j hj
        have hκ := arj_k κ (by omega)
        refine ⟨κ, k1, (hk j hj).trans k2, fun i hi => ?_, fun q => ?_, fun q => ?_⟩
        · have hi3 : i < 3 := by omega
          have x1 : 5 * j + 2 + i < 5 * N := by omega
          have x2 : 5 * j + 2 + i ≠ 5 * n + 3 := ne53 q2 hi3
          rw [q1 _ x1 x2]
          refine (k3 i hi).imp id ?_
          rintro ⟨z, z1, z2, z3, z4⟩
          exact ⟨z, by omega, z2, by rw [hlab z z1, hlab j hj]; exact z3, by rw [hk z z1]; exact z4⟩
        · rw [q1 _ (by omega) (by omega), hlab j hj]; exact k4 q
        · rw [q1 _ (by omega) (by omega)]
          refine (k5 q).imp id ?_
          rintro ⟨z, t, z1, z2, z3, z4, z5, z6, z7⟩
          have hzn : z ≠ n := fun y => by
            subst y
            exact absurd ((nI_eq (a := 15) (b := 16) (by decide) (by decide)).mp (v.symm.trans z4)) (by decide)
          exact ⟨z, t, by omega, z2, z3, (hk z z1).trans z4, (q1 _ (by omega) (by omega)).trans z5, (q1 _ (by omega) (by omega)).trans z6, (hlab z z1).trans z7⟩
  · show Q 7 (S.length + 1) = nI N
    rw [hd]; exact s7.1
  · show Q 8 (S.length + 1) = nI 0
    rw [hd]; exact s7.2.1
  · show Q 9 (S.length + 1) = _
    rw [hd]; exact s7.2.2.1
  · show Q 10 (S.length + 1) = _
    rw [hd]; exact s7.2.2.2
  · exact (so _ (by omega)).1.trans s1
  · exact (so _ (by omega)).2.1.trans s2
  · exact (so _ (by omega)).2.2.1.trans s3
  · exact (so _ (by omega)).2.2.2.trans s4
  · cases S with
    | nil => exact vc
    | cons z S' =>
      obtain ⟨n', k', st', b', m', x'⟩ := z
      exact ⟨vc.1, fun q => absurd q (by decide), vc.2.2⟩
  · have gen : ∀ (S0 : List PE), S0.length < d → (∀ z ∈ S0, z.1 < n) → STP (M 1) (M 7) (M 8) (M 9) (M 10) lab N S0 → STP (Q 1) (Q 7) (Q 8) (Q 9) (Q 10) (zu1 lab N (n + 1)) (N + 1) S0 := by
      intro S0
      induction S0 with
      | nil => intro _ _ _; exact trivial
      | cons z S0 ih =>
        intro hl hb hz
        obtain ⟨n', k', st', b', m', x'⟩ := z
        have hl : S0.length + 1 < d := hl
        have hn' : n' < n := hb _ (List.mem_cons_self ..)
        obtain ⟨⟨⟨u1', u2', u3', u4'⟩, ⟨s1', s2', s3', s4'⟩, v', w', v8', v15', vc'⟩, hz'⟩ := hz
        obtain ⟨o1, o2, o3, o4⟩ := so S0.length (by omega)
        refine ⟨⟨⟨by omega, u2', u3', u4'⟩, ⟨o1.trans s1', o2.trans s2', o3.trans s3', o4.trans s4'⟩, (hk _ u1').trans v', (hlab _ u1').trans w', fun q => ⟨(v8' q).1, (q1 _ (by omega) (by omega)).trans (v8' q).2⟩, fun q q2 => (q1 _ (by omega) (by omega)).trans (v15' q q2), ?_⟩, ih (by omega) (fun z hz => hb z (List.mem_cons_of_mem _ hz)) hz'⟩
        cases S0 with
        | nil => exact vc'
        | cons z S1 =>
          obtain ⟨n2, k2, st2, b2, m2, x2⟩ := z
          have hn2 : n2 < n := hb _ (List.mem_cons_of_mem _ (List.mem_cons_self ..))
          exact ⟨vc'.1, fun q => ⟨(vc'.2.1 q).1, (vc'.2.1 q).2.1, (vc'.2.1 q).2.2.1, (q1 _ (by omega) (by omega)).trans (vc'.2.1 q).2.2.2⟩, vc'.2.2⟩
    exact gen S (by omega) hbl hSS
end PCLA
