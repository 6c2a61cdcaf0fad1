/-! The numbers of a run fit together. -/
def SND (M : zI) : Prop :=
  (∀ a, a < 6 → phdl M (nI a) = -9 ∨ (phdl M (nI a) < ptold M 2 ∧ pframe M (phdl M (nI a)) 0 = 12 ∧ ¬ pframe M (phdl M (nI a)) 1 < 1)) ∧
  0 + M 2 24 + M 2 25 + M 2 26 + M 2 27 + M 2 28 + M 2 29 = ptold M 5 ∧
  (¬ ptold M 3 < ptold M 2 ∧ ¬ 100 < ptold M 3 ∧ ¬ 1000 < ptold M 1 ∧ ¬ 60 < ptold M 4 ∧ ¬ ptold M 7 < ptold M 8 ∧ ¬ ptold M 5 + 30 < ptold M 6 + (if ptold M 0 = 3 then 1 else 0)) ∧
  ((ptold M 10 = -9 ↔ ¬ ptold M 0 = 3) ∧ (pfocus M = 0 ↔ ¬ ptold M 0 = 1) ∧ (ptold M 0 = 2 → ptold M 2 = 0) ∧ (ptold M 0 = 5 → ptold M 1 = 1000)) ∧
  (∃ d, d ≤ 100 ∧ ptold M 2 = nI d ∧ pframe M (nI d) 0 = -1 ∧ ∀ k, k < d → ∃ κ, 1 ≤ κ ∧ κ ≤ 14 ∧ pframe M (nI k) 0 = nI κ ∧ (κ = 9 → pframe M (nI k) 1 = 0 ∨ pframe M (nI k) 1 = 1)) ∧
  ∃ t, t ≤ 60 ∧ ptold M 4 = nI t ∧ ptrace M (nI t) = -9
section SNDS
variable {M : zI} {np w u v p r s : Nat}
theorem pclsA_ge {n : Int32} {a : Nat} (ha : ¬ pclause M n (nI a) = -9) : ∀ (j k c : Nat), k ≤ a → a < k + j → c + j < 1000 → ∃ e, 1 ≤ e ∧ e ≤ c + j ∧ pclsA M n j k (nI c) = nI e := by
  have rest : ∀ (j k c : Nat), 1 ≤ c → c + j < 1000 → ∃ e, 1 ≤ e ∧ e ≤ c + j ∧ pclsA M n j k (nI c) = nI e := by
    intro j
    induction j with
    | zero => intro k c h1 h2; exact ⟨c, h1, by omega, rfl⟩
    | succ j ih =>
      intro k c h1 h2
      show ∃ e, 1 ≤ e ∧ e ≤ c + (j + 1) ∧ pclsA M n j (k + 1) (nI c + (if pclause M n (nI k) = -9 then 0 else 1)) = nI e
      by_cases q : pclause M n (nI k) = -9
      · rw [if_pos q, show nI c + 0 = nI c from Int32.add_zero _]
        obtain ⟨e, e1, e2, e3⟩ := ih (k + 1) c h1 (by omega)
        exact ⟨e, e1, by omega, e3⟩
      · rw [if_neg q, show nI c + 1 = nI (c + 1) from ixA rfl (ixC 1)]
        obtain ⟨e, e1, e2, e3⟩ := ih (k + 1) (c + 1) (by omega) (by omega)
        exact ⟨e, e1, by omega, e3⟩
  intro j
  induction j with
  | zero => intro k c h1 h2; omega
  | succ j ih =>
    intro k c h1 h2 h3
    show ∃ e, 1 ≤ e ∧ e ≤ c + (j + 1) ∧ pclsA M n j (k + 1) (nI c + (if pclause M n (nI k) = -9 then 0 else 1)) = nI e
    by_cases z : k = a
    · subst z
      rw [if_neg ha, show nI c + 1 = nI (c + 1) from ixA rfl (ixC 1)]
      obtain ⟨e, e1, e2, e3⟩ := rest j (k + 1) (c + 1) (by omega) (by omega)
      exact ⟨e, e1, by omega, e3⟩
    · by_cases q : pclause M n (nI k) = -9
      · rw [if_pos q, show nI c + 0 = nI c from Int32.add_zero _]
        obtain ⟨e, e1, e2, e3⟩ := ih (k + 1) c (by omega) (by omega) (by omega)
        exact ⟨e, e1, by omega, e3⟩
      · rw [if_neg q, show nI c + 1 = nI (c + 1) from ixA rfl (ixC 1)]
        obtain ⟨e, e1, e2, e3⟩ := ih (k + 1) (c + 1) (by omega) (by omega) (by omega)
        exact ⟨e, e1, by omega, e3⟩
/-- where the handler stands -/
theorem phA_ix (h : NW np w u v p r s M) {a : Int32} : ∀ (k : Nat) (m x y : Int32) (d : Nat), (x = -9 ∨ ∃ i, i < np ∧ x = nI i ∧ M 4 (7 * i + 6) = nI d) → d ≤ 100 → ¬ (phA M a k m x y).1 = -9 → ∃ i j, j < d ∧ i < np ∧ phA M a k m x y = (nI i, y + nI j) ∧ pbel M j x = nI i ∧ pof M (nI i) 0 = 12 ∧ ¬ pclause M (pof M (nI i) 1) a = -9 := by
  obtain ⟨⟨-, b2, -, hF⟩, -⟩ := h
  intro k
  induction k with
  | zero => intro m x y d _ _ h; exact absurd rfl h
  | succ k ih =>
    intro m x y d hx hd hn
    by_cases h9 : x = -9
    · exact absurd (by unfold phA; rw [if_pos h9]) hn
    · rcases hx with hx | ⟨i, i1, rfl, i3⟩
      · exact absurd hx h9
      have p5 : pof M (nI i) 5 = M 4 (7 * i + 5) := pof_n (k := 5) (by omega) (by decide)
      obtain ⟨d', d1, d2, d3⟩ := hF i i1
      obtain rfl : d = d' + 1 := (nI_eq (by omega) (by omega)).mp (i3.symm.trans d2)
      have hO : M 4 (7 * i + 5) = -9 ∨ ∃ b, b < np ∧ M 4 (7 * i + 5) = nI b ∧ M 4 (7 * b + 6) = nI d' := by
        rcases d3 with z | ⟨b, z1, z2, z3, -⟩
        · exact Or.inl z.1
        · exact Or.inr ⟨b, by omega, z2, z3⟩
      have hrec : ∀ m', phA M a (k + 1) m (nI i) y = phA M a k m' (pof M (nI i) 5) (y + 1) → ∃ i' j, j < d' + 1 ∧ i' < np ∧ phA M a (k + 1) m (nI i) y = (nI i', y + nI j) ∧ pbel M j (nI i) = nI i' ∧ pof M (nI i') 0 = 12 ∧ ¬ pclause M (pof M (nI i') 1) a = -9 := fun m' e => by
        rw [e, p5] at hn ⊢
        obtain ⟨i', j, c0, c1, c3, c4, c5, c6⟩ := ih m' _ (y + 1) d' hO (by omega) hn
        refine ⟨i', j + 1, by omega, c1, ?_, ?_, c5, c6⟩
        · rw [c3, Int32.add_assoc]
          exact congrArg (fun z => (nI i', y + z)) ((ixA (ixC 1) rfl).trans (congrArg nI (Nat.add_comm 1 j)))
        · show pbel M j (pof M (nI i) 5) = nI i'
          rw [p5]; exact c4
      by_cases q : pof M (nI i) 0 = 12 ∧ ¬ pclause M (pof M (nI i) 1) a = -9
      · by_cases q0 : pmk M a (nI i) m = 0
        · refine ⟨i, 0, by omega, i1, ?_, rfl, q.1, q.2⟩
          unfold phA
          rw [if_neg h9, if_pos q, if_pos q0]
          exact congrArg (fun z => (nI i, z)) (Int32.add_zero y).symm
        · exact hrec (pmk M a (nI i) m + -1) (by
            conv => lhs; unfold phA
            rw [if_neg h9, if_pos q, if_neg q0])
      · exact hrec (pmk M a (nI i) m) (by
          conv => lhs; unfold phA
          rw [if_neg h9, if_neg q])
theorem pframe_n {d k : Nat} (hd : pdepth M = nI d) (hd9 : d ≤ 100) (hk : k < d) : pframe M (nI k) 0 = pof M (pbel M k (M 2 7)) 0 ∧ pframe M (nI k) 1 = pprop M (pbel M k (M 2 7)) := by
  have h1 : ¬ nI k < 0 := nI_nlt (b := 0) (by omega) (by omega)
  have h2 : ¬ pdepth M - 1 < nI k := by
    rw [hd, show nI d - 1 = nI (d - 1) from ixS rfl (ixC 1) (by omega)]
    exact nI_nlt (by omega) (by omega)
  have e : tn (nI k) = k := tn_nI (by omega)
  unfold pframe
  constructor
  · rw [if_neg (fun z => z.elim (fun z => z.elim h1 h2) (fun z => absurd z (by decide))), if_pos rfl, e]
  · rw [if_neg (fun z => z.elim (fun z => z.elim h1 h2) (fun z => absurd z (by decide))), if_neg (by decide), e]
set_option maxHeartbeats 1000000 in
theorem SND.of {b0 n0 b : Nat} {g : zG} {f : zI} {t : zTs} {y : zGs} {n : zNs} {R : zRf} {C : zI} (h : RQ b0 n0 (g, f, M, t, y, n) R C b) (hq : NQ M) : SND M := by
  obtain ⟨hC, hB, -, -⟩ := h.base
  have hdep : pdepth M = nI n.1 := hC.depth
  have hSK := hC.2.2.2.1
  have hd100 : n.1 ≤ 100 := hSK.1
  have hcs := h.cases
  obtain ⟨np, w, u, v, p, r, s, a, b1, b2, b3, b4, b5, b6, b7⟩ := hq
  have ha := a
  obtain ⟨⟨a1, a2, a3, a4⟩, ⟨e1, e2⟩, ⟨c1, c2⟩, ⟨d1, d2, d6⟩, f01⟩ := a
  have t0 : ptold M 0 = M 2 5 := rfl
  have t1 : ptold M 1 = M 2 6 := rfl
  have t2 : ptold M 2 = pdepth M := rfl
  have t3 : ptold M 3 = M 2 8 := rfl
  have t4 : ptold M 4 = M 2 9 := rfl
  have t5 : ptold M 5 = M 2 10 := rfl
  have t6 : ptold M 6 = M 2 11 := rfl
  have t7 : ptold M 7 = M 2 12 := rfl
  have t8 : ptold M 8 = M 2 13 := rfl
  have t10 : ptold M 10 = M 2 15 := rfl
  have hDM : n.1 ≤ w := by
    obtain ⟨x, z, m1, m2, m3, m4⟩ := h.2.1
    have k1 : C 19 1 = nI n.1 := hC.2.2.2.2.1.1.1
    have k2 : C 19 2 = M 2 8 := hC.2.2.2.2.1.1.2
    have q1 : x = n.1 := (nI_eq (by omega) (by omega)).mp (m1.symm.trans k1)
    have q2 : z = w := (nI_eq (by omega) (by omega)).mp (m2.symm.trans (k2.trans e1))
    omega
  obtain ⟨tr, r1, -, r3, -⟩ := hC.2.2.2.2.1.2.2.2.2.2.2.2.2.1
  have r3 : M 2 9 = nI tr := r3
  obtain ⟨k1, k2⟩ := hC.2.2.2.2.1.2.2.2.2.2.2.2.2.2
  have hfr : ∀ k, k < n.1 → pbel M k (M 2 7) = nI (y.2.2.2.2.2 (n.1 - 1 - k)) := fun k hk => by
    have e7 : M 2 7 = nI (y.2.2.2.2.2 (n.1 - 1)) := hSK.2.1.trans (if_neg (show ¬ n.1 = 0 by omega))
    rw [e7]
    exact (hC.bel k (n.1 - 1) (by show n.1 - 1 < n.1; omega) (by omega)).2
  refine ⟨fun a ha6 => ?_, ?_, ⟨?_, ?_, ?_, ?_, ?_, ?_⟩, ⟨?_, ?_, ?_, ?_⟩, ⟨n.1, hd100, t2.trans hdep, ?_, fun k hk => ?_⟩, tr, r1, t4.trans r3, ?_⟩
  · have hph : phdl M (nI a) = if (phand M (nI a)).1 = -9 then -9 else (phand M (nI a)).2 := by
      unfold phdl
      exact if_neg (fun z => z.elim (nI_nlt (b := 0) (by omega) (by omega)) (nI_nlt (a := 5) (b := a) (by omega) (by omega)))
    by_cases q : (phand M (nI a)).1 = -9
    · left; rw [hph, if_pos q]
    · right
      have hx : M 2 7 = -9 ∨ ∃ i, i < np ∧ M 2 7 = nI i ∧ M 4 (7 * i + 6) = nI n.1 := by
        obtain ⟨d, y1, y2, y3⟩ := ha.depth
        obtain rfl : d = n.1 := (nI_eq (by omega) (by omega)).mp (y2.symm.trans hdep)
        rcases y3 with z | z
        · exact Or.inl z.2
        · exact Or.inr z.2
      obtain ⟨i, j, j0, j1, j2, j3, j4, j5⟩ := phA_ix ha 101 0 (M 2 7) 0 n.1 hx hd100 q
      have ej : (phand M (nI a)).2 = nI j := by
        have := congrArg Prod.snd j2
        exact this.trans (Int32.zero_add _)
      obtain ⟨g1, g2⟩ := pframe_n hdep hd100 j0
      rw [hph, if_neg q, ej, g1, g2, j3, t2, hdep]
      refine ⟨nI_lt j0 (by omega), j4, ?_⟩
      rw [pprop_k j4, if_neg (by decide), if_neg (by decide), if_neg (by decide), if_neg (by decide), if_pos rfl]
      obtain ⟨e, x1, x2, x3⟩ := pclsA_ge j5 6 0 0 (Nat.zero_le _) (by omega) (by decide)
      rw [show pclsA M (pof M (nI i) 1) 6 0 0 = nI e from x3]
      exact nI_nlt (b := 1) x1 (by omega)
  · rw [t5, show M 2 10 = bcntP C from k1]
    unfold bcntP
    rw [show C 25 0 = M 2 24 from k2 0 (by decide), show C 25 1 = M 2 25 from k2 1 (by decide), show C 25 2 = M 2 26 from k2 2 (by decide), show C 25 3 = M 2 27 from k2 3 (by decide), show C 25 4 = M 2 28 from k2 4 (by decide), show C 25 5 = M 2 29 from k2 5 (by decide)]
  · rw [t3, t2, e1, hdep]; exact nI_nlt hDM (by omega)
  · rw [t3, e1]; exact nI_nlt (a := 100) (by omega) (by omega)
  · rw [t1, d6]; exact nI_nlt (a := 1000) (by omega) (by omega)
  · rw [t4, r3]; exact nI_nlt (a := 60) (by omega) (by omega)
  · rw [t7, t8, c1, c2]; exact nI_nlt (by omega) (by omega)
  · rw [t5, t6, t0, d1, d2, show nI p + 30 = nI (p + 30) from ixA rfl (ixC 30)]
    by_cases q : M 2 5 = 3
    · rw [if_pos q, show nI r + 1 = nI (r + 1) from ixA rfl (ixC 1)]; exact nI_nlt (by omega) (by omega)
    · rw [if_neg q, Int32.add_zero]; exact nI_nlt (by omega) (by omega)
  · rw [t10, t0]
    by_cases q : M 2 5 = 3
    · refine ⟨fun z => ?_, fun z => absurd q z⟩
      rcases hcs with y | ⟨_, y, _⟩ | ⟨y, _⟩ | ⟨_, _, y, _⟩ | y | y
      · exact absurd (y.symm.trans q) (by decide)
      · exact absurd (y.symm.trans q) (by decide)
      · exact absurd (y.symm.trans q) (by decide)
      · obtain ⟨x, x1, x2⟩ := y.2.2.2.2.2.1
        exact absurd (x2.symm.trans z) ((iv_nI (N := 6) x1 (by decide)).nn (by decide))
      · exact absurd (y.symm.trans q) (by decide)
      · exact absurd (y.symm.trans q) (by decide)
    · exact ⟨fun _ => q, fun _ => h.2.2.2.resolve_left (fun z => q z)⟩
  · rw [t0]
    unfold pfocus
    by_cases q : M 2 5 = 1
    · rw [if_pos q]
      refine ⟨fun z => ?_, fun z => absurd q z⟩
      rcases hcs with y | ⟨_, _, y | y⟩ | ⟨y, _⟩ | ⟨_, y, _⟩ | y | y
      · exact absurd (y.symm.trans q) (by decide)
      · exact absurd (y.2.2.1.symm.trans z) (by decide)
      · exact absurd (y.2.2.1.symm.trans z) (by decide)
      · exact absurd (y.symm.trans q) (by decide)
      · exact absurd (y.symm.trans q) (by decide)
      · exact absurd (y.symm.trans q) (by decide)
      · exact absurd (y.symm.trans q) (by decide)
    · rw [if_neg q]; exact ⟨fun _ => q, fun _ => rfl⟩
  · rw [t0, t2]
    intro q
    rcases hcs with y | ⟨_, y, _⟩ | ⟨_, y⟩ | ⟨_, y, _⟩ | y | y
    · exact absurd (y.symm.trans q) (by decide)
    · exact absurd (y.symm.trans q) (by decide)
    · rw [hdep, show n.1 = 0 from y.2.2.1]; rfl
    · exact absurd (y.symm.trans q) (by decide)
    · exact absurd (y.symm.trans q) (by decide)
    · exact absurd (y.symm.trans q) (by decide)
  · rw [t0, t1]
    intro q
    rw [d6, b7 q]; rfl
  · unfold pframe
    refine if_pos (Or.inl (Or.inr ?_))
    rw [hdep]
    by_cases q : n.1 = 0
    · rw [q]; decide
    · rw [show nI n.1 - 1 = nI (n.1 - 1) from ixS rfl (ixC 1) (by omega)]
      exact nI_lt (by omega) (by omega)
  · obtain ⟨g1, g2⟩ := pframe_n hdep hd100 hk
    rw [g1, g2, hfr k hk]
    obtain ⟨x, -, ⟨i1, -, -, κ, i4, i5, i6, -, i8⟩, -⟩ := hSK.2.2 (n.1 - 1 - k) (by show n.1 - 1 - k < n.1; omega)
    have hnp : n.2.2.2.2 ≤ 39800 := hC.2.2.2.2.2.2.2.2
    have i1 : y.2.2.2.2.2 (n.1 - 1 - k) < n.2.2.2.2 := i1
    have i6 : M 4 (7 * y.2.2.2.2.2 (n.1 - 1 - k)) = nI κ := i6
    have e0 : pof M (nI (y.2.2.2.2.2 (n.1 - 1 - k))) 0 = nI κ := (pof_n (k := 0) (by omega) (by decide)).trans i6
    refine ⟨κ, i4, i5, e0, fun q => ?_⟩
    subst q
    obtain ⟨q, q1, q2, -⟩ := i8.2.2.1 rfl
    have q1 : q < n.2.2.2.1 := q1
    have hnf : n.2.2.2.1 ≤ 1000 := hC.2.2.2.2.2.2.2.1
    have q2 : M 4 (7 * y.2.2.2.2.2 (n.1 - 1 - k) + 4) = nI q := q2
    have e4 : pof M (nI (y.2.2.2.2.2 (n.1 - 1 - k))) 4 = nI q := (pof_n (k := 4) (by omega) (by decide)).trans q2
    rw [pprop_k (k := 9) e0, if_neg (by decide), if_neg (by decide), if_pos rfl, e4, tn_nI (by omega)]
    exact f01 q (by omega)
  · unfold ptrace
    rw [if_neg (show ¬ nI tr < 0 from nI_nlt (b := 0) (by omega) (by omega)), r3, if_neg (nI_nlt (Nat.le_refl _) (by omega))]
end SNDS
