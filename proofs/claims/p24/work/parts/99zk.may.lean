/-! may, in both: the call. -/
def mLk (M : zI) (k : Nat) : List Nat := if M 2 k = -9 then [] else (List.range (tn (M 11 (tn (M 2 k))) - tn (M 2 k))).map (fun i => tn (M 2 k) + i)
def mLs (M : zI) : List Nat := mLk M 0 ++ (mLk M 1 ++ (mLk M 2 ++ (mLk M 3 ++ mLk M 4)))
theorem mLk_mem {M : zI} {k m : Nat} : m ∈ mLk M k ↔ ¬ M 2 k = -9 ∧ tn (M 2 k) ≤ m ∧ m < tn (M 11 (tn (M 2 k))) := by
  unfold mLk
  by_cases q : M 2 k = -9
  · rw [if_pos q]
    exact ⟨fun h => (by cases h), fun h => absurd q h.1⟩
  · rw [if_neg q, List.mem_map]
    constructor
    · rintro ⟨i, hi, rfl⟩
      have := List.mem_range.mp hi
      exact ⟨q, by omega, by omega⟩
    · rintro ⟨-, a, b⟩
      exact ⟨m - tn (M 2 k), List.mem_range.mpr (by omega), by omega⟩
theorem mLs_mem {M : zI} {m : Nat} : m ∈ mLs M ↔ ∃ k, k < 5 ∧ m ∈ mLk M k := by
  unfold mLs
  rw [List.mem_append, List.mem_append, List.mem_append, List.mem_append]
  constructor
  · rintro (h | h | h | h | h)
    · exact ⟨0, by decide, h⟩
    · exact ⟨1, by decide, h⟩
    · exact ⟨2, by decide, h⟩
    · exact ⟨3, by decide, h⟩
    · exact ⟨4, by decide, h⟩
  · rintro ⟨k, hk, h⟩
    have hs : k = 0 ∨ k = 1 ∨ k = 2 ∨ k = 3 ∨ k = 4 := by omega
    rcases hs with rfl | rfl | rfl | rfl | rfl
    · exact Or.inl h
    · exact Or.inr (Or.inl h)
    · exact Or.inr (Or.inr (Or.inl h))
    · exact Or.inr (Or.inr (Or.inr (Or.inl h)))
    · exact Or.inr (Or.inr (Or.inr (Or.inr h)))
section MAYC
variable {b0 n0 c k : Nat} {g : zG} {f F M N : zI} {t : zTs} {y : zGs} {n : zNs} {R : zRf} {C : zI}
/-- the k-th root and its body -/
def BK (b0 n0 : Nat) (g : zG) (f M : zI) (t : zTs) (k : Nat) (r : Option Nat) : Prop := (M 2 k = -9 ∧ r = none) ∨ ∃ r0 a, r0 < t.1 ∧ M 2 k = nI r0 ∧ ¬ M 1 (5 * r0) = nI 16 ∧ r = some a ∧ zIn b0 g a 0 ∧ g.2.2.2 a 0 = some (t.2.1 r0) ∧ BD b0 n0 g f M t r0 a
theorem WR.BK0 (h : WR b0 n0 c k (g, R, f, C) M t y n) (h65 : t.1 ≤ 65000) : BK b0 n0 g f M t 0 (R 17 0) ∧ ∀ p, p < 4 → BK b0 n0 g f M t (1 + p) (R 18 p) := by
  obtain ⟨-, -, -, ⟨q1, -, -⟩, -, hbd⟩ := h
  obtain ⟨b1, b2⟩ := q1.base.2.1
  obtain ⟨d1, d2⟩ := hbd
  constructor
  · rcases b1 with z | ⟨r0, a, z1, z2, z3, z4, z5, z6, z7, -⟩
    · exact Or.inl z
    · have z1 : r0 < t.1 := z1
      have z2 : M 2 0 = nI r0 := z2
      obtain ⟨r1, e1, e2, e3, e4, -⟩ := d1 a z4
      obtain rfl : r0 = r1 := (nI_eq (by omega) (by omega)).mp (z2.symm.trans e1)
      exact Or.inr ⟨r0, a, z1, z2, z3, z4, z6, z7, e4⟩
  · intro p hp
    rcases b2 p hp with z | ⟨r0, a, z1, z2, z3, z4, z5, z6, z7, -⟩
    · exact Or.inl z
    · have z1 : r0 < t.1 := z1
      have z2 : M 2 (1 + p) = nI r0 := z2
      obtain ⟨r1, e1, e2, e3, e4⟩ := d2 p hp a z4
      obtain rfl : r0 = r1 := (nI_eq (by omega) (by omega)).mp (z2.symm.trans e1)
      exact Or.inr ⟨r0, a, z1, z2, z3, z4, z6, z7, e4⟩
def rk (R : zRf) (k : Nat) : Option Nat := if k = 0 then R 17 0 else R 18 (k - 1)
theorem BK.all (h : BK b0 n0 g f M t 0 (R 17 0) ∧ ∀ p, p < 4 → BK b0 n0 g f M t (1 + p) (R 18 p)) : ∀ k, k < 5 → BK b0 n0 g f M t k (rk R k) := by
  intro k hk
  unfold rk
  by_cases q : k = 0
  · subst q
    rw [if_pos rfl]; exact h.1
  · rw [if_neg q]
    have := h.2 (k - 1) (by omega)
    rw [show 1 + (k - 1) = k by omega] at this
    exact this
theorem ari_le3 : ∀ κ, κ < 16 → ari κ ≤ 3 := by decide +kernel
/-- where may works, between two calls -/
theorem WR.mcx (h : WR b0 n0 c k (g, R, f, C) M t y n) (h65 : t.1 ≤ 65000) : MCX b0 n0 g f M t R (mLs M) ∧ (∀ k, k < 5 → BDL g M t (mLs M) (rk R k)) ∧ (∀ m ∈ mLs M, ¬ M 1 (5 * m) = nI 16 → inBs g R (t.2.1 m)) ∧ (mLs M).length ≤ 600 ∧
    (∀ k, k < 5 → BK b0 n0 g f M t k (rk R k)) ∧ ∀ k r0, k < 5 → M 2 k = nI r0 → r0 < t.1 → ∃ e, M 11 r0 = nI e ∧ r0 < e ∧ e ≤ t.1 := by
  have hBK := BK.all (h.BK0 h65)
  have hFR : FRS n0 0 g M t := h.2.2.1.2
  have hiv : ∀ k r0 e, M 2 k = nI r0 → r0 < 65000 → M 11 r0 = nI e → e ≤ 65000 → ∀ m, (m ∈ mLk M k ↔ r0 ≤ m ∧ m < e) := fun k r0 e a b d1 d2 m => by
    rw [mLk_mem, a, tn_nI (by omega), d1, tn_nI (by omega)]
    exact ⟨fun z => z.2, fun z => ⟨(iv_nI (N := 65000) b (by decide)).nn (by decide), z⟩⟩
  have hin : ∀ k, k < 5 → ∀ m, m ∈ mLk M k → m ∈ mLs M := fun k hk m hm => mLs_mem.mpr ⟨k, hk, hm⟩
  have hbd : ∀ k, k < 5 → ∀ m, m ∈ mLk M k → ∃ r0 e, r0 < t.1 ∧ M 2 k = nI r0 ∧ M 11 r0 = nI e ∧ e ≤ t.1 ∧ r0 ≤ m ∧ m < e ∧ ((M 1 (5 * m) = nI 16 ∧ ∃ b, r0 ≤ b ∧ b < e ∧ M 1 (5 * m + 2) = nI b ∧ ¬ M 1 (5 * b) = nI 16) ∨ ∃ κ, κ ≤ 15 ∧ M 1 (5 * m) = nI κ ∧ EN b0 n0 g f (M 1) (e, t.2) κ m ∧ (κ = 14 → ∃ h, r0 ≤ h ∧ h < m ∧ M 1 (5 * m + 4) = nI h)) := fun k hk m hm => by
    rcases hBK k hk with z | ⟨r0, a, z1, z2, z3, z4, z5, z6, z7⟩
    · exact absurd z.1 (mLk_mem.mp hm).1
    · obtain ⟨e, A, kk, ⟨⟨e1, e4⟩, e2, e3⟩, -, -, -, h5⟩ := z7
      have hm' := (hiv k r0 e z2 (by omega) e3 (by omega) m).mp hm
      exact ⟨r0, e, z1, z2, e3, e2, hm'.1, hm'.2, h5 m hm'.1 hm'.2⟩
  have hBO : BOm g M t R := fun p hp => by
    have z := (h.BK0 h65).2 p hp
    rcases z with z | ⟨r0, a, z1, z2, z3, z4, z5, z6, z7⟩
    · exact Or.inl z
    · exact Or.inr ⟨r0, a, by omega, z2, z3, z4, z6⟩
  refine ⟨⟨fun m hm => ?_, hBO, fun m hm h16 => ?_, fun m hm m' hm' h16 h16' he => ?_⟩, fun k hk => ?_, fun m hm h16 => ?_, ?_, hBK, fun k r0 hk a b => ?_⟩
  · obtain ⟨k, hk, hmk⟩ := mLs_mem.mp hm
    obtain ⟨r0, e, r1, r2, r3, r4, r5, r6, r7⟩ := hbd k hk m hmk
    have inn : ∀ j, r0 ≤ j → j < e → j ∈ mLs M ∧ j < 65000 := fun j j1 j2 => ⟨hin k hk j ((hiv k r0 e r2 (by omega) r3 (by omega) j).mpr ⟨j1, j2⟩), by omega⟩
    refine ⟨by omega, ?_⟩
    rcases r7 with ⟨s1, b, s2, s3, s4, s5⟩ | ⟨κ, s1, s2, s3, s4⟩
    · exact Or.inl ⟨s1, b, (inn b s2 s3).1, (inn b s2 s3).2, s4, s5⟩
    · refine Or.inr ⟨κ, s1, s2, fun i hi => ?_, s3.2.1.2.1, fun q => ?_, fun q => ?_, fun q => ?_⟩
      · have := ari_le3 κ (by omega)
        obtain ⟨m', m1, m2, m3, -⟩ := (s3.2.2.1 i (by omega)).1 hi
        have m2 : m' < e := m2
        exact ⟨m', (inn m' (by omega) m2).1, (inn m' (by omega) m2).2, m3⟩
      · obtain ⟨p, p1, p2⟩ := s3.2.1.2.2 q
        refine ⟨p, p1, p2, ?_⟩
        rcases (h.BK0 h65).2 p p1 with z | ⟨x0, a, z1, z2, z3, z4, z5, z6, z7⟩
        · exact Or.inl z.1
        · obtain ⟨e', A, kk, ⟨⟨e1, e4⟩, e2, e3⟩, -⟩ := z7
          exact Or.inr ⟨x0, hin (1 + p) (by omega) x0 ((hiv (1 + p) x0 e' z2 (by omega) e3 (by omega) x0).mpr ⟨Nat.le_refl _, e1⟩), by omega, z2⟩
      · obtain ⟨h, h1, h2, h3⟩ := s4 q
        exact ⟨h, (inn h h1 (by omega)).1, (inn h h1 (by omega)).2, h3⟩
      · subst q
        have hHN := s3.2.2.2.2.2 rfl
        refine ⟨plpV_of (T := M 1) rfl (by omega) r6 hHN, ?_⟩
        obtain ⟨-, qs, c1, c2, c3, -⟩ := hHN
        refine ⟨qs, c1, c2, fun q hq => ?_⟩
        obtain ⟨x1, x2, -⟩ := c3 q hq
        have x2 : q < e := x2
        exact inn q (by omega) x2
  · obtain ⟨k, hk, hmk⟩ := mLs_mem.mp hm
    obtain ⟨r0, e, r1, r2, r3, r4, r5, r6, r7⟩ := hbd k hk m hmk
    refine ⟨(hFR.1 m (Nat.zero_le _) (by omega) h16).2.2.1, ?_⟩
    rcases r7 with ⟨s1, -⟩ | ⟨κ, s1, s2, s3, s4⟩
    · exact absurd s1 h16
    · exact ⟨κ, e, s1, s2, r6, by omega, s3⟩
  · have lt : ∀ m ∈ mLs M, m < t.1 := fun m hm => by
      obtain ⟨k, hk, hmk⟩ := mLs_mem.mp hm
      obtain ⟨r0, e, r1, r2, r3, r4, r5, r6, -⟩ := hbd k hk m hmk
      omega
    rcases Nat.lt_trichotomy m m' with q | q | q
    · have := hFR.2 m m' (Nat.zero_le _) q (lt m' hm') h16 h16'; omega
    · exact q
    · have := hFR.2 m' m (Nat.zero_le _) q (lt m hm) h16' h16; omega
  · intro a ha i hi
    rcases hBK k hk with z | ⟨r0, a', z1, z2, z3, z4, z5, z6, z7⟩
    · rw [z.2] at ha; cases ha
    · obtain rfl : a' = a := Option.some.inj (z4.symm.trans ha)
      obtain ⟨e, A, kk, ⟨⟨e1, e4⟩, e2, e3⟩, ⟨a1, a2, a3, a4, a5⟩, h1, h2, h3⟩ := z7
      rw [pA_eq a1, a4] at hi
      obtain ⟨m, m1, m2, m3, m4⟩ := h1 i hi
      refine ⟨m, hin k hk m ((hiv k r0 e z2 (by omega) e3 (by omega) m).mpr ⟨m1, m2⟩), m3, ?_⟩
      rw [pA_eq a1, pA_eq m4]
  · obtain ⟨k, hk, hmk⟩ := mLs_mem.mp hm
    have hb : inB g (rk R k) (t.2.1 m) := by
      rcases hBK k hk with z | ⟨r0, a, z1, z2, z3, z4, z5, z6, z7⟩
      · exact absurd z.1 (mLk_mem.mp hmk).1
      · obtain ⟨e, A, kk, ⟨⟨e1, e4⟩, e2, e3⟩, ⟨a1, a2, a3, a4, a5⟩, h1, h2, h3⟩ := z7
        have hm' := (hiv k r0 e z2 (by omega) e3 (by omega) m).mp hmk
        obtain ⟨i, i1, i2⟩ := h2 m hm'.1 hm'.2 h16
        refine ⟨a, z4, i, ?_, ?_⟩
        · rw [pA_eq a1, a4]; exact i1
        · rw [pA_eq a1, pA_eq i2]
    unfold rk at hb
    by_cases q : k = 0
    · rw [if_pos q] at hb; exact Or.inl hb
    · rw [if_neg q] at hb; exact Or.inr ⟨k - 1, by omega, hb⟩
  · have one : ∀ k, k < 5 → (mLk M k).length ≤ 120 := fun k hk => by
      unfold mLk
      by_cases q : M 2 k = -9
      · rw [if_pos q]; exact Nat.zero_le _
      · rw [if_neg q, List.length_map, List.length_range]
        rcases hBK k hk with z | ⟨r0, a, z1, z2, z3, z4, z5, z6, z7⟩
        · exact absurd z.1 q
        · obtain ⟨e, A, kk, ⟨⟨e1, e4⟩, e2, e3⟩, -⟩ := z7
          rw [z2, tn_nI (by omega), e3, tn_nI (by omega)]; omega
    unfold mLs
    rw [List.length_append, List.length_append, List.length_append, List.length_append]
    have := one 0 (by decide)
    have := one 1 (by decide)
    have := one 2 (by decide)
    have := one 3 (by decide)
    have := one 4 (by decide)
    omega
  · rcases hBK k hk with z | ⟨x0, a', z1, z2, z3, z4, z5, z6, z7⟩
    · have z1 := z.1
      rw [a] at z1
      exact absurd z1 ((iv_nI (N := 65000) (by omega) (by decide)).nn (by decide))
    · obtain rfl : x0 = r0 := (nI_eq (by omega) (by omega)).mp (z2.symm.trans a)
      obtain ⟨e, A, kk, ⟨⟨e1, e4⟩, e2, e3⟩, -⟩ := z7
      exact ⟨e, e3, e1, e2⟩
/-- notes change, the rest stays -/
theorem WR.mayW (h : WR b0 n0 c k (g, R, f, C) M t y n) (hk : 120 * k ≤ 64800) (hF : FEQ g f F) (hN : psame M N) : WR b0 n0 c (k + 1) (g, R, F, C) N t y n := by
  obtain ⟨⟨⟨w1, w2, w3⟩, w4, w5⟩, ⟨⟨len, tx, v1, v2⟩, v3, v4⟩, ⟨⟨u1, u2⟩, u3⟩, ⟨q1, q2, q3⟩, ⟨⟨i1, i2⟩, i3, i4, i5⟩, hbd⟩ := h
  have u2 : t.1 ≤ 120 * k := u2
  have i3 : M 0 4 = FB R := i3
  have hb : 201 * k ≤ 201 * (k + 1) := by omega
  have nr : ∀ r, r ≠ 14 → r ≠ 15 → N r = M r := hN
  have hx : zLe g g ∧ ZZ n0 g (fun _ => False) ∧ ∀ y, n0 ≤ y → y < g.1 → ¬ False → g.2.2.2 y = g.2.2.2 y ∧ (g.2.1 y ≠ 1 → F y = f y) ∧ ∀ k, k < 8 → F y k = f y k := ⟨zLe.rf, ZZ.non n0 _, fun y _ _ _ => ⟨rfl, (hF y).1, (hF y).2⟩⟩
  have e1 : N 1 = M 1 := nr 1 (by decide) (by decide)
  have e11 : N 11 = M 11 := nr 11 (by decide) (by decide)
  have e2 : N 2 = M 2 := nr 2 (by decide) (by decide)
  have e0 : N 0 = M 0 := nr 0 (by decide) (by decide)
  have hT : TR b0 n0 g F (N 1) t := by
    rw [e1]; exact TR.mv (Z := fun _ => False) q1.base.1.1 hx
  have hQ : RQ b0 n0 (g, F, N, t, y, n) R C (201 * (k + 1)) := q1.mv (Z := fun _ => False) ⟨hx, fun j _ => congrFun (nr 4 (by decide) (by decide)) j, Nat.le_refl _, fun j _ => congrFun e1 j, fun _ _ => ⟨rfl, rfl, rfl⟩⟩ hT (fun _ _ => rfl) ⟨⟨rfl, rfl, fun _ _ _ _ => rfl, rfl⟩, fun _ _ => rfl, fun _ _ => rfl, fun _ _ => rfl, fun _ _ => rfl, fun j _ _ => congrFun e2 j⟩ ⟨fun j _ => congrFun e2 j, ⟨rfl, rfl, rfl, rfl⟩, ⟨rfl, rfl⟩, rfl, fun _ _ => rfl⟩ (UC.mono q1.2.2.1 hb)
  have hra : ∀ a, RA b0 g a → ∀ j, j < 9 → g.2.2.2 (a + j) = g.2.2.2 (a + j) ∧ F (a + j) = f (a + j) := fun a ha j hj => by
    refine ⟨rfl, (hF (a + j)).1 ?_⟩
    obtain ⟨⟨a1, a2, a3, a4, a5, a6, a7, a8, a9⟩, -⟩ := ha
    have hs : j = 0 ∨ j = 1 ∨ j = 2 ∨ j = 3 ∨ j = 4 ∨ j = 5 ∨ j = 6 ∨ j = 7 ∨ j = 8 := by omega
    rcases hs with rfl | rfl | rfl | rfl | rfl | rfl | rfl | rfl | rfl
    · rw [Nat.add_zero, a1.2.2]; decide
    · rw [a2.2.2]; decide
    · rw [a3.2.2]; decide
    · rw [a4.2.2]; decide
    · rw [a5.2.2]; decide
    · rw [a6.2.2]; decide
    · rw [a7.2.2]; decide
    · rw [a8.2.2]; decide
    · rw [a9.2.2]; decide
  have him : ∀ i, i < 2 → IMG b0 n0 g f M t R (201 * k) i → IMG b0 n0 g F N t R (201 * (k + 1)) i := fun i _ hi => hi.mv hb hx ⟨Nat.le_refl _, fun j _ => congrFun e1 j, fun _ _ => ⟨rfl, rfl, rfl⟩⟩ hT (fun j _ => congrFun (nr 3 (by decide) (by decide)) _) (fun j _ => congrFun (nr 5 (by decide) (by decide)) _) (fun a _ ha => hra a ha) rfl
  have himb : ∀ i, i < 2 → IMG b0 n0 g f M t R (201 * k) i → IMB b0 n0 g f M t R i → IMB b0 n0 g F N t R i := fun i _ hi hb a ha => by
    refine ⟨(hb a ha).1, ?_⟩
    refine (hb a ha).2.mv hx (fun _ _ _ _ _ z => z) (by omega) ?_ ?_ (Nat.le_refl _) (fun _ _ => ⟨rfl, rfl, rfl⟩) ?_ rfl (fun _ _ => rfl)
    · exact fun j _ => congrFun e1 j
    · exact fun j _ => congrFun e11 j
    · exact fun j _ => congrFun (nr 3 (by decide) (by decide)) _
  have hBD : BOD b0 n0 g F N t R := hbd.mv hx (fun _ _ _ _ _ z => z) (by omega) (fun j _ => congrFun e1 j) (fun j _ => congrFun e11 j) (Nat.le_refl _) (fun _ _ => ⟨rfl, rfl, rfl⟩) (fun j _ => congrFun e2 j) rfl (fun _ _ => rfl)
  exact ⟨⟨⟨w1, w2, w3⟩, w4, w5⟩, ⟨⟨len, tx, v1.at rfl (congrFun e0 8) (nr 6 (by decide) (by decide)), v2⟩, v3, v4⟩, ⟨⟨(congrFun e0 1).trans u1, by omega⟩, u3.le zLe.rf (fun j _ => congrFun e1 j)⟩, ⟨hQ, q2, GL.mono (GL.of q3 rfl rfl (congrFun e0 27) (nr 19 (by decide) (by decide))) hb⟩, ⟨⟨him 0 (by omega) i1, him 1 (by omega) i2⟩, (congrFun e0 4).trans i3, himb 0 (by omega) i1 i4, himb 1 (by omega) i2 i5⟩, hBD⟩
end MAYC
/-- the arguments of may are fit for both, or for none -/
theorem may_args {p a v : Int32} : ((p = -1 ∨ (¬ p < 0 ∧ p < 4)) ∧ (¬ a < 0 ∧ a < 6) ∧ ¬ v < 0 ∧ v < 4) ↔ ¬ ((p < -1 ∨ 3 < p) ∨ (a < 0 ∨ 5 < a) ∨ (v < 0 ∨ 3 < v)) := by
  have e (x y : Int32) : x = y ↔ x.toInt = y.toInt := Int32.toInt_inj.symm
  rw [e p (-1)]
  simp only [Int32.lt_iff_toInt_lt]
  have em : (-1 : Int32).toInt = -1 := by decide
  have e0 : (0 : Int32).toInt = 0 := by decide
  have e3 : (3 : Int32).toInt = 3 := by decide
  have e4 : (4 : Int32).toInt = 4 := by decide
  have e5 : (5 : Int32).toInt = 5 := by decide
  have e6 : (6 : Int32).toInt = 6 := by decide
  rw [em, e0, e3, e4, e5, e6]
  omega
theorem may_bit {x : Int32} {a v : Nat} (ha : a < 6) (hv : v < 4) : (if x &&& gpair (nI a) (nI v) = 0 then (0 : Int32) else 1) = (x >>> ((4 * nI a + nI v) &&& 31)) &&& 1 := by
  have e1 : 4 * nI a + nI v = nI (4 * a + v) := ixA (ixM (ixC 4) rfl) rfl
  rw [e1, gpair_n, and1, b_sshr _ (by omega) _ (by decide), if_pos (show 4 * a + v + 0 < 32 by omega), Nat.add_zero]
  by_cases q : bt x (4 * a + v) = true
  · rw [if_pos q, if_neg (fun z => by
      have z2 : bt (x &&& 1 <<< (nI (4 * a + v) &&& 31)) (4 * a + v) = false := by rw [z]; exact b_0 _
      rw [b_and, b_one (by omega) (by omega), decide_eq_true rfl, Bool.and_true, q] at z2
      cases z2)]
  · rw [if_neg q, if_pos ?_]
    refine b_ext (fun i hi => ?_)
    rw [b_and, b_one (by omega) hi, b_0]
    by_cases q2 : i = 4 * a + v
    · subst q2
      rw [Bool.eq_false_iff.mpr q]; rfl
    · rw [decide_eq_false q2, Bool.and_false]
