/-! Calls that change the text, or what is defined. -/
section SMALL
variable {b0 n0 c k : Nat} {Z : Nat → Prop} {g G : zG} {f F M N : zI} {t t' : zTs} {y : zGs} {n : zNs} {R R' : zRf} {C C' : zI}
/-- the same, where the text changes -/
theorem WR.gen (h : WR b0 n0 c k (g, R, f, C) M t y n) (hk : 120 * k ≤ 64800) (hg : zLe g G ∧ ∀ y, y < g.1 → G.2.2.2 y = g.2.2.2 y ∧ F y = f y) (hnew : ∀ x, g.1 ≤ x → x < G.1 → G.2.1 x ≠ 7 ∧ (G.2.1 x = 1 → ∀ b, (G.2.2.2 x 5 = some b ∨ G.2.2.2 x 6 = some b) → G.2.2.1 b = 7 ∧ g.1 ≤ b ∧ b < G.1)) (hcg : c + 27 ≤ g.1)
    (hTX : ∃ len tx, TX len tx C' N ∧ C' 0 1 = nI len) (hC : ∀ r, 13 ≤ r → C' r = C r) (h6 : ∀ j, iv 7 (C' 6 j)) (hR : ∀ r, r = 17 ∨ r = 20 ∨ r = 26 → R' r = R r) (h8 : R' 8 0 = none)
    (hM : ∀ r, r = 3 ∨ r = 4 ∨ r = 5 ∨ 16 ≤ r → N r = M r) (hM0 : N 0 4 = M 0 4 ∧ N 0 27 = M 0 27) (hM2 : ∀ j, j = 0 ∨ 5 ≤ j → N 2 j = M 2 j) (hM1 : ∀ j, j < 5 * t.1 → N 1 j = M 1 j) (hM11 : ∀ j, j < t.1 → N 11 j = M 11 j)
    (htt : t.1 ≤ t'.1 ∧ t'.1 ≤ 120 * (k + 1)) (ho : ∀ i, i < t.1 → t'.2.1 i = t.2.1 i ∧ t'.2.2.1 i = t.2.2.1 i ∧ t'.2.2.2 i = t.2.2.2 i) (hN01 : N 0 1 = nI t'.1) (hT : TR b0 n0 G F (N 1) t') (hFR : FRS n0 0 G N t') (hBO : BO b0 n0 (G, F, N, t', y, n) R') (hBD : BOD b0 n0 G F N t' R') :
    WR b0 n0 c (k + 1) (G, R', F, C') N t' y n := by
  obtain ⟨⟨⟨w1, w2, w3⟩, w4, w5⟩, ⟨⟨len, tx, v1, v2⟩, v3, v4⟩, ⟨⟨u1, u2⟩, u3⟩, ⟨q1, q2, q3⟩, ⟨⟨i1, i2⟩, i3, i4, i5⟩, hbd⟩ := h
  have w2 : b0 ≤ g.1 := w2
  have w3 : n0 ≤ g.1 := w3
  have u2 : t.1 ≤ 120 * k := u2
  have hx : zLe g G ∧ ZZ n0 g (fun _ => False) ∧ ∀ y, n0 ≤ y → y < g.1 → ¬ False → G.2.2.2 y = g.2.2.2 y ∧ (g.2.1 y ≠ 1 → F y = f y) ∧ ∀ k, k < 8 → F y k = f y k := ⟨hg.1, ZZ.non n0 _, fun y _ hy _ => ⟨(hg.2 y hy).1, fun _ => (hg.2 y hy).2, fun k _ => by rw [(hg.2 y hy).2]⟩⟩
  have hb : 201 * k ≤ 201 * (k + 1) := by omega
  have eR26 : R' 26 = R 26 := hR 26 (by omega)
  have eR17 : R' 17 = R 17 := hR 17 (by omega)
  have eC : ∀ r, 13 ≤ r → C' r = C r := fun r h => hC r (by omega)
  have hra : ∀ i a, R 26 i = some a → RA b0 g a → ∀ j, j < 9 → G.2.2.2 (a + j) = g.2.2.2 (a + j) ∧ F (a + j) = f (a + j) := fun i a _ ha j hj => by
    obtain ⟨⟨-, -, -, -, -, -, -, -, a9⟩, -⟩ := ha
    exact hg.2 _ (by have := a9.2.1; omega)
  have him : ∀ i, i < 2 → IMG b0 n0 g f M t R (201 * k) i → IMG b0 n0 G F N t' R' (201 * (k + 1)) i := fun i _ hi => hi.mv hb hx ⟨htt.1, hM1, ho⟩ hT (fun k _ => congrFun (hM 3 (by omega)) _) (fun k _ => congrFun (hM 5 (by omega)) _) (hra i) (congrFun eR26 i)
  have himb : ∀ i, i < 2 → IMG b0 n0 g f M t R (201 * k) i → IMB b0 n0 g f M t R i → IMB b0 n0 G F N t' R' i := fun i _ hi hb a ha => by
    rw [eR26] at ha
    rcases hi with z | ⟨a', z1, z2, -⟩
    · rw [z] at ha; cases ha
    · obtain rfl : a' = a := Option.some.inj (z1.symm.trans ha)
      have hrr := hra i a' ha z2
      have eI : ∀ j, 17 ≤ j → j < 26 → iR G a' j = iR g a' j := fun j h1 h2 => (hrr (j - 17) (by omega)).1
      refine ⟨by rw [eR26]; exact (hb a' ha).1, ?_⟩
      refine (hb a' ha).2.mv hx (fun _ _ _ _ _ z => z) (by omega) ?_ ?_ htt.1 ho ?_ (congrFun (eI 17 (by omega) (by omega)) 0) (fun p _ => congrFun (eI 18 (by omega) (by omega)) p)
      · exact fun j hj => hM1 j hj
      · exact fun j hj => hM11 j hj
      · exact fun j _ => congrFun (hM 3 (by omega)) _
  refine ⟨⟨⟨w1, by show b0 ≤ G.1; have := hg.1.1; omega, by show n0 ≤ G.1; have := hg.1.1; omega⟩, fun a ha b hbb => ?_, fun x x0 x1 x7 => ?_⟩, ⟨hTX, h6, h8⟩, ⟨⟨hN01, htt.2⟩, hFR⟩, ⟨?_, q2.mv (congrFun eR17 0) (congrFun (eC 17 (by omega)) 2), ?_⟩, ⟨⟨him 0 (by omega) i1, him 1 (by omega) i2⟩, ?_, himb 0 (by omega) i1 i4, himb 1 (by omega) i2 i5⟩, hBD⟩
  · have ha1 : a < G.1 := ha.2.1
    by_cases q : a < g.1
    · have hg2 : G.2.2.2 a = g.2.2.2 a := (hg.2 a q).1
      have hbb : G.2.2.2 a 5 = some b ∨ G.2.2.2 a 6 = some b := hbb
      rw [hg2] at hbb
      obtain ⟨z1, z2, z3⟩ := w4 a ⟨ha.1, q, (hg.1.2 a q).1.symm.trans ha.2.2⟩ b hbb
      exact ⟨(hg.1.2 b z3).2.trans z1, z2, Nat.lt_of_lt_of_le z3 hg.1.1⟩
    · obtain ⟨z1, z2, z3⟩ := (hnew a (by omega) ha1).2 ha.2.2 b hbb
      exact ⟨z1, fun z => by omega, z3⟩
  · have x1 : x < G.1 := x1
    have x7 : G.2.1 x = 7 := x7
    show G.2.2.2 x 1 = some (x - 1)
    by_cases q : x < g.1
    · rw [(hg.2 x q).1]
      exact w5 x x0 q ((hg.1.2 x q).1.symm.trans x7)
    · exact absurd x7 (hnew x (by omega) x1).1
  · refine q1.mv2 (Z := fun _ => False) ⟨hx, fun k _ => congrFun (hM 4 (by omega)) k, htt.1, hM1, ho⟩ hT (fun p _ => congrFun (hR 20 (by omega)) p) ⟨⟨congrFun (eC 19 (by omega)) 1, congrFun (eC 19 (by omega)) 2, fun k _ _ _ => congrFun (eC 21 (by omega)) k, congrFun (eC 17 (by omega)) 11⟩, fun r _ => congrFun (eC 22 (by omega)) r, fun r _ => congrFun (eC 23 (by omega)) r, fun r _ => congrFun (eC 24 (by omega)) r, fun r _ => congrFun (eC 25 (by omega)) r, fun j hj _ => hM2 j (by unfold CW2 at hj; omega)⟩ ⟨fun j h5 _ => hM2 j (by omega), ⟨congrFun (eC 17 (by omega)) 2, congrFun (eC 17 (by omega)) 3, congrFun (eC 17 (by omega)) 6, congrFun (eC 17 (by omega)) 7⟩, ⟨congrFun eR17 4, congrFun eR17 5⟩, congrFun eR17 0⟩ hBO ?_
    have hU : UC (201 * k) C := q1.2.2.1
    intro r
    obtain ⟨u, z1, z2⟩ := hU r
    exact ⟨u, by omega, by show C' 22 r = nI u; rw [eC 22 (by omega)]; exact z2⟩
  · exact (GL.of q3 (congrFun (eC 13 (by omega)) 4) (eC 16 (by omega)) hM0.2 (hM 19 (by omega))).mono hb
  · show N 0 4 = FB R'
    unfold FB
    rw [eR26, hM0.1]; exact i3
/-- nothing but the text and what is defined changed -/
theorem WR.sm (h : WR b0 n0 c k (g, R, f, C) M t y n) (hk : 120 * k ≤ 64800) (hTX : ∃ len tx, TX len tx C' N ∧ C' 0 1 = nI len) (hC : ∀ r, 2 ≤ r → C' r = C r) (hR : ∀ r, r ≠ 18 → R' r = R r) (hM : ∀ r, r ≠ 0 → r ≠ 2 → r ≠ 6 → r ≠ 12 → r ≠ 13 → N r = M r) (hM0 : ∀ j, j ≠ 8 → N 0 j = M 0 j) (hM2 : ∀ j, j = 0 ∨ 5 ≤ j → N 2 j = M 2 j) (hBO : BO b0 n0 (g, f, N, t, y, n) R') (hBD : BOD b0 n0 g f N t R') : WR b0 n0 c (k + 1) (g, R', f, C') N t y n := by
  have h' := h
  obtain ⟨⟨⟨w1, w2, w3⟩, w4, w5⟩, ⟨-, v3, v4⟩, ⟨⟨u1, u2⟩, u3⟩, ⟨q1, q2, q3⟩, -, hbd⟩ := h
  have w3 : n0 ≤ g.1 := w3
  have u2 : t.1 ≤ 120 * k := u2
  have v3 : ∀ j, iv 7 (C 6 j) := v3
  have hT0 : TR b0 n0 g f (M 1) t := q1.base.1.1
  have n1 : N 1 = M 1 := hM 1 (by decide) (by decide) (by decide) (by decide) (by decide)
  exact h'.gen hk ⟨zLe.rf, fun _ _ => ⟨rfl, rfl⟩⟩ (fun x a b => by omega) (by omega) hTX (fun r hr => hC r (by omega)) (fun j => by rw [hC 6 (by omega)]; exact v3 j) (fun r hr => hR r (by omega)) (by rw [hR 8 (by decide)]; exact v4) (fun r hr => hM r (by omega) (by omega) (by omega) (by omega) (by omega)) ⟨hM0 4 (by decide), hM0 27 (by decide)⟩ hM2 (fun j _ => congrFun n1 j) (fun j _ => congrFun (hM 11 (by decide) (by decide) (by decide) (by decide) (by decide)) j) ⟨Nat.le_refl _, by omega⟩ (fun _ _ => ⟨rfl, rfl, rfl⟩) ((hM0 1 (by decide)).trans u1) (by rw [n1]; exact hT0) (u3.le zLe.rf (fun j _ => congrFun n1 j)) hBO hBD
/-- the same bodies, seen in other tables -/
theorem BO.sm (h : BO b0 n0 (g, f, M, t, y, n) R) (h1 : N 1 = M 1) (h2 : ∀ j, j < 5 → N 2 j = M 2 j) : BO b0 n0 (g, f, N, t, y, n) R :=
  h.mv (Z := fun _ => False) (np := 0) ⟨⟨zLe.rf, ZZ.non n0 _, fun _ _ _ _ => ⟨rfl, fun _ => rfl, fun _ _ => rfl⟩⟩, fun k hk => absurd hk (by omega), Nat.le_refl _, fun j _ => congrFun h1 j, fun _ _ => ⟨rfl, rfl, rfl⟩⟩ h2 rfl (fun _ _ => rfl)
theorem BOD.sm (h : BOD b0 n0 g f M t R) (h1 : N 1 = M 1) (h11 : N 11 = M 11) (h2 : ∀ j, j < 5 → N 2 j = M 2 j) : BOD b0 n0 g f N t R := by
  refine ⟨fun a ha => ?_, fun p hp a ha => ?_⟩
  · obtain ⟨r0, a1, a2, a3, a4, a5⟩ := h.1 a ha
    exact ⟨r0, (h2 0 (by omega)).trans a1, a2, a3, a4.of h1 h11, a5.of h1⟩
  · obtain ⟨r0, a1, a2, a3, a4⟩ := h.2 p hp a ha
    exact ⟨r0, (h2 (1 + p) (by omega)).trans a1, a2, a3, a4.of h1 h11⟩
/-- wipe -/
theorem WR.wipe (h : WR b0 n0 c k (g, R, f, C) M t y n) (hk : 120 * k ≤ 64800) : C 0 1 = M 0 8 ∧ WR b0 n0 c (k + 1) (g, R, f, zup C 0 1 0) (zup M 0 8 0) t y n := by
  have h' := h
  obtain ⟨-, ⟨⟨len, tx, v1, v2⟩, -⟩, -, ⟨q1, -⟩, -, hbd⟩ := h
  have v2 : C 0 1 = nI len := v2
  have n1 : ∀ r, r ≠ 0 → zup M 0 8 0 r = M r := fun r hr => zup_r hr
  refine ⟨v2.trans v1.2.1.symm, h'.sm hk ⟨0, tx, ⟨Nat.zero_le _, zup_at _ _ _ _, fun i hi => absurd hi (Nat.not_lt_zero i)⟩, zup_at _ _ _ _⟩ (fun r hr => zup_r (by omega)) (fun _ _ => rfl) (fun r a _ _ _ _ => n1 r a) (fun j hj => zup_ne _ _ _ _ (Or.inr hj)) (fun j _ => congrFun (n1 2 (by decide)) j) (q1.base.2.1.sm (n1 1 (by decide)) (fun j _ => congrFun (n1 2 (by decide)) j)) (hbd.sm (n1 1 (by decide)) (n1 11 (by decide)) (fun j _ => congrFun (n1 2 (by decide)) j))⟩
/-- write -/
theorem WR.write (h : WR b0 n0 c k (g, R, f, C) M t y n) (hk : 120 * k ≤ 64800) (x : Int32) : iv 121 (C 0 1) ∧ (bwrite C x).1 = (pwrite M x).1 ∧ WR b0 n0 c (k + 1) (g, R, f, (bwrite C x).2) (pwrite M x).2 t y n := by
  have h' := h
  obtain ⟨-, ⟨⟨len, tx, v1, v2⟩, -⟩, -, ⟨q1, -⟩, -, hbd⟩ := h
  have v2 : C 0 1 = nI len := v2
  have hl := v1.1
  have m8 : M 0 8 = nI len := v1.2.1
  have hsame : WR b0 n0 c (k + 1) (g, R, f, C) M t y n := h'.sm hk ⟨len, tx, v1, v2⟩ (fun _ _ => rfl) (fun _ _ => rfl) (fun _ _ _ _ _ _ => rfl) (fun _ _ => rfl) (fun _ _ => rfl) q1.base.2.1 hbd
  refine ⟨by rw [v2]; exact iv_nI (by omega) (by decide), ?_⟩
  by_cases q : x < 32 ∨ 126 < x
  · rw [bwrite_b q, show pwrite M x = (-1, M) from if_pos q]
    exact ⟨rfl, hsame⟩
  · by_cases q2 : len < 120
    · have e1 : C 0 1 < 120 := by rw [v2]; exact nI_lt (b := 120) q2 (by decide)
      have e2 : ¬ M 0 8 = 120 := by rw [m8]; exact fun z => absurd ((nI_eq (b := 120) (by omega) (by decide)).mp z) (by omega)
      have e3 : pwrite M x = (M 0 8 + 1, zup (zup M 6 (tn (M 0 8)) x) 0 8 (M 0 8 + 1)) := (if_neg q).trans (if_neg e2)
      rw [bwrite_w q e1, e3, v2, m8, tn_nI (by omega), show nI len + 1 = nI (len + 1) from ixA (a := len) (b := 1) rfl (ixC 1)]
      obtain ⟨xx, hxx⟩ : ∃ xx, x = nI xx ∧ 32 ≤ xx ∧ xx ≤ 126 := by
        have h1 := Int32.not_lt.mp (fun z => q (Or.inl z))
        obtain ⟨i, i1, i2⟩ := nI_of (x := x) (fun z => by
          rw [Int32.lt_iff_toInt_lt] at z
          rw [Int32.le_iff_toInt_le] at h1
          have e0 : (0 : Int32).toInt = 0 := by decide
          have e32 : (32 : Int32).toInt = 32 := by decide
          rw [e0] at z; rw [e32] at h1; omega)
        refine ⟨i, i2, ?_, ?_⟩
        · rcases Nat.lt_or_ge i 32 with z | z
          · exact absurd (Or.inl (by rw [i2]; exact nI_lt (b := 32) z (by decide))) q
          · exact z
        · rcases Nat.lt_or_ge 126 i with z | z
          · exact absurd (Or.inr (by rw [i2]; exact (nI_ltI (a := 126) (by decide) (by omega)).mpr z)) q
          · exact z
      obtain ⟨hx1, hx2, hx3⟩ := hxx
      have n1 : ∀ r, r ≠ 0 → r ≠ 6 → zup (zup M 6 len x) 0 8 (nI (len + 1)) r = M r := fun r a b => by rw [zup_r a, zup_r b]
      show nI (len + 1) = nI (len + 1) ∧ WR b0 n0 c (k + 1) (g, R, f, zup (zup C 1 len x) 0 1 (nI (len + 1))) (zup (zup M 6 len x) 0 8 (nI (len + 1))) t y n
      refine ⟨rfl, h'.sm hk ⟨len + 1, fun i => if i = len then xx else tx i, ⟨by omega, zup_at _ _ _ _, fun i hi => ?_⟩, zup_at _ _ _ _⟩ (fun r hr => by rw [zup_r (by omega), zup_r (by omega)]) (fun _ _ => rfl) (fun r a _ b _ _ => n1 r a b) (fun j hj => by rw [zup_ne _ _ _ _ (Or.inr hj), zup_r (by decide)]) (fun j _ => congrFun (n1 2 (by decide) (by decide)) j) (q1.base.2.1.sm (n1 1 (by decide) (by decide)) (fun j _ => congrFun (n1 2 (by decide) (by decide)) j)) (hbd.sm (n1 1 (by decide) (by decide)) (n1 11 (by decide) (by decide)) (fun j _ => congrFun (n1 2 (by decide) (by decide)) j))⟩
      show zup (zup C 1 len x) 0 1 (nI (len + 1)) 1 i = nI (if i = len then xx else tx i) ∧ zup (zup M 6 len x) 0 8 (nI (len + 1)) 6 i = nI (if i = len then xx else tx i) ∧ 32 ≤ (if i = len then xx else tx i) ∧ (if i = len then xx else tx i) ≤ 126
      rw [zup_r (show (1 : Nat) ≠ 0 by decide), zup_r (show (6 : Nat) ≠ 0 by decide)]
      by_cases z : i = len
      · subst z
        rw [zup_at, zup_at, if_pos rfl]
        exact ⟨hx1, hx1, hx2, hx3⟩
      · rw [zup_ne _ _ _ _ (Or.inr z), zup_ne _ _ _ _ (Or.inr z), if_neg z]
        exact v1.2.2 i (by omega)
    · obtain rfl : len = 120 := by omega
      have e1 : ¬ C 0 1 < 120 := by rw [v2]; decide
      have e2 : M 0 8 = 120 := m8
      have e3 : pwrite M x = (-3, M) := (if_neg q).trans (if_pos e2)
      rw [bwrite_f q e1, e3]
      exact ⟨rfl, hsame⟩
/-- undefine -/
theorem WR.undef (h : WR b0 n0 c k (g, R, f, C) M t y n) (hk : 120 * k ≤ 64800) (x : Int32) : (bundef R x).1 = (pundef M x).1 ∧ WR b0 n0 c (k + 1) (g, (bundef R x).2, f, C) (pundef M x).2 t y n := by
  have h' := h
  obtain ⟨-, ⟨⟨len, tx, v1, v2⟩, -⟩, ⟨⟨-, u2⟩, -⟩, ⟨q1, -⟩, -, hbd⟩ := h
  have u2 : t.1 ≤ 120 * k := u2
  have hBO := q1.base.2.1
  by_cases q : x < 0 ∨ 3 < x
  · have e2 : ¬ (¬ x < 0 ∧ x < 4) := fun z => by
      rcases q with q | q
      · exact z.1 q
      · have z2 := z.2
        rw [Int32.lt_iff_toInt_lt] at z2 q
        have e3 : (3 : Int32).toInt = 3 := by decide
        have e4 : (4 : Int32).toInt = 4 := by decide
        rw [e3] at q
        rw [e4] at z2
        omega
    rw [bundef_n e2, show pundef M x = (-1, M) from if_pos q]
    exact ⟨rfl, h'.sm hk ⟨len, tx, v1, v2⟩ (fun _ _ => rfl) (fun _ _ => rfl) (fun _ _ _ _ _ _ => rfl) (fun _ _ => rfl) (fun _ _ => rfl) hBO hbd⟩
  · obtain ⟨j, hj, rfl⟩ : ∃ j, j < 4 ∧ x = nI j := by
      obtain ⟨j, j1, j2⟩ := nI_of (fun z => q (Or.inl z))
      have hj : j < 4 := by
        rcases Nat.lt_or_ge j 4 with z | z
        · exact z
        · exact absurd (Or.inr (by rw [j2]; exact (nI_ltI (a := 3) (by decide) (by omega)).mpr (by omega))) q
      exact ⟨j, hj, j2⟩
    have hpx : ¬ nI j < 0 ∧ nI j < 4 := ⟨nI_pos (by omega), nI_lt (b := 4) hj (by decide)⟩
    have e1 : bundef R (nI j) = ((if R 18 j = none then 0 else 1), zup R 18 j none) := by
      unfold bundef
      rw [if_pos hpx, tn_nI (by omega)]
    have e2 : pundef M (nI j) = (if M 2 (1 + j) = -9 then 0 else 1, zup M 2 (1 + j) (-9)) := by
      unfold pundef
      rw [if_neg q, tn_nI (by omega)]
    rw [e1, e2]
    have n1 : ∀ r, r ≠ 2 → zup M 2 (1 + j) (-9) r = M r := fun r hr => zup_r hr
    have n2 : ∀ i, i ≠ 1 + j → zup M 2 (1 + j) (-9) 2 i = M 2 i := fun i hi => zup_ne _ _ _ _ (Or.inr hi)
    show (if R 18 j = none then (0 : Int32) else 1) = (if M 2 (1 + j) = -9 then 0 else 1) ∧ WR b0 n0 c (k + 1) (g, zup R 18 j none, f, C) (zup M 2 (1 + j) (-9)) t y n
    refine ⟨?_, h'.sm hk ⟨len, tx, v1.at rfl (congrFun (n1 0 (by decide)) 8) (n1 6 (by decide)), v2⟩ (fun _ _ => rfl) (fun r hr => zup_r hr) (fun r _ b _ _ _ => n1 r b) (fun j _ => congrFun (n1 0 (by decide)) j) (fun i hi => n2 i (by omega)) ⟨?_, fun p hp => ?_⟩ ⟨fun a ha => ?_, fun p hp a ha => ?_⟩⟩
    · show (if R 18 j = none then (0 : Int32) else 1) = if M 2 (1 + j) = -9 then 0 else 1
      rcases hBO.2 j hj with ⟨z1, z2⟩ | ⟨m, a, z1, z2, -, z4, -⟩
      · have z1 : M 2 (1 + j) = -9 := z1
        rw [if_pos z2, if_pos z1]
      · have z1 : m < t.1 := z1
        have z2 : M 2 (1 + j) = nI m := z2
        have z4 : R 18 j = some a := z4
        rw [if_neg (by rw [z4]; exact fun z => by cases z), if_neg (by rw [z2]; exact (iv_nI (N := 65000) (by omega) (by decide)).nn (by decide))]
    · show (zup M 2 (1 + j) (-9) 2 0 = -9 ∧ zup R 18 j none 17 0 = none) ∨ ∃ m a, m < t.1 ∧ zup M 2 (1 + j) (-9) 2 0 = nI m ∧ ¬ zup M 2 (1 + j) (-9) 1 (5 * m) = nI 16 ∧ zup R 18 j none 17 0 = some a ∧ n0 ≤ a ∧ zIn b0 g a 0 ∧ g.2.2.2 a 0 = some (t.2.1 m) ∧ (∀ v, ¬ t.2.2.1 m v) ∧ ¬ t.2.2.2 m
      rw [n2 0 (by omega), n1 1 (by decide), zup_r (show (17 : Nat) ≠ 18 by decide)]
      exact hBO.1
    · show (zup M 2 (1 + j) (-9) 2 (1 + p) = -9 ∧ zup R 18 j none 18 p = none) ∨ ∃ m a, m < t.1 ∧ zup M 2 (1 + j) (-9) 2 (1 + p) = nI m ∧ ¬ zup M 2 (1 + j) (-9) 1 (5 * m) = nI 16 ∧ zup R 18 j none 18 p = some a ∧ n0 ≤ a ∧ zIn b0 g a 0 ∧ g.2.2.2 a 0 = some (t.2.1 m) ∧ (∀ v, t.2.2.1 m v → v = 23) ∧ ¬ t.2.2.2 m
      by_cases z : p = j
      · subst z
        exact Or.inl ⟨zup_at _ _ _ _, zup_at _ _ _ _⟩
      · rw [n2 (1 + p) (by omega), n1 1 (by decide), zup_ne _ _ _ _ (Or.inr z)]
        exact hBO.2 p hp
    · rw [zup_r (show (17 : Nat) ≠ 18 by decide)] at ha
      obtain ⟨r1, a1, a2, a3, a4, a5⟩ := hbd.1 a ha
      exact ⟨r1, (n2 0 (by omega)).trans a1, a2, a3, a4.of (n1 1 (by decide)) (n1 11 (by decide)), a5.of (n1 1 (by decide))⟩
    · by_cases z : p = j
      · subst z
        rw [zup_at] at ha; cases ha
      · rw [zup_ne _ _ _ _ (Or.inr z)] at ha
        obtain ⟨r1, a1, a2, a3, a4⟩ := hbd.2 p hp a ha
        exact ⟨r1, (n2 (1 + p) (by omega)).trans a1, a2, a3, a4.of (n1 1 (by decide)) (n1 11 (by decide))⟩
end SMALL
