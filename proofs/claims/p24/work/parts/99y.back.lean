/-! back, in both. -/
section BACKC
variable {b0 n0 c k : Nat} {g : zG} {f M : zI} {t : zTs} {y : zGs} {n : zNs} {R : zRf} {C : zI}
theorem WR.back (hW : CW b0 g c) (hF : CF c R) (h : WR b0 n0 c k (g, R, f, C) M t y n) (hk : 120 * k ≤ 64800) (x : Int32) :
    (bback c g R f C x 0 = ((g, R, f, C), (pback M x).1) ∧ (pback M x).2 = M ∧ (∀ a, ¬ (x < 0 ∨ 1 < x) → ¬ R 26 (tn x) = some a)) ∨
    ∃ i a y' n', i < 2 ∧ x = nI i ∧ R 26 i = some a ∧ RA b0 g a ∧ c + 27 ≤ a ∧ (f (a + 2) 1 = nI n'.1 ∧ n'.1 ≤ 100 ∧ iv 1001 (f (a + 4) 1) ∧ iv 1001 (f (a + 4) 5) ∧ pback1 M (nI i) 2 21 = nI n'.2.2.2.2 ∧ n'.2.2.2.2 ≤ 39800) ∧
      (bback c g R f C x n'.1).2 = (pback M x).1 ∧ WR b0 n0 c (k + 1) (bback c g R f C x n'.1).1 (pback M x).2 t y' n' := by
  have h' := h
  obtain ⟨⟨⟨w1, w2, w3⟩, w4, w5⟩, ⟨⟨len, tx, v1, v2⟩, v3, v4⟩, ⟨⟨u1, u2⟩, u3⟩, ⟨q1, q2, q3⟩, ⟨⟨i1, i2⟩, i3, i4, i5⟩, hbd⟩ := h
  have v1 : TX len tx C M := v1
  have v2 : C 0 1 = nI len := v2
  have v3 : ∀ j, iv 7 (C 6 j) := v3
  have u2 : t.1 ≤ 120 * k := u2
  have w3 : n0 ≤ g.1 := w3
  have w2 : b0 ≤ g.1 := w2
  have w4 : EOs b0 g c := w4
  have w5 : RC n0 g := w5
  have i3 : M 0 4 = FB R := i3
  by_cases q : x < 0 ∨ 1 < x
  · refine Or.inl ⟨?_, by rw [show pback M x = (-1, M) from if_pos q], fun a z => absurd q z⟩
    rw [show pback M x = (-1, M) from if_pos q]
    refine bback_b (fun z => ?_)
    rcases q with q | q
    · exact z.1 q
    · have z2 := z.2
      rw [Int32.lt_iff_toInt_lt] at z2 q
      have e3 : (1 : Int32).toInt = 1 := by decide
      have e4 : (2 : Int32).toInt = 2 := by decide
      rw [e3] at q
      rw [e4] at z2
      omega
  obtain ⟨i, hi, rfl⟩ : ∃ i, i < 2 ∧ x = nI i := by
    obtain ⟨j, j1, j2⟩ := nI_of (fun z => q (Or.inl z))
    have hj : j < 2 := by
      rcases Nat.lt_or_ge j 2 with z | z
      · exact z
      · exact absurd (Or.inr (by rw [j2]; exact (nI_ltI (a := 1) (by decide) (by omega)).mpr (by omega))) q
    exact ⟨j, hj, j2⟩
  have hpx : ¬ nI i < 0 ∧ nI i < 2 := ⟨nI_pos (by omega), nI_lt (b := 2) hi (by decide)⟩
  have htn : tn (nI i) = i := tn_nI (by omega)
  have hbit := (FB_bit (R := R) hi).1
  have hIMG : IMG b0 n0 g f M t R (201 * k) i := by
    have z : i = 0 ∨ i = 1 := by omega
    rcases z with rfl | rfl
    · exact i1
    · exact i2
  have hIMB : IMB b0 n0 g f M t R i := by
    have z : i = 0 ∨ i = 1 := by omega
    rcases z with rfl | rfl
    · exact i4
    · exact i5
  rcases hIMG with z | ⟨a, z1, ra, ha, y', n', hRQ, hMN⟩
  · have hb0 : M 0 4 >>> (nI i &&& 31) &&& 1 = 0 := by rw [i3]; exact hbit.mpr z
    have ep : pback M (nI i) = (-2, M) := (if_neg q).trans (if_pos hb0)
    refine Or.inl ⟨?_, by rw [ep], fun a _ => by rw [htn, z]; exact fun w => by cases w⟩
    rw [ep]
    exact bback_n hpx (by rw [htn]; exact z)
  · have hb0 : ¬ M 0 4 >>> (nI i &&& 31) &&& 1 = 0 := by rw [i3]; exact fun w => by rw [hbit.mp w] at z1; cases z1
    have ep : pback M (nI i) = (pback2 M (nI i) 2 5, pback2 M (nI i)) := (if_neg q).trans (if_neg hb0)
    have hU : UC (201 * k) C := q1.2.2.1
    obtain ⟨b1, b2, b3, b4, b5⟩ := RQ.back hW hF w1 hi ra ha hRQ hMN hU q1.base.1.1
    have eb : bback c g R f C (nI i) n'.1 = ((bkG c g R a n'.1, bkR c g R a n'.1, bkF c g R f C a n'.1, bkC c g R f C a n'.1), bkC c g R f C a n'.1 17 2) := bback_s hpx (by rw [htn]; exact z1)
    refine Or.inr ⟨i, a, y', n', hi, rfl, z1, ra, by omega, b1, ?_, ?_⟩
    · rw [eb, ep]
      exact b2.base.2.2.1
    rw [eb, ep]
    obtain ⟨G, eG⟩ : ∃ G, G = bkG c g R a n'.1 := ⟨_, rfl⟩
    obtain ⟨F, eF⟩ : ∃ F, F = bkF c g R f C a n'.1 := ⟨_, rfl⟩
    have gs : G.1 = g.1 ∧ G.2.1 = g.2.1 ∧ G.2.2.1 = g.2.2.1 := by rw [eG]; exact ⟨rfl, rfl, rfl⟩
    have gout : ∀ y, ¬ (c ≤ y ∧ y < c + 27) → G.2.2.2 y = g.2.2.2 y := fun y hy => by
      rw [eG]
      show (cpyG (gv c g R) (c + 13) a n'.1).2.2.2 y = _
      rw [cpyG_o (by omega) (by omega) (by omega), gv_out hy]
    have hl : zLe g G := ⟨by omega, fun y _ => by rw [gs.2.1, gs.2.2]; exact ⟨rfl, rfl⟩⟩
    have r26 : bkR c g R a n'.1 26 = R 26 := bkR_o (by decide) (by decide) (by decide) (by decide)
    have r8 : bkR c g R a n'.1 8 = R 8 := bkR_o (by decide) (by decide) (by decide) (by decide)
    rw [← eG, ← eF] at b2 b5 ⊢
    obtain ⟨RR, eRR⟩ : ∃ RR, RR = bkR c g R a n'.1 := ⟨_, rfl⟩
    obtain ⟨CC, eCC⟩ : ∃ CC, CC = bkC c g R f C a n'.1 := ⟨_, rfl⟩
    have r17 : RR 17 0 = iR g a 17 0 := by
      rw [eRR, bkR_17 (by omega), if_pos (Or.inl rfl)]
      rfl
    have r18 : ∀ p, p < 4 → RR 18 p = iR g a 18 p := fun p hp => by
      rw [eRR]
      show (cpyG (gv c g R) (c + 13) a n'.1).2.2.2 (c + 13 + 1) p = g.2.2.2 (a + (18 - 17)) p
      rw [cpyG_1 (by omega), if_pos hp, gv_out (by omega)]
    rw [← eRR] at b2 b3 r26 r8 ⊢
    rw [← eCC] at b2 b3 b4 ⊢
    obtain ⟨N, eN⟩ : ∃ N, N = pback2 M (nI i) := ⟨_, rfl⟩
    have nr : ∀ r, r ≠ 2 → r ≠ 4 → N r = M r := fun r a b => by rw [eN]; exact pback_r a b
    have n2 : ∀ j, j < 8490 → N 2 j = iM M i 2 j := fun j hj => by rw [eN]; exact pback_2 hi hj
    rw [← eN] at b2 ⊢
    have hx : zLe g G ∧ ZZ n0 g (fun _ => False) ∧ ∀ y, n0 ≤ y → y < g.1 → ¬ False → G.2.2.2 y = g.2.2.2 y ∧ (g.2.1 y ≠ 1 → F y = f y) ∧ ∀ k, k < 8 → F y k = f y k := ⟨hl, ZZ.non n0 _, fun y hy _ _ => ⟨(b5 y (by omega)).2, fun _ => (b5 y (by omega)).1, fun k _ => by rw [(b5 y (by omega)).1]⟩⟩
    have e1 : N 1 = M 1 := nr 1 (by decide) (by decide)
    have e11 : N 11 = M 11 := nr 11 (by decide) (by decide)
    have e0 : N 0 = M 0 := nr 0 (by decide) (by decide)
    have hT : TR b0 n0 G F (N 1) t := b2.base.1.1
    have hb : 201 * k ≤ 201 * (k + 1) := by omega
    have hra : ∀ i a, R 26 i = some a → n0 ≤ a → ∀ j, j < 9 → G.2.2.2 (a + j) = g.2.2.2 (a + j) ∧ F (a + j) = f (a + j) := fun i a _ ha j _ => ⟨(b5 _ (by omega)).2, (b5 _ (by omega)).1⟩
    have hge : ∀ i a, IMG b0 n0 g f M t R (201 * k) i → R 26 i = some a → n0 ≤ a := fun i a h ha => by
      rcases h with z | ⟨a', z1, -, z3, -⟩
      · rw [z] at ha; cases ha
      · obtain rfl : a' = a := Option.some.inj (z1.symm.trans ha)
        exact z3
    have him : ∀ i, i < 2 → IMG b0 n0 g f M t R (201 * k) i → IMG b0 n0 G F N t RR (201 * (k + 1)) i := fun i _ hi => hi.mv hb hx ⟨Nat.le_refl _, fun j _ => congrFun e1 j, fun _ _ => ⟨rfl, rfl, rfl⟩⟩ hT (fun k _ => congrFun (nr 3 (by decide) (by decide)) _) (fun k _ => congrFun (nr 5 (by decide) (by decide)) _) (fun a ha _ => hra i a ha (hge i a hi ha)) (congrFun r26 i)
    have himb : ∀ i, i < 2 → IMG b0 n0 g f M t R (201 * k) i → IMB b0 n0 g f M t R i → IMB b0 n0 G F N t RR i := fun i _ hi hb a ha => by
      rw [r26] at ha
      have hrr := hra i a ha (hge i a hi ha)
      have eI : ∀ j, 17 ≤ j → j < 26 → iR G a j = iR g a j := fun j h1 h2 => (hrr (j - 17) (by omega)).1
      refine ⟨by rw [r26]; exact (hb a ha).1, ?_⟩
      refine (hb a ha).2.mv hx (fun _ _ _ _ _ z => z) (by omega) ?_ ?_ (Nat.le_refl _) (fun _ _ => ⟨rfl, rfl, rfl⟩) ?_ (congrFun (eI 17 (by omega) (by omega)) 0) (fun p _ => congrFun (eI 18 (by omega) (by omega)) p)
      · exact fun j _ => congrFun e1 j
      · exact fun j _ => congrFun e11 j
      · exact fun j _ => congrFun (nr 3 (by decide) (by decide)) _
    have hBD : BOD b0 n0 G F N t RR := (hIMB a z1).2.mv hx (fun _ _ _ _ _ z => z) (by omega) (fun j _ => congrFun e1 j) (fun j _ => congrFun e11 j) (Nat.le_refl _) (fun _ _ => ⟨rfl, rfl, rfl⟩) (fun j hj => n2 j (by omega)) r17 r18
    refine ⟨⟨⟨w1, by show b0 ≤ G.1; omega, by show n0 ≤ G.1; omega⟩, fun a' ha' b hbb => ?_, fun x x0 x1 x7 => ?_⟩, ⟨⟨len, tx, v1.at (b4 1 (by omega)) (congrFun e0 8) (nr 6 (by decide) (by decide)), ?_⟩, fun j => ?_, ?_⟩, ⟨⟨(congrFun e0 1).trans u1, by omega⟩, u3.le hl (fun j _ => congrFun e1 j)⟩, ⟨b2.mono hb, b3, ?_⟩, ⟨⟨him 0 (by omega) i1, him 1 (by omega) i2⟩, ?_, himb 0 (by omega) i1 i4, himb 1 (by omega) i2 i5⟩, hBD⟩
    · have h1 : a' < G.1 := ha'.2.1
      have h2 : G.2.1 a' = 1 := ha'.2.2
      have h3 : zIn b0 g a' 1 := ⟨ha'.1, by omega, by rw [← gs.2.1]; exact h2⟩
      have hbb : G.2.2.2 a' 5 = some b ∨ G.2.2.2 a' 6 = some b := hbb
      rw [gout a' (hW.out h3 (by decide))] at hbb
      obtain ⟨y1, y2, y3⟩ := w4 a' h3 b hbb
      exact ⟨by show G.2.2.1 b = 7; rw [gs.2.2]; exact y1, y2, by show b < G.1; omega⟩
    · have x1 : x < G.1 := x1
      have x7 : G.2.1 x = 7 := x7
      show G.2.2.2 x 1 = some (x - 1)
      rw [(b5 x (by omega)).2]
      exact w5 x x0 (by omega) (by rw [← gs.2.1]; exact x7)
    · show CC 0 1 = nI len
      rw [b4 0 (by omega)]; exact v2
    · show iv 7 (CC 6 j)
      rw [b4 6 (by omega)]; exact v3 j
    · show RR 8 0 = none
      rw [r8]; exact v4
    · exact (GL.of q3 (congrFun (b4 13 (by omega)) 4) (b4 16 (by omega)) (congrFun e0 27) (nr 19 (by decide) (by decide))).mono hb
    · show N 0 4 = FB RR
      unfold FB
      rw [r26, congrFun e0 4]; exact i3
end BACKC
