/-! Images: a run moves, is kept, comes back. -/
section IMGS
variable {b0 n0 c b b' : Nat} {Z : Nat → Prop} {g G : zG} {f F M N : zI} {t t' : zTs} {y : zGs} {n : zNs} {R R' : zRf} {C C' : zI}
theorem RQ.mv (h : RQ b0 n0 (g, f, M, t, y, n) R C b) (hE : EXh n0 Z g f M t G F N t' n.2.2.2.2) (hT : TR b0 n0 G F (N 1) t') (hR : ∀ p, p < n.1 → R' 20 p = R 20 p) (hC : CCc n M N C C') (hF : CCf M N C C' R R') (hU : UC b' C') : RQ b0 n0 (G, F, N, t', y, n) R' C' b' := by
  refine ⟨?_, dm_of h.2.1 hC.1.1 hC.1.2.1, hU, ?_⟩
  · rcases h.1 with h | ⟨h1, h2, ⟨h3, h4⟩, ⟨h5, h6⟩, h7, h8⟩
    · exact Or.inl (h.mv hE hT hR hC hF)
    · exact Or.inr ⟨h1.mv hE hT hR hC, h2.mv hE (fun j hj => hF.1 j (by omega)) hF.2.2.2.1 hF.2.2.2.2, ⟨hF.2.1.1.trans h3, (hF.1 5 (by omega)).trans h4⟩, ⟨hF.2.1.2.1.trans h5, (hF.1 6 (by omega)).trans h6⟩, h7, hF.2.2.2.1.trans h8⟩
  · have h := h.2.2.2
    rcases h with h | h
    · exact Or.inl ((hF.1 5 (by omega)).trans h)
    · exact Or.inr ((hF.1 15 (by omega)).trans h)
theorem MN.mv (h : MN R C) (h0 : R' 17 0 = R 17 0) (h2 : C' 17 2 = C 17 2) : MN R' C' := fun z => h2.trans (h (h0.symm.trans z))
theorem IMG.mv {i : Nat} (h : IMG b0 n0 g f M t R b i) (hb : b ≤ b') (h1 : zLe g G ∧ ZZ n0 g Z ∧ ∀ y, n0 ≤ y → y < g.1 → ¬ Z y → G.2.2.2 y = g.2.2.2 y ∧ (g.2.1 y ≠ 1 → F y = f y) ∧ ∀ k, k < 8 → F y k = f y k)
    (h3 : t.1 ≤ t'.1 ∧ (∀ k, k < 5 * t.1 → N 1 k = M 1 k) ∧ ∀ n, n < t.1 → t'.2.1 n = t.2.1 n ∧ t'.2.2.1 n = t.2.2.1 n ∧ t'.2.2.2 n = t.2.2.2 n) (hT : TR b0 n0 G F (N 1) t')
    (hM3 : ∀ k, k < 8490 → N 3 (8490 * i + k) = M 3 (8490 * i + k)) (hM5 : ∀ k, k < 280000 → N 5 (280000 * i + k) = M 5 (280000 * i + k)) (hr : ∀ a, R 26 i = some a → RA b0 g a → ∀ j, j < 9 → G.2.2.2 (a + j) = g.2.2.2 (a + j) ∧ F (a + j) = f (a + j)) (hR : R' 26 i = R 26 i) : IMG b0 n0 G F N t' R' b' i := by
  rcases h with h | ⟨a, h2, ha, h4, y, n, h5, h6⟩
  · exact Or.inl (hR.trans h)
  · have hrr := hr a h2 ha
    have hnp : n.2.2.2.2 ≤ 39800 := h5.base.1.2.2.2.2.2.2.2.2
    have w2 : ∀ k, k < 8490 → iM N i 2 k = iM M i 2 k := fun k hk => hM3 k hk
    have eR : ∀ j, 17 ≤ j → j < 26 → iR G a j = iR g a j := fun j h1 h2 => (hrr (j - 17) (by omega)).1
    have eC : ∀ j, 17 ≤ j → j < 26 → iC F a j = iC f a j := fun j h1 h2 => (hrr (j - 17) (by omega)).2
    refine Or.inr ⟨a, hR.trans h2, ?_, h4, y, n, ?_, h6.mv (congrFun (eR 17 (by omega) (by omega)) 0) (congrFun (eC 17 (by omega) (by omega)) 2)⟩
    · obtain ⟨⟨a1, a2, a3, a4, a5, a6, a7, a8, a9⟩, ⟨l1, l2, l3, l4, l5, l6⟩, r1, r2, r3, r4, r5, r6, r7, r8⟩ := ha
      have q0 := (hrr 0 (by decide)).1
      have q2 := (hrr 2 (by decide)).1
      have q4 := (hrr 4 (by decide)).1
      rw [Nat.add_zero] at q0
      have l : ∀ x k, zIn b0 g x k → G.2.2.1 x = g.2.2.1 x := fun x k hx => (h1.1.2 x hx.2.1).2
      refine ⟨⟨a1.le h1.1, a2.le h1.1, a3.le h1.1, a4.le h1.1, a5.le h1.1, a6.le h1.1, a7.le h1.1, a8.le h1.1, a9.le h1.1⟩, ⟨(l _ _ a2).trans l1, (l _ _ a4).trans l2, (l _ _ a6).trans l3, (l _ _ a7).trans l4, (l _ _ a8).trans l5, (l _ _ a9).trans l6⟩, ?_⟩
      rw [q0, q2, q4]
      exact ⟨r1, r2, r3, r4, r5, r6, r7, r8⟩
    · refine h5.mv (Z := Z) ⟨h1, fun k hk => hM5 k (by omega), h3⟩ hT (fun p _ => congrFun (eR 20 (by omega) (by omega)) p) ⟨⟨congrFun (eC 19 (by omega) (by omega)) 1, congrFun (eC 19 (by omega) (by omega)) 2, fun k _ _ _ => congrFun (eC 21 (by omega) (by omega)) k, congrFun (eC 17 (by omega) (by omega)) 11⟩, fun r _ => congrFun (eC 22 (by omega) (by omega)) r, fun r _ => congrFun (eC 23 (by omega) (by omega)) r, fun r _ => congrFun (eC 24 (by omega) (by omega)) r, fun r _ => congrFun (eC 25 (by omega) (by omega)) r, fun j _ hj => w2 j hj⟩
        ⟨fun j hj => w2 j (by omega), ⟨congrFun (eC 17 (by omega) (by omega)) 2, congrFun (eC 17 (by omega) (by omega)) 3, congrFun (eC 17 (by omega) (by omega)) 6, congrFun (eC 17 (by omega) (by omega)) 7⟩, ⟨congrFun (eR 17 (by omega) (by omega)) 4, congrFun (eR 17 (by omega) (by omega)) 5⟩, congrFun (eR 17 (by omega) (by omega)) 0, fun p _ => congrFun (eR 18 (by omega) (by omega)) p⟩ (fun r => ?_)
      rw [eC 22 (by omega) (by omega)]
      obtain ⟨u, u1, u2⟩ := h5.2.2.1 r
      exact ⟨u, by omega, u2⟩
theorem pback_2 {i : Nat} (hi : i < 2) {k : Nat} (hk : k < 8490) : pback2 M (nI i) 2 k = iM M i 2 k := by
  unfold pback2 pback1
  rw [pcp_r (by decide), tn_nI (by omega)]
  show (if 2 = 2 ∧ 0 ≤ k ∧ k < 0 + 8490 then M 3 (8490 * i + (k - 0)) else _) = _
  rw [if_pos ⟨rfl, Nat.zero_le _, by omega⟩]
  rfl
theorem pback_r {x : Int32} {r : Nat} (h2 : r ≠ 2) (h4 : r ≠ 4) : pback2 M x r = M r := by
  funext k
  unfold pback2 pback1
  rw [pcp_r h4, pcp_r h2]
/-- an image comes back -/
theorem RQ.back {i a : Nat} (hW : CW b0 g c) (hF : CF c R) (hc : c + 27 ≤ n0) (hi : i < 2) (hra : RA b0 g a) (ha : n0 ≤ a) (h : RQ b0 n0 (g, f, iM M i, t, y, n) (iR g a) (iC f a) b) (hm : MN (iR g a) (iC f a)) (hU : UC b C) (hT : TR b0 n0 g f (M 1) t) :
    (f (a + 2) 1 = nI n.1 ∧ n.1 ≤ 100 ∧ iv 1001 (f (a + 4) 1) ∧ iv 1001 (f (a + 4) 5) ∧ pback1 M (nI i) 2 21 = nI n.2.2.2.2 ∧ n.2.2.2.2 ≤ 39800) ∧
    RQ b0 n0 (bkG c g R a n.1, bkF c g R f C a n.1, pback2 M (nI i), t, y, n) (bkR c g R a n.1) (bkC c g R f C a n.1) b ∧ MN (bkR c g R a n.1) (bkC c g R f C a n.1) ∧
    (∀ j, j < 17 ∨ j = 26 → bkC c g R f C a n.1 j = C j) ∧ (∀ y, c + 27 ≤ y → bkF c g R f C a n.1 y = f y ∧ (bkG c g R a n.1).2.2.2 y = g.2.2.2 y) := by
  have hCO := h.base.1
  have hnp : n.2.2.2.2 ≤ 39800 := hCO.2.2.2.2.2.2.2.2
  have hbd : n.2.1 ≤ 1100 ∧ n.2.2.1 ≤ 1000 ∧ n.2.2.2.1 ≤ 1000 ∧ n.2.2.2.2 ≤ 39800 := hCO.2.2.2.2.2
  have e1 : f (a + 2) 1 = nI n.1 := hCO.2.2.2.2.1.1.1
  have e41 : f (a + 4) 1 = nI n.2.2.1 := hCO.2.2.2.2.1.2.2.1.2
  have e45 : f (a + 4) 5 = nI n.2.2.2.1 := hCO.2.2.2.2.1.2.2.2.1.2
  have e21 : iM M i 2 21 = nI n.2.2.2.2 := hCO.2.2.2.2.1.2.2.2.2.1
  have ep21 : pback1 M (nI i) 2 21 = nI n.2.2.2.2 := by
    have := pback_2 (M := M) hi (k := 21) (by decide)
    unfold pback2 at this
    rw [pcp_r (by decide)] at this
    exact this.trans e21
  have hd : n.1 ≤ 100 := hCO.2.2.2.1.1
  have hab : c + 13 + 9 ≤ a ∨ a + 9 ≤ c + 13 := by omega
  have hN := RA.now hW hF
  have hI : RA b0 (gv c g R) a := RA.img hra (by omega)
  have hp := (hN.cpy (n := n.1) hab).pk
  have hI' : RA b0 (bkG c g R a n.1) a := hI.g rfl rfl rfl (fun k _ _ _ => congrFun (cpyG_o (by omega) (by omega) (by omega)) k) (cpyG_o (by omega) (by omega) (by omega)) (cpyG_o (by omega) (by omega) (by omega))
  have hq := hI'.pk
  have oF : ∀ y, c + 27 ≤ y → bkF c g R f C a n.1 y = f y := fun y hy => (cpyF_o hp (by omega)).trans (cv_out (by omega))
  have oG : ∀ y, c + 27 ≤ y → (bkG c g R a n.1).2.2.2 y = g.2.2.2 y := fun y hy => (cpyG_o (by omega) (by omega) (by omega)).trans (gv_out (by omega))
  have oC : ∀ j, j < 17 ∨ j = 26 → bkC c g R f C a n.1 j = C j := fun j hj => (cpyF_o hp (by have := bP_o hj; omega)).trans (cv_at (by omega))
  have va : ∀ j, cv c f C (a + j) = f (a + j) := fun j => cv_out (by omega)
  have va0 : cv c f C a = f a := cv_out (by omega)
  have vc : ∀ i, i < 27 → cv c f C (c + i) = C (bQ i) := fun i hi => cv_ai hi
  obtain ⟨z2, z3, z6, z7, z11⟩ := cp_0 (f := cv c f C) hp hq hab
  obtain ⟨y1, y2⟩ := cp_2 (f := cv c f C) hp hq hab
  obtain ⟨x1, x2, x3, x5, x6⟩ := cp_4 (f := cv c f C) hp hq hab
  obtain ⟨w5, w6⟩ := cp_5 (f := cv c f C) hp hq hab
  obtain ⟨w7, w8⟩ := cp_7 (f := cv c f C) hp hq hab
  rw [va0] at z2 z3 z6 z7 z11
  rw [va] at y1 y2 x1 x2 x3 x5 x6
  rw [va, va] at w5 w6
  rw [va] at w7 w8
  rw [e41, tn_nI (by omega)] at w5
  rw [e45, tn_nI (by omega)] at w6
  have k17 : ∀ k, k = 0 ∨ k = 4 ∨ k = 5 → bkR c g R a n.1 17 k = iR g a 17 k := fun k hk => (bkR_17 (by omega)).trans (if_pos hk)
  have k18 : ∀ p, p < 4 → bkR c g R a n.1 18 p = iR g a 18 p := fun p hp' => by
    show (cpyG (gv c g R) (c + 13) a n.1).2.2.2 (c + 13 + 1) p = _
    rw [cpyG_1 hab, if_pos hp']
    exact congrFun (gv_out (by omega)) p
  have k20 : ∀ p, p < n.1 → bkR c g R a n.1 20 p = iR g a 20 p := fun p hp' => by
    show (cpyG (gv c g R) (c + 13) a n.1).2.2.2 (c + 13 + 3) p = _
    rw [cpyG_3 hab, if_pos hp']
    exact congrFun (gv_out (by omega)) p
  have kM : ∀ k, k < 8490 → pback2 M (nI i) 2 k = iM M i 2 k := fun k hk => pback_2 hi hk
  have k1 : pback2 M (nI i) 1 = M 1 := pback_r (by decide) (by decide)
  have hoT : zLe g (bkG c g R a n.1) ∧ ZZ n0 g (fun _ => False) ∧ ∀ y, n0 ≤ y → y < g.1 → ¬ (fun _ => False) y → (bkG c g R a n.1).2.2.2 y = g.2.2.2 y ∧ (g.2.1 y ≠ 1 → bkF c g R f C a n.1 y = f y) ∧ ∀ k, k < 8 → bkF c g R f C a n.1 y k = f y k :=
    ⟨⟨Nat.le_refl _, fun _ _ => ⟨rfl, rfl⟩⟩, ZZ.non _ _, fun y h0 _ _ => ⟨oG y (by omega), fun _ => oF y (by omega), fun k _ => congrFun (oF y (by omega)) k⟩⟩
  refine ⟨⟨e1, hd, by rw [e41]; exact iv_nI (by omega) (by decide), by rw [e45]; exact iv_nI (by omega) (by decide), ep21, hnp⟩, h.mv (Z := fun _ => False) ⟨hoT, fun k hk => ?_, Nat.le_refl _, fun k _ => congrFun k1 k, fun _ _ => ⟨rfl, rfl, rfl⟩⟩ ?_ k20
    ⟨⟨y1, y2, fun k h1 h6 h4 => ?_, z11⟩, fun r hr => ?_, fun q hq' => ?_, fun k hk => ?_, fun k hk => ?_, fun j _ hj => kM j hj⟩ ⟨fun j hj => kM j (by omega), ⟨z2, z3, z6, z7⟩, ⟨k17 4 (by omega), k17 5 (by omega)⟩, k17 0 (by omega), k18⟩ (fun r => ?_), hm.mv (k17 0 (by omega)) z2, oC, fun y hy => ⟨oF y hy, oG y hy⟩⟩
  · show pback2 M (nI i) 4 k = M 5 (280000 * i + k)
    unfold pback2
    rw [ep21, tn_nI (by omega), tn_nI (by omega)]
    show (if 4 = 4 ∧ 0 ≤ k ∧ k < 0 + 7 * n.2.2.2.2 then pback1 M (nI i) 5 (280000 * i + (k - 0)) else _) = _
    rw [if_pos ⟨rfl, Nat.zero_le _, by omega⟩]
    unfold pback1
    rw [pcp_r (by decide)]
    rfl
  · rw [k1]; exact hT.mv hoT
  · have hk : k = 1 ∨ k = 2 ∨ k = 3 ∨ k = 5 ∨ k = 6 := by omega
    rcases hk with rfl | rfl | rfl | rfl | rfl
    · exact x1
    · exact x2
    · exact x3
    · exact x5
    · exact x6
  · exact (congrFun w5 r).trans (cp_lt hr)
  · exact (congrFun w6 q).trans (cp_lt hq')
  · exact (congrFun w7 k).trans (cp_lt hk)
  · exact (congrFun w8 k).trans (cp_lt hk)
  · obtain ⟨u, u1, u2⟩ := cp_le (n := n.2.2.1) (j := r) (b := b) (f := f (a + 5)) (g := cv c f C (c + 18)) (h.2.2.1 r) (by rw [cv_ai (by decide)]; exact hU r)
    exact ⟨u, u1, (congrFun w5 r).trans u2⟩
/-- what a resumption captured lies ahead of it -/
def RC (n0 : Nat) (g : zG) : Prop := ∀ x, n0 ≤ x → x < g.1 → g.2.1 x = 7 → g.2.2.2 x 1 = some (x - 1)
/-- the cells that a run's image consists of -/
def Zi (a : Nat) (y : Nat) : Prop := a ≤ y ∧ y < a + 9
theorem Zi.zz {a : Nat} (h : RA b0 g a) (hRC : RC n0 g) : ZZ n0 g (Zi a) := by
  obtain ⟨⟨a1, a2, a3, a4, a5, a6, a7, a8, a9⟩, -⟩ := h
  refine ⟨fun y hy _ => ?_, fun x x0 x1 hx a' ha' ht hz => ?_⟩
  · obtain ⟨h1, h2⟩ := hy
    have hs : y = a ∨ y = a + 1 ∨ y = a + 2 ∨ y = a + 3 ∨ y = a + 4 ∨ y = a + 5 ∨ y = a + 6 ∨ y = a + 7 ∨ y = a + 8 := by omega
    rcases hs with rfl | rfl | rfl | rfl | rfl | rfl | rfl | rfl | rfl
    · exact Or.inl a1.2.2
    · exact Or.inr (Or.inl a2.2.2)
    · exact Or.inr (Or.inr (Or.inl a3.2.2))
    · exact Or.inr (Or.inr (Or.inr (Or.inl a4.2.2)))
    · exact Or.inr (Or.inr (Or.inr (Or.inr (Or.inl a5.2.2))))
    · refine Or.inr (Or.inr (Or.inr (Or.inr (Or.inr ⟨a6.2.2, by omega, ?_⟩))))
      rw [show a + 5 - 1 = a + 4 by omega, a5.2.2]; decide
    · refine Or.inr (Or.inr (Or.inr (Or.inr (Or.inr ⟨a7.2.2, by omega, ?_⟩))))
      rw [show a + 6 - 1 = a + 5 by omega, a6.2.2]; decide
    · refine Or.inr (Or.inr (Or.inr (Or.inr (Or.inr ⟨a8.2.2, by omega, ?_⟩))))
      rw [show a + 7 - 1 = a + 6 by omega, a7.2.2]; decide
    · refine Or.inr (Or.inr (Or.inr (Or.inr (Or.inr ⟨a9.2.2, by omega, ?_⟩))))
      rw [show a + 8 - 1 = a + 7 by omega, a8.2.2]; decide
  · obtain rfl : x - 1 = a' := Option.some.inj ((hRC x x0 x1 hx).symm.trans ha')
    obtain ⟨h1, h2⟩ := hz
    have hs : x - 1 = a ∨ x - 1 = a + 1 ∨ x - 1 = a + 2 ∨ x - 1 = a + 3 ∨ x - 1 = a + 4 ∨ x - 1 = a + 5 ∨ x - 1 = a + 6 ∨ x - 1 = a + 7 ∨ x - 1 = a + 8 := by omega
    rcases hs with e | e | e | e | e | e | e | e | e <;> rw [e] at ht
    · exact absurd (a1.2.2.symm.trans ht) (by decide)
    · exact absurd (a2.2.2.symm.trans ht) (by decide)
    · exact absurd (a3.2.2.symm.trans ht) (by decide)
    · by_cases q : x = 0
      · subst q
        have e : a + 3 = 0 := by omega
        omega
      · rw [show x = a + 4 by omega, a5.2.2] at hx
        exact absurd hx (by decide)
    · exact absurd (a5.2.2.symm.trans ht) (by decide)
    · exact absurd (a6.2.2.symm.trans ht) (by decide)
    · exact absurd (a7.2.2.symm.trans ht) (by decide)
    · exact absurd (a8.2.2.symm.trans ht) (by decide)
    · exact absurd (a9.2.2.symm.trans ht) (by decide)
theorem pkeep_in {i : Nat} (hi : i < 2) : pkeep M (nI i) = (M 2 5, zup (pkeep2 M (nI i)) 0 4 (M 0 4 ||| 1 <<< (nI i &&& 31))) := by
  refine if_neg ?_
  rintro (h | h)
  · exact nI_pos (by omega) h
  · exact nI_nlt (a := 1) (b := i) (by omega) (by omega) h
/-- a run is kept -/
theorem RQ.keep {i a : Nat} (hW : CW b0 g c) (hF : CF c R) (hc : c + 27 ≤ n0) (hi : i < 2) (hra : RA b0 g a) (ha : n0 ≤ a) (hRC : RC n0 g) (h : RQ b0 n0 (g, f, M, t, y, n) R C b) (hm : MN R C) (hU : UC b (iC f a)) (hT : TR b0 n0 g f (M 1) t) :
    (n.1 ≤ 100 ∧ C 19 1 = nI n.1 ∧ iv 1001 (C 21 1) ∧ iv 1001 (C 21 5) ∧ M 2 21 = nI n.2.2.2.2 ∧ n.2.2.2.2 ≤ 39800) ∧
    RQ b0 n0 (kpG c g R a n.1, kpF c g R f C a n.1, (pkeep M (nI i)).2, t, y, n) R C b ∧
    RQ b0 n0 (kpG c g R a n.1, kpF c g R f C a n.1, iM (pkeep M (nI i)).2 i, t, y, n) (iR (kpG c g R a n.1) a) (iC (kpF c g R f C a n.1) a) b ∧ MN (iR (kpG c g R a n.1) a) (iC (kpF c g R f C a n.1) a) ∧ RA b0 (kpG c g R a n.1) a ∧
    (∀ y, c + 27 ≤ y → ¬ Zi a y → kpF c g R f C a n.1 y = f y ∧ (kpG c g R a n.1).2.2.2 y = g.2.2.2 y) := by
  have hCO := h.base.1
  have hbd : n.2.1 ≤ 1100 ∧ n.2.2.1 ≤ 1000 ∧ n.2.2.2.1 ≤ 1000 ∧ n.2.2.2.2 ≤ 39800 := hCO.2.2.2.2.2
  have e1 : C 19 1 = nI n.1 := hCO.2.2.2.2.1.1.1
  have e41 : C 21 1 = nI n.2.2.1 := hCO.2.2.2.2.1.2.2.1.2
  have e45 : C 21 5 = nI n.2.2.2.1 := hCO.2.2.2.2.1.2.2.2.1.2
  have e21 : M 2 21 = nI n.2.2.2.2 := hCO.2.2.2.2.1.2.2.2.2.1
  have hd : n.1 ≤ 100 := hCO.2.2.2.1.1
  have hab : a + 9 ≤ c + 13 ∨ c + 13 + 9 ≤ a := by omega
  have hN := RA.now hW hF
  have hI : RA b0 (gv c g R) a := RA.img hra (by omega)
  have hp := (hI.cpy (n := n.1) hab).pk
  have hN' : RA b0 (kpG c g R a n.1) (c + 13) := hN.g rfl rfl rfl (fun k _ _ _ => congrFun (cpyG_o (by omega) (by omega) (by omega)) k) (cpyG_o (by omega) (by omega) (by omega)) (cpyG_o (by omega) (by omega) (by omega))
  have hq := hN'.pk
  have oF : ∀ y, c + 27 ≤ y → ¬ Zi a y → kpF c g R f C a n.1 y = f y := fun y hy hz => (cpyF_o hp (by unfold Zi at hz; omega)).trans (cv_out (by omega))
  have oG : ∀ y, c + 27 ≤ y → ¬ Zi a y → (kpG c g R a n.1).2.2.2 y = g.2.2.2 y := fun y hy hz => (cpyG_o (by unfold Zi at hz; omega) (by unfold Zi at hz; omega) (by unfold Zi at hz; omega)).trans (gv_out (by omega))
  have va : ∀ j, cv c f C (a + j) = f (a + j) := fun j => cv_out (by omega)
  have vc : ∀ i, i < 27 → cv c f C (c + i) = C (bQ i) := fun i hi => cv_ai hi
  obtain ⟨z2, z3, z6, z7, z11⟩ := cp_0 (f := cv c f C) hp hq hab
  obtain ⟨y1, y2⟩ := cp_2 (f := cv c f C) hp hq hab
  obtain ⟨x1, x2, x3, x5, x6⟩ := cp_4 (f := cv c f C) hp hq hab
  obtain ⟨w5, w6⟩ := cp_5 (f := cv c f C) hp hq hab
  obtain ⟨w7, w8⟩ := cp_7 (f := cv c f C) hp hq hab
  rw [show cv c f C (c + 13) = C 17 from vc 13 (by decide)] at z2 z3 z6 z7 z11
  rw [show cv c f C (c + 13 + 2) = C 19 from vc 15 (by decide)] at y1 y2
  rw [show cv c f C (c + 13 + 4) = C 21 from vc 17 (by decide)] at x1 x2 x3 x5 x6 w5 w6
  rw [show cv c f C (c + 13 + 5) = C 22 from vc 18 (by decide), e41, tn_nI (by omega), va] at w5
  rw [show cv c f C (c + 13 + 6) = C 23 from vc 19 (by decide), e45, tn_nI (by omega)] at w6
  rw [show cv c f C (c + 13 + 7) = C 24 from vc 20 (by decide)] at w7
  rw [show cv c f C (c + 13 + 8) = C 25 from vc 21 (by decide)] at w8
  have hG17 : (gv c g R).2.2.2 (c + 13) = R 17 := gv_at (j := 17) (by decide)
  have k17 : ∀ k, k = 0 ∨ k = 4 ∨ k = 5 → iR (kpG c g R a n.1) a 17 k = R 17 k := fun k hk => by
    show (cpyG (gv c g R) a (c + 13) n.1).2.2.2 a k = _
    rw [cpyG_a hab, if_pos hk, hG17]
  have k18 : ∀ p, p < 4 → iR (kpG c g R a n.1) a 18 p = R 18 p := fun p hp' => by
    show (cpyG (gv c g R) a (c + 13) n.1).2.2.2 (a + 1) p = _
    rw [cpyG_1 hab, if_pos hp']
    exact congrFun (gv_at (j := 18) (by decide)) p
  have k20 : ∀ p, p < n.1 → iR (kpG c g R a n.1) a 20 p = R 20 p := fun p hp' => by
    show (cpyG (gv c g R) a (c + 13) n.1).2.2.2 (a + 3) p = _
    rw [cpyG_3 hab, if_pos hp']
    exact congrFun (gv_at (j := 20) (by decide)) p
  have eP : (pkeep M (nI i)).2 = zup (pkeep2 M (nI i)) 0 4 (M 0 4 ||| 1 <<< (nI i &&& 31)) := by rw [pkeep_in hi]
  have mr : ∀ r, r ≠ 0 → r ≠ 3 → r ≠ 5 → (pkeep M (nI i)).2 r = M r := fun r h0 h3 h5 => by
    rw [eP, zup_r h0]
    funext k
    unfold pkeep2 pkeep1
    rw [pcp_r h5, pcp_r h3]
  have m3 : ∀ k, k < 8490 → iM (pkeep M (nI i)).2 i 2 k = M 2 k := fun k hk => by
    show (pkeep M (nI i)).2 3 (8490 * i + k) = _
    rw [eP, zup_r (by decide)]
    unfold pkeep2 pkeep1
    rw [pcp_r (by decide), tn_nI (by omega)]
    show (if 3 = 3 ∧ 8490 * i ≤ 8490 * i + k ∧ 8490 * i + k < 8490 * i + 8490 then M 2 (0 + (8490 * i + k - 8490 * i)) else _) = _
    rw [if_pos ⟨rfl, by omega, by omega⟩]
    exact congrArg (M 2) (by omega)
  have m5 : ∀ k, k < 7 * n.2.2.2.2 → iM (pkeep M (nI i)).2 i 4 k = M 4 k := fun k hk => by
    show (pkeep M (nI i)).2 5 (280000 * i + k) = _
    rw [eP, zup_r (by decide)]
    unfold pkeep2
    rw [e21, tn_nI (by omega), tn_nI (by omega)]
    show (if 5 = 5 ∧ 280000 * i ≤ 280000 * i + k ∧ 280000 * i + k < 280000 * i + 7 * n.2.2.2.2 then pkeep1 M (nI i) 4 (0 + (280000 * i + k - 280000 * i)) else _) = _
    rw [if_pos ⟨rfl, by omega, by omega⟩]
    unfold pkeep1
    rw [pcp_r (by decide)]
    exact congrArg (M 4) (by omega)
  have hoT : zLe g (kpG c g R a n.1) ∧ ZZ n0 g (Zi a) ∧ ∀ y, n0 ≤ y → y < g.1 → ¬ Zi a y → (kpG c g R a n.1).2.2.2 y = g.2.2.2 y ∧ (g.2.1 y ≠ 1 → kpF c g R f C a n.1 y = f y) ∧ ∀ k, k < 8 → kpF c g R f C a n.1 y k = f y k :=
    ⟨⟨Nat.le_refl _, fun _ _ => ⟨rfl, rfl⟩⟩, Zi.zz hra hRC, fun y h0 _ hz => ⟨oG y (by omega) hz, fun _ => oF y (by omega) hz, fun k _ => congrFun (oF y (by omega) hz) k⟩⟩
  have k1 : (pkeep M (nI i)).2 1 = M 1 := mr 1 (by decide) (by decide) (by decide)
  have k2 : (pkeep M (nI i)).2 2 = M 2 := mr 2 (by decide) (by decide) (by decide)
  have k4 : (pkeep M (nI i)).2 4 = M 4 := mr 4 (by decide) (by decide) (by decide)
  have hT' : TR b0 n0 (kpG c g R a n.1) (kpF c g R f C a n.1) ((pkeep M (nI i)).2 1) t := by rw [k1]; exact hT.mv hoT
  refine ⟨⟨hd, e1, by rw [e41]; exact iv_nI (by omega) (by decide), by rw [e45]; exact iv_nI (by omega) (by decide), e21, hbd.2.2.2⟩, ?_, ?_, hm.mv (k17 0 (by omega)) z2, hI.cpy hab, fun y hy hz => ⟨oF y hy hz, oG y hy hz⟩⟩
  · exact h.mv (Z := Zi a) ⟨hoT, fun k _ => congrFun k4 k, Nat.le_refl _, fun k _ => congrFun k1 k, fun _ _ => ⟨rfl, rfl, rfl⟩⟩ hT' (fun _ _ => rfl) ⟨⟨rfl, rfl, fun _ _ _ _ => rfl, rfl⟩, fun _ _ => rfl, fun _ _ => rfl, fun _ _ => rfl, fun _ _ => rfl, fun j _ _ => congrFun k2 j⟩ ⟨fun j _ => congrFun k2 j, ⟨rfl, rfl, rfl, rfl⟩, ⟨rfl, rfl⟩, rfl, fun _ _ => rfl⟩ h.2.2.1
  · refine h.mv (Z := Zi a) ⟨hoT, m5, Nat.le_refl _, fun k _ => congrFun k1 k, fun _ _ => ⟨rfl, rfl, rfl⟩⟩ hT' k20
      ⟨⟨y1, y2, fun k h1 h6 h4 => ?_, ?_⟩, fun r hr => (congrFun w5 r).trans (cp_lt hr), fun q hq' => (congrFun w6 q).trans (cp_lt hq'), fun k hk => (congrFun w7 k).trans (cp_lt hk), fun k hk => (congrFun w8 k).trans (cp_lt hk), fun j _ hj => m3 j hj⟩
      ⟨fun j hj => m3 j (by omega), ⟨z2, z3, z6, z7⟩, ⟨k17 4 (by omega), k17 5 (by omega)⟩, k17 0 (by omega), k18⟩ (fun r => ?_)
    · have hk : k = 1 ∨ k = 2 ∨ k = 3 ∨ k = 5 ∨ k = 6 := by omega
      rcases hk with rfl | rfl | rfl | rfl | rfl
      · exact x1
      · exact x2
      · exact x3
      · exact x5
      · exact x6
    · exact z11
    · obtain ⟨u, u1, u2⟩ := cp_le (n := n.2.2.1) (j := r) (b := b) (f := C 22) (g := f (a + 5)) (h.2.2.1 r) (hU r)
      exact ⟨u, u1, (congrFun w5 r).trans u2⟩
end IMGS
