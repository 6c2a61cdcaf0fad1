/-! keep, in both: a slot that has its cells. -/
section KEEPC
variable {b0 n0 c k : Nat} {g : zG} {f M : zI} {t : zTs} {y : zGs} {n : zNs} {R : zRf} {C : zI}
theorem WR.keepA {i a : Nat} (hW : CW b0 g c) (hF : CF c R) (w1 : c + 27 ≤ n0) (w2 : b0 ≤ g.1) (w3 : n0 ≤ g.1) (w4 : EOs b0 g c) (w5 : RC n0 g) (hTX : ∃ len tx, TX len tx C M ∧ C 0 1 = nI len) (v3 : ∀ j, iv 7 (C 6 j)) (v4 : R 8 0 = none) (u1 : M 0 1 = nI t.1) (u2 : t.1 ≤ 120 * (k + 1)) (hk : 120 * (k + 1) ≤ 64920) (u3 : FRS n0 0 g M t) (q1 : RQ b0 n0 (g, f, M, t, y, n) R C (201 * (k + 1))) (q2 : MN R C) (q3 : GL (201 * (k + 1)) C M) (hi : i < 2) (hRi : R 26 i = some a) (ra : RA b0 g a) (ha : n0 ≤ a) (hU : UC (201 * (k + 1)) (iC f a))
    (hoI : IMG b0 n0 g f M t R (201 * (k + 1)) (1 - i)) (hoB : ∀ a', R 26 (1 - i) = some a' → a' ≠ a ∧ BOD b0 n0 g f (iM M (1 - i)) t (iR g a')) (hbd : BOD b0 n0 g f M t R) (h65 : t.1 ≤ 65000) (h4 : (pkeep M (nI i)).2 0 4 = FB R) :
    (n.1 ≤ 100 ∧ C 19 1 = nI n.1 ∧ iv 1001 (C 21 1) ∧ iv 1001 (C 21 5) ∧ M 2 21 = nI n.2.2.2.2 ∧ n.2.2.2.2 ≤ 39800) ∧ WR b0 n0 c (k + 1) (kpG c g R a n.1, R, kpF c g R f C a n.1, C) (pkeep M (nI i)).2 t y n := by
  obtain ⟨b1, b2, b3, b4, b5, b6⟩ := RQ.keep hW hF w1 hi ra ha w5 q1 q2 hU q1.base.1.1
  refine ⟨b1, ?_⟩
  have hpx : ¬ (nI i < 0 ∨ 1 < nI i) := by
    have z : i = 0 ∨ i = 1 := by omega
    rcases z with rfl | rfl <;> decide
  have htn : tn (nI i) = i := tn_nI (by omega)
  obtain ⟨N, eN⟩ : ∃ N, N = (pkeep M (nI i)).2 := ⟨_, rfl⟩
  have eN2 : N = zup (pkeep2 M (nI i)) 0 4 (M 0 4 ||| 1 <<< (nI i &&& 31)) := by
    rw [eN]
    unfold pkeep
    rw [if_neg hpx]
  rw [← eN] at b2 b3 h4 ⊢
  have nr : ∀ r, r ≠ 0 → r ≠ 3 → r ≠ 5 → N r = M r := fun r z0 z3 z5 => by
    rw [eN2, zup_r z0]
    unfold pkeep2 pkeep1
    funext q
    rw [pcp_r z5, pcp_r z3]
  have n0' : ∀ j, j ≠ 4 → N 0 j = M 0 j := fun j hj => by
    rw [eN2, zup_ne _ _ _ _ (Or.inr hj)]
    unfold pkeep2 pkeep1
    rw [pcp_r (by decide), pcp_r (by decide)]
  have n2i : ∀ j, j < 8490 → iM N i 2 j = M 2 j := fun j hj => by
    show N 3 (8490 * i + j) = _
    rw [eN2, zup_r (by decide)]
    unfold pkeep2
    rw [pcp_r (by decide)]
    unfold pkeep1
    rw [htn]
    show (if 3 = 3 ∧ 8490 * i ≤ 8490 * i + j ∧ 8490 * i + j < 8490 * i + 8490 then M 2 (0 + (8490 * i + j - 8490 * i)) else _) = _
    rw [if_pos ⟨rfl, by omega, by omega⟩]
    exact congrArg (M 2) (by omega)
  have n3o : ∀ j, j < 8490 → N 3 (8490 * (1 - i) + j) = M 3 (8490 * (1 - i) + j) := fun j hj => by
    rw [eN2, zup_r (by decide)]
    unfold pkeep2
    rw [pcp_r (by decide)]
    unfold pkeep1
    rw [htn]
    show (if 3 = 3 ∧ 8490 * i ≤ 8490 * (1 - i) + j ∧ 8490 * (1 - i) + j < 8490 * i + 8490 then _ else M 3 (8490 * (1 - i) + j)) = _
    rw [if_neg (fun z => by omega)]
  have n5o : ∀ j, j < 280000 → N 5 (280000 * (1 - i) + j) = M 5 (280000 * (1 - i) + j) := fun j hj => by
    rw [eN2, zup_r (by decide)]
    unfold pkeep2
    have e21 : 7 * tn (M 2 21) ≤ 280000 := by
      rw [b1.2.2.2.2.1, tn_nI (by omega)]; omega
    rw [htn]
    show (if 5 = 5 ∧ 280000 * i ≤ 280000 * (1 - i) + j ∧ 280000 * (1 - i) + j < 280000 * i + 7 * tn (M 2 21) then _ else pkeep1 M (nI i) 5 (280000 * (1 - i) + j)) = _
    rw [if_neg (fun z => by omega)]
    unfold pkeep1
    rw [pcp_r (by decide)]
  obtain ⟨G, eG⟩ : ∃ G, G = kpG c g R a n.1 := ⟨_, rfl⟩
  obtain ⟨F, eF⟩ : ∃ F, F = kpF c g R f C a n.1 := ⟨_, rfl⟩
  have gs : G.1 = g.1 ∧ G.2.1 = g.2.1 ∧ G.2.2.1 = g.2.2.1 := by rw [eG]; exact ⟨rfl, rfl, rfl⟩
  have gout : ∀ y, ¬ (c ≤ y ∧ y < c + 27) → ¬ Zi a y → G.2.2.2 y = g.2.2.2 y := fun y hy hz => by
    unfold Zi at hz
    rw [eG]
    show (cpyG (gv c g R) a (c + 13) n.1).2.2.2 y = _
    rw [cpyG_o (by omega) (by omega) (by omega), gv_out hy]
  have r17 : iR G a 17 0 = R 17 0 := by
    rw [eG]
    show (cpyG (gv c g R) a (c + 13) n.1).2.2.2 a 0 = _
    rw [cpyG_a (by omega), if_pos (Or.inl rfl), gv_ai (by decide)]; rfl
  have r18 : ∀ p, p < 4 → iR G a 18 p = R 18 p := fun p hp => by
    rw [eG]
    show (cpyG (gv c g R) a (c + 13) n.1).2.2.2 (a + 1) p = _
    rw [cpyG_1 (by omega), if_pos hp, show c + 13 + 1 = c + 14 by omega, gv_ai (by decide)]; rfl
  rw [← eG, ← eF] at b2 b3 b4 b6 ⊢
  rw [← eG] at b5
  have hl : zLe g G := ⟨by omega, fun y _ => by rw [gs.2.1, gs.2.2]; exact ⟨rfl, rfl⟩⟩
  have hx : zLe g G ∧ ZZ n0 g (Zi a) ∧ ∀ y, n0 ≤ y → y < g.1 → ¬ Zi a y → G.2.2.2 y = g.2.2.2 y ∧ (g.2.1 y ≠ 1 → F y = f y) ∧ ∀ k, k < 8 → F y k = f y k := ⟨hl, Zi.zz ra w5, fun y hy _ hz => ⟨(b6 y (by omega) hz).2, fun _ => (b6 y (by omega) hz).1, fun k _ => by rw [(b6 y (by omega) hz).1]⟩⟩
  have e1 : N 1 = M 1 := nr 1 (by decide) (by decide) (by decide)
  have e11 : N 11 = M 11 := nr 11 (by decide) (by decide) (by decide)
  have e2 : N 2 = M 2 := nr 2 (by decide) (by decide) (by decide)
  have hT : TR b0 n0 G F (N 1) t := b2.base.1.1
  have hz : ∀ a' A, n0 ≤ a' → zIn b0 g a' 0 → (g.2.2.2 a' 2 = some A ∧ zIn b0 g A 13 ∧ 2 ≤ A ∧ g.2.1 (A - 2) = 0) → ¬ Zi a A := fun _ A _ _ z => Zi.lst ra z.2
  have hBD : BOD b0 n0 G F N t R := hbd.mv hx hz h65 (fun j _ => congrFun e1 j) (fun j _ => congrFun e11 j) (Nat.le_refl _) (fun _ _ => ⟨rfl, rfl, rfl⟩) (fun j _ => congrFun e2 j) rfl (fun _ _ => rfl)
  have hBDi : BOD b0 n0 G F (iM N i) t (iR G a) := by
    refine hbd.mv hx hz h65 ?_ ?_ (Nat.le_refl _) (fun _ _ => ⟨rfl, rfl, rfl⟩) (fun j hj => n2i j (by omega)) r17 r18
    · exact fun j _ => congrFun e1 j
    · exact fun j _ => congrFun e11 j
  have hap : ∀ a', R 26 (1 - i) = some a' → RA b0 g a' → ∀ j, j < 9 → G.2.2.2 (a' + j) = g.2.2.2 (a' + j) ∧ F (a' + j) = f (a' + j) := fun a' ha' ra' j hj => by
    have h1 := ra.apart ra' (hoB a' ha').1.symm
    have h2 := (hoI.some ha').2
    have h3 := b6 (a' + j) (by omega) (by unfold Zi; omega)
    exact ⟨h3.2, h3.1⟩
  have him1 : IMG b0 n0 G F N t R (201 * (k + 1)) (1 - i) := hoI.mv (Nat.le_refl _) hx ⟨Nat.le_refl _, fun j _ => congrFun e1 j, fun _ _ => ⟨rfl, rfl, rfl⟩⟩ hT n3o n5o hap rfl
  have him0 : IMG b0 n0 G F N t R (201 * (k + 1)) i := Or.inr ⟨a, hRi, b5, ha, y, n, b3, b4⟩
  have himb0 : IMB b0 n0 G F N t R i := fun a' ha' => by
    obtain rfl : a = a' := Option.some.inj (hRi.symm.trans ha')
    exact ⟨fun z => (hoB a z).1 rfl, hBDi⟩
  have himb1 : IMB b0 n0 G F N t R (1 - i) := fun a' ha' => by
    refine ⟨fun z => ?_, ?_⟩
    · rw [show 1 - (1 - i) = i by omega, hRi] at z
      exact (hoB a' ha').1 (Option.some.inj z).symm
    have hrr := hap a' ha' (hoI.some ha').1
    have eI : ∀ j, 17 ≤ j → j < 26 → iR G a' j = iR g a' j := fun j h1 h2 => (hrr (j - 17) (by omega)).1
    refine (hoB a' ha').2.mv hx hz h65 ?_ ?_ (Nat.le_refl _) (fun _ _ => ⟨rfl, rfl, rfl⟩) ?_ (congrFun (eI 17 (by omega) (by omega)) 0) (fun p _ => congrFun (eI 18 (by omega) (by omega)) p)
    · exact fun j _ => congrFun e1 j
    · exact fun j _ => congrFun e11 j
    · exact fun j hj => n3o j (by omega)
  have hall : (IMG b0 n0 G F N t R (201 * (k + 1)) 0 ∧ IMG b0 n0 G F N t R (201 * (k + 1)) 1) ∧ IMB b0 n0 G F N t R 0 ∧ IMB b0 n0 G F N t R 1 := by
    have z : i = 0 ∨ i = 1 := by omega
    rcases z with rfl | rfl
    · exact ⟨⟨him0, him1⟩, himb0, himb1⟩
    · exact ⟨⟨him1, him0⟩, himb1, himb0⟩
  obtain ⟨len, tx, v1, v2⟩ := hTX
  refine ⟨⟨⟨w1, by show b0 ≤ G.1; omega, by show n0 ≤ G.1; omega⟩, fun a' ha' b hbb => ?_, fun x x0 x1 x7 => ?_⟩, ⟨⟨len, tx, v1.at rfl (n0' 8 (by decide)) (nr 6 (by decide) (by decide) (by decide)), v2⟩, v3, v4⟩, ⟨⟨(n0' 1 (by decide)).trans u1, u2⟩, u3.le hl (fun j _ => congrFun e1 j)⟩, ⟨b2, q2, GL.of q3 rfl rfl (n0' 27 (by decide)) (nr 19 (by decide) (by decide) (by decide))⟩, ⟨hall.1, h4, hall.2⟩, hBD⟩
  · have h1 : a' < G.1 := ha'.2.1
    have h2 : G.2.1 a' = 1 := ha'.2.2
    have h3 : zIn b0 g a' 1 := ⟨ha'.1, by omega, by rw [← gs.2.1]; exact h2⟩
    have hbb : G.2.2.2 a' 5 = some b ∨ G.2.2.2 a' 6 = some b := hbb
    rw [gout a' (hW.out h3 (by decide)) ((Zi.zz ra w5).out h3 (by omega))] at hbb
    obtain ⟨y1, y2, y3⟩ := w4 a' h3 b hbb
    exact ⟨by show G.2.2.1 b = 7; rw [gs.2.2]; exact y1, y2, by show b < G.1; omega⟩
  · have x1 : x < G.1 := x1
    have x7 : G.2.1 x = 7 := x7
    have hbc := hW.1
    have h3 : zIn b0 g x 7 := ⟨by omega, by omega, by rw [← gs.2.1]; exact x7⟩
    show G.2.2.2 x 1 = some (x - 1)
    rw [(b6 x (by omega) ((Zi.zz ra w5).out h3 (by omega))).2]
    exact w5 x x0 (by omega) h3.2.2
end KEEPC
