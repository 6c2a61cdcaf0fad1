/-! A step from a value, to its end. -/
/-- where the frame's step leaves a value, a node, an operation -/
theorem RN.vr {b0 n0 D st i x : Nat} {g : zG} {f M : zI} {t : zTs} {y : zGs} {n : zNs} {R : zRf} {C : zI} {S : bSt} (hq : bout g R f C (D + 1) (some x) = (S, 1)) (hb : bbelow C R 0 = some x) (h4 : R 17 4 = none) (m16 : ¬ M 2 16 = 2) (hi : i < 40000) (h7 : M 2 7 = nI i)
    (hV : VR b0 n0 (g, f, pcl1 M, t, y, n) st i (pcl1 M 2 20) S) (hst : st < 1000) : pstepV M ∧ ∃ y n, RN b0 n0 ((bstep g R f C bK (D + 1)).1, (bstep g R f C bK (D + 1)).2.2.1, pstep M, t, y, n) (bstep g R f C bK (D + 1)).2.1 (bstep g R f C bK (D + 1)).2.2.2 := by
  obtain ⟨v1, v2, y', n', v3⟩ := hV
  have v2 : (pcomes (pcl1 M) (M 2 7) (pcl1 M 2 20)).1 = 1 := by rw [h7]; exact v2
  refine ⟨⟨fun z => absurd z m16, fun _ => ⟨by rw [h7]; exact iv_nI hi (by decide), by rw [h7]; exact v1⟩⟩, ?_⟩
  rw [pstep_v m16, pcloses_1 v2, h7]
  unfold bstep
  rw [bstep0_n h4, hb, hq, bfin_1 (show ¬ ((S, (1 : Int32)).2 = 0) from (by decide : ¬ ((1 : Int32) = 0))), if_neg (show ¬ ((1 : Int32) = 0) by decide)]
  exact ⟨y', n', v3.fin hst⟩
/-- the kinds whose step never fails: what the class does, and what its walk needs -/
theorem VH.all {b0 n0 c : Nat} {g : zG} {f M : zI} {t : zTs} {sg rg mz fi : Nat → Nat} {el : Nat → Nat → Prop} {ci : Nat → Nat → Nat} {d nv nr nf np : Nat} {R : zRf} {C C1 : zI} {st i x κ : Nat} {v : Int32}
    (h : VH b0 n0 (g, f, M, t, (sg, el, rg, ci, mz, fi), (d, nv, nr, nf, np)) R C1 st i x κ v) (hp : bpopC C = C1) (hκ : 1 ≤ κ) (hκ2 : κ ≤ 13) (h11 : ¬ κ = 11) (hc : c + 27 ≤ n0) :
    boutV b0 g R f C c (d + 1) x ∧ ∃ S, bout g R f C (d + 1) (some x) = (S, 1) ∧ VR b0 n0 (g, f, M, t, (sg, el, rg, ci, mz, fi), (d, nv, nr, nf, np)) st i v S := by
  have hf0 : f x 0 = nI κ := h.2.1.2.2.2.2.1
  have ke : ∀ j, j < 100 → (f x 0 = nI j ↔ κ = j) := fun j hj => by rw [hf0]; exact nI_eq (by omega) (by omega)
  have n11 : ¬ f x 0 = 11 := fun z => h11 ((ke 11 (by decide)).mp z)
  have n14 : ¬ f x 0 = 14 := fun z => absurd ((ke 14 (by decide)).mp z) (by omega)
  have hnode : ¬ f x 0 = 13 → g.2.2.2 x 1 = some (pA g x 1) ∧ eOK g c (pA g x 1) := by
    intro q
    have h13 : ¬ κ = 13 := fun z => q ((ke 13 (by decide)).mpr z)
    obtain ⟨m, k, -, -, -, n3, -, -, n6, -⟩ := h.node (by omega)
    have n3 : g.2.2.2 x 1 = some (t.2.1 m) := n3
    rw [pA_eq n3]
    exact ⟨n3, EN.eok n6 hc⟩
  by_cases k7 : κ = 7
  · subst k7
    obtain ⟨a1, a2⟩ := h.c7 hc
    have e7 : f x 0 = 7 := hf0
    refine ⟨⟨fun z => absurd z n11, fun z => absurd z n14, fun _ => ⟨(hnode (by rw [e7]; decide)).1, a2⟩, fun _ _ _ z => absurd e7 z⟩, _, ?_, a1⟩
    rw [bout_7 e7, hp]
    rfl
  have n7 : ¬ f x 0 = 7 := fun z => k7 ((ke 7 (by decide)).mp z)
  by_cases k13 : κ = 13
  · subst k13
    have e13 : f x 0 = 13 := hf0
    refine ⟨⟨fun z => absurd z n11, fun z => absurd z n14, fun z => absurd z n7, fun _ _ z _ => absurd e13 z⟩, _, ?_, h.c13⟩
    rw [bout_13 e13, hp]
  have n13 : ¬ f x 0 = 13 := fun z => k13 ((ke 13 (by decide)).mp z)
  refine ⟨⟨fun z => absurd z n11, fun z => absurd z n14, fun z => absurd z n7, fun _ _ z _ => hnode z⟩, bgoat g R f C1 x (pA g x 1), by rw [bout_d n11 n14 n13 n7, hp], ?_⟩
  have hs : κ = 1 ∨ κ = 2 ∨ κ = 3 ∨ κ = 4 ∨ κ = 5 ∨ κ = 6 ∨ κ = 8 ∨ κ = 9 ∨ κ = 10 ∨ κ = 12 := by omega
  rcases hs with rfl | rfl | rfl | rfl | rfl | rfl | rfl | rfl | rfl | rfl
  · exact h.c1
  · exact h.c2
  · exact h.c3
  · exact h.c4
  · exact h.c5
  · exact h.c6
  · exact h.c8
  · exact h.c9
  · exact h.c10
  · exact h.c12
