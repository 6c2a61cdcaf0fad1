/-! The law's rows: the array that it writes into, both objects beside it. -/
section LRW
variable {b0 n0 c c' k k' a : Nat} {g G : zG} {f F M N : zI}
/-- what must stay for an object at c' -/
def KN (n0 c' : Nat) (g : zG) (f : zI) (G : zG) (F : zI) : Prop := zLe g G ∧ ∀ y, y < g.1 → (n0 ≤ y ∨ (c' ≤ y ∧ y < c' + 27)) → G.2.2.2 y = g.2.2.2 y ∧ (g.2.1 y ≠ 1 → F y = f y) ∧ ∀ k, k < 8 → F y k = f y k
/-- what a writer leaves: all but the object at c, and the array a -/
def KW (c a : Nat) (g : zG) (f : zI) (G : zG) (F : zI) : Prop := zLe g G ∧ (∀ y, y < g.1 → ¬ (c ≤ y ∧ y < c + 27) → y ≠ a → G.2.2.2 y = g.2.2.2 y ∧ (g.2.1 y ≠ 1 → F y = f y) ∧ ∀ k, k < 8 → F y k = f y k) ∧ G.2.2.2 (c + 26) = g.2.2.2 (c + 26)
theorem KW.rf : KW c a g f g f := ⟨zLe.rf, fun _ _ _ _ => ⟨rfl, fun _ => rfl, fun _ _ => rfl⟩, rfl⟩
theorem KP.w (h : KP c g f G F) : KW c a g f G F := ⟨h.1, fun y hy hc _ => h.2.1 y hy hc, h.2.2⟩
theorem KW.tr {g2 : zG} {f2 : zI} (h : KW c a g f G F) (k : KW c a G F g2 f2) : KW c a g f g2 f2 := by
  refine ⟨h.1.tr k.1, fun y hy hc ha => ?_, k.2.2.trans h.2.2⟩
  obtain ⟨a1, a2, a3⟩ := h.2.1 y hy hc ha
  obtain ⟨b1, b2, b3⟩ := k.2.1 y (Nat.lt_of_lt_of_le hy h.1.1) hc ha
  exact ⟨b1.trans a1, fun z => (b2 (by rw [(h.1.2 y hy).1]; exact z)).trans (a2 z), fun j hj => (b3 j hj).trans (a3 j hj)⟩
theorem KW.arr {j : Nat} {x : Int32} : KW c a g f g (zup f a j x) := ⟨zLe.rf, fun y _ _ ha => ⟨rfl, fun _ => zup_r ha, fun _ _ => zup_ne _ _ _ _ (Or.inl ha)⟩, rfl⟩
theorem KW.n (h : KW c a g f G F) (ha : a < n0 ∧ ¬ (c' ≤ a ∧ a < c' + 27)) (hc : c + 27 ≤ n0) (hcc : c + 27 ≤ c' ∨ c' + 27 ≤ c) : KN n0 c' g f G F := ⟨h.1, fun y hy hz => h.2.1 y hy (by omega) (by omega)⟩
theorem KP.n (h : KP c g f G F) (hc : c + 27 ≤ n0) (hcc : c + 27 ≤ c' ∨ c' + 27 ≤ c) : KN n0 c' g f G F := ⟨h.1, fun y hy hz => h.2.1 y hy (by omega)⟩
/-- the law's array -/
def ARR (b0 : Nat) (g : zG) (a : Nat) : Prop := zIn b0 g a 13 ∧ g.2.2.1 a = 64
theorem ARR.le (h : ARR b0 g a) (k : zLe g G) : ARR b0 G a := ⟨h.1.le k, (k.2 a h.1.2.1).2.trans h.2⟩
/-- a call leaves the array -/
theorem KP.arr (h : KP c g f G F) (hA : ARR b0 g a) (hc : ¬ (c ≤ a ∧ a < c + 27)) : F a = f a := (h.2.1 a hA.1.2.1 hc).2.1 (by rw [hA.1.2.2]; decide)
/-- the object lies there -/
theorem OB.inn (h : OB b0 n0 c k M g f) : zIn b0 g c 11 := by
  obtain ⟨g0, R, f0, C, t, y, n, ⟨rfl, rfl⟩, ⟨hW, hF, hw⟩, h, h26⟩ := h
  exact hW.i 0 rfl
theorem OB.lo (h : OB b0 n0 c k M g f) : c + 27 ≤ n0 ∧ n0 ≤ g.1 := by
  obtain ⟨g0, R, f0, C, t, y, n, ⟨rfl, rfl⟩, -, h, -⟩ := h
  exact ⟨h.1.1.1, h.1.1.2.2⟩
/-- the array is written -/
theorem OB.arr (h : OB b0 n0 c k M g f) (hk : 120 * k ≤ 64800) (ha : a < n0) (hc : ¬ (c ≤ a ∧ a < c + 27)) (j : Nat) (x : Int32) : OB b0 n0 c k M g (zup f a j x) := by
  obtain ⟨g0, R, f0, C, t, y, n, ⟨rfl, rfl⟩, ⟨hW, hF, hw⟩, h, h26⟩ := h
  obtain ⟨⟨⟨w1, w2, w3⟩, w4, w5⟩, hTX, ⟨⟨u1, u2⟩, u3⟩, ⟨q1, q2, q3⟩, -, hbd⟩ := h
  have e : zup (cv c f0 C) a j x = cv c (zup f0 a j x) C := by
    funext b q
    by_cases hb : c ≤ b ∧ b < c + 27
    · have hne : b ≠ a := fun z => hc (by rw [← z]; exact hb)
      rw [zup_ne _ _ _ _ (Or.inl hne)]
      have hj : bQ (b - c) < 27 := bQ_lt (by omega)
      have hbe : b = c + bP (bQ (b - c)) := by rw [bPQ (by omega)]; omega
      rw [hbe, cv_at hj, cv_at hj]
    · rw [cv_out hb]
      by_cases hz : b = a ∧ q = j
      · obtain ⟨rfl, rfl⟩ := hz
        rw [zup_at, zup_at]
      · rw [zup_ne _ _ _ _ (by omega), zup_ne _ _ _ _ (by omega), cv_out hb]
  rw [e]
  have hx : zLe g0 g0 ∧ ZZ n0 g0 (fun _ => False) ∧ ∀ y, n0 ≤ y → y < g0.1 → ¬ False → g0.2.2.2 y = g0.2.2.2 y ∧ (g0.2.1 y ≠ 1 → zup f0 a j x y = f0 y) ∧ ∀ k, k < 8 → zup f0 a j x y k = f0 y k := ⟨zLe.rf, ZZ.non n0 _, fun y hy _ _ => ⟨rfl, fun _ => zup_r (by omega), fun _ _ => zup_ne _ _ _ _ (Or.inl (by omega))⟩⟩
  have hT : TR b0 n0 g0 (zup f0 a j x) (M 1) t := TR.mv (Z := fun _ => False) q1.base.1.1 hx
  have u2 : t.1 ≤ 120 * k := u2
  refine ⟨g0, R, zup f0 a j x, C, t, y, n, ⟨rfl, rfl⟩, ⟨hW, hF, hw⟩, ⟨⟨⟨w1, w2, w3⟩, w4, w5⟩, hTX, ⟨⟨u1, u2⟩, u3.le zLe.rf (fun _ _ => rfl)⟩, ⟨?_, q2, q3⟩, trivial, ?_⟩, h26⟩
  · exact q1.mv (Z := fun _ => False) ⟨hx, fun _ _ => rfl, Nat.le_refl _, fun _ _ => rfl, fun _ _ => ⟨rfl, rfl, rfl⟩⟩ hT (fun _ _ => rfl) ⟨⟨rfl, rfl, fun _ _ _ _ => rfl, rfl⟩, fun _ _ => rfl, fun _ _ => rfl, fun _ _ => rfl, fun _ _ => rfl, fun _ _ _ => rfl⟩ ⟨fun _ _ => rfl, ⟨rfl, rfl, rfl, rfl⟩, ⟨rfl, rfl⟩, rfl, fun _ _ => rfl⟩ q1.2.2.1
  · exact hbd.mv hx (fun _ _ _ _ _ z => z) (by omega) (fun _ _ => rfl) (fun _ _ => rfl) (Nat.le_refl _) (fun _ _ => ⟨rfl, rfl, rfl⟩) (fun _ _ => rfl) rfl (fun _ _ => rfl)
/-- the other object stays as it was -/
theorem OB.keepG (h : OB b0 n0 c' k' M g f) (hk' : 120 * k' ≤ 64800) (hk : KN n0 c' g f G F) (hcc : c + 27 ≤ c' ∨ c' + 27 ≤ c) (hC : OB b0 n0 c k N G F) : OB b0 n0 c' k' M G F := by
  obtain ⟨g0, R, f0, C, t, y, n, ⟨rfl, rfl⟩, ⟨hW, hF, hw⟩, h, h26⟩ := h
  obtain ⟨G0, R1, F0, C1, t1, y1, n1, ⟨eG, eF⟩, ⟨hW1, hF1, hw1⟩, h1, -⟩ := hC
  obtain ⟨hl, ho⟩ := hk
  have hl : zLe g0 G := hl
  have hc1 : c + 27 ≤ n0 := h1.1.1.1
  obtain ⟨⟨⟨w1, w2, w3⟩, w4, w5⟩, hTX, ⟨⟨u1, u2⟩, u3⟩, ⟨q1, q2, q3⟩, -, hbd⟩ := h
  have w1 : c' + 27 ≤ n0 := w1
  have w2 : b0 ≤ g0.1 := w2
  have w3 : n0 ≤ g0.1 := w3
  have hR : ∀ j, j < 27 → G.2.2.2 (c' + bP j) = R j := fun j hj => by
    have hb := bP_lt hj
    exact ((ho (c' + bP j) (by show c' + bP j < g0.1; omega) (Or.inr ⟨by omega, by omega⟩)).1).trans (gv_at hj)
  have hCj : ∀ j, j < 27 → F (c' + bP j) = C j := fun j hj => by
    have hb := bP_lt hj
    refine ((ho (c' + bP j) (by show c' + bP j < g0.1; omega) (Or.inr ⟨by omega, by omega⟩)).2.1 ?_).trans (cv_at hj)
    cases hq : bT[j]? with
    | none => exact absurd (List.getElem?_eq_none_iff.mp hq) (by show ¬ 27 ≤ j; omega)
    | some q =>
      show g0.2.1 (c' + bP j) ≠ 1
      rw [(hW.2.2 j q hq).1]
      exact (show ∀ q ∈ bT, q.1 ≠ 1 by decide) q (List.mem_of_getElem? hq)
  have e1 : gv c' G R = G := gv_self hR
  have e2 : cv c' F C = F := cv_self hCj
  have hx : zLe g0 G ∧ ZZ n0 g0 (fun _ => False) ∧ ∀ y, n0 ≤ y → y < g0.1 → ¬ False → G.2.2.2 y = g0.2.2.2 y ∧ (g0.2.1 y ≠ 1 → F y = f0 y) ∧ ∀ k, k < 8 → F y k = f0 y k := ⟨hl, ZZ.non n0 _, fun y hy hy2 _ => by
    obtain ⟨a1, a2, a3⟩ := ho y hy2 (Or.inl hy)
    rw [gv_out (by omega)] at a1
    rw [cv_out (by omega)] at a2 a3
    exact ⟨a1, a2, a3⟩⟩
  have hW' : CW b0 G c' := hW.le hl
  have hT : TR b0 n0 G F (M 1) t := TR.mv (Z := fun _ => False) q1.base.1.1 hx
  have u2 : t.1 ≤ 120 * k' := u2
  obtain ⟨⟨-, v4, v5⟩, -⟩ := h1
  have v4 : EOs b0 G0 c := v4
  have v5 : RC n0 G0 := v5
  have eL : G.1 = G0.1 ∧ G.2.1 = G0.2.1 ∧ G.2.2.1 = G0.2.2.1 := by rw [eG]; exact ⟨rfl, rfl, rfl⟩
  have eo : ∀ a, ¬ (c ≤ a ∧ a < c + 27) → G.2.2.2 a = G0.2.2.2 a := fun a ha => by rw [eG]; exact gv_out ha
  have hwG : zOK b0 zNo G := by rw [eG]; exact hw1
  refine ⟨G, R, F, C, t, y, n, ⟨e1.symm, e2.symm⟩, ⟨hW', hF, by rw [e1]; exact hwG⟩, ⟨⟨⟨w1, by show b0 ≤ G.1; have := hl.1; omega, by show n0 ≤ G.1; have := hl.1; omega⟩, fun a ha b hb => ?_, fun x x0 x1 x7 => ?_⟩, hTX, ⟨⟨u1, u2⟩, u3.le hl (fun _ _ => rfl)⟩, ⟨?_, q2, q3⟩, trivial, ?_⟩, h26⟩
  · have ha : zIn b0 G a 1 := ha
    have hb : G.2.2.2 a 5 = some b ∨ G.2.2.2 a 6 = some b := hb
    have ha0 : zIn b0 G0 a 1 := ⟨ha.1, by rw [← eL.1]; exact ha.2.1, by rw [← eL.2.1]; exact ha.2.2⟩
    have hoa := hW1.out ha0 (by decide)
    rw [eo a hoa] at hb
    obtain ⟨z1, z2, z3⟩ := v4 a ha0 b hb
    have hbin : 13 ≤ G.2.1 b := by
      rw [← eo a hoa] at hb
      rcases hb with hb | hb
      · have := hwG.get ha (k := 5) (t' := 14) rfl (by decide) hb
        rw [this.2.2]; decide
      · have := hwG.get ha (k := 6) (t' := 13) rfl (by decide) hb
        rw [this.2.2]; decide
    refine ⟨by show G.2.2.1 b = 7; rw [eL.2.2]; exact z1, fun z => ?_, by show b < G.1; rw [eL.1]; exact z3⟩
    obtain ⟨j, rfl, hj⟩ : ∃ j, b = c' + bP j ∧ j < 27 := ⟨bQ (b - c'), by rw [bPQ (by omega)]; omega, bQ_lt (by omega)⟩
    cases hq : bT[j]? with
    | none => exact absurd (List.getElem?_eq_none_iff.mp hq) (by show ¬ 27 ≤ j; omega)
    | some q =>
      obtain ⟨q1', q2'⟩ := hW'.2.2 j q hq
      rw [q1'] at hbin
      have := q2' hbin
      rw [eL.2.2, z1] at this
      exact bT_7 hq hbin this.symm
  · have x1 : x < G.1 := x1
    have x7 : G.2.1 x = 7 := x7
    show G.2.2.2 x 1 = some (x - 1)
    rw [eo x (by omega)]
    exact v5 x x0 (by rw [← eL.1]; exact x1) (by rw [← eL.2.1]; exact x7)
  · exact q1.mv (Z := fun _ => False) ⟨hx, fun _ _ => rfl, Nat.le_refl _, fun _ _ => rfl, fun _ _ => ⟨rfl, rfl, rfl⟩⟩ hT (fun _ _ => rfl) ⟨⟨rfl, rfl, fun _ _ _ _ => rfl, rfl⟩, fun _ _ => rfl, fun _ _ => rfl, fun _ _ => rfl, fun _ _ => rfl, fun _ _ _ => rfl⟩ ⟨fun _ _ => rfl, ⟨rfl, rfl, rfl, rfl⟩, ⟨rfl, rfl⟩, rfl, fun _ _ => rfl⟩ q1.2.2.1
  · exact hbd.mv hx (fun _ _ _ _ _ z => z) (by omega) (fun _ _ => rfl) (fun _ _ => rfl) (Nat.le_refl _) (fun _ _ => ⟨rfl, rfl, rfl⟩) (fun _ _ => rfl) rfl (fun _ _ => rfl)
end LRW
