/-! An object in the heap; what a call leaves of the rest. -/
section OBS
variable {b0 n0 c c' k k' : Nat} {g G : zG} {f F M N : zI} {t t' : zTs} {y y' : zGs} {n n' : zNs} {R R' : zRf} {C C' : zI}
/-- the object at c, in the state that M tells -/
def OB (b0 n0 c k : Nat) (M : zI) (g : zG) (f : zI) : Prop := ∃ g0 R f0 C t y n, (g = gv c g0 R ∧ f = cv c f0 C) ∧ (CW b0 g0 c ∧ CF c R ∧ zOK b0 zNo (gv c g0 R)) ∧ WQ b0 n0 c k (g0, R, f0, C) M t y n ∧ R 26 1 = none
/-- what a call of the object at c leaves of what was there: all but the object's own block, and the notes of expressions -/
def KP (c : Nat) (g : zG) (f : zI) (G : zG) (F : zI) : Prop := zLe g G ∧ (∀ y, y < g.1 → ¬ (c ≤ y ∧ y < c + 27) → G.2.2.2 y = g.2.2.2 y ∧ (g.2.1 y ≠ 1 → F y = f y) ∧ ∀ k, k < 8 → F y k = f y k) ∧ G.2.2.2 (c + 26) = g.2.2.2 (c + 26)
theorem KP.rf : KP c g f g f := ⟨zLe.rf, fun _ _ _ => ⟨rfl, fun _ => rfl, fun _ _ => rfl⟩, rfl⟩
theorem KP.of (hl : zLe g G) (h : ∀ y, y < g.1 → G.2.2.2 y = g.2.2.2 y ∧ (g.2.1 y ≠ 1 → F y = f y) ∧ ∀ k, k < 8 → F y k = f y k) (hR : R' 26 = R 26) : KP c (gv c g R) (cv c f C) (gv c G R') (cv c F C') :=
  ⟨hl, fun y hy hc => by
    obtain ⟨h1, h2, h3⟩ := h y hy
    rw [gv_out hc, gv_out hc, cv_out hc, cv_out hc]
    exact ⟨h1, h2, h3⟩, by
    have e1 : (gv c G R').2.2.2 (c + 26) = R' 26 := gv_at (j := 26) (by decide)
    have e2 : (gv c g R).2.2.2 (c + 26) = R 26 := gv_at (j := 26) (by decide)
    rw [e1, e2]; exact hR⟩
theorem KP.tr {g2 : zG} {f2 : zI} (h : KP c g f G F) (k : KP c G F g2 f2) : KP c g f g2 f2 := by
  refine ⟨h.1.tr k.1, fun y hy hc => ?_, k.2.2.trans h.2.2⟩
  obtain ⟨a1, a2, a3⟩ := h.2.1 y hy hc
  obtain ⟨b1, b2, b3⟩ := k.2.1 y (Nat.lt_of_lt_of_le hy h.1.1) hc
  exact ⟨b1.trans a1, fun z => (b2 (by rw [(h.1.2 y hy).1]; exact z)).trans (a2 z), fun j hj => (b3 j hj).trans (a3 j hj)⟩
theorem bT_7 {j t n : Nat} (hj : bT[j]? = some (t, n)) (ht : 13 ≤ t) : n ≠ 7 := (show ∀ q ∈ bT, 13 ≤ q.1 → q.2 ≠ 7 by decide) (t, n) (List.mem_of_getElem? hj) ht
/-- the other object stays as it was -/
theorem OB.keep (h : OB b0 n0 c' k' M g f) (hk' : 120 * k' ≤ 64800) (hk : KP c g f G F) (hcc : c + 27 ≤ c' ∨ c' + 27 ≤ c) (hC : OB b0 n0 c k N G F) : OB b0 n0 c' k' M G F := by
  obtain ⟨g0, R, f0, C, t, y, n, ⟨rfl, rfl⟩, ⟨hW, hF, hw⟩, h, h26⟩ := h
  obtain ⟨G0, R1, F0, C1, t1, y1, n1, ⟨eG, eF⟩, ⟨hW1, hF1, hw1⟩, h1, -⟩ := hC
  obtain ⟨hl, ho, -⟩ := hk
  have hl : zLe g0 G := hl
  have hc1 : c + 27 ≤ n0 := h1.1.1.1
  obtain ⟨⟨⟨w1, w2, w3⟩, w4, w5⟩, hTX, ⟨⟨u1, u2⟩, u3⟩, ⟨q1, q2, q3⟩, -, hbd⟩ := h
  have w1 : c' + 27 ≤ n0 := w1
  have w2 : b0 ≤ g0.1 := w2
  have w3 : n0 ≤ g0.1 := w3
  have hR : ∀ j, j < 27 → G.2.2.2 (c' + bP j) = R j := fun j hj => by
    have hb := bP_lt hj
    exact ((ho (c' + bP j) (by show c' + bP j < g0.1; omega) (by omega)).1).trans (gv_at hj)
  have hCj : ∀ j, j < 27 → F (c' + bP j) = C j := fun j hj => by
    have hb := bP_lt hj
    refine ((ho (c' + bP j) (by show c' + bP j < g0.1; omega) (by omega)).2.1 ?_).trans (cv_at hj)
    cases hq : bT[j]? with
    | none => exact absurd (List.getElem?_eq_none_iff.mp hq) (by show ¬ 27 ≤ j; omega)
    | some q =>
      show g0.2.1 (c' + bP j) ≠ 1
      rw [(hW.2.2 j q hq).1]
      exact (show ∀ q ∈ bT, q.1 ≠ 1 by decide) q (List.mem_of_getElem? hq)
  have e1 : gv c' G R = G := gv_self hR
  have e2 : cv c' F C = F := cv_self hCj
  have hx : zLe g0 G ∧ ZZ n0 g0 (fun _ => False) ∧ ∀ y, n0 ≤ y → y < g0.1 → ¬ False → G.2.2.2 y = g0.2.2.2 y ∧ (g0.2.1 y ≠ 1 → F y = f0 y) ∧ ∀ k, k < 8 → F y k = f0 y k := ⟨hl, ZZ.non n0 _, fun y hy hy2 _ => by
    obtain ⟨a1, a2, a3⟩ := ho y hy2 (by omega)
    rw [gv_out (by omega)] at a1
    rw [cv_out (by omega)] at a2 a3
    exact ⟨a1, a2, a3⟩⟩
  have hW' : CW b0 G c' := hW.le hl
  have hT : TR b0 n0 G F (M 1) t := TR.mv (Z := fun _ => False) q1.base.1.1 hx
  have u2 : t.1 ≤ 120 * k' := u2
  obtain ⟨⟨-, v4, v5⟩, -⟩ := h1
  have v4 : EOs b0 G0 c := v4
  have v5 : RC n0 G0 := v5
  have eL : G.1 = G0.1 ∧ G.2.1 = G0.2.1 ∧ G.2.2.1 = G0.2.2.1 := by rw [eG]; exact ⟨rfl, rfl, rfl⟩
  have eo : ∀ a, ¬ (c ≤ a ∧ a < c + 27) → G.2.2.2 a = G0.2.2.2 a := fun a ha => by rw [eG]; exact gv_out ha
  have hwG : zOK b0 zNo G := by rw [eG]; exact hw1
  refine ⟨G, R, F, C, t, y, n, ⟨e1.symm, e2.symm⟩, ⟨hW', hF, by rw [e1]; exact hwG⟩, ⟨⟨⟨w1, by show b0 ≤ G.1; have := hl.1; omega, by show n0 ≤ G.1; have := hl.1; omega⟩, fun a ha b hb => ?_, fun x x0 x1 x7 => ?_⟩, hTX, ⟨⟨u1, u2⟩, u3.le hl (fun _ _ => rfl)⟩, ⟨?_, q2, q3⟩, trivial, ?_⟩, h26⟩
  · have ha : zIn b0 G a 1 := ha
    have hb : G.2.2.2 a 5 = some b ∨ G.2.2.2 a 6 = some b := hb
    have ha0 : zIn b0 G0 a 1 := ⟨ha.1, by rw [← eL.1]; exact ha.2.1, by rw [← eL.2.1]; exact ha.2.2⟩
    have hoa := hW1.out ha0 (by decide)
    rw [eo a hoa] at hb
    obtain ⟨z1, z2, z3⟩ := v4 a ha0 b hb
    have hbin : 13 ≤ G.2.1 b := by
      rw [← eo a hoa] at hb
      rcases hb with hb | hb
      · have := hwG.get ha (k := 5) (t' := 14) rfl (by decide) hb
        rw [this.2.2]; decide
      · have := hwG.get ha (k := 6) (t' := 13) rfl (by decide) hb
        rw [this.2.2]; decide
    refine ⟨by show G.2.2.1 b = 7; rw [eL.2.2]; exact z1, fun z => ?_, by show b < G.1; rw [eL.1]; exact z3⟩
    obtain ⟨j, rfl, hj⟩ : ∃ j, b = c' + bP j ∧ j < 27 := ⟨bQ (b - c'), by rw [bPQ (by omega)]; omega, bQ_lt (by omega)⟩
    cases hq : bT[j]? with
    | none => exact absurd (List.getElem?_eq_none_iff.mp hq) (by show ¬ 27 ≤ j; omega)
    | some q =>
      obtain ⟨q1', q2'⟩ := hW'.2.2 j q hq
      rw [q1'] at hbin
      have := q2' hbin
      rw [eL.2.2, z1] at this
      exact bT_7 hq hbin this.symm
  · have x1 : x < G.1 := x1
    have x7 : G.2.1 x = 7 := x7
    show G.2.2.2 x 1 = some (x - 1)
    rw [eo x (by omega)]
    exact v5 x x0 (by rw [← eL.1]; exact x1) (by rw [← eL.2.1]; exact x7)
  · exact q1.mv (Z := fun _ => False) ⟨hx, fun _ _ => rfl, Nat.le_refl _, fun _ _ => rfl, fun _ _ => ⟨rfl, rfl, rfl⟩⟩ hT (fun _ _ => rfl) ⟨⟨rfl, rfl, fun _ _ _ _ => rfl, rfl⟩, fun _ _ => rfl, fun _ _ => rfl, fun _ _ => rfl, fun _ _ => rfl, fun _ _ _ => rfl⟩ ⟨fun _ _ => rfl, ⟨rfl, rfl, rfl, rfl⟩, ⟨rfl, rfl⟩, rfl, fun _ _ => rfl⟩ q1.2.2.1
  · exact hbd.mv hx (fun _ _ _ _ _ z => z) (by omega) (fun _ _ => rfl) (fun _ _ => rfl) (Nat.le_refl _) (fun _ _ => ⟨rfl, rfl, rfl⟩) (fun _ _ => rfl) rfl (fun _ _ => rfl)
/-- a call's end: the answer, what it costs, the object then, and that the rest stays -/
def OQ (b0 n0 c k' : Nat) (N : zI) (x : Int32) (g : zG) (f : zI) (c1 c2 : Nat) : zP := fun r G F mc ms => r = some (.int x) ∧ mc ≤ c1 ∧ ms ≤ c2 ∧ OB b0 n0 c k' N G F ∧ KP c g f G F
theorem OQ.mk {l : Launch} {d : Nat} {D : zD} {mi : zMI} {av : List Value} {x x' : Int32} {c1 c2 : Nat} (hB : zM l d D b0 mi (.ref (c + 0) :: av) (gv c g R) (cv c f C) (zCy b0 zNo c g (some (.int x)) G R' F C' c1 c2)) (hx : x = x') (hF' : CF c R')
    (hO : ∀ y, y < g.1 → G.2.2.2 y = g.2.2.2 y ∧ (g.2.1 y ≠ 1 → F y = f y) ∧ ∀ k, k < 8 → F y k = f y k) (hWQ : WQ b0 n0 c k' (G, R', F, C') N t' y' n') (h26 : R' 26 = R 26) (hR1 : R 26 1 = none) : zM l d D b0 mi (.ref c :: av) (gv c g R) (cv c f C) (OQ b0 n0 c k' N x' (gv c g R) (cv c f C) c1 c2) := by
  refine hB.mono (fun r g1 f1 mc ms h => ?_)
  obtain ⟨rfl, rfl, rfl, h1, h2, h3, h4, h5⟩ := h
  subst hx
  exact ⟨rfl, h1, h2, ⟨G, R', F, C', t', y', n', ⟨rfl, rfl⟩, ⟨h5, hF', h3⟩, hWQ, by rw [h26]; exact hR1⟩, KP.of h4 hO h26⟩
/-- the same text of expressions, read in vain -/
theorem WQ.letgo0 {z : Int32} (h : WQ b0 n0 c k (g, R, f, C) M t y n) (hk : 120 * k ≤ 64800) (hK : KB (g, R, f, brdC C z) (G, R', F, C')) : WQ b0 n0 c (k + 1) (G, R', F, C') M t y n := by
  have h' := h
  obtain ⟨⟨⟨w1, w2, w3⟩, w4, w5⟩, ⟨-, v3, v4⟩, ⟨⟨u1, u2⟩, u3⟩, ⟨q1, q2, q3⟩, -, hbd⟩ := h
  have u2 : t.1 ≤ 120 * k := u2
  have w3 : n0 ≤ g.1 := w3
  obtain ⟨a1, a2, a3, a4, a5, a6⟩ := hK.wr
  have hx : zLe g G ∧ ZZ n0 g (fun _ => False) ∧ ∀ y, n0 ≤ y → y < g.1 → ¬ False → G.2.2.2 y = g.2.2.2 y ∧ (g.2.1 y ≠ 1 → F y = f y) ∧ ∀ k, k < 8 → F y k = f y k := ⟨a1.1, ZZ.non n0 _, fun y _ hy _ => ⟨(a1.2 y hy).1, fun _ => (a1.2 y hy).2, fun k _ => by rw [(a1.2 y hy).2]⟩⟩
  have hT0 : TR b0 n0 g f (M 1) t := q1.base.1.1
  have hT : TR b0 n0 G F (M 1) t := TR.mv (Z := fun _ => False) hT0 hx
  exact WQ.read h' hk a1 (fun x b d => ⟨(a2 x b d).1, (a2 x b d).2.2⟩) (by omega) (fun r hr => a3 r (by omega)) a4 (fun r hr => a5 r (by omega) (by omega) (by omega)) (a6.trans v4) (fun _ _ => rfl) ⟨rfl, rfl, rfl⟩ (fun _ _ => rfl) (fun _ _ => rfl) (fun _ _ => rfl) ⟨Nat.le_refl _, by omega⟩ (fun _ _ => ⟨rfl, rfl, rfl⟩) u1 hT (u3.le a1.1 (fun _ _ => rfl))
    (q1.base.2.1.mv (np := 0) ⟨hx, fun k hk => absurd hk (by omega), Nat.le_refl _, fun _ _ => rfl, fun _ _ => ⟨rfl, rfl, rfl⟩⟩ (fun _ _ => rfl) (congrFun (a5 17 (by decide) (by decide) (by decide)) 0) (fun p _ => congrFun (a5 18 (by decide) (by decide) (by decide)) p))
    (hbd.mv hx (fun _ _ _ _ _ z => z) (by omega) (fun _ _ => rfl) (fun _ _ => rfl) (Nat.le_refl _) (fun _ _ => ⟨rfl, rfl, rfl⟩) (fun _ _ => rfl) (congrFun (a5 17 (by decide) (by decide) (by decide)) 0) (fun p _ => congrFun (a5 18 (by decide) (by decide) (by decide)) p))
theorem WQ.fault0 (h : WQ b0 n0 c k (g, R, f, C) M t y n) (hk : 120 * k ≤ 64800) {len : Nat} (hlen : C 0 1 = nI len) (hl : len ≤ 120) (x : Int32) :
    (bfault g R f C len x).2 = (pfault M x).1 ∧ WQ b0 n0 c (k + 1) (bfault g R f C len x).1 M t y n ∧ (bfault g R f C len x).1.2.1 26 = R 26 := by
  have h' := h
  refine ⟨(h.fault hk hlen hl x).2.1, ?_⟩
  obtain ⟨⟨⟨w1, w2, w3⟩, w4, w5⟩, ⟨⟨len', tx, v1, v2⟩, v3, v4⟩, ⟨⟨u1, u2⟩, u3⟩, ⟨q1, q2, q3⟩, -, hbd⟩ := h
  have v2 : C 0 1 = nI len' := v2
  have hl' := v1.1
  obtain rfl : len' = len := (nI_eq (by omega) (by omega)).mp (v2.symm.trans hlen)
  have u2 : t.1 ≤ 120 * k := u2
  have key : ∀ x : Int32, (x = 0 ∨ x = 1) → WQ b0 n0 c (k + 1) (bread g R f C len' x).1 M t y n ∧ (bread g R f C len' x).1.2.1 26 = R 26 := fun x hx01 => by
    have hz : (if x = 0 then (0 : Int32) else 8388608) = if x = 1 then 8388608 else 0 := by
      rcases hx01 with rfl | rfl <;> rfl
    obtain ⟨-, p2, -⟩ := PARSE (b0 := b0) (n0 := n0) (g := g) (R := R) (f := f) (C := C) (M := M) (t := t) (how := x) (z := x) v1 ⟨w2, w3⟩ v4 v3 u1 (by omega) hz
    have p2' : KB (g, R, f, brdC C x) ((bread g R f C len' x).1.1, (bread g R f C len' x).1.2.1, (bread g R f C len' x).1.2.2.1, (bread g R f C len' x).1.2.2.2) := p2
    exact ⟨h'.letgo0 hk p2', p2'.wr.2.2.2.2.1 26 (by decide) (by decide) (by decide)⟩
  by_cases x0 : x = 0
  · rw [bfault_0 x0]; exact key 0 (Or.inl rfl)
  · by_cases x1 : x = 1
    · rw [bfault_1 x1]; exact key 1 (Or.inr rfl)
    · rw [bfault_n x0 x1]
      exact ⟨WQ.same h' hk, rfl⟩
end OBS
