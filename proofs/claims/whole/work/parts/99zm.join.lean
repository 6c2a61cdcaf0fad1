/-! The two objects together: a call in both. -/
section JOIN
variable {b0 n0 c o k : Nat} {g G : zG} {f F M N : zI} {t t' : zTs} {y y' : zGs} {n n' : zNs} {R R' : zRf} {C C' : zI}
/-- what lies below n0 is of no account -/
theorem WR.mvf (h : WR b0 n0 c k (g, R, f, C) M t y n) (hk : 120 * k ≤ 65000) (hf : ∀ y, n0 ≤ y → F y = f y) : WR b0 n0 c k (g, R, F, C) M t y n := by
  obtain ⟨⟨⟨w1, w2, w3⟩, w4, w5⟩, ⟨hTX, v3, v4⟩, ⟨⟨u1, u2⟩, u3⟩, ⟨q1, q2, q3⟩, ⟨⟨i1, i2⟩, i3, i4, i5⟩, hbd⟩ := h
  have u2 : t.1 ≤ 120 * k := u2
  have hx : zLe g g ∧ ZZ n0 g (fun _ => False) ∧ ∀ y, n0 ≤ y → y < g.1 → ¬ False → g.2.2.2 y = g.2.2.2 y ∧ (g.2.1 y ≠ 1 → F y = f y) ∧ ∀ k, k < 8 → F y k = f y k := ⟨zLe.rf, ZZ.non n0 _, fun y hy _ _ => ⟨rfl, fun _ => hf y hy, fun _ _ => by rw [hf y hy]⟩⟩
  have hT : TR b0 n0 g F (M 1) t := TR.mv (Z := fun _ => False) q1.base.1.1 hx
  have hQ : RQ b0 n0 (g, F, M, t, y, n) R C (201 * k) := q1.mv (Z := fun _ => False) ⟨hx, fun _ _ => rfl, Nat.le_refl _, fun _ _ => rfl, fun _ _ => ⟨rfl, rfl, rfl⟩⟩ hT (fun _ _ => rfl) ⟨⟨rfl, rfl, fun _ _ _ _ => rfl, rfl⟩, fun _ _ => rfl, fun _ _ => rfl, fun _ _ => rfl, fun _ _ => rfl, fun _ _ _ => rfl⟩ ⟨fun _ _ => rfl, ⟨rfl, rfl, rfl, rfl⟩, ⟨rfl, rfl⟩, rfl, fun _ _ => rfl⟩ q1.2.2.1
  have him : ∀ i, i < 2 → IMG b0 n0 g f M t R (201 * k) i → IMG b0 n0 g F M t R (201 * k) i := fun i _ hi => hi.mv (Nat.le_refl _) hx ⟨Nat.le_refl _, fun _ _ => rfl, fun _ _ => ⟨rfl, rfl, rfl⟩⟩ hT (fun _ _ => rfl) (fun _ _ => rfl) (fun a ha _ j _ => ⟨rfl, hf _ (by have := (hi.some ha).2; omega)⟩) rfl
  have himb : ∀ i, i < 2 → IMB b0 n0 g f M t R i → IMB b0 n0 g F M t R i := fun i _ hb a ha => ⟨(hb a ha).1, (hb a ha).2.mv hx (fun _ _ _ _ _ z => z) (by omega) (fun _ _ => rfl) (fun _ _ => rfl) (Nat.le_refl _) (fun _ _ => ⟨rfl, rfl, rfl⟩) (fun _ _ => rfl) rfl (fun _ _ => rfl)⟩
  have hBD : BOD b0 n0 g F M t R := hbd.mv hx (fun _ _ _ _ _ z => z) (by omega) (fun _ _ => rfl) (fun _ _ => rfl) (Nat.le_refl _) (fun _ _ => ⟨rfl, rfl, rfl⟩) (fun _ _ => rfl) rfl (fun _ _ => rfl)
  exact ⟨⟨⟨w1, w2, w3⟩, w4, w5⟩, ⟨hTX, v3, v4⟩, ⟨⟨u1, u2⟩, u3⟩, ⟨hQ, q2, q3⟩, ⟨⟨him 0 (by omega) i1, him 1 (by omega) i2⟩, i3, himb 0 (by omega) i4, himb 1 (by omega) i5⟩, hBD⟩
theorem rv_eq {H : zI} (h : ∀ j, j < 20 → H (o + j) = M j) : rv o H M = H := by
  funext b
  unfold rv
  by_cases q : o ≤ b ∧ b < o + 20
  · rw [if_pos q, ← h (b - o) (by omega), show o + (b - o) = b by omega]
  · rw [if_neg q]
theorem rv_cv (h : c + 27 ≤ o) : rv o (cv c F C) N = cv c (rv o F N) C := by
  funext b
  unfold rv cv
  by_cases q : o ≤ b ∧ b < o + 20
  · rw [if_pos q, if_neg (show ¬ (c ≤ b ∧ b < c + 27) by omega)]
    exact (if_pos q).symm
  · rw [if_neg q]
    by_cases z : c ≤ b ∧ b < c + 27
    · rw [if_pos z, if_pos z]
    · rw [if_neg z, if_neg z]
      exact (if_neg q).symm
theorem RW.mv (h : RW b0 g o) (hl : zLe g G) (he : G.2.2.2 o = g.2.2.2 o) : RW b0 G o := by
  refine ⟨h.1.le hl, fun q hq => ?_⟩
  obtain ⟨h1, h2, h3⟩ := h.2 q hq
  exact ⟨by rw [he]; exact h1, h2.le hl, (hl.2 _ h2.2.1).2.trans h3⟩
/-- the two objects lie in the heap, k calls in -/
def JS (b0 n0 c o k : Nat) (g : zG) (f : zI) : Prop := ∃ g0 R f0 C M t y n, (g = gv c g0 R ∧ f = cv c f0 C) ∧ (CW b0 g0 c ∧ CF c R ∧ zOK b0 zNo (gv c g0 R)) ∧ (RW b0 (gv c g0 R) o ∧ c + 27 ≤ o ∧ o + 20 ≤ n0 ∧ ∀ j, j < 20 → f0 (o + j) = M j) ∧ WR b0 n0 c k (g0, R, f0, C) M t y n
/-- the length of the class's text -/
def Ln (c : Nat) (f : zI) : Nat := tn (f c 1)
/-- what a call may cost in cells: texts grow by calls that cost none -/
def Tk (L L' mc : Nat) : Prop := (L' = L + 1 ∧ mc = 0) ∨ ((L' = L ∨ L' = 0) ∧ mc ≤ 364 ∧ (L ≤ 112 → mc ≤ 340))
theorem Tk.le {L L' a b : Nat} (h : Tk L L' a) (k : b ≤ a) : Tk L L' b := by
  unfold Tk at h ⊢
  omega
theorem Tk.all {L L' a : Nat} (h : Tk L L' a) : a ≤ 364 := by
  unfold Tk at h
  omega
theorem Tk.same {x y : Int32} {a : Nat} (e : y = x) (h : a ≤ 340) : Tk (tn x) (tn y) a := by
  subst e
  exact Or.inr ⟨Or.inl rfl, by omega, fun _ => h⟩
theorem Tk.text {x y : Int32} {a len : Nat} (e : y = x) (h : x = nI len) (hl : len ≤ 120) (ha : a ≤ 3 * len + 4) : Tk (tn x) (tn y) a := by
  subst e
  have : tn y = len := by rw [h]; exact tn_nI (by omega)
  exact Or.inr ⟨Or.inl rfl, by omega, fun _ => by omega⟩
theorem Ln_cv {c : Nat} {f C : zI} : Ln c (cv c f C) = tn (C 0 1) := by
  have h := congrFun (cv_at (c := c) (f := f) (C := C) (j := 0) (by decide)) 1
  exact congrArg tn h
/-- a call in both, one behind the other: alike answers, and both lie there again -/
def JP (l : Launch) (d : Nat) (D : zD) (b0 n0 c o k : Nat) (f : zI) (mi' : zMI) (av : List Value) : zP := fun r g1 f1 mc ms => mc ≤ 364 ∧ ms ≤ 11256 ∧ zIn b0 g1 o 12 ∧ Tk (Ln c f) (Ln c f1) mc ∧ ∃ z, r = some (.int z) ∧ zM l d D b0 mi' (.ref o :: av) g1 f1 (fun r2 g2 f2 mc2 ms2 => mc2 = 0 ∧ ms2 = 0 ∧ r2 = some (.int z) ∧ JS b0 n0 c o (k + 1) g2 f2 ∧ Ln c f2 = Ln c f1)
theorem JP.mk {l : Launch} {d : Nat} {D : zD} {mi mi' : zMI} {av : List Value} {x x' : Int32} {c1 c2 : Nat} (hRW : RW b0 (gv c g R) o) (hco : c + 27 ≤ o) (hon : o + 20 ≤ n0) (hfo : ∀ j, j < 20 → f (o + j) = M j) (hng : n0 ≤ g.1) (hk : 120 * (k + 1) ≤ 65000)
    (hB : zM l d D b0 mi (.ref (c + 0) :: av) (gv c g R) (cv c f C) (zCy b0 zNo c g (some (.int x)) G R' F C' c1 c2)) (hT : Tk (tn (C 0 1)) (tn (C' 0 1)) c1) (hc2 : c2 ≤ 11256) (hR : ∀ (g' : zG) (f' : zI), RW b0 g' o → zM l d D b0 mi' (.ref o :: av) g' (rv o f' M) (zEx (some (.int x')) g' (rv o f' N))) (hx : x = x') (hF' : CF c R')
    (hO : ∀ j, j < 20 → G.2.2.2 (o + j) = g.2.2.2 (o + j) ∧ F (o + j) = f (o + j)) (hWR : WR b0 n0 c (k + 1) (G, R', F, C') N t' y' n') : zM l d D b0 mi (.ref c :: av) (gv c g R) (cv c f C) (JP l d D b0 n0 c o k (cv c f C) mi' av) := by
  refine hB.mono (fun r g1 f1 mc ms h => ?_)
  obtain ⟨rfl, rfl, rfl, h1, h2, h3, h4, h5⟩ := h
  have hRW' : RW b0 (gv c G R') o := by
    refine hRW.mv (G := gv c G R') ⟨h4.1, h4.2⟩ ?_
    have := (hO 0 (by decide)).1
    rw [Nat.add_zero] at this
    rw [gv_out (by omega), gv_out (by omega)]; exact this
  refine ⟨Nat.le_trans h1 hT.all, by omega, hRW'.1, by rw [Ln_cv, Ln_cv]; exact hT.le h1, x, rfl, ?_⟩
  have hf1 : rv o (cv c F C') M = cv c F C' := rv_eq (fun j hj => by
    rw [cv_out (by omega), (hO j hj).2]; exact hfo j hj)
  rw [← hf1]
  refine (hR (gv c G R') (cv c F C') hRW').mono (fun r2 g2 f2 mc2 ms2 h => ?_)
  obtain ⟨rfl, rfl, rfl, rfl, rfl⟩ := h
  refine ⟨rfl, rfl, by rw [hx], ⟨G, R', rv o F N, C', N, t', y', n', ⟨rfl, rv_cv hco⟩, ⟨h5, hF', h3⟩, ⟨hRW', hco, hon, fun j hj => rv_at hj⟩, hWR.mvf hk (fun y hy => rv_out (by omega))⟩, by rw [hf1, rv_cv hco, Ln_cv, Ln_cv]⟩
theorem CF.kf {S T : bSt} (h : CF c S.2.1) (k : KF S T) : CF c T.2.1 := by
  obtain ⟨-, -, -, k4, k5, -⟩ := k
  refine h.of (fun q hq => ?_)
  have hk := (show ∀ q ∈ bF, (q.1 = 17 ∧ q.2.1 ≠ 4 ∧ q.2.1 ≠ 5) ∨ (q.1 ≠ 14 ∧ q.1 ≠ 17 ∧ q.1 ≠ 20) by decide) q hq
  rcases hk with ⟨h1, h2, h3⟩ | ⟨h1, h2, h3⟩
  · rw [h1]; exact k5 q.2.1 h2 h3
  · rw [k4 q.1 h1 h2 h3]
theorem KF.low {S T : bSt} (k : KF S T) {a : Nat} (ha : a < S.1.1) : T.1.2.2.2 a = S.1.2.2.2 a ∧ T.2.2.1 a = S.2.2.1 a := ⟨k.1.2 a ha, k.2.1 a ha⟩
/-- a call that only tells -/
theorem zEx.cy {l : Launch} {d : Nat} {D : zD} {mi : zMI} {av : List Value} {r : Option Value} (hW : CW b0 g c) (hw : zOK b0 zNo (gv c g R)) (h : zM l d D b0 mi av (gv c g R) (cv c f C) (zEx r (gv c g R) (cv c f C))) : zM l d D b0 mi av (gv c g R) (cv c f C) (zCy b0 zNo c g r g R f C 0 0) :=
  h.mono (fun r' g' f' mc ms q => by
    obtain ⟨rfl, rfl, rfl, rfl, rfl⟩ := q
    exact ⟨rfl, rfl, rfl, Nat.le_refl _, Nat.le_refl _, hw, zLe.rf, hW⟩)
end JOIN
