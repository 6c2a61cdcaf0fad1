/-! A text is read, in both: an expression begins. -/
section NEWN
variable {b0 n0 fs : Nat} {S0 : bSt} {M0 : zI} {len : Nat} {tx : Nat → Nat} {g : zG} {f : zI} {R : zRf} {t : zTs} {m k : Nat}
/-- the trees with one node more -/
def tN (t : zTs) (a : Nat) (D : Nat → Prop) (r : Prop) : zTs := (t.1 + 1, up1 t.2.1 t.1 a, up1 t.2.2.1 t.1 D, up1 t.2.2.2 t.1 r)
theorem tN_o {t : zTs} {a n : Nat} {D : Nat → Prop} {r : Prop} (h : n < t.1) : (tN t a D r).2.1 n = t.2.1 n ∧ (tN t a D r).2.2.1 n = t.2.2.1 n ∧ (tN t a D r).2.2.2 n = t.2.2.2 n := ⟨up1_ne (by omega), up1_ne (by omega), up1_ne (by omega)⟩
theorem tN_n {t : zTs} {a : Nat} {D : Nat → Prop} {r : Prop} : (tN t a D r).2.1 t.1 = a ∧ (tN t a D r).2.2.1 t.1 = D ∧ (tN t a D r).2.2.2 t.1 = r := ⟨up1_at, up1_at, up1_at⟩
/-- a new expression's cells -/
theorem dx_o {x : Int32} : zXt g (dxG (znG g 1 0) g.1 x) ∧ (∀ y, y < g.1 → dxF (znG g 1 0) (znI g f) g.1 x y = f y) ∧ (dxG (znG g 1 0) g.1 x).2.1 g.1 = 1 ∧ g.1 < (dxG (znG g 1 0) g.1 x).1 ∧ dxF (znG g 1 0) (znI g f) g.1 x g.1 0 = x ∧ (∀ k, k ≠ 5 → k ≠ 6 → (dxG (znG g 1 0) g.1 x).2.2.2 g.1 k = none) ∧ (∀ k, k ≠ 0 → dxF (znG g 1 0) (znI g f) g.1 x g.1 k = 0) := by
  by_cases q : x = 123
  · have e : dxG (znG g 1 0) g.1 x = zpR (znG (zpR (znG (znG g 1 0) 14 7) g.1 5 (some (g.1 + 1))) 13 7) g.1 6 (some (g.1 + 1 + 1)) := if_pos q
    have e2 : dxF (znG g 1 0) (znI g f) g.1 x = znI (zpR (znG (znG g 1 0) 14 7) g.1 5 (some (g.1 + 1))) (znI (znG g 1 0) (zup (znI g f) g.1 0 x)) := if_pos q
    rw [e, e2]
    refine ⟨⟨⟨by show g.1 ≤ g.1 + 1 + 1 + 1; omega, fun y hy => ⟨?_, ?_⟩⟩, fun y hy => ?_⟩, fun y hy => ?_, ?_, by show g.1 < g.1 + 1 + 1 + 1; omega, ?_, fun k h5 h6 => ?_, fun k h0 => ?_⟩
    · show zu1 (zu1 (zu1 g.2.1 g.1 1) (g.1 + 1) 14) (g.1 + 1 + 1) 13 y = _
      simp (disch := omega) only [zu1_ne]
    · show zu1 (zu1 (zu1 g.2.2.1 g.1 0) (g.1 + 1) 7) (g.1 + 1 + 1) 7 y = _
      simp (disch := omega) only [zu1_ne]
    · show zup (zu1 (zup (zu1 (zu1 g.2.2.2 g.1 _) (g.1 + 1) _) g.1 5 _) (g.1 + 1 + 1) _) g.1 6 _ y = _
      simp (disch := omega) only [zu1_ne, zup_r]
    · show zu1 (zu1 (zup (zu1 f g.1 _) g.1 0 x) (g.1 + 1) _) (g.1 + 1 + 1) _ y = _
      simp (disch := omega) only [zu1_ne, zup_r]
    · show zu1 (zu1 (zu1 g.2.1 g.1 1) (g.1 + 1) 14) (g.1 + 1 + 1) 13 g.1 = _
      simp (disch := omega) only [zu1_ne, zu1_at]
    · show zu1 (zu1 (zup (zu1 f g.1 _) g.1 0 x) (g.1 + 1) _) (g.1 + 1 + 1) _ g.1 0 = _
      simp (disch := omega) only [zu1_ne, zu1_at, zup_at]
    · show zup (zu1 (zup (zu1 (zu1 g.2.2.2 g.1 _) (g.1 + 1) _) g.1 5 _) (g.1 + 1 + 1) _) g.1 6 _ g.1 k = _
      rw [zup_ne _ _ _ _ (Or.inr h6), zu1_ne _ _ _ (by omega), zup_ne _ _ _ _ (Or.inr h5), zu1_ne _ _ _ (by omega), zu1_at]
    · show zu1 (zu1 (zup (zu1 f g.1 _) g.1 0 x) (g.1 + 1) _) (g.1 + 1 + 1) _ g.1 k = _
      rw [zu1_ne _ _ _ (by omega), zu1_ne _ _ _ (by omega), zup_ne _ _ _ _ (Or.inr h0), zu1_at]
  · have e : dxG (znG g 1 0) g.1 x = znG g 1 0 := if_neg q
    have e2 : dxF (znG g 1 0) (znI g f) g.1 x = zup (znI g f) g.1 0 x := if_neg q
    rw [e, e2]
    refine ⟨zXt.new _ _ _, fun y hy => ?_, zu1_at _ _ _, Nat.lt_succ_self _, zup_at _ _ _ _, fun k _ _ => ?_, fun k h0 => ?_⟩
    · rw [zup_r (by omega)]; exact zu1_ne _ _ _ (by omega)
    · show zu1 g.2.2.2 g.1 _ g.1 k = _
      rw [zu1_at]
    · rw [zup_ne _ _ _ _ (Or.inr h0)]
      show zu1 f g.1 _ g.1 k = _
      rw [zu1_at]
theorem dx_n {x : Int32} (hx : ¬ x = 123) : (dxG (znG g 1 0) g.1 x).1 = g.1 + 1 ∧ ∀ k, (dxG (znG g 1 0) g.1 x).2.2.2 g.1 k = none := by
  have e : dxG (znG g 1 0) g.1 x = znG g 1 0 := if_neg hx
  rw [e]
  exact ⟨rfl, fun k => congrFun (zu1_at _ _ _) k⟩
theorem dx_h : (dxG (znG g 1 0) g.1 123).1 = g.1 + 3 ∧ (dxG (znG g 1 0) g.1 123).2.2.2 g.1 5 = some (g.1 + 1) ∧ (dxG (znG g 1 0) g.1 123).2.2.2 g.1 6 = some (g.1 + 2) ∧ (dxG (znG g 1 0) g.1 123).2.1 (g.1 + 1) = 14 ∧ (dxG (znG g 1 0) g.1 123).2.1 (g.1 + 2) = 13 ∧
    (dxG (znG g 1 0) g.1 123).2.2.1 (g.1 + 1) = 7 ∧ (dxG (znG g 1 0) g.1 123).2.2.1 (g.1 + 2) = 7 ∧ ∀ k, (dxG (znG g 1 0) g.1 123).2.2.2 (g.1 + 1) k = none := by
  have e : dxG (znG g 1 0) g.1 123 = zpR (znG (zpR (znG (znG g 1 0) 14 7) g.1 5 (some (g.1 + 1))) 13 7) g.1 6 (some (g.1 + 1 + 1)) := if_pos rfl
  rw [e]
  refine ⟨rfl, ?_, zup_at _ _ _ _, ?_, zu1_at _ _ _, ?_, zu1_at _ _ _, fun k => ?_⟩
  · show zup (zu1 (zup (zu1 (zu1 g.2.2.2 g.1 _) (g.1 + 1) _) g.1 5 _) (g.1 + 1 + 1) _) g.1 6 _ g.1 5 = _
    rw [zup_ne _ _ _ _ (by omega), zu1_ne _ _ _ (by omega), zup_at]
  · show zu1 (zu1 (zu1 g.2.1 g.1 1) (g.1 + 1) 14) (g.1 + 1 + 1) 13 (g.1 + 1) = _
    rw [zu1_ne _ _ _ (by omega), zu1_at]
  · show zu1 (zu1 (zu1 g.2.2.1 g.1 0) (g.1 + 1) 7) (g.1 + 1 + 1) 7 (g.1 + 1) = _
    rw [zu1_ne _ _ _ (by omega), zu1_at]
  · show zup (zu1 (zup (zu1 (zu1 g.2.2.2 g.1 _) (g.1 + 1) _) g.1 5 _) (g.1 + 1 + 1) _) g.1 6 _ (g.1 + 1) k = _
    rw [zup_r (by omega), zu1_ne _ _ _ (by omega), zup_r (by omega), zu1_at]
/-- where the new expression is entered: at which object's which place -/
def wh (t : zTs) (e : Ent) : Nat × Nat := if e.2.2.2.1 = 0 then (t.2.1 e.1, 2 + e.2.2.1) else (t.2.1 e.1 + 1, e.2.2.2.2)
theorem batt_e {C M : zI} {e : Ent} {L : List Ent} {ub a : Nat} {nx : Option Nat} {G : zG} (h : STK b0 n0 fs g f R C M t (e :: L) ub nx) (hG : zXt g G) (hn : ¬ (e.2.1 = 15 ∧ e.2.2.1 = 1 ∧ e.2.2.2.1 = 0)) : batt G C (L.length + 1) ((R 4 (L.length + 1)).getD 0) a = zpR G (wh t e).1 (wh t e).2 (some a) := by
  obtain ⟨⟨⟨b1, b2, b3, b4, b5⟩, ⟨p1, p2, -⟩, -, ⟨-, f2, -⟩, -, hno, hh, hcl⟩, ⟨⟨-, ⟨r5, r6⟩, -, -, r10⟩, -⟩, -⟩ := h
  have p2 : zIn b0 g (t.2.1 e.1) 1 := p2
  have hw : (R 4 (L.length + 1)).getD 0 = t.2.1 e.1 := by rw [r5]; rfl
  have hari := (sgn_p e.2.1 (by omega) b4).2.2.2.2.2
  have eg : G.2.2.2 (t.2.1 e.1) = g.2.2.2 (t.2.1 e.1) := hG.rw p2
  rw [hw]
  unfold wh
  by_cases cz : e.2.2.2.1 = 0
  · rw [if_pos cz]
    by_cases k15 : e.2.1 = 15
    · have hp : e.2.2.1 = 0 := by
        rcases f2 with f2 | f2
        · rw [k15] at f2; have : ari 15 = 1 := rfl; omega
        · exact absurd ⟨k15, f2.2, cz⟩ hn
      rw [hp]
      exact batt_0 (by rw [r6, hp]; rfl)
    · have hp : e.2.2.1 < ari e.2.1 := f2.resolve_right (fun z => k15 z.1)
      have hs : e.2.2.1 = 0 ∨ e.2.2.1 = 1 ∨ e.2.2.1 = 2 := by omega
      rcases hs with hs | hs | hs <;> rw [hs] at r6 ⊢
      · exact batt_0 (by rw [r6]; rfl)
      · exact batt_n (by rw [r6]; rfl) (by rw [eg]; exact (hno k15).1)
      · exact batt_2 (by rw [r6]; decide) (by rw [r6]; decide)
  · obtain ⟨⟨k15, kp⟩, -⟩ := hcl cz
    obtain ⟨w1, -⟩ := r10 cz
    have w7 := (hcl cz).2.2.2.2.2.2.1
    obtain ⟨⟨q5, -⟩, -⟩ := hh k15
    rw [if_neg cz, batt_s (b := t.2.1 e.1 + 1) (by rw [r6, kp]; rfl) (by rw [eg]; exact q5), w1, tn_nI (by omega)]
theorem zpR_o {G : zG} {a j b : Nat} {v : Option Nat} (h : b ≠ a) : (zpR G a j v).2.2.2 b = G.2.2.2 b := zup_r h
theorem zpR_le (G : zG) (a j : Nat) (v : Option Nat) : zLe G (zpR G a j v) := ⟨Nat.le_refl _, fun _ _ => ⟨rfl, rfl⟩⟩
/-- the heap grows by a new expression; all old nodes stay -/
theorem NEW.ag0 {s0 : Nat} {x : Int32} {M M' : zI} {D : Nat → Prop} {r : Prop} (hF : FRS s0 fs g M t) (hb : t.1 ≤ 65536) (hT : ∀ j, j < 5 * t.1 → M' 1 j = M 1 j) : AG b0 fs t.1 (fun _ => True) g f (M 1) t (dxG (znG g 1 0) g.1 x) (dxF (znG g 1 0) (znI g f) g.1 x) (M' 1) (tN t g.1 D r) := by
  obtain ⟨z1, z2, -⟩ := dx_o (g := g) (f := f) (x := x)
  refine ⟨z1.1, fun n n0' n1 _ => ⟨fun h => ?_, fun h => ?_⟩, fun n _ h => hT _ (by omega), fun n _ h _ j hj => hT _ (by omega), fun n _ h _ _ j hj => hT _ (by omega), fun n _ h => tN_o h, hb⟩
  · obtain ⟨q1, q2, q3, -⟩ := hF.1 n n0' n1 h
    exact ⟨z1.2 _ q2, z2 _ q2⟩
  · obtain ⟨q1, q2, q3, q4⟩ := hF.1 n n0' n1 (by rw [h]; decide)
    obtain ⟨q5, -⟩ := q4 h
    exact ⟨z1.2 _ (by omega), z2 _ q5⟩
theorem NEW.ag {s0 : Nat} {x : Int32} {M M' : zI} {D : Nat → Prop} {r : Prop} {e : Ent} (hF : FRS s0 fs g M t) (hb : t.1 ≤ 65536) (hT : ∀ j, j < 5 * t.1 → M' 1 j = M 1 j) (h1 : PEc b0 n0 fs g f (M 1) (t.1, t.2) e none) : AG b0 fs t.1 (fun n => n ≠ e.1) g f (M 1) t (zpR (dxG (znG g 1 0) g.1 x) (wh t e).1 (wh t e).2 (some g.1)) (dxF (znG g 1 0) (znI g f) g.1 x) (M' 1) (tN t g.1 D r) := by
  have h0 := NEW.ag0 (b0 := b0) (f := f) (x := x) (D := D) (r := r) hF hb hT
  obtain ⟨⟨b1, b2, b3, b4, b5⟩, -, -, -, -, -, -, hcl⟩ := h1
  have b2 : e.1 < t.1 := b2
  have e16 : ¬ M 1 (5 * e.1) = nI 16 := by rw [b3]; exact fun z => absurd ((nI_eq (b := 16) (by omega) (by decide)).mp z) (by omega)
  obtain ⟨a1, a2, a3, a4, a5, a6, a7⟩ := h0
  obtain ⟨s1, s2, s3, s4⟩ := hF.1 e.1 b1 b2 e16
  have hw : (wh t e).1 = t.2.1 e.1 ∨ ((wh t e).1 = t.2.1 e.1 + 1 ∧ g.2.1 (t.2.1 e.1 + 1) = 14) := by
    unfold wh
    by_cases cz : e.2.2.2.1 = 0
    · rw [if_pos cz]; exact Or.inl rfl
    · rw [if_neg cz]
      exact Or.inr ⟨rfl, (s4 (by rw [b3, (hcl cz).1.1])).2.1⟩
  have hne : ∀ n, fs ≤ n → n < t.1 → n ≠ e.1 → ¬ M 1 (5 * n) = nI 16 → t.2.1 n ≠ t.2.1 e.1 := by
    intro n c1 c2 c3 c4
    rcases Nat.lt_or_gt_of_ne c3 with q | q
    · have := hF.2 n e.1 c1 q b2 c4 e16; omega
    · have := hF.2 e.1 n b1 q c2 e16 c4; omega
  refine ⟨a1.tr (zpR_le _ _ _ _), fun n n0' n1 hn => ⟨fun h => ?_, fun h => ?_⟩, a3, fun n c1 c2 _ => a4 n c1 c2 trivial, fun n c1 c2 c3 _ => a5 n c1 c2 c3 (Or.inl trivial), a6, a7⟩
  · obtain ⟨q1, q2⟩ := (a2 n n0' n1 trivial).1 h
    obtain ⟨r1, r2, r3, -⟩ := hF.1 n n0' n1 h
    refine ⟨(zpR_o ?_).trans q1, q2⟩
    rcases hw with hw | ⟨hw, hw2⟩ <;> rw [hw]
    · exact hne n n0' n1 hn h
    · exact fun z => by rw [← z, r3] at hw2; exact absurd hw2 (by decide)
  · have h16 : ¬ M 1 (5 * n) = nI 16 := by rw [h]; decide
    obtain ⟨q1, q2⟩ := (a2 n n0' n1 trivial).2 h
    obtain ⟨r1, r2, r3, r4⟩ := hF.1 n n0' n1 h16
    obtain ⟨r5, r6, r7⟩ := r4 h
    refine ⟨(zpR_o ?_).trans q1, q2⟩
    rcases hw with hw | ⟨hw, hw2⟩ <;> rw [hw]
    · exact fun z => by rw [z, s3] at r6; exact absurd r6 (by decide)
    · have := hne n n0' n1 hn h16; omega
/-- the new expression stands where the open one's next part does -/
theorem PEc.att {G : zG} {F : zI} {T : Nat → Int32} {ub a : Nat} {e : Ent} (h : PEc b0 n0 fs G F T (ub, t.2) e none) (hn : ¬ (e.2.1 = 15 ∧ e.2.2.1 = 1 ∧ e.2.2.2.1 = 0)) : PEc b0 n0 fs (zpR G (wh t e).1 (wh t e).2 (some a)) F T (ub, t.2) e (some a) := by
  obtain ⟨⟨b1, b2, b3, b4, b5⟩, hp, hd, ⟨f1, f2, f3⟩, ho, hno, hh, hcl⟩ := h
  have hari := (sgn_p e.2.1 (by omega) b4).2.2.2.2.2
  by_cases cz : e.2.2.2.1 = 0
  · have hw : wh t e = (t.2.1 e.1, 2 + e.2.2.1) := if_pos cz
    rw [hw]
    have hp2 : e.2.2.1 ≤ 2 := by
      rcases f2 with q | q <;> omega
    have n15 : ¬ (e.2.1 = 15 ∧ e.2.2.1 = 1) := fun z => hn ⟨z.1, z.2, cz⟩
    have oG : ∀ j, j ≠ 2 + e.2.2.1 → (zpR G (t.2.1 e.1) (2 + e.2.2.1) (some a)).2.2.2 (t.2.1 e.1) j = G.2.2.2 (t.2.1 e.1) j := fun j hj => zup_ne _ _ _ _ (Or.inr hj)
    have oG1 : (zpR G (t.2.1 e.1) (2 + e.2.2.1) (some a)).2.2.2 (t.2.1 e.1 + 1) = G.2.2.2 (t.2.1 e.1 + 1) := zpR_o (by omega)
    refine ⟨⟨b1, b2, b3, b4, b5⟩, hp, hd, ⟨fun i hi h3 => ?_, f2, fun i hi h3 => ?_⟩, fun q => ?_, fun q => ?_, fun q => ?_, hcl⟩
    · obtain ⟨p1, p2⟩ := f1 i hi h3
      refine ⟨fun z => ?_, fun z => ?_⟩
      · obtain ⟨mm, m1, m2, m3, m4, m5, m6, m7⟩ := p1 z
        exact ⟨mm, m1, m2, m3, m4, (oG _ (by omega)).trans m5, m6, m7⟩
      · exact (oG _ (by omega)).trans (p2 z)
    · by_cases q : i = e.2.2.1
      · rw [if_pos ⟨q, n15⟩, q]; exact zup_at _ _ _ _
      · rw [if_neg (fun z => q z.1)]
        refine (oG _ (by omega)).trans ((f3 i hi h3).trans (if_neg (fun z => q z.1)))
    · obtain ⟨z1, h, z2, z3, z4, z5, z6⟩ := ho q
      exact ⟨z1, h, z2, z3, z4, z5, (oG _ (by omega)).trans z6⟩
    · exact ⟨(oG _ (by omega)).trans (hno q).1, (oG _ (by omega)).trans (hno q).2⟩
    · obtain ⟨⟨z1, z2, z3, z4, z5, z6⟩, qs, y1, y2, y3, y4, y5⟩ := hh q
      refine ⟨⟨(oG _ (by omega)).trans z1, (oG _ (by omega)).trans z2, z3, z4, z5, z6⟩, qs, y1, y2, fun q hq => ?_, fun w' hw' hq => ?_, y5⟩
      · obtain ⟨q1, q2, q3, w, b, v, c1, c2, c3, c4, c5, c6, c7, c8, c9, c10⟩ := y3 q hq
        exact ⟨q1, q2, q3, w, b, v, c1, c2, c3, c4, c5, c6, c7, c8, (congrFun oG1 w).trans c9, c10⟩
      · refine (congrFun oG1 w').trans ((y4 w' hw' hq).trans ?_)
        rw [if_neg (fun z => z.1 cz), if_neg (fun z => z.1 cz)]
  · have hw : wh t e = (t.2.1 e.1 + 1, e.2.2.2.2) := if_neg cz
    rw [hw]
    obtain ⟨⟨k15, kp⟩, hcl'⟩ := hcl cz
    have oG : (zpR G (t.2.1 e.1 + 1) e.2.2.2.2 (some a)).2.2.2 (t.2.1 e.1) = G.2.2.2 (t.2.1 e.1) := zpR_o (by omega)
    have oG1 : ∀ j, j ≠ e.2.2.2.2 → (zpR G (t.2.1 e.1 + 1) e.2.2.2.2 (some a)).2.2.2 (t.2.1 e.1 + 1) j = G.2.2.2 (t.2.1 e.1 + 1) j := fun j hj => zup_ne _ _ _ _ (Or.inr hj)
    refine ⟨⟨b1, b2, b3, b4, b5⟩, hp, hd, ⟨fun i hi h3 => ?_, f2, fun i hi h3 => ?_⟩, fun q => by rw [k15] at q; exact absurd q (by decide), fun q => absurd k15 q, fun q => ?_, hcl⟩
    · obtain ⟨p1, p2⟩ := f1 i hi h3
      refine ⟨fun z => ?_, fun z => ?_⟩
      · obtain ⟨mm, m1, m2, m3, m4, m5, m6, m7⟩ := p1 z
        exact ⟨mm, m1, m2, m3, m4, (congrFun oG _).trans m5, m6, m7⟩
      · exact (congrFun oG _).trans (p2 z)
    · refine (congrFun oG _).trans ((f3 i hi h3).trans ?_)
      rw [if_neg (fun z => z.2 ⟨k15, kp⟩), if_neg (fun z => z.2 ⟨k15, kp⟩)]
    · obtain ⟨⟨z1, z2, z3, z4, z5, z6⟩, qs, y1, y2, y3, y4, y5⟩ := hh q
      refine ⟨⟨(congrFun oG _).trans z1, (congrFun oG _).trans z2, z3, z4, z5, z6⟩, qs, y1, y2, fun q hq => ?_, fun w' hw' hq => ?_, y5⟩
      · obtain ⟨q1, q2, q3, w, b, v, c1, c2, c3, c4, c5, c6, c7, c8, c9, c10⟩ := y3 q hq
        exact ⟨q1, q2, q3, w, b, v, c1, c2, c3, c4, c5, c6, c7, c8, (oG1 w (fun z => y5 cz q hq (by rw [c2, z]))).trans c9, c10⟩
      · by_cases ww : w' = e.2.2.2.2
        · rw [if_pos ⟨cz, ww⟩, ww]; exact zup_at _ _ _ _
        · rw [if_neg (fun z => ww z.2)]
          exact (oG1 w' ww).trans ((y4 w' hw' hq).trans (if_neg (fun z => ww z.2)))
/-- where a new expression is entered -/
def gA (t : zTs) (G : zG) (a : Nat) : List Ent → zG
  | [] => G
  | e :: _ => zpR G (wh t e).1 (wh t e).2 (some a)
theorem gA_le {G : zG} {a : Nat} (L : List Ent) : zLe G (gA t G a L) := by
  cases L with
  | nil => exact zLe.rf
  | cons e L => exact zpR_le _ _ _ _
/-- an expression begins: the stack, the old nodes, the frame -/
theorem PS.new {C C' M M' : zI} {R' : zRf} {L : List Ent} {x : Int32} {D : Nat → Prop} {r : Prop} (h : PS b0 n0 fs S0 M0 len tx g f R C M t L m k none) (hL : NX L ∨ L = []) (hT : ∀ j, j < 5 * t.1 → M' 1 j = M 1 j) (hb0 : b0 ≤ g.1)
    (hAR : AR R R' C C' M M' L.length (opn L)) (hKC : (∀ r, r ≠ 2 → r ≠ 5 → r ≠ 6 → r ≠ 7 → C' r = C r) ∧ (∀ r, r ≠ 3 → r ≠ 4 → r ≠ 8 → R' r = R r) ∧ R' 8 0 = R 8 0 ∧ ∀ k, iv 7 (C' 6 k)) :
    badd g R f C x L.length m = (gA t (dxG (znG g 1 0) g.1 x) g.1 L, zup R 3 m (some g.1), dxF (znG g 1 0) (znI g f) g.1 x, zup C 2 1 (C 2 1 + 1)) ∧
    STK b0 n0 fs (gA t (dxG (znG g 1 0) g.1 x) g.1 L) (dxF (znG g 1 0) (znI g f) g.1 x) R' C' M' (tN t g.1 D r) L t.1 (some g.1) ∧
    (∀ n, fs ≤ n → n < t.1 → (∃ e ∈ L, e.1 = n) ∨ M' 1 (5 * n) = nI 16 ∨ ∃ κ, κ ≤ 15 ∧ M' 1 (5 * n) = nI κ ∧ EN b0 n0 (gA t (dxG (znG g 1 0) g.1 x) g.1 L) (dxF (znG g 1 0) (znI g f) g.1 x) (M' 1) (t.1 + 1, (tN t g.1 D r).2) κ n ∧ (κ = 14 → ∃ h, fs ≤ h ∧ h < n ∧ M' 1 (5 * n + 4) = nI h)) ∧
    (∀ y, t.1 ≤ fs ∨ True → y = g.1 → ∀ j, (gA t (dxG (znG g 1 0) g.1 x) g.1 L).2.2.2 y j = (dxG (znG g 1 0) g.1 x).2.2.2 y j) ∧ (∀ y, g.1 ≤ y → (gA t (dxG (znG g 1 0) g.1 x) g.1 L).2.2.2 y = (dxG (znG g 1 0) g.1 x).2.2.2 y) ∧
    KB S0 (gA t (dxG (znG g 1 0) g.1 x) g.1 L, R', dxF (znG g 1 0) (znI g f) g.1 x, C') := by
  obtain ⟨hS, ⟨c0, ⟨c1, c2, c3, c4, c5⟩, ⟨c6, c7, c8, c9, c10, c11⟩, c12, c13⟩, hN, hFr, hK, hMB⟩ := h
  have hl := c0.1
  have hb : t.1 ≤ 65536 := by omega
  obtain ⟨z1, z2, z3, z4, z5, z6, z7⟩ := dx_o (g := g) (f := f) (x := x)
  have hs0 : S0.1.1 ≤ g.1 := hK.1.1.1
  have hnew : ∀ y, g.1 ≤ y → y < (dxG (znG g 1 0) g.1 x).1 → (dxG (znG g 1 0) g.1 x).2.1 y = 1 ∨ (dxG (znG g 1 0) g.1 x).2.1 y = 13 ∨ (dxG (znG g 1 0) g.1 x).2.1 y = 14 := by
    intro y y1 y2
    by_cases q : x = 123
    · subst q
      obtain ⟨w1, -, -, w4, w5, -⟩ := dx_h (g := g)
      rw [w1] at y2
      have hs : y = g.1 ∨ y = g.1 + 1 ∨ y = g.1 + 2 := by omega
      rcases hs with rfl | rfl | rfl
      · exact Or.inl z3
      · exact Or.inr (Or.inr w4)
      · exact Or.inr (Or.inl w5)
    · obtain ⟨w1, -⟩ := dx_n (g := g) q
      rw [w1] at y2
      obtain rfl : y = g.1 := by omega
      exact Or.inl z3
  have hex : ((dxG (znG g 1 0) g.1 x).2.2.2 g.1 5 = none ∧ (dxG (znG g 1 0) g.1 x).2.2.2 g.1 6 = none) ∨ ((dxG (znG g 1 0) g.1 x).2.2.2 g.1 5 = some (g.1 + 1) ∧ (dxG (znG g 1 0) g.1 x).2.2.2 g.1 6 = some (g.1 + 2) ∧ (dxG (znG g 1 0) g.1 x).2.2.1 (g.1 + 1) = 7 ∧ (dxG (znG g 1 0) g.1 x).2.2.1 (g.1 + 2) = 7 ∧ g.1 + 2 < (dxG (znG g 1 0) g.1 x).1) := by
    by_cases q : x = 123
    · subst q
      obtain ⟨w1, w2, w3, w4, w5, w6, w7, -⟩ := dx_h (g := g)
      exact Or.inr ⟨w2, w3, w6, w7, by omega⟩
    · obtain ⟨-, w2⟩ := dx_n (g := g) q
      exact Or.inl ⟨w2 5, w2 6⟩
  have htag : ∀ y, g.1 < y → y < (dxG (znG g 1 0) g.1 x).1 → ¬ (dxG (znG g 1 0) g.1 x).2.1 y = 1 := by
    intro y y1 y2
    by_cases q : x = 123
    · subst q
      obtain ⟨w1, -, -, w4, w5, -⟩ := dx_h (g := g)
      rw [w1] at y2
      have hs : y = g.1 + 1 ∨ y = g.1 + 2 := by omega
      rcases hs with rfl | rfl
      · rw [w4]; decide
      · rw [w5]; decide
    · obtain ⟨w1, -⟩ := dx_n (g := g) q
      rw [w1] at y2
      omega
  -- the frame, where the attached place is p
  have hKB : ∀ G : zG, zLe (dxG (znG g 1 0) g.1 x) G → G.1 = (dxG (znG g 1 0) g.1 x).1 → (∀ y, y < S0.1.1 → G.2.2.2 y = (dxG (znG g 1 0) g.1 x).2.2.2 y) → (∀ y, (dxG (znG g 1 0) g.1 x).2.1 y = 1 → G.2.2.2 y 5 = (dxG (znG g 1 0) g.1 x).2.2.2 y 5 ∧ G.2.2.2 y 6 = (dxG (znG g 1 0) g.1 x).2.2.2 y 6) → G.2.1 = (dxG (znG g 1 0) g.1 x).2.1 → G.2.2.1 = (dxG (znG g 1 0) g.1 x).2.2.1 → KB S0 (G, R', dxF (znG g 1 0) (znI g f) g.1 x, C') := by
    intro G g1 g2 g3 g4 g5 g6
    obtain ⟨⟨k1, k2⟩, k3, k4, k5, k6, k7, k8⟩ := hK
    refine ⟨⟨(k1.tr z1.1).tr g1, fun y hy => ⟨(g3 y hy).trans ((z1.2 y (by omega)).trans (k2 y hy).1), (z2 y (by omega)).trans (k2 y hy).2⟩⟩, fun r a b c d => (hKC.1 r a b c d).trans (k3 r a b c d), fun r a b c => (hKC.2.1 r a b c).trans (k4 r a b c), hKC.2.2.1.trans k5, fun y y1 y2 => ?_, fun a a1 a2 a3 => ?_, hKC.2.2.2⟩
    · have y2 : y < G.1 := y2
      show G.2.1 y = 1 ∨ G.2.1 y = 13 ∨ G.2.1 y = 14
      rw [g5]
      by_cases q : y < g.1
      · rw [(z1.1.2 y q).1]; exact k6 y y1 q
      · exact hnew y (by omega) (by omega)
    · have a2 : a < G.1 := a2
      have a3 : G.2.1 a = 1 := a3
      rw [g5] at a3
      show (G.2.2.2 a 5 = none ∧ G.2.2.2 a 6 = none) ∨ (G.2.2.2 a 5 = some (a + 1) ∧ G.2.2.2 a 6 = some (a + 2) ∧ G.2.2.1 (a + 1) = 7 ∧ G.2.2.1 (a + 2) = 7 ∧ a + 2 < G.1)
      rw [(g4 a a3).1, (g4 a a3).2, g6, g2]
      by_cases q : a < g.1
      · rw [z1.2 a q]
        rw [(z1.1.2 a q).1] at a3
        rcases k7 a a1 q a3 with w | ⟨w1, w2, w3, w4, w5⟩
        · exact Or.inl w
        · have w5 : a + 2 < g.1 := w5
          exact Or.inr ⟨w1, w2, (z1.1.2 _ (by omega)).2.trans w3, (z1.1.2 _ w5).2.trans w4, by omega⟩
      · by_cases q2 : a = g.1
        · subst q2; exact hex
        · exact absurd a3 (htag a (by omega) (by omega))
  cases L with
  | nil =>
    have h9 : ¬ 0 < C 2 9 := by rw [c12]; decide
    have hA := NEW.ag0 (b0 := b0) (f := f) (x := x) (D := D) (r := r) hFr hb hT
    refine ⟨badd_f h9, trivial, fun n n0' n1 => ?_, fun y _ _ j => rfl, fun y _ => rfl, hKB _ zLe.rf rfl (fun _ _ => rfl) (fun _ _ => ⟨rfl, rfl⟩) rfl rfl⟩
    rcases hN.1 n n0' n1 with q | q | ⟨κ, q1, q2, q3, q4⟩
    · exact Or.inl q
    · exact Or.inr (Or.inl ((hT _ (by omega)).trans q))
    · exact Or.inr (Or.inr ⟨κ, q1, (hT _ (by omega)).trans q2, q3.fr q2 q1 hA n0' n1 trivial (Nat.le_succ _) q4, by rw [hT _ (by omega)]; exact q4⟩)
  | cons e L =>
    have hn : ¬ (e.2.1 = 15 ∧ e.2.2.1 = 1 ∧ e.2.2.2.1 = 0) := by
      rcases hL with ⟨e', L', q1, q2⟩ | q
      · cases q1; exact q2
      · cases q
    have h9 : 0 < C 2 9 := by rw [c12]; exact nI_lt (a := 0) (b := L.length + 1) (by omega) (by have := opn_len (e :: L); have : (e :: L).length = L.length + 1 := rfl; omega)
    have hA0 := NEW.ag0 (b0 := b0) (f := f) (x := x) (D := D) (r := r) hFr hb hT
    have hS' := hS
    obtain ⟨h1, ⟨h2, h2n⟩, h3⟩ := hS
    have hA := NEW.ag (x := x) (D := D) (r := r) hFr hb hT h1
    have b1 : fs ≤ e.1 := h1.1.1
    have b2 : e.1 < t.1 := h1.1.2.1
    have wt : wh (tN t g.1 D r) e = wh t e := by unfold wh; rw [(tN_o b2).1]
    have hcu : ¬ e.2.2.2.1 = 0 → e.2.2.2.1 < t.1 := fun q => (h1.2.2.2.2.2.2.2 q).2.2.1
    have hc : ¬ e.2.2.2.1 = 0 → ∀ j, j < 5 → M' 1 (5 * e.2.2.2.1 + j) = M 1 (5 * e.2.2.2.1 + j) := fun q j hj => hT _ (by have := hcu q; omega)
    have hP1 := (PEc.fr h1 hA0 trivial (Nat.le_refl _) hc).att (a := g.1) hn
    rw [wt] at hP1
    have hse : S0.1.1 ≤ t.2.1 e.1 ∧ g.2.1 (t.2.1 e.1) = 1 ∧ t.2.1 e.1 < g.1 ∧ (¬ e.2.2.2.1 = 0 → g.2.1 (t.2.1 e.1 + 1) = 14 ∧ t.2.1 e.1 + 1 < g.1) := by
      obtain ⟨q1, q2, q3, q4⟩ := hFr.1 e.1 b1 b2 (by rw [h1.1.2.2.1]; exact fun z => absurd ((nI_eq (b := 16) (by have := h1.1.2.2.2.2; omega) (by decide)).mp z) (by have := h1.1.2.2.2.2; omega))
      refine ⟨q1, q3, q2, fun z => ?_⟩
      obtain ⟨w1, w2, -⟩ := q4 (by rw [h1.1.2.2.1, (h1.2.2.2.2.2.2.2 z).1.1])
      exact ⟨w2, by omega⟩
    have hwp : (wh t e).1 = t.2.1 e.1 ∧ 2 ≤ (wh t e).2 ∧ (wh t e).2 ≤ 4 ∨ (wh t e).1 = t.2.1 e.1 + 1 ∧ ¬ e.2.2.2.1 = 0 := by
      unfold wh
      by_cases cz : e.2.2.2.1 = 0
      · rw [if_pos cz]
        have hari := (sgn_p e.2.1 (by have := h1.1.2.2.2.2; omega) h1.1.2.2.2.1).2.2.2.2.2
        have f2 := h1.2.2.2.1.2.1
        refine Or.inl ⟨rfl, by show 2 ≤ 2 + e.2.2.1; omega, ?_⟩
        show 2 + e.2.2.1 ≤ 4
        rcases f2 with f2 | f2 <;> omega
      · rw [if_neg cz]; exact Or.inr ⟨rfl, cz⟩
    have hwo : ∀ y, (y < S0.1.1 ∨ g.1 ≤ y) → y ≠ (wh t e).1 := by
      intro y hy
      rcases hwp with ⟨w1, -⟩ | ⟨w1, w2⟩ <;> rw [w1]
      · omega
      · have := hse.2.2.2 w2; omega
    have hlast : ∀ y, g.1 ≤ y → (zpR (dxG (znG g 1 0) g.1 x) (wh t e).1 (wh t e).2 (some g.1)).2.2.2 y = (dxG (znG g 1 0) g.1 x).2.2.2 y := fun y hy => zpR_o (hwo y (Or.inr hy))
    have hbd : badd g R f C x (e :: L).length m = (zpR (dxG (znG g 1 0) g.1 x) (wh t e).1 (wh t e).2 (some g.1), zup R 3 m (some g.1), dxF (znG g 1 0) (znI g f) g.1 x, zup C 2 1 (C 2 1 + 1)) := by
      have hq : STK b0 n0 fs g f R (zup C 2 1 (C 2 1 + 1)) M t (e :: L) t.1 none := STK.fr (P := fun _ => True) _ _ _ _ hS' (AG.rf hb) (fun _ _ => trivial) (Nat.le_refl _) ⟨fun j _ => ⟨rfl, rfl, congrFun (zup_r (by decide)) j, congrFun (zup_r (by decide)) j, congrFun (zup_r (by decide)) j⟩, fun j _ => ⟨rfl, rfl, rfl, rfl⟩⟩
      rw [show (e :: L).length = L.length + 1 from rfl, badd_t h9, batt_e hq z1 hn]
    refine ⟨hbd, ⟨hP1, ⟨?_, fun _ => hn⟩, ?_⟩, fun n n0' n1 => ?_, fun y _ hy j => congrFun (hlast y (by omega)) j, hlast, hKB _ (zpR_le _ _ _ _) rfl (fun y hy => zpR_o (hwo y (Or.inl hy))) (fun y hy => ?_) rfl rfl⟩
    · exact h2.fr hA0 b1 b2 trivial hcu hc hAR
    · show STK b0 n0 fs _ _ R' C' M' (tN t g.1 D r) L e.1 (some ((tN t g.1 D r).2.1 e.1))
      rw [(tN_o b2).1]
      refine STK.fr (P := fun n => n ≠ e.1) L e.1 e.1 _ h3 ⟨hA.1, fun n n1 n2 n3 => hA.2.1 n n1 (by omega) n3, fun n n1 n2 => hA.2.2.1 n n1 (by omega), fun n n1 n2 n3 => hA.2.2.2.1 n n1 (by omega) n3, fun n n1 n2 n3 => hA.2.2.2.2.1 n n1 (by omega) n3, fun n n1 n2 => hA.2.2.2.2.2.1 n n1 (by omega), by omega⟩ (fun n hn => by omega) (Nat.le_refl _) ⟨fun j hj => hAR.1 j (by show j ≤ L.length + 1; omega), fun j hj => hAR.2 j (by show j < opn L + _; split <;> omega)⟩
    · rcases hN.1 n n0' n1 with q | q | ⟨κ, q1, q2, q3, q4⟩
      · exact Or.inl q
      · exact Or.inr (Or.inl ((hT _ (by omega)).trans q))
      · by_cases hne : n = e.1
        · exact Or.inl ⟨e, List.mem_cons_self .., hne.symm⟩
        · exact Or.inr (Or.inr ⟨κ, q1, (hT _ (by omega)).trans q2, q3.fr q2 q1 hA n0' n1 hne (Nat.le_succ _) q4, by rw [hT _ (by omega)]; exact q4⟩)
    · rcases hwp with ⟨w1, w2, w3⟩ | ⟨w1, w2⟩
      · exact ⟨zup_ne _ _ _ _ (by omega), zup_ne _ _ _ _ (by omega)⟩
      · have hz : y ≠ (wh t e).1 := by
          rw [w1]
          intro z
          obtain ⟨w3, w4⟩ := hse.2.2.2 w2
          rw [z, (z1.1.2 _ w4).1, w3] at hy
          exact absurd hy (by decide)
        exact ⟨zup_ne _ _ _ _ (Or.inl hz), zup_ne _ _ _ _ (Or.inl hz)⟩
end NEWN
