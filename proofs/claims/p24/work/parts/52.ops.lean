/-! What else keeps the core. -/
theorem CO.gen {b0 n0 : Nat} {X Y : zCt} {R R' : zRf} {C C' : zI} (h : CO b0 n0 X R C) (hE : EXT X Y)
    (hv : ∀ e, e < nV X → ∀ j, j < 3 → (qM Y) 2 (30 + 3 * e + j) = (qM X) 2 (30 + 3 * e + j)) (hr : ∀ r, r < nR X → ∀ j, j < 2 → (qM Y) 2 (3630 + 3 * r + j) = (qM X) 2 (3630 + 3 * r + j))
    (nv : ∀ e, nV X ≤ e → e < nV Y → ER1 b0 n0 Y e) (nr : ∀ r, nR X ≤ r → r < nR Y → RS1 b0 n0 Y r) (hS : SK b0 n0 Y R') (hN : CN Y C') (hb : nV Y ≤ 1100 ∧ nR Y ≤ 1000 ∧ nF Y ≤ 1000 ∧ nP Y ≤ 39800) : CO b0 n0 Y R' C' := by
  have hI := h.IN
  refine ⟨?_, fun e he => ?_, fun r hr' => ?_, hS, hN, hb⟩
  · rw [hE.2.2.1.1, hE.2.2.1.2]
    exact TR.ext hE.1.1 (fun x hx _ => hE.1.2 x hx) (fun x hx k _ => congrFun (hE.1.2 x hx) k) h.1
  · rcases Nat.lt_or_ge e (nV X) with q | q
    · exact (h.2.1 e q).ext hE q (hv e q)
    · exact nv e q he
  · rcases Nat.lt_or_ge r (nR X) with q | q
    · exact (h.2.2.1 r q).ext hE hI q (hr r q)
    · exact nr r q hr'
theorem SK.same {b0 n0 : Nat} {X Y : zCt} {R R' : zRf} (h : SK b0 n0 X R) (hE : EXT X Y) (hI : IN b0 X) (hd : nD Y = nD X) (hf : fI Y = fI X) (h7 : (qM Y) 2 7 = (qM X) 2 7) (hR : R' 20 = R 20) : SK b0 n0 Y R' := by
  refine ⟨by rw [hd]; exact h.1, by rw [h7, hd, hf]; exact h.2.1, fun p hp => ?_⟩
  rw [hd] at hp
  exact (h.2.2 p hp).ext hE hI (congrFun hR p) (congrFun hf p) (fun _ => congrFun hf _)
theorem CO.num {b0 n0 : Nat} {g : zG} {f M M' : zI} {t : zTs} {y : zGs} {d nv nr nf nf' np : Nat} {R : zRf} {C C' : zI} (h : CO b0 n0 (g, f, M, t, y, (d, nv, nr, nf, np)) R C)
    (h1 : M' 1 = M 1) (h4 : M' 4 = M 4) (hE : ∀ j, 30 ≤ j → j < 3630 → M' 2 j = M 2 j) (hR : ∀ r, r < nr → ∀ j, j < 2 → M' 2 (3630 + 3 * r + j) = M 2 (3630 + 3 * r + j)) (h7 : M' 2 7 = M 2 7)
    (hf : nf ≤ nf') (hf2 : nf' ≤ 1000) (hN : CN (g, f, M', t, y, (d, nv, nr, nf', np)) C') : CO b0 n0 (g, f, M', t, y, (d, nv, nr, nf', np)) R C' := by
  have hX : EXT (g, f, M, t, y, (d, nv, nr, nf, np)) (g, f, M', t, y, (d, nv, nr, nf', np)) := ⟨⟨zXt.rf, fun _ _ => rfl⟩, fun k _ => congrFun h4 k, ⟨h1, rfl⟩, ⟨Nat.le_refl _, Nat.le_refl _, hf, Nat.le_refl _⟩, fun _ _ => ⟨rfl, rfl⟩, fun _ _ => ⟨rfl, rfl, rfl⟩⟩
  have hb : nv ≤ 1100 ∧ nr ≤ 1000 ∧ nf ≤ 1000 ∧ np ≤ 39800 := h.2.2.2.2.2
  refine h.gen hX (fun e he j hj => ?_) (fun r hr j hj => hR r hr j hj) (fun e h1 h2 => ?_) (fun r h1 h2 => ?_) (h.2.2.2.1.same hX h.IN rfl rfl h7 rfl) hN ⟨hb.1, hb.2.1, hf2, hb.2.2.2⟩
  · have he : e < nv := he
    exact hE _ (by omega) (by omega)
  · exact absurd h2 (Nat.not_lt.mpr h1)
  · exact absurd h2 (Nat.not_lt.mpr h1)
theorem CO.popTo {b0 n0 : Nat} {g : zG} {f M : zI} {t : zTs} {sg rg mz fi : Nat → Nat} {el : Nat → Nat → Prop} {ci : Nat → Nat → Nat} {d nv nr nf np : Nat} {R : zRf} {C : zI}
    (h : CO b0 n0 (g, f, M, t, (sg, el, rg, ci, mz, fi), (d, nv, nr, nf, np)) R C) (p : Nat) (hp : p ≤ d) :
    CO b0 n0 (g, f, zup M 2 7 (if p = 0 then -9 else nI (fi (p - 1))), t, (sg, el, rg, ci, mz, fi), (p, nv, nr, nf, np)) R (zup C 19 1 (nI p)) := by
  have hI := h.IN
  have z1 : zup M 2 7 (if p = 0 then -9 else nI (fi (p - 1))) 1 = M 1 := zup_r (by decide)
  have z4 : zup M 2 7 (if p = 0 then -9 else nI (fi (p - 1))) 4 = M 4 := zup_r (by decide)
  have hX : EXT (g, f, M, t, (sg, el, rg, ci, mz, fi), (d, nv, nr, nf, np)) (g, f, zup M 2 7 (if p = 0 then -9 else nI (fi (p - 1))), t, (sg, el, rg, ci, mz, fi), (p, nv, nr, nf, np)) :=
    ⟨⟨zXt.rf, fun _ _ => rfl⟩, fun k _ => congrFun z4 k, ⟨z1, rfl⟩, ⟨Nat.le_refl _, Nat.le_refl _, Nat.le_refl _, Nat.le_refl _⟩, fun _ _ => ⟨rfl, rfl⟩, fun _ _ => ⟨rfl, rfl, rfl⟩⟩
  have w : ∀ j, j ≠ 7 → zup M 2 7 (if p = 0 then -9 else nI (fi (p - 1))) 2 j = M 2 j := fun j hj => zup_ne _ _ _ _ (Or.inr hj)
  have w7 : zup M 2 7 (if p = 0 then -9 else nI (fi (p - 1))) 2 7 = (if p = 0 then -9 else nI (fi (p - 1))) := zup_at _ _ _ _
  have hr : ∀ r, r ≠ 19 → zup C 19 1 (nI p) r = C r := fun r hr => zup_r hr
  refine h.gen hX (fun e he j hj => w _ (by omega)) (fun r hr j hj => w _ (by omega)) (fun e h1 h2 => absurd h2 (Nat.not_lt.mpr h1)) (fun r h1 h2 => absurd h2 (Nat.not_lt.mpr h1)) ⟨?_, w7, fun q hq => ?_⟩ ?_ h.2.2.2.2.2
  · have := h.2.2.2.1.1
    have h100 : d ≤ 100 := this
    show p ≤ 100
    omega
  · have hq : q < p := hq
    exact (h.2.2.2.1.2.2 q (by show q < d; omega)).ext hX hI rfl rfl (fun _ => rfl)
  · obtain ⟨⟨c1, c2⟩, c3, ⟨c4, c5⟩, ⟨c6, c7⟩, c8, c9, c10, ⟨c11, c12, c13⟩, ⟨q, q1, q2, q3, q4⟩, c14, c15⟩ := h.2.2.2.2.1
    generalize hC : zup C 19 1 (nI p) = C' at *
    generalize zup M 2 7 (if p = 0 then -9 else nI (fi (p - 1))) = M' at *
    refine ⟨⟨by rw [← hC]; exact zup_at _ _ _ _, ?_⟩, ?_, ⟨?_, by rw [hr 21 (by decide)]; exact c5⟩, ⟨?_, by rw [hr 21 (by decide)]; exact c7⟩, ?_, fun r hr' => ?_, fun j hj => ?_, ⟨?_, ?_, ?_⟩, ⟨q, q1, by rw [hr 17 (by decide)]; exact q2, ?_, fun k hk => ?_⟩, ?_, fun a ha => ?_⟩
    · show C' 19 2 = M' 2 8; rw [w 8 (by omega), ← hC, zup_ne _ _ _ _ (by omega)]; exact c2
    · show M' 2 22 = _; rw [w _ (by omega)]; exact c3
    · show M' 2 11 = _; rw [w _ (by omega)]; exact c4
    · show M' 2 23 = _; rw [w _ (by omega)]; exact c6
    · show M' 2 21 = _; rw [w _ (by omega)]; exact c8
    · show C' 22 r = M' 2 _; rw [hr 22 (by decide), w _ (by omega)]; exact c9 r hr'
    · show C' 23 j = M' 2 _; rw [hr 23 (by decide), w _ (by omega)]; exact c10 j hj
    · show C' 21 2 = M' 2 12; rw [hr 21 (by decide), w _ (by omega)]; exact c11
    · show C' 21 3 = M' 2 13; rw [hr 21 (by decide), w _ (by omega)]; exact c12
    · show C' 21 6 = M' 2 14; rw [hr 21 (by decide), w _ (by omega)]; exact c13
    · show M' 2 9 = _; rw [w _ (by omega)]; exact q3
    · show C' 24 k = M' 2 _; rw [hr 24 (by decide), w _ (by omega)]; exact q4 k hk
    · show M' 2 10 = bcntP C'; unfold bcntP; rw [hr 25 (by decide), w _ (by omega)]; exact c14
    · show C' 25 a = M' 2 _; rw [hr 25 (by decide), w _ (by omega)]; exact c15 a ha
theorem dSc_f {g : zG} {s r : Option Nat} : (dSc g r s).2.2.2 g.1 2 = r ∧ (dSc g r s).2.2.2 g.1 3 = s := by
  refine ⟨?_, zup_at _ _ _ _⟩
  show zup (zup (zu1 g.2.2.2 g.1 _) g.1 2 r) g.1 3 s g.1 2 = _
  rw [zup_ne _ _ _ _ (by omega), zup_at]
theorem dSc_in {b0 : Nat} {g : zG} {s r : Option Nat} (h : b0 ≤ g.1) : zIn b0 (dSc g r s) g.1 9 := ⟨h, Nat.lt_succ_self _, zu1_at _ _ _⟩
theorem dScF_f {g : zG} {f : zI} {x y : Int32} : dScF g f x y g.1 0 = x ∧ dScF g f x y g.1 1 = y := by
  refine ⟨?_, zup_at _ _ _ _⟩
  show zup (zup (znI g f) g.1 0 x) g.1 1 y g.1 0 = _
  rw [zup_ne _ _ _ _ (by omega), zup_at]
theorem dScF_o {g : zG} {f : zI} {x y : Int32} {a : Nat} (h : a < g.1) : dScF g f x y a = f a := by
  show zup (zup (znI g f) g.1 0 x) g.1 1 y a = _
  rw [zup_r (by omega), zup_r (by omega)]
  exact zu1_ne _ _ _ (by omega)
/-- the reference's binding, its number known -/
def pbindN (M : zI) (e c v : Int32) (nv : Nat) : zI := zup (zup (zup (zup M 2 22 (nI (nv + 1))) 2 (30 + 3 * nv) c) 2 (30 + 3 * nv + 1) v) 2 (30 + 3 * nv + 2) e
theorem pbind_N {M : zI} {e c v : Int32} {nv : Nat} (h : M 2 22 = nI nv) (hn : nv < 1200) : pbindTo M e c v = pbindN M e c v nv := by
  unfold pbindTo pbindN
  simp only [show tn (M 2 22) = nv by rw [h]; exact tn_nI (by omega), show M 2 22 + 1 = nI (nv + 1) from ixA h (ixC 1)]
theorem pbindN_r {M : zI} {e c v : Int32} {nv r : Nat} (h : r ≠ 2) : pbindN M e c v nv r = M r := by
  unfold pbindN
  simp only [zup_r h]
theorem pbindN_o {M : zI} {e c v : Int32} {nv j : Nat} (h : j ≠ 22) (h2 : j < 30 + 3 * nv ∨ 30 + 3 * nv + 2 < j) : pbindN M e c v nv 2 j = M 2 j := by
  unfold pbindN
  rw [zup_ne _ _ _ _ (by omega), zup_ne _ _ _ _ (by omega), zup_ne _ _ _ _ (by omega), zup_ne _ _ _ _ (by omega)]
theorem pbindN_n {M : zI} {e c v : Int32} {nv : Nat} : pbindN M e c v nv 2 22 = nI (nv + 1) ∧ pbindN M e c v nv 2 (30 + 3 * nv) = c ∧ pbindN M e c v nv 2 (30 + 3 * nv + 1) = v ∧ pbindN M e c v nv 2 (30 + 3 * nv + 2) = e := by
  unfold pbindN
  refine ⟨?_, ?_, ?_, ?_⟩ <;> (repeat first | rw [zup_at] | rw [zup_ne _ _ _ _ (by omega)])
/-- numbers that stay -/
theorem CN.same {X Y : zCt} {C C' : zI} (h : CN X C) (hn : nD Y = nD X ∧ nR Y = nR X ∧ nF Y = nF X ∧ nP Y = nP X) (hv : (qM Y) 2 22 = nI (nV Y)) (hW : ∀ j, (7 ≤ j ∧ j ≤ 14) ∨ j = 21 ∨ (23 ≤ j ∧ j < 30) ∨ 3630 ≤ j → (qM Y) 2 j = (qM X) 2 j)
    (hC : C' 19 1 = C 19 1 ∧ C' 19 2 = C 19 2 ∧ C' 21 = C 21 ∧ C' 22 = C 22 ∧ C' 23 = C 23 ∧ C' 24 = C 24 ∧ C' 25 = C 25 ∧ C' 17 11 = C 17 11) : CN Y C' := by
  obtain ⟨e19, e192, e21, e22, e23, e24, e25, e17⟩ := hC
  obtain ⟨n1, n2, n3, n4⟩ := hn
  obtain ⟨⟨c1, c2⟩, c3, ⟨c4, c5⟩, ⟨c6, c7⟩, c8, c9, c10, ⟨c11, c12, c13⟩, ⟨q, q1, q2, q3, q4⟩, c14, c15⟩ := h
  refine ⟨⟨by rw [e19, n1]; exact c1, by rw [e192, hW _ (by omega)]; exact c2⟩, hv, ⟨by rw [hW _ (by omega), n2]; exact c4, by rw [e21, n2]; exact c5⟩, ⟨by rw [hW _ (by omega), n3]; exact c6, by rw [e21, n3]; exact c7⟩, by rw [hW _ (by omega), n4]; exact c8, fun r hr => ?_, fun j hj => ?_, ⟨by rw [e21, hW _ (by omega)]; exact c11, by rw [e21, hW _ (by omega)]; exact c12, by rw [e21, hW _ (by omega)]; exact c13⟩, ⟨q, q1, by rw [e17]; exact q2, by rw [hW _ (by omega)]; exact q3, fun k hk => ?_⟩, ?_, fun a ha => ?_⟩
  · rw [e22, hW _ (by omega)]; rw [n2] at hr; exact c9 r hr
  · rw [e23, hW _ (by omega)]; rw [n3] at hj; exact c10 j hj
  · rw [e24, hW _ (by omega)]; exact q4 k hk
  · unfold bcntP; rw [e25, hW _ (by omega)]; exact c14
  · rw [e25, hW _ (by omega)]; exact c15 a ha
def up1 {α : Type} (h : Nat → α) (k : Nat) (v : α) : Nat → α := fun j => if j = k then v else h j
theorem up1_at {α : Type} {h : Nat → α} {k : Nat} {v : α} : up1 h k v k = v := if_pos rfl
theorem up1_ne {α : Type} {h : Nat → α} {k j : Nat} {v : α} (q : j ≠ k) : up1 h k v j = h j := if_neg q
/-- an env is made -/
theorem CO.bind {b0 n0 : Nat} {g : zG} {f M : zI} {t : zTs} {sg rg mz fi : Nat → Nat} {el : Nat → Nat → Prop} {ci : Nat → Nat → Nat} {d nv nr nf np : Nat} {R : zRf} {C : zI} {x val : Int32} {s ro : Option Nat} {v : Nat}
    (h : CO b0 n0 (g, f, M, t, (sg, el, rg, ci, mz, fi), (d, nv, nr, nf, np)) R C) (hv : nv < 1100) (hv26 : v < 26) (hb : b0 ≤ g.1) (hn : n0 ≤ g.1) (hs : (x = -9 ∧ s = none) ∨ ∃ e, e < nv ∧ x = nI e ∧ s = some (sg e)) :
    CO b0 n0 (dSc g ro s, dScF g f (nI v) val, pbindN M x (nI v) val nv, t, (up1 sg nv g.1, up1 el nv (fun y => y = v ∨ ∃ e, e < nv ∧ x = nI e ∧ el e y), rg, ci, mz, fi), (d, nv + 1, nr, nf, np)) R C := by
  have hI := h.IN
  have hx : zXt g (dSc g ro s) := zXt.sc g ro s
  have hp1 : pbindN M x (nI v) val nv 1 = M 1 := pbindN_r (by decide)
  have hp4 : pbindN M x (nI v) val nv 4 = M 4 := pbindN_r (by decide)
  have hX : EXT (g, f, M, t, (sg, el, rg, ci, mz, fi), (d, nv, nr, nf, np)) (dSc g ro s, dScF g f (nI v) val, pbindN M x (nI v) val nv, t, (up1 sg nv g.1, up1 el nv (fun y => y = v ∨ ∃ e, e < nv ∧ x = nI e ∧ el e y), rg, ci, mz, fi), (d, nv + 1, nr, nf, np)) :=
    ⟨⟨hx, fun y hy => dScF_o hy⟩, fun k _ => congrFun hp4 k, ⟨hp1, rfl⟩, ⟨Nat.le_succ _, Nat.le_refl _, Nat.le_refl _, Nat.le_refl _⟩, fun e he => ⟨up1_ne (Nat.ne_of_lt he), up1_ne (Nat.ne_of_lt he)⟩, fun _ _ => ⟨rfl, rfl, rfl⟩⟩
  have hbd : nv ≤ 1100 ∧ nr ≤ 1000 ∧ nf ≤ 1000 ∧ np ≤ 39800 := h.2.2.2.2.2
  obtain ⟨m22, m0, m1, m2⟩ := pbindN_n (M := M) (e := x) (c := nI v) (v := val) (nv := nv)
  refine h.gen hX (fun e he j hj => pbindN_o (by omega) (by have : e < nv := he; omega)) (fun r hr j hj => pbindN_o (by omega) (by omega)) (fun e h1 h2 => ?_) (fun r h1 h2 => absurd h2 (Nat.not_lt.mpr h1))
    (h.2.2.2.1.same hX hI rfl rfl (pbindN_o (by omega) (by omega)) rfl) (h.2.2.2.2.1.same ⟨rfl, rfl, rfl, rfl⟩ m22 (fun j hj => pbindN_o (by omega) (by omega)) ⟨rfl, rfl, rfl, rfl, rfl, rfl, rfl, rfl⟩) ⟨by show nv + 1 ≤ 1100; omega, hbd.2.1, hbd.2.2.1, hbd.2.2.2⟩
  have h1 : nv ≤ e := h1
  have h2 : e < nv + 1 := h2
  obtain rfl : e = nv := by omega
  have es : up1 sg e g.1 e = g.1 := up1_at
  refine ⟨?_, ?_, ⟨v, hv26, m0, ?_⟩, ?_, ?_⟩
  · show n0 ≤ up1 sg e g.1 e; rw [es]; exact hn
  · show zIn b0 (dSc g ro s) (up1 sg e g.1 e) 9; rw [es]; exact dSc_in hb
  · show dScF g f (nI v) val (up1 sg e g.1 e) 0 = _; rw [es]; exact dScF_f.1
  · show dScF g f (nI v) val (up1 sg e g.1 e) 1 = pbindN M x (nI v) val e 2 (30 + 3 * e + 1); rw [es, m1]; exact dScF_f.2
  · show (pbindN M x (nI v) val e 2 (30 + 3 * e + 2) = -9 ∧ (dSc g ro s).2.2.2 (up1 sg e g.1 e) 3 = none ∧ ∀ y, up1 el e _ e y → pbindN M x (nI v) val e 2 (30 + 3 * e) = nI y) ∨
      ∃ e1, e1 < e ∧ pbindN M x (nI v) val e 2 (30 + 3 * e + 2) = nI e1 ∧ (dSc g ro s).2.2.2 (up1 sg e g.1 e) 3 = some (up1 sg e g.1 e1) ∧ ∀ y, up1 el e _ e y → pbindN M x (nI v) val e 2 (30 + 3 * e) = nI y ∨ up1 el e _ e1 y
    rw [es, m2, m0, dSc_f.2, up1_at]
    rcases hs with ⟨s1, s2⟩ | ⟨e1, s1, s2, s3⟩
    · refine Or.inl ⟨s1, s2, fun y hy => ?_⟩
      rcases hy with rfl | ⟨e2, q1, q2, q3⟩
      · rfl
      · exact absurd (q2.symm.trans s1) (fun q => (iv_nI (N := 2000) (n := e2) (by omega) (by decide)).nn (by decide) q)
    · refine Or.inr ⟨e1, s1, s2, by rw [up1_ne (Nat.ne_of_lt s1)]; exact s3, fun y hy => ?_⟩
      rcases hy with rfl | ⟨e2, q1, q2, q3⟩
      · exact Or.inl rfl
      · refine Or.inr ?_
        rw [up1_ne (Nat.ne_of_lt s1)]
        obtain rfl : e2 = e1 := (nI_eq (by omega) (by omega)).mp (q2.symm.trans s2)
        exact q3
