/-! A text is read, in both: from an expression on. -/
theorem kind_A : ∀ x, x < 127 → pkindOf (nI x) = -9 → ¬ nI x = 64 := by decide +kernel
theorem kind_B : ∀ x, x < 127 → bsg (nI x) → ¬ pkindOf (nI x) = -9 := by decide +kernel
theorem kind_C : ∀ x, x < 127 → ¬ pkindOf (nI x) = -9 → tn (pkindOf (nI x)) < 16 ∧ 2 ≤ tn (pkindOf (nI x)) := by decide +kernel
theorem kind_D : ∀ x, x < 127 → ¬ pkindOf (nI x) = -9 → pkindOf (nI x) = nI (tn (pkindOf (nI x))) ∧ nI x = sgn (tn (pkindOf (nI x))) := by decide +kernel
theorem kind_E : ∀ x, x < 127 → ¬ pkindOf (nI x) = -9 → (tn (pkindOf (nI x)) = 14 ↔ nI x = 64) := by decide +kernel
theorem kind_F0 : ∀ κ, κ < 14 → 2 ≤ κ → bsg (sgn κ)
  | 0, _, h => absurd h (by decide)
  | 1, _, h => absurd h (by decide)
  | 2, _, _ => by decide
  | 3, _, _ => by decide
  | 4, _, _ => by decide
  | 5, _, _ => by decide
  | 6, _, _ => by decide
  | 7, _, _ => by decide
  | 8, _, _ => by decide
  | 9, _, _ => by decide
  | 10, _, _ => by decide
  | 11, _, _ => by decide
  | 12, _, _ => by decide
  | 13, _, _ => by decide
  | n + 14, h, _ => absurd h (by omega)
theorem kind_F (x : Nat) (h1 : x < 127) (h2 : ¬ pkindOf (nI x) = -9) (h3 : ¬ tn (pkindOf (nI x)) = 14) : bsg (nI x) := by
  rw [(kind_D x h1 h2).2]
  have := kind_C x h1 h2
  by_cases q : tn (pkindOf (nI x)) = 15
  · rw [q]; decide
  · exact kind_F0 _ (by omega) this.2
theorem kind_G : ∀ x, x < 127 → ¬ pkindOf (nI x) = -9 → bnx (nI x) = (if tn (pkindOf (nI x)) = 8 then 1 else if tn (pkindOf (nI x)) = 10 then 2 else if tn (pkindOf (nI x)) = 11 then 2 else if tn (pkindOf (nI x)) = 13 then 3 else 0) := by decide +kernel
theorem kind_of (x : Nat) (h1 : x < 127) : (pkindOf (nI x) = -9 ∧ ¬ nI x = 64 ∧ ¬ bsg (nI x)) ∨ ∃ κ, κ < 16 ∧ 2 ≤ κ ∧ pkindOf (nI x) = nI κ ∧ nI x = sgn κ ∧ (κ = 14 ↔ nI x = 64) ∧ (¬ κ = 14 → bsg (nI x)) ∧ bnx (nI x) = (if κ = 8 then 1 else if κ = 10 then 2 else if κ = 11 then 2 else if κ = 13 then 3 else 0) := by
  by_cases q : pkindOf (nI x) = -9
  · exact Or.inl ⟨q, kind_A x h1 q, fun z => kind_B x h1 z q⟩
  · exact Or.inr ⟨tn (pkindOf (nI x)), (kind_C x h1 q).1, (kind_C x h1 q).2, (kind_D x h1 q).1, (kind_D x h1 q).2, kind_E x h1 q, kind_F x h1 q, kind_G x h1 q⟩
theorem kind_l : ∀ x, x < 127 → 97 ≤ x ∧ x ≤ 122 → pkindOf (nI x) = -9 := by decide +kernel
section EXPS
variable {b0 n0 fs : Nat} {S0 : bSt} {M0 : zI} {len : Nat} {tx : Nat → Nat} {g : zG} {f : zI} {R : zRf} {t t0 : zTs} {m k : Nat} {how : Int32}
theorem TE.new {a : Nat} {D : Nat → Prop} {r : Prop} (h : TE t0 fs t) (hf : fs ≤ t.1) : TE t0 fs (tN t a D r) := fun n hn => by
  obtain ⟨e1, e2, e3⟩ := tN_o (t := t) (a := a) (D := D) (r := r) (n := n) (by omega)
  rw [e1, e2, e3]; exact h n hn
/-- a leaf was read in both: on it goes -/
theorem AW.leafgo {G1 : zG} {F2 : zI} {R1 : zRf} {C C1 C2 M M2 : zI} {t2 : zTs} {L : List Ent} {m2 p' r' j x : Nat} (hP : PS b0 n0 fs S0 M0 len tx g f R C M t L m k none) (hB : pparB M how = (1, M2)) (h17 : M2 0 17 = nI x) (hT : ATT b0 n0 fs S0 M0 len tx G1 F2 R1 C1 M2 t2 L m2 p' x) (hA : AWp b0 n0 fs S0 M0 len tx t0 how r') (hC : CPp b0 n0 fs S0 M0 len tx t0 how r') (hW : ATW fs (M2 1) L t2.1 x p')
    (h2 : (∀ r, r ≠ 2 → C2 r = bepA F2 R1 L.length C1 r) ∧ ∀ j, j ≠ 3 → C2 2 j = bepA F2 R1 L.length C1 2 j) (hnd : ND len C2 p') (h70 : C1 7 0 = (if how = 1 then 8388608 else 0)) (hte : TE t0 fs t2) (hr : len - p' ≤ r') (hj : r' + 3 ≤ j) : pparV how (j + 1) 1 M ∧ RES b0 n0 fs S0 M0 len t0 (mk how) (brd len (len - p') p' (G1, R1, F2, C2)) (ppar how (j + 1) 1 M) := by
  have hop : opn L ≤ 120 := by
    have := hT.1.2.1.2.2.1.2.2.2.2.1
    have := hT.1.2.1.2.2.1.1
    have := hT.1.2.1.1.1
    omega
  have hc := (ATT.clo L pgf C1 M2 x (by show opn L + 2 ≤ 300; omega) hT hW).cc h2.1 h2.2
  obtain ⟨b1, b2, b3⟩ := CLO.go hA hC hc hnd (by rw [h2.1 7 (by decide), bepA_70]; exact h70) hte hr hj
  rw [← pparT_e h17] at b1 b2 b3
  obtain ⟨c1, c2⟩ := AW.whl hP hB hT.1.2.1.2.1.2.2.2.2 hT.topv b1 b2
  exact ⟨c1, by rw [c2]; exact b3⟩
theorem PS.idx {C M : zI} {L : List Ent} {nx : Option Nat} (h : PS b0 n0 fs S0 M0 len tx g f R C M t L m k nx) : tn (C 2 9) = L.length ∧ tn (C 2 1) = m ∧ L.length ≤ 120 ∧ m ≤ 120 := by
  obtain ⟨-, ⟨c0, ⟨c1, -⟩, ⟨c6, c7, c8, c9, c10, c11⟩, c12, c13⟩, -⟩ := h
  have hl := c0.1
  have ho := opn_len L
  rw [c12, c1]
  exact ⟨tn_nI (by omega), tn_nI (by omega), by omega, by omega⟩
/-- a number -/
theorem AW.num {C M : zI} {L : List Ent} {C' : zI} {k' r' j : Nat} (hP : PS b0 n0 fs S0 M0 len tx g f R C M t L m k none) (hP' : PS b0 n0 fs S0 M0 len tx g f R C' (zup M 0 14 (nI k')) t L m k' none) (hL : NX L ∨ L = []) (hbt : bot L t.1 = fs) (h22 : C' 2 2 = 0) (h70 : C' 7 0 = (if how = 1 then 8388608 else 0)) (hte : TE t0 fs t) (hn0 : b0 ≤ S0.1.1 ∧ n0 ≤ S0.1.1) (hSW : SW fs (M 1) L t.1 k) (hkk : k ≤ k')
    (hnd : ¬ (dgt (C' 1 k') ∧ 0 < C' 2 3 ∧ C' 2 3 < 3)) (es : pskip M = zup M 0 14 (nI k')) (hk' : k' < len) (hx1 : C' 1 k' = nI (tx k')) (hx : 48 ≤ tx k' ∧ tx k' ≤ 57) (hA : AWp b0 n0 fs S0 M0 len tx t0 how r') (hC : CPp b0 n0 fs S0 M0 len tx t0 how r') (hr : len - k' ≤ r' + 1) (hj : r' + 3 ≤ j) :
    pparV how (j + 1) 1 M ∧ RES b0 n0 fs S0 M0 len t0 (mk how) (brd len (len - k') k' (g, R, f, C')) (ppar how (j + 1) 1 M) := by
  have hl := hP.2.1.1.1
  obtain ⟨i1, i2, i3, i4⟩ := hP'.idx
  have hs0 : S0.1.1 ≤ g.1 := hP.2.2.2.2.1.1.1.1
  have hdg : dgt (nI (tx k')) := (dgtI (by omega)).mpr hx
  -- the class's first digit
  obtain ⟨Ca, eCa⟩ : ∃ Ca, Ca = zup (zup C' 2 3 0) 2 3 1 := ⟨_, rfl⟩
  have hCar : ∀ r, r ≠ 2 → Ca r = C' r := fun r hr => by rw [eCa, zup_r hr, zup_r hr]
  have hCaj : ∀ j, j ≠ 3 → Ca 2 j = C' 2 j := fun j hj => by rw [eCa, zup_ne _ _ _ _ (Or.inr hj), zup_ne _ _ _ _ (Or.inr hj)]
  have hPa := hP'.cc hCar (hCaj 1 (by decide)) (hCaj 9 (by decide))
  have hbd := (hPa.new (x := 48) (D := fun _ => False) (r := False) (C' := Ca) (R' := R) (M' := zup M 0 14 (nI k')) hL (fun _ _ => rfl) (by omega) ⟨fun _ _ => ⟨rfl, rfl, rfl, rfl, rfl⟩, fun _ _ => ⟨rfl, rfl, rfl, rfl⟩⟩ ⟨fun _ _ _ _ _ => rfl, fun _ _ _ _ => rfl, rfl, hPa.2.2.2.2.1.2.2.2.2.2.2⟩).1
  obtain ⟨C1, eC1⟩ : ∃ C1, C1 = zup Ca 2 1 (Ca 2 1 + 1) := ⟨_, rfl⟩
  rw [← eC1] at hbd
  have c21 : Ca 2 1 = nI m := hPa.2.1.2.1.1
  have hC1r : ∀ r, r ≠ 2 → C1 r = C' r := fun r hr => by rw [eC1, zup_r hr]; exact hCar r hr
  have hC11 : C1 2 1 = nI (m + 1) := by rw [eC1, zup_at, c21]; exact ixA (a := m) (b := 1) rfl (ixC 1)
  have hC1j : ∀ j, j ≠ 1 → C1 2 j = Ca 2 j := fun j hj => by rw [eC1, zup_ne _ _ _ _ (Or.inr hj)]
  have hC13 : C1 2 3 = nI 1 := by rw [hC1j 3 (by decide), eCa, zup_at]; rfl
  have ev : nI (tx k') - 48 = nI (tx k' - 48) := ixS rfl (ixC 48) hx.1
  obtain ⟨F1, eF1⟩ : ∃ F1, F1 = zup (dxF (znG g 1 0) (znI g f) g.1 48) g.1 1 (nI (tx k' - 48)) := ⟨_, rfl⟩
  have hbacc : bacc g R f C' (C' 1 k') L.length m = ((gA t (dxG (znG g 1 0) g.1 48) g.1 L, zup R 3 m (some g.1), F1, bepA F1 (zup R 3 m (some g.1)) L.length C1), 1) := by
    rw [bacc_0 h22, hx1, baccE_d hdg, ← eCa, ev]
    unfold baddLeaf
    rw [hbd, eF1]
  have hbr : brd len (len - k') k' (g, R, f, C') = brd len (len - (k' + 1)) (k' + 1) (gA t (dxG (znG g 1 0) g.1 48) g.1 L, zup R 3 m (some g.1), F1, bepA F1 (zup R 3 m (some g.1)) L.length C1) := by
    rw [show len - k' = len - (k' + 1) + 1 by omega, brd_1 (by rw [hx1]; exact fun z => absurd ((nI_eq (b := 32) (by omega) (by decide)).mp z) (by omega)) hnd ⟨i1, i2⟩ (by rw [hbacc]; exact (by decide : ¬ (1 : Int32) = 0)), hbacc]
  -- the digits that go on
  have hTX := hP'.2.1.1
  have hTX1 : TX len tx (bepA F1 (zup R 3 m (some g.1)) L.length C1) (zup (zup M 0 14 (nI k')) 0 14 (nI (k' + 1))) := hTX.at (by rw [bepA_r (by decide) (by decide) (by decide)]; exact hC1r 1 (by decide)) (zup_ne _ _ _ _ (by omega)) (zup_r (by decide))
  obtain ⟨p', a', cnt', d1, d2, dd, d3, d4, d5⟩ := DIG (g := gA t (dxG (znG g 1 0) g.1 48) g.1 L) (R := zup R 3 m (some g.1)) (m := m) (a0 := g.1) (zup_at _ _ _ _) 2 1 (k' + 1) (tx k' - 48) F1 (bepA F1 (zup R 3 m (some g.1)) L.length C1) (zup (zup M 0 14 (nI k')) 0 14 (nI (k' + 1))) rfl (Nat.le_refl _) hTX1 (zup_at _ _ _ _) (by omega) (by rw [eF1, zup_at]) (by rw [bepA_23]; exact hC13) (by rw [bepA_ct]; exact hC11) (by omega)
  rw [zup_zup, zup_zup] at d3
  obtain ⟨F2, eF2⟩ : ∃ F2, F2 = zup (dxF (znG g 1 0) (znI g f) g.1 48) g.1 1 (nI a') := ⟨_, rfl⟩
  have eF12 : zup F1 g.1 1 (nI a') = F2 := by rw [eF1, zup_zup, eF2]
  have ebep : bepA F1 (zup R 3 m (some g.1)) L.length C1 = bepA F2 (zup R 3 m (some g.1)) L.length C1 := by
    refine bepA_fr L.length C1 (fun d h1 h2 => ?_)
    have := hP'.1.op L t.1 none d h1 h2
    rw [zup_r (show (4 : Nat) ≠ 3 by decide), eF1, eF2, zup_r (by omega), zup_r (by omega)]
  rw [eF12, ebep] at d4
  rw [ebep] at d5
  rw [hbr, ebep, d4]
  -- the reference's
  have epn : prnum (zup M 0 14 (nI k')) = (nI a', zup M 0 14 (nI p')) := by
    have hph : phere (zup M 0 14 (nI k')) = nI (tx k') := by
      rw [phere_e hTX (zup_at _ _ _ _) (by omega), if_pos hk']
    show (if phere (zup M 0 14 (nI k')) < 48 ∨ 57 < phere (zup M 0 14 (nI k')) then ((0 : Int32), zup M 0 14 (nI k')) else prnA 2 (10 * 0 + phere (zup M 0 14 (nI k')) - 48) (patn (zup M 0 14 (nI k')))) = _
    rw [hph, if_neg (fun z => z.elim hdg.1 hdg.2)]
    have e14 : patn (zup M 0 14 (nI k')) = zup M 0 14 (nI (k' + 1)) := by
      unfold patn
      rw [zup_at, zup_zup]
      exact congrArg (zup M 0 14) (ixA (a := k') (b := 1) rfl (ixC 1))
    have e0 : 10 * 0 + nI (tx k') - 48 = nI (tx k' - 48) := by
      rw [show (10 * 0 + nI (tx k') : Int32) = nI (tx k') from Int32.zero_add _]
      exact ixS rfl (ixC 48) hx.1
    rw [e0, e14]
    exact d3
  have hB : pparB M how = (1, zup (pmake (zup (zup M 0 14 (nI k')) 0 14 (nI p')) (nI 0) (nI a')) 0 17 (nI t.1)) := by
    unfold pparB pbegins pbw
    rw [es]
    have hph : phere (zup M 0 14 (nI k')) = nI (tx k') := by
      rw [phere_e hTX (zup_at _ _ _ _) (by omega), if_pos hk']
    rw [hph, if_pos (fun z => z.elim hdg.1 hdg.2)]
    unfold pbwN
    rw [epn, zup_zup]
    show (1, zup (pmake (zup M 0 14 (nI p')) 0 (nI a')) 0 17 (zup M 0 14 (nI p') 0 1)) = _
    have h01 : zup M 0 14 (nI p') 0 1 = nI t.1 := (zup_ne _ _ _ _ (by omega)).trans hP.2.1.2.1.2.1
    rw [h01]
    rfl
  have hATT := hPa.leaf (κ := 0) (k2 := p') (x := 48) (a := nI a') (C1 := C1) hL hbt hn0 (by decide) rfl (fun z => absurd z (by decide)) ⟨by omega, d2⟩ ⟨fun r hr => (hC1r r hr).trans (hCar r hr).symm, hC11, hC1j 9 (by decide)⟩
  rw [← eF2] at hATT
  have hAW : ATW fs (zup (pmake (zup (zup M 0 14 (nI k')) 0 14 (nI p')) (nI 0) (nI a')) 0 17 (nI t.1) 1) L (t2N g R Ca t L).1 t.1 p' := by
    obtain ⟨w1, w2, w3, -⟩ := pmake_1 (M := zup (zup M 0 14 (nI k')) 0 14 (nI p')) (κ := nI 0) (a := nI a') (N := t.1) ((zup_ne _ _ _ _ (by omega)).trans ((zup_ne _ _ _ _ (by omega)).trans hP.2.1.2.1.2.1)) (by have := hP.2.1.2.2.1; omega)
    rw [zup_r (show (1 : Nat) ≠ 0 by decide)]
    refine ⟨k, p' - k', hSW.fr L _ _ _ hP.P3 (Nat.le_refl _) (fun c hc => ?_), WTx.leaf (k := 0) (by decide) w2 ?_, by omega⟩
    · rw [w1 c hc, zup_r (by decide), zup_r (by decide)]
    · rw [w3]
      have h10 : (tx k' - 48 + 1) * 10 ^ (p' - (k' + 1)) ≤ 10 * 10 ^ (p' - (k' + 1)) := Nat.mul_le_mul_right _ (by omega)
      have h12 : 10 * 10 ^ (p' - (k' + 1)) = 10 ^ (p' - k') := by
        rw [show p' - k' = p' - (k' + 1) + 1 by omega, Nat.pow_succ, Nat.mul_comm]
      have h13 : 10 ^ (p' - (k' + 1)) ≤ 10 ^ 2 := Nat.pow_le_pow_right (by decide) (by omega)
      have h14 : (10 : Nat) ^ 2 = 100 := rfl
      exact digs a' (by omega) (p' - k') (by omega) (by omega)
  exact AW.leafgo hP hB (zup_at _ _ _ _) hATT hA hC hAW ⟨fun r hr => zup_r hr, fun j hj => zup_ne _ _ _ _ (Or.inr hj)⟩ d5 (by rw [hC1r 7 (by decide)]; exact h70) (hte.new hP.2.1.2.2.1.2.1) (by omega) hj
/-- a variable that is bound -/
theorem AW.var {C M : zI} {L : List Ent} {C' : zI} {k' r' j : Nat} (hP : PS b0 n0 fs S0 M0 len tx g f R C M t L m k none) (hP' : PS b0 n0 fs S0 M0 len tx g f R C' (zup M 0 14 (nI k')) t L m k' none) (hL : NX L ∨ L = []) (hbt : bot L t.1 = fs) (h22 : C' 2 2 = 0) (h70 : C' 7 0 = (if how = 1 then 8388608 else 0)) (hte : TE t0 fs t) (hn0 : b0 ≤ S0.1.1 ∧ n0 ≤ S0.1.1) (hSW : SW fs (M 1) L t.1 k) (hkk : k ≤ k')
    (hnd : ¬ (dgt (C' 1 k') ∧ 0 < C' 2 3 ∧ C' 2 3 < 3)) (es : pskip M = zup M 0 14 (nI k')) (hk' : k' < len) (hx1 : C' 1 k' = nI (tx k')) (hx : 97 ≤ tx k' ∧ tx k' ≤ 122) (hv : pparV0 M how = C' 7 L.length) (hml : ml (C' 7 L.length) (tx k' - 97)) (hA : AWp b0 n0 fs S0 M0 len tx t0 how r') (hC : CPp b0 n0 fs S0 M0 len tx t0 how r') (hr : len - k' ≤ r' + 1) (hj : r' + 3 ≤ j) :
    pparV how (j + 1) 1 M ∧ RES b0 n0 fs S0 M0 len t0 (mk how) (brd len (len - k') k' (g, R, f, C')) (ppar how (j + 1) 1 M) := by
  have hl := hP.2.1.1.1
  obtain ⟨i1, i2, i3, i4⟩ := hP'.idx
  have hs0 : S0.1.1 ≤ g.1 := hP.2.2.2.2.1.1.1.1
  have hndg : ¬ dgt (nI (tx k')) := fun z => by have := (dgtI (by omega)).mp z; omega
  have hlt : ltr (nI (tx k')) := (ltrI (by omega)).mpr hx
  have ev : nI (tx k') - 97 = nI (tx k' - 97) := ixS rfl (ixC 97) hx.1
  obtain ⟨Ca, eCa⟩ : ∃ Ca, Ca = zup C' 2 3 0 := ⟨_, rfl⟩
  have hCar : ∀ r, r ≠ 2 → Ca r = C' r := fun r hr => by rw [eCa, zup_r hr]
  have hCaj : ∀ j, j ≠ 3 → Ca 2 j = C' 2 j := fun j hj => by rw [eCa, zup_ne _ _ _ _ (Or.inr hj)]
  have hPa := hP'.cc hCar (hCaj 1 (by decide)) (hCaj 9 (by decide))
  have hbd := (hPa.new (x := 97) (D := fun _ => False) (r := False) (C' := Ca) (R' := R) (M' := zup M 0 14 (nI k')) hL (fun _ _ => rfl) (by omega) ⟨fun _ _ => ⟨rfl, rfl, rfl, rfl, rfl⟩, fun _ _ => ⟨rfl, rfl, rfl, rfl⟩⟩ ⟨fun _ _ _ _ _ => rfl, fun _ _ _ _ => rfl, rfl, hPa.2.2.2.2.1.2.2.2.2.2.2⟩).1
  obtain ⟨C1, eC1⟩ : ∃ C1, C1 = zup Ca 2 1 (Ca 2 1 + 1) := ⟨_, rfl⟩
  rw [← eC1] at hbd
  have c21 : Ca 2 1 = nI m := hPa.2.1.2.1.1
  have hC1r : ∀ r, r ≠ 2 → C1 r = C' r := fun r hr => by rw [eC1, zup_r hr]; exact hCar r hr
  have hC11 : C1 2 1 = nI (m + 1) := by rw [eC1, zup_at, c21]; exact ixA (a := m) (b := 1) rfl (ixC 1)
  have hC1j : ∀ j, j ≠ 1 → C1 2 j = Ca 2 j := fun j hj => by rw [eC1, zup_ne _ _ _ _ (Or.inr hj)]
  have hC13 : C1 2 3 = 0 := by rw [hC1j 3 (by decide), eCa, zup_at]
  obtain ⟨F1, eF1⟩ : ∃ F1, F1 = zup (dxF (znG g 1 0) (znI g f) g.1 97) g.1 1 (nI (tx k' - 97)) := ⟨_, rfl⟩
  have hbit : ¬ Ca 7 L.length >>> ((nI (tx k') - 97) &&& 31) &&& 1 = 0 := by
    rw [ev, hCar 7 (by decide)]
    exact fun z => (ml_test (by omega)).2.mp z hml
  have hbacc : bacc g R f C' (C' 1 k') L.length m = ((gA t (dxG (znG g 1 0) g.1 97) g.1 L, zup R 3 m (some g.1), F1, bepA F1 (zup R 3 m (some g.1)) L.length C1), 1) := by
    rw [bacc_0 h22, hx1, ← eCa, baccE_l1 hndg hlt hbit, ev]
    unfold baddLeaf
    rw [hbd, eF1]
  have hbr : brd len (len - k') k' (g, R, f, C') = brd len (len - (k' + 1)) (k' + 1) (gA t (dxG (znG g 1 0) g.1 97) g.1 L, zup R 3 m (some g.1), F1, bepA F1 (zup R 3 m (some g.1)) L.length C1) := by
    rw [show len - k' = len - (k' + 1) + 1 by omega, brd_1 (by rw [hx1]; exact fun z => absurd ((nI_eq (b := 32) (by omega) (by decide)).mp z) (by omega)) hnd ⟨i1, i2⟩ (by rw [hbacc]; exact (by decide : ¬ (1 : Int32) = 0)), hbacc]
  rw [hbr]
  have hTX := hP'.2.1.1
  have hph : phere (zup M 0 14 (nI k')) = nI (tx k') := by
    rw [phere_e hTX (zup_at _ _ _ _) (by omega), if_pos hk']
  have hB : pparB M how = (1, zup (pmake (zup (zup M 0 14 (nI k')) 0 14 (nI (k' + 1))) (nI 1) (nI (tx k' - 97))) 0 17 (nI t.1)) := by
    unfold pparB pbegins pbw
    rw [es, hph, hv]
    rw [if_neg (fun z => hndg ⟨fun y => z (Or.inl y), fun y => z (Or.inr y)⟩), if_pos ⟨fun z => z.elim hlt.1 hlt.2, by rw [ev]; exact (ml_test (by omega)).1.mpr hml⟩]
    unfold pbwV
    rw [hph, ev]
    have e14 : patn (zup M 0 14 (nI k')) = zup (zup M 0 14 (nI k')) 0 14 (nI (k' + 1)) := by
      unfold patn
      rw [zup_at]
      exact congrArg (zup (zup M 0 14 (nI k')) 0 14) (ixA (a := k') (b := 1) rfl (ixC 1))
    have h01 : zup M 0 14 (nI k') 0 1 = nI t.1 := (zup_ne _ _ _ _ (by omega)).trans hP.2.1.2.1.2.1
    rw [e14, h01]
    rfl
  have hATT := hPa.leaf (κ := 1) (k2 := k' + 1) (x := 97) (a := nI (tx k' - 97)) (C1 := C1) hL hbt hn0 (Nat.le_refl _) rfl (fun _ => ⟨tx k' - 97, by omega, rfl, by rw [hCar 7 (by decide)]; exact hml⟩) ⟨by omega, by omega⟩ ⟨fun r hr => (hC1r r hr).trans (hCar r hr).symm, hC11, hC1j 9 (by decide)⟩
  rw [← eF1] at hATT
  have hAW : ATW fs (zup (pmake (zup (zup M 0 14 (nI k')) 0 14 (nI (k' + 1))) (nI 1) (nI (tx k' - 97))) 0 17 (nI t.1) 1) L (t2N g R Ca t L).1 t.1 (k' + 1) := by
    obtain ⟨w1, w2, w3, -⟩ := pmake_1 (M := zup (zup M 0 14 (nI k')) 0 14 (nI (k' + 1))) (κ := nI 1) (a := nI (tx k' - 97)) (N := t.1) ((zup_ne _ _ _ _ (by omega)).trans ((zup_ne _ _ _ _ (by omega)).trans hP.2.1.2.1.2.1)) (by have := hP.2.1.2.2.1; omega)
    rw [zup_r (show (1 : Nat) ≠ 0 by decide)]
    refine ⟨k, 1, hSW.fr L _ _ _ hP.P3 (Nat.le_refl _) (fun c hc => ?_), WTx.leaf (k := 1) (by decide) w2 ?_, by omega⟩
    · rw [w1 c hc, zup_r (by decide), zup_r (by decide)]
    · rw [w3]; exact Nat.le_refl _
  refine AW.leafgo hP hB (zup_at _ _ _ _) hATT hA hC hAW ⟨fun r hr => rfl, fun j hj => rfl⟩ (fun _ z => ?_) (by rw [hC1r 7 (by decide)]; exact h70) (hte.new hP.2.1.2.2.1.2.1) (by omega) hj
  have z2 := z.2.1
  rw [bepA_23, hC13] at z2
  exact absurd z2 (by decide)
end EXPS
