/-! A text is read, in both: a sign, with what stands behind it. -/
theorem pbwG_f {N : zI} {kk : Nat} {k a v mr : Int32} (h : N 0 15 = nI kk) (hk : kk ≤ 120) : pbwG N k a v mr = (0, N) := by
  unfold pbwG
  rw [if_neg (by rw [h]; exact (iv_nI (N := 200) (by omega) (by decide)).nn (by decide))]
theorem pbwG_t {N : zI} {k a v mr : Int32} (h : N 0 15 = -9) : pbwG N k a v mr = (0, pbwF N k a v mr) := by
  unfold pbwG
  rw [if_pos h]
section SIGN
variable {b0 n0 fs : Nat} {S0 : bSt} {M0 : zI} {len : Nat} {tx : Nat → Nat} {g : zG} {f : zI} {R : zRf} {t t0 : zTs} {m k : Nat} {how : Int32}
theorem pbwF_1 {N : zI} {k a v m : Int32} {n : Nat} (h1 : N 0 1 = nI n) (hn : n ≤ 65000) : (∀ j, j < 5 * n → pbwF N k a v m 1 j = N 1 j) ∧ pbwF N k a v m 1 (5 * n + 1) = a ∧ pbwF N k a v m 1 (5 * n + 3) = -9 := by
  obtain ⟨p1, p2, p3, p4, p5, -⟩ := pmake_1 (M := N) (κ := k) (a := a) (N := n) h1 (by omega)
  have e : ∀ j, j ≠ 5 * n + 4 → pbwF N k a v m 1 j = pmake N k a 1 j := fun j hj => by
    unfold pbwF penter pbw4
    try dsimp only
    rw [zup_r (by decide), zup_r (by decide), zup_r (by decide), zup_r (by decide), zup_r (by decide), h1, zup_at, tn_nI (by omega), zup_ne _ _ _ _ (Or.inr hj), zup_r (by decide)]
  exact ⟨fun j hj => (e j (by omega)).trans (p1 j hj), (e _ (by omega)).trans p3, (e _ (by omega)).trans p5⟩
theorem ownO_2 {κ : Nat} {a : Int32} (h : 2 ≤ κ) : ownO κ a ≤ 2 ∧ (¬ (κ = 8 ∨ κ = 10 ∨ κ = 11 ∨ κ = 13) → ownO κ a ≤ 1) := by
  unfold ownO own
  refine ⟨?_, fun q => ?_⟩
  · split
    · decide
    · rw [if_neg (by omega)]; split <;> decide
  · split
    · exact Nat.le_refl _
    · rw [if_neg (by omega), if_neg (by omega)]; exact Nat.le_refl _
theorem SW.beg {fs : Nat} {M : zI} {L : List Ent} {n κ k k2 w : Nat} {N : zI} {a v m : Int32} (h : SW fs (M 1) L n k) (h3 : P3 L) (hN : N 0 1 = nI n) (hn : n ≤ 65000) (h1 : N 1 = M 1) (hw : ownO κ a ≤ w) (hk : k + w ≤ k2) : SW fs (pbwF N (nI κ) a v m 1) ((n, κ, 0, 0, 0) :: L) (n + 1) k2 := by
  obtain ⟨e1, e2, e3⟩ := pbwF_1 (k := nI κ) (a := a) (v := v) (m := m) hN hn
  exact ⟨w, k, by omega, AE.beg e3 (by rw [e2]; exact hw), h.fr L _ _ _ h3 (Nat.le_refl _) (fun c hc => by rw [e1 c hc, h1])⟩
theorem AW.sign {κ : Nat} {C M : zI} {L : List Ent} {C' : zI} {k' r' j : Nat} (hP : PS b0 n0 fs S0 M0 len tx g f R C M t L m k none) (hP' : PS b0 n0 fs S0 M0 len tx g f R C' (zup M 0 14 (nI k')) t L m k' none) (hL : NX L ∨ L = []) (hbt : bot L t.1 = fs) (h22 : C' 2 2 = 0) (h70 : C' 7 0 = (if how = 1 then 8388608 else 0)) (hte : TE t0 fs t) (hn0 : b0 ≤ S0.1.1 ∧ n0 ≤ S0.1.1) (hSW : SW fs (M 1) L t.1 k) (hkk : k ≤ k')
    (hnd : ¬ (dgt (C' 1 k') ∧ 0 < C' 2 3 ∧ C' 2 3 < 3)) (es : pskip M = zup M 0 14 (nI k')) (hk' : k' < len) (hx1 : C' 1 k' = nI (tx k')) (hx : ¬ tx k' = 32) (hpk : pkindOf (nI (tx k')) = nI κ) (hκ : κ < 16 ∧ 2 ≤ κ) (hsg : nI (tx k') = sgn κ) (h64 : κ = 14 ↔ nI (tx k') = 64) (hb : ¬ κ = 14 → bsg (nI (tx k'))) (hnx : bnx (nI (tx k')) = nxk κ) (hdg : ¬ (48 ≤ tx k' ∧ tx k' ≤ 57)) (hlt : ¬ (97 ≤ tx k' ∧ tx k' ≤ 122))
    (hv : pparV0 M how = C' 7 L.length) (hoc : OC (M 1) t fs t.1 (pparR0 M) (R 8 L.length)) (hA : AWp b0 n0 fs S0 M0 len tx t0 how r') (hr : len - k' ≤ r' + 1) (hj : r' + 3 ≤ j) :
    pparV how (j + 1) 1 M ∧ RES b0 n0 fs S0 M0 len t0 (mk how) (brd len (len - k') k' (g, R, f, C')) (ppar how (j + 1) 1 M) := by
  have hTX := hP'.2.1.1
  have hl := hTX.1
  have h126 := (hTX.2.2 k' hk').2.2.2
  obtain ⟨i1, i2, i3, i4⟩ := hP'.idx
  have hs0 : S0.1.1 ≤ g.1 := hP.2.2.2.2.1.1.1.1
  have hndg : ¬ dgt (nI (tx k')) := fun z => hdg ((dgtI (by omega)).mp z)
  have hnlt : ¬ ltr (nI (tx k')) := fun z => hlt ((ltrI (by omega)).mp z)
  have h15 : zup M 0 14 (nI k') 0 15 = -9 := hP'.2.1.2.1.2.2.2.2
  have hMB := hP'.2.2.2.2.2
  have h32 : ¬ C' 1 k' = 32 := by rw [hx1]; exact fun z => hx ((nI_eq (b := 32) (by omega) (by decide)).mp z)
  have hph : phere (zup M 0 14 (nI k')) = nI (tx k') := by
    rw [phere_e hTX (zup_at _ _ _ _) (by omega), if_pos hk']
  have p1 : ¬ ¬ (phere (zup M 0 14 (nI k')) < 48 ∨ 57 < phere (zup M 0 14 (nI k'))) := by
    rw [hph]
    exact fun z => hndg ⟨fun y => z (Or.inl y), fun y => z (Or.inr y)⟩
  have p2 : ¬ (¬ (phere (zup M 0 14 (nI k')) < 97 ∨ 122 < phere (zup M 0 14 (nI k'))) ∧ (C' 7 L.length >>> ((phere (zup M 0 14 (nI k')) - 97) &&& 31)) &&& 1 = 1) := by
    rw [hph]
    exact fun z => hnlt ⟨fun y => z.1 (Or.inl y), fun y => z.1 (Or.inr y)⟩
  have n9 : ¬ nI κ = -9 := (iv_nI (N := 200) (by omega) (by decide)).nn (by decide)
  have hB0 : pparB M how = pbw (zup M 0 14 (nI k')) (C' 7 L.length) (pparR0 M) := by
    unfold pparB pbegins
    rw [es, hv]
  by_cases hun : κ = 14 ∧ R 8 L.length = none
  · obtain ⟨q1, q2⟩ := hun
    have hmr : pparR0 M = 0 := by
      rcases hoc with ⟨z, -⟩ | ⟨h, -, -, -, -, z⟩
      · exact z
      · rw [q2] at z; cases z
    have hbacc : bacc g R f C' (C' 1 k') L.length m = ((g, R, f, zup C' 2 3 0), 0) := by
      rw [bacc_0 h22, hx1, baccE_a0 (h64.mp q1) q2]
    have hbr : brd len (len - k') k' (g, R, f, C') = ((g, R, f, zup C' 2 3 0), nI k') := by
      rw [show len - k' = len - k' - 1 + 1 by omega, brd_0 h32 hnd ⟨i1, i2⟩ (by rw [hbacc]), hbacc]
    obtain ⟨j, rfl⟩ : ∃ j', j = j' + 1 := ⟨j - 1, by omega⟩
    rw [hbr]
    refine AW.fail (kk := k') hP (N := zup M 0 14 (nI k')) ?_ h15 (zup_at _ _ _ _) (by omega) hMB hP'.pat.1 rfl (hP'.2.2.2.2.1.z (by omega))
    rw [hB0]
    unfold pbw
    rw [if_neg p1, if_neg p2, if_pos (Or.inr ⟨by rw [hph, hpk, q1]; rfl, hmr⟩)]
  have hok : κ = 14 → ¬ R 8 L.length = none := fun a b => hun ⟨a, b⟩
  obtain ⟨C1, hbacc, hC1, c22, c23⟩ := SGN hP' hL h22 hx1 (by omega) (by omega) hκ hdg hlt h64 hb hnx hok
  obtain ⟨G1, eG1⟩ : ∃ G1, G1 = (if κ = 14 then zpR (gA t (dxG (znG g 1 0) g.1 (nI (tx k'))) g.1 L) g.1 7 (R 8 L.length) else gA t (dxG (znG g 1 0) g.1 (nI (tx k'))) g.1 L) := ⟨_, rfl⟩
  obtain ⟨R1, eR1⟩ : ∃ R1, R1 = zup (zup (zup R 3 m (some g.1)) 4 (L.length + 1) (some g.1)) 8 (L.length + 1) (R 8 L.length) := ⟨_, rfl⟩
  obtain ⟨F1, eF1⟩ : ∃ F1, F1 = dxF (znG g 1 0) (znI g f) g.1 (nI (tx k')) := ⟨_, rfl⟩
  rw [← eG1, ← eR1, ← eF1] at hbacc
  have hbr : brd len (len - k') k' (g, R, f, C') = brd len (len - (k' + 1)) (k' + 1) (G1, R1, F1, C1) := by
    rw [show len - k' = len - (k' + 1) + 1 by omega, brd_1 h32 hnd ⟨i1, i2⟩ (by rw [hbacc]; exact (by decide : ¬ (1 : Int32) = 0)), hbacc]
  rw [hbr]
  obtain ⟨N, eN⟩ : ∃ N, N = zup M 0 14 (nI (k' + 1)) := ⟨_, rfl⟩
  have e14 : patn (zup M 0 14 (nI k')) = N := by
    unfold patn
    rw [zup_at, zup_zup, eN]
    exact congrArg (zup M 0 14) (ixA (a := k') (b := 1) rfl (ixC 1))
  have hB1 : pparB M how = pbwG (preadArg N (nI κ)).2 (nI κ) (preadArg N (nI κ)).1 (C' 7 L.length) (pparR0 M) := by
    rw [hB0, pbw_1 p1 p2 (by
      rw [hph, hpk]
      rintro (z | ⟨z1, z2⟩)
      · exact n9 z
      · have q : κ = 14 := (nI_eq (b := 14) (by omega) (by decide)).mp z1
        rcases hoc with ⟨-, z⟩ | ⟨h, z3, z4, -, z, -⟩
        · exact hok q z
        · rw [z2] at z
          have := hP'.2.1.2.2.1
          have z5 : h + 1 = 0 := (nI_eq (a := h + 1) (b := 0) (by omega) (by decide)).mp z.symm
          omega)]
    unfold pbwA
    rw [hph, hpk, e14]
  obtain ⟨-, d2, -, -, d5, -, d7⟩ := dx_o (g := g) (f := f) (x := nI (tx k'))
  have hF0 : ∀ a : Int32, ∀ F, F = zup F1 g.1 1 a → (∀ y, y ≠ g.1 → F y = dxF (znG g 1 0) (znI g f) g.1 (nI (tx k')) y) ∧ F g.1 0 = nI (tx k') ∧ (κ = 8 ∨ κ = 10 ∨ κ = 11 ∨ κ = 13 → F g.1 1 = a) := fun a F eF => by
    rw [eF, eF1]
    exact ⟨fun y hy => zup_r hy, (zup_ne _ _ _ _ (by omega)).trans d5, fun _ => zup_at _ _ _ _⟩
  have hoc' : OC (zup M 0 14 (nI k') 1) t fs t.1 (pparR0 M) (R 8 L.length) := by rw [zup_r (by decide)]; exact hoc
  have hz1 : zup F1 g.1 1 0 = F1 := zup_self (by rw [eF1]; exact d7 1 (by decide))
  have hPi := hP'.openE (κ := κ) (k2 := k' + 1) (x := nI (tx k')) (a := 0) (mr := pparR0 M) (F := F1) (G1 := G1) (R1 := R1) (C1 := C1) hL hn0 ⟨hκ.2, by omega⟩ hsg ⟨fun _ => ⟨0, by decide, rfl⟩, fun _ => ⟨0, by decide, rfl⟩, fun _ => ⟨0, by decide, rfl⟩⟩ ⟨by omega, by omega⟩ hoc' hok (hF0 0 F1 hz1.symm) eG1 eR1 hC1
  rw [zup_zup, ← eN] at hPi
  have hft : fs ≤ t.1 := hP.2.1.2.2.1.2.1
  have hbot : bot ((t.1, κ, 0, 0, 0) :: L) (t2N g R C' t L).1 = fs := by
    show bot L t.1 = fs
    exact hbt
  have hNX : NX ((t.1, κ, 0, 0, 0) :: L) := ⟨_, _, rfl, fun z => absurd z.2.1 (show ¬ (0 : Nat) = 1 by decide)⟩
  have hTe : TE t0 fs (t2N g R C' t L) := hte.new hft
  have c70 : C1 7 0 = (if how = 1 then 8388608 else 0) := (hC1.2.2.2.2.2 0 (by omega)).trans h70
  by_cases hno : κ = 8 ∨ κ = 10 ∨ κ = 11 ∨ κ = 13
  · obtain ⟨lo, hi, hlo, ea, hbd, hcl⟩ := barg hno
    rw [ea] at hB1
    have hx15 : ¬ κ = 15 := by omega
    have hnd1 : ND len C1 (k' + 1) := fun _ z => by
      have z2 := z.2.1
      rw [c23] at z2
      exact absurd z2 (by decide)
    obtain ⟨C2, k3, s1, s2, s3, s4, s5, s6, s7, s8, s9, s10⟩ := hPi.skip hnd1
    have hTXi := hPi.2.1.1
    have h14i := hPi.2.1.2.1.2.2.2.1
    have hTN : TX len tx C' N := hTX.at rfl (by rw [eN, zup_ne _ _ _ _ (by omega), zup_ne _ _ _ _ (by omega)]) (by rw [eN, zup_r (by decide), zup_r (by decide)])
    have h14N : N 0 14 = nI (k' + 1) := by rw [eN, zup_at]
    have hskN := pskip_as hTN h14N (by omega) hTXi h14i s8 s2
    have eN3 : ∀ q, zup N 0 14 (nI q) = zup M 0 14 (nI q) := fun q => by rw [eN, zup_zup]
    obtain ⟨t1, t2⟩ := ptake_e hTN h14N hskN s2 hlo
    rw [s6]
    have c2r : ∀ r, r ≠ 2 → C2 r = C1 r := s3
    have h22' : C2 2 2 = nxk κ := (s4 2 (by decide)).trans c22
    have h29' : C2 2 9 = nI (L.length + 1) := (s4 9 (by decide)).trans hC1.2.2.1
    have h29n : ¬ C2 2 9 < 1 := by rw [h29']; exact nI_nlt (a := L.length + 1) (b := 1) (by omega) (by omega)
    have hR4 : R1 4 (L.length + 1) = some g.1 := by rw [eR1, zup_r (by decide), zup_at]
    have hG6 : G1.2.2.2 g.1 6 = none := by
      have := (hPi.1.1.2.2.2.2.2.1 hx15).2
      have e1 : (t2N g R C' t L).2.1 t.1 = g.1 := tN_n.1
      have this : G1.2.2.2 ((t2N g R C' t L).2.1 t.1) 6 = none := this
      rw [e1] at this
      exact this
    have hKs := s5.2.2.2.2.1
    obtain ⟨q1, q2, q3, q4⟩ := s5.idx
    by_cases hin : k3 < len ∧ lo ≤ tx k3 ∧ tx k3 ≤ hi
    · obtain ⟨w1, w2⟩ := hin
      obtain ⟨u1, u2, u3, u4⟩ := s10 w1
      have et := t1 w1 w2
      rw [eN3] at et
      obtain ⟨b1, -⟩ := hcl G1 R1 F1 C2 (tx k3) (L.length + 1) (m + 1) g.1 h22' h29n hR4 hG6 u3
      have hb1 := b1 w2
      rw [← u4] at hb1
      obtain ⟨C3, eC3⟩ : ∃ C3, C3 = zup (zup C2 2 3 0) 2 2 0 := ⟨_, rfl⟩
      rw [← eC3] at hb1
      have hbr2 : brd len (len - k3) k3 (G1, R1, F1, C2) = brd len (len - (k3 + 1)) (k3 + 1) (G1, R1, zup F1 g.1 1 (nI (tx k3 - lo)), C3) := by
        rw [show len - k3 = len - (k3 + 1) + 1 by omega, brd_1 (n := L.length + 1) (m := m + 1) (by rw [u4]; exact fun z => u1 ((nI_eq (b := 32) (by omega) (by decide)).mp z)) (s7 w1) ⟨q1, q2⟩ (by rw [hb1]; exact (by decide : ¬ (1 : Int32) = 0)), hb1]
      rw [hbr2]
      have c3r : ∀ r, r ≠ 2 → C3 r = C1 r := fun r hr => by rw [eC3, zup_r hr, zup_r hr]; exact c2r r hr
      have c3j : ∀ j, j ≠ 2 → j ≠ 3 → C3 2 j = C1 2 j := fun j h2 h3 => by rw [eC3, zup_ne _ _ _ _ (Or.inr h2), zup_ne _ _ _ _ (Or.inr h3)]; exact s4 j h3
      obtain ⟨y1, y2, y3, y4, y5⟩ := hC1
      have hPf := hP'.openE (κ := κ) (k2 := k3 + 1) (x := nI (tx k')) (a := nI (tx k3 - lo)) (mr := pparR0 M) (F := zup F1 g.1 1 (nI (tx k3 - lo))) (G1 := G1) (R1 := R1) (C1 := C3) hL hn0 ⟨hκ.2, by omega⟩ hsg ⟨fun z => ⟨tx k3 - lo, by have := hbd.1 z; omega, rfl⟩, fun z => ⟨tx k3 - lo, by have := hbd.2.1 z; omega, rfl⟩, fun z => ⟨tx k3 - lo, by have := hbd.2.2 z; omega, rfl⟩⟩ ⟨by omega, by omega⟩ hoc' hok (hF0 _ _ rfl) eG1 eR1 ⟨fun r a b c => (c3r r a).trans (y1 r a b c), (c3j 1 (by decide) (by decide)).trans y2, (c3j 9 (by decide) (by decide)).trans y3, by rw [c3r 5 (by decide)]; exact y4, by rw [c3r 7 (by decide)]; exact y5⟩
      rw [zup_zup] at hPf
      rw [et, pbwG_t (by show zup M 0 14 (nI (k3 + 1)) 0 15 = -9; rw [zup_ne _ _ _ _ (by omega)]; exact hP.2.1.2.1.2.2.2.2)] at hB1
      have h322 : C3 2 2 = 0 := by rw [eC3, zup_at]
      have h323 : C3 2 3 = 0 := by rw [eC3, zup_ne _ _ _ _ (by omega), zup_at]
      obtain ⟨a1, a2⟩ := hA _ _ _ _ _ _ _ _ _ j hPf (Or.inl hNX) hbot h322 (fun _ z => by
        have z2 := z.2.1
        rw [h323] at z2
        exact absurd z2 (by decide)) (by rw [c3r 7 (by decide)]; exact c70) hTe (hSW.beg (M := M) (w := 2) hP.P3 ((zup_ne _ _ _ _ (by omega)).trans hP.2.1.2.1.2.1) (by have := hP.2.1.2.2.1; omega) (zup_r (by decide)) (ownO_2 hκ.2).1 (by omega)) (by omega) hj
      obtain ⟨o1, o2⟩ := AW.ope hP hB1 a1
      exact ⟨o1, by rw [o2]; exact a2⟩
    · have et := t2 hin
      rw [eN3] at et
      have h153 : zup M 0 14 (nI k3) 0 15 = -9 := by rw [zup_ne _ _ _ _ (by omega)]; exact hP.2.1.2.1.2.2.2.2
      have ef : pfails (zup M 0 14 (nI k3)) 0 15 = nI k3 := by
        unfold pfails
        rw [zup_at, if_pos h153, zup_at]
      rw [et, pbwG_f ef (by omega)] at hB1
      obtain ⟨j, rfl⟩ : ∃ j', j = j' + 1 := ⟨j - 1, by omega⟩
      have hMB3 : MB fs M0 (zup M 0 14 (nI k3)) := hP.2.2.2.2.2.z (by omega)
      have hpt3 : pat (zup M 0 14 (nI k3)) := ⟨by rw [zup_at]; exact iv_nI (by omega) (by decide), by rw [zup_ne _ _ _ _ (by omega)]; exact hP.pat.1.2⟩
      obtain ⟨T, hT1, hT2⟩ : ∃ T, brd len (len - k3) k3 (G1, R1, F1, C2) = ((G1, R1, F1, T), nI k3) ∧ KB S0 (G1, R1, F1, T) := by
        by_cases w : k3 < len
        · obtain ⟨u1, u2, u3, u4⟩ := s10 w
          obtain ⟨-, b2⟩ := hcl G1 R1 F1 C2 (tx k3) (L.length + 1) (m + 1) g.1 h22' h29n hR4 hG6 u3
          have hb2 := b2 (fun z => hin ⟨w, z⟩)
          rw [← u4] at hb2
          refine ⟨zup C2 2 3 0, ?_, hKs.z (by omega)⟩
          rw [show len - k3 = len - k3 - 1 + 1 by omega, brd_0 (n := L.length + 1) (m := m + 1) (by rw [u4]; exact fun z => u1 ((nI_eq (b := 32) (by omega) (by decide)).mp z)) (s7 w) ⟨q1, q2⟩ (by rw [hb2]), hb2]
        · refine ⟨C2, ?_, hKs⟩
          obtain rfl : k3 = len := by omega
          rw [Nat.sub_self]
          show ((G1, R1, F1, C2), if C2 2 2 = 5 then (-9 : Int32) else nI k3) = _
          rw [if_neg (by rw [h22']; exact nxk_5 κ hκ.1)]
      rw [hT1]
      exact AW.fail (kk := k3) hP (N := zup M 0 14 (nI k3)) (by rw [hB1]) h153 (zup_at _ _ _ _) (by omega) hMB3 hpt3 rfl hT2
  · rw [preadArg_no κ hκ.1 hno N] at hB1
    rw [pbwG_t (by show N 0 15 = -9; rw [eN, zup_ne _ _ _ _ (by omega)]; exact hP.2.1.2.1.2.2.2.2)] at hB1
    have c22 : C1 2 2 = 0 := c22.trans (nxk_0 κ hκ.1 hno)
    obtain ⟨a1, a2⟩ := hA _ _ _ _ _ _ _ _ _ j hPi (Or.inl hNX) hbot c22 (fun _ z => by
        have z2 := z.2.1
        rw [c23] at z2
        exact absurd z2 (by decide)) c70 hTe (hSW.beg (M := M) (w := 1) hP.P3 (by rw [eN]; exact (zup_ne _ _ _ _ (by omega)).trans hP.2.1.2.1.2.1) (by have := hP.2.1.2.2.1; omega) (by rw [eN]; exact zup_r (by decide)) ((ownO_2 hκ.2).2 hno) (by omega)) (by omega) hj
    obtain ⟨o1, o2⟩ := AW.ope hP hB1 a1
    exact ⟨o1, by rw [o2]; exact a2⟩
end SIGN
