/-! A text is read, in both: from a clause on. -/
theorem cs_A : ∀ y, y < 127 → ¬ (y = 58 ∨ (65 ≤ y ∧ y ≤ 70)) → ¬ (nI y = 58 ∨ ¬ (nI y - 65 < 0 ∨ 5 < nI y - 65)) := by decide +kernel
theorem cs_B : ∀ y, y < 127 → ¬ (y = 58 ∨ (65 ≤ y ∧ y ≤ 70)) → ¬ nI y = 58 ∧ ¬ (¬ nI y - 65 < 0 ∧ nI y - 65 < 6) := by decide +kernel
theorem cs_C : ∀ y, y < 127 → 65 ≤ y ∧ y ≤ 70 → (¬ nI y = 58) ∧ ¬ (nI y - 65 < 0 ∨ 5 < nI y - 65) ∧ (¬ nI y - 65 < 0 ∧ nI y - 65 < 6) := by decide +kernel
def clw (y w : Nat) : Prop := (y = 58 ∧ w = 6) ∨ (65 ≤ y ∧ y ≤ 70 ∧ w = y - 65)
theorem bcls_e {g : zG} {R : zRf} {f C : zI} {y w n : Nat} (h9 : ¬ C 2 9 < 1) (hy : y ≤ 126) (hw : clw y w) : bclsA g R f C (nI y) n = (if bclause g ((R 4 n).getD 0) (nI w) = none then ((g, zup R 8 n (if w = 6 then R 8 (n - 1) else some ((R 4 n).getD 0)), f, zup (zup C 6 n (nI w)) 2 2 1), 1) else ((g, R, f, C), 0)) := by
  have n125 : ¬ y = 125 → ¬ nI y = 125 := fun z q => z ((nI_eq (b := 125) (by omega) (by decide)).mp q)
  unfold bclsA
  rcases hw with ⟨rfl, rfl⟩ | ⟨h1, h2, rfl⟩
  · rw [if_neg h9, if_neg (by decide), if_pos (by decide), if_pos rfl]
    rfl
  · obtain ⟨a1, a2, a3⟩ := cs_C y (by omega) ⟨h1, h2⟩
    have ev : nI y - 65 = nI (y - 65) := ixS rfl (ixC 65) h1
    rw [if_neg h9, if_neg (n125 (by omega)), if_neg a1, if_pos a3, ev, if_neg (show ¬ y - 65 = 6 by omega)]
theorem bcls_0 {g : zG} {R : zRf} {f C : zI} {y n : Nat} (hy : y ≤ 126) (h : ¬ (y = 58 ∨ (65 ≤ y ∧ y ≤ 70))) (h125 : ¬ y = 125) : bclsA g R f C (nI y) n = ((g, R, f, C), 0) := by
  obtain ⟨a1, a2⟩ := cs_B y (by omega) h
  unfold bclsA
  by_cases q : C 2 9 < 1
  · rw [if_pos q]
  · rw [if_neg q, if_neg (fun z : nI y = 125 => h125 ((nI_eq (b := 125) (by omega) (by decide)).mp z)), if_neg a1, if_neg a2]
theorem pbc_e {M : zI} {h : Int32} {y w : Nat} (hph : phere M = nI y) (hy : y ≤ 126) (hw : clw y w) : pbclause M h = (if pclause M h (nI w) = -9 then (if (ptake (patn M) 97 122).2 0 15 = -9 then pbcD (ptake (patn M) 97 122).2 h (nI w) (ptake (patn M) 97 122).1 (phere M = 58) else (ptake (patn M) 97 122).2) else pfails M) := by
  have e1 : pbc1 M = nI w := by
    unfold pbc1
    rw [hph]
    rcases hw with ⟨rfl, rfl⟩ | ⟨h1, h2, rfl⟩
    · rfl
    · obtain ⟨a1, a2, a3⟩ := cs_C y (by omega) ⟨h1, h2⟩
      rw [if_neg a1]; exact ixS rfl (ixC 65) h1
  have e2 : phere M = 58 ∨ ¬ (phere M - 65 < 0 ∨ 5 < phere M - 65) := by
    rw [hph]
    rcases hw with ⟨rfl, rfl⟩ | ⟨h1, h2, rfl⟩
    · exact Or.inl rfl
    · exact Or.inr (cs_C y (by omega) ⟨h1, h2⟩).2.1
  unfold pbclause
  rw [e1]
  by_cases q : pclause M h (nI w) = -9
  · rw [if_pos ⟨e2, q⟩, if_pos q]
  · rw [if_neg (fun z => q z.2), if_neg q]
theorem pbc_0 {M : zI} {h : Int32} {y : Nat} (hph : phere M = nI y) (hy : y ≤ 126) (hw : ¬ (y = 58 ∨ (65 ≤ y ∧ y ≤ 70))) : pbclause M h = pfails M := by
  have := cs_A y (by omega) hw
  unfold pbclause
  rw [hph, if_neg (fun z => this z.1)]
theorem SW.clb {fs : Nat} {M : zI} {e : Ent} {L : List Ent} {n w k k2 : Nat} {N : zI} {h a : Int32} (r : Prop) [Decidable r] (hS : SW fs (M 1) (e :: L) n k) (h3 : P3 (e :: L)) (he : e.2.1 = 15 ∧ e.2.2.1 = 1 ∧ e.2.2.2.1 = 0) (hN : N 0 1 = nI n) (hn : n ≤ 65000) (hen : e.1 < n) (h1 : N 1 = M 1) (hk : k + 2 ≤ k2) : SW fs (pbcD N (nI e.1) h a r 1) ((e.1, 15, 1, n, w) :: L) (n + 1) k2 := by
  obtain ⟨p1, p2, p3, p4, p5, -⟩ := pmake_1 (M := N) (κ := nI 16) (a := a) (N := n) hN (by omega)
  have e1 : ∀ j, pbcD N (nI e.1) h a r 1 j = zup (zup (zup (pmake N 16 a) 1 (5 * n + 3) (pmake N 16 a 1 (5 * e.1 + 3))) 1 (5 * n + 4) h) 1 (5 * e.1 + 3) (nI n) 1 j := fun j => by
    unfold pbcD penter pbcC
    try dsimp only
    rw [zup_r (by decide), zup_r (by decide), zup_r (by decide), zup_r (by decide), zup_r (by decide), hN, tn_nI (by omega), tn_nI (by omega)]
  obtain ⟨s1, s2, y1, y2, y3⟩ := hS
  refine ⟨s1 + 2, s2, by omega, y2.clb he.1 he.2.1 he.2.2 (by omega) (fun c c1 c2 => ?_) ?_, y3.fr L _ _ _ (fun e' he' => h3 e' (List.mem_cons_of_mem _ he')) (Nat.le_refl _) (fun c hc => ?_)⟩
  · rw [e1, zup_ne _ _ _ _ (Or.inr c2), zup_ne _ _ _ _ (by omega), zup_ne _ _ _ _ (by omega)]
    exact (p1 c c1).trans (congrFun h1 c)
  · rw [e1, zup_ne _ _ _ _ (by omega), zup_ne _ _ _ _ (by omega), zup_at]
    exact (p1 _ (by omega)).trans (congrFun h1 _)
  · rw [e1, zup_ne _ _ _ _ (by omega), zup_ne _ _ _ _ (by omega), zup_ne _ _ _ _ (by omega)]
    exact (p1 c (by omega)).trans (congrFun h1 c)
section CLPS
variable {b0 n0 fs : Nat} {S0 : bSt} {M0 : zI} {len : Nat} {tx : Nat → Nat} {t0 : zTs} {how : Int32}
theorem CP.step {r : Nat} (hn0 : b0 ≤ S0.1.1 ∧ n0 ≤ S0.1.1) (ih : ∀ r', r = r' + 1 → AWp b0 n0 fs S0 M0 len tx t0 how r' ∧ CPp b0 n0 fs S0 M0 len tx t0 how r') : CPp b0 n0 fs S0 M0 len tx t0 how r := by
  intro g f R C M t L m k i j hP hNC hbt h24 hnd h70 hte hSW hr hi hj
  obtain ⟨e, L, rfl, k15, kp, cz⟩ := hNC
  obtain ⟨i, rfl⟩ : ∃ i', i = i' + 1 := ⟨i - 1, by omega⟩
  obtain ⟨C', k', s1, s2, s3, s4, s5, s6, s7, s8, s9, s10⟩ := hP.skip hnd
  rw [s6]
  have hTX := s5.2.1.1
  have hl := hTX.1
  have h24' : C' 2 2 = 4 := (s4 2 (by decide)).trans h24
  have hP1 := hP
  obtain ⟨⟨h1, ⟨h2, -⟩, h3⟩, ⟨-, ⟨-, c2, -, -, c5⟩, ⟨c6, c7, c8, c9, c10, c11⟩, c12, c13⟩, -, -, hK, -⟩ := hP1
  obtain ⟨⟨b1, b2, b3, b4, b5⟩, -, -, -, -, -, hh, -⟩ := h1
  obtain ⟨⟨r1, r2, -, -⟩, ⟨r5, -⟩, -⟩ := h2
  have b2 : e.1 < t.1 := b2
  have ho1 : opn (e :: L) = opn L + 1 := by show opn L + (if e.2.2.2.1 = 0 then 1 else 2) = _; rw [if_pos cz]
  have h13 : M 0 13 = nI (opn L + 1) := c13.trans (congrArg nI ho1)
  have hpt : ptop M = opn L := by unfold ptop; rw [h13, tn_nI (by omega)]; omega
  have g7 : M 7 (ptop M) = nI e.1 := by rw [hpt]; exact r1
  have g8 : M 8 (ptop M) = 1 := by rw [hpt, r2, kp]; rfl
  have gk : pkind M (M 7 (ptop M)) = 15 := by rw [g7, pkind_n (by omega), b3, k15]; rfl
  have gpos : 0 < M 0 13 := by rw [h13]; exact nI_lt (a := 0) (by omega) (by omega)
  have hgo : pgoes (i + 1) M = if phere (pskip M) = 125 then pgoes i (pgoD (patn (pskip M)) (nI e.1) 15) else (1, pbclause (pskip M) (nI e.1)) := by
    show (if ¬ 0 < M 0 13 then (0, M) else _) = _
    rw [if_neg (fun z => z gpos), if_pos ⟨gk, g8⟩, gk, g7]
  have hgV : (phere (pskip M) = 125 → pgoesV i (pgoD (patn (pskip M)) (nI e.1) 15)) → (¬ phere (pskip M) = 125 → pbclauseV (pskip M) (nI e.1)) → pgoesV (i + 1) M := fun z1 z2 => ⟨hP.pat.1, hP.pat.2.1, fun _ => ⟨by rw [g7]; exact iv_nI (by omega) (by decide), fun _ => ⟨fun y => ⟨fun y1 _ => by
      rw [h13, tn_nI (by omega), show opn L + 1 - 1 = opn L by omega] at y1
      rw [h13, tn_nI (by omega), show opn L + 1 - 2 = opn L - 1 by omega]
      exact h3.top (by omega) y1, by rw [gk, g7]; exact z1 y⟩, fun y => by rw [g7]; exact z2 y⟩, fun y => absurd ⟨gk, g8⟩ y⟩⟩
  obtain ⟨i1, i2, i3, i4⟩ := s5.idx
  have h29n : ¬ zup C' 2 3 0 2 9 < 1 := by
    rw [zup_ne _ _ _ _ (by omega), s5.2.1.2.2.2.1]
    exact nI_nlt (a := L.length + 1) (b := 1) (by omega) (by have i3 : L.length + 1 ≤ 120 := i3; omega)
  have i1 : tn (C' 2 9) = L.length + 1 := i1
  have i3 : L.length + 1 ≤ 120 := i3
  have h70' : C' 7 0 = (if how = 1 then 8388608 else 0) := by rw [s3 7 (by decide)]; exact h70
  by_cases q125 : k' < len ∧ tx k' = 125
  · obtain ⟨q1, q2⟩ := q125
    obtain ⟨u1, u2, u3, u4⟩ := s10 q1
    have hph : phere (pskip M) = 125 := by rw [s9, if_pos q1, q2]; rfl
    obtain ⟨r', rfl⟩ : ∃ r', r = r' + 1 := ⟨r - 1, by omega⟩
    obtain ⟨hA, hC⟩ := ih r' rfl
    have e29 : zup C' 2 3 0 2 9 - 1 = nI L.length := by
      rw [zup_ne _ _ _ _ (by omega), s5.2.1.2.2.2.1]
      exact ixS (a := L.length + 1) (b := 1) rfl (ixC 1) (by omega)
    have hbacc : bacc g R f C' (C' 1 k') (L.length + 1) m = ((g, R, f, bepA f R L.length (zup (zup C' 2 3 0) 2 9 (nI L.length))), 1) := by
      rw [bacc_4 h24', u4, q2]
      unfold bclsA
      rw [if_neg h29n, if_pos (by decide), e29, Nat.add_sub_cancel]
    have hbr : brd len (len - k') k' (g, R, f, C') = brd len (len - (k' + 1)) (k' + 1) (g, R, f, bepA f R L.length (zup (zup C' 2 3 0) 2 9 (nI L.length))) := by
      rw [show len - k' = len - (k' + 1) + 1 by omega, brd_1 (by rw [u4]; exact fun z => u1 ((nI_eq (b := 32) (by omega) (by decide)).mp z)) (s7 q1) ⟨i1, i2⟩ (by rw [hbacc]; exact (by decide : ¬ (1 : Int32) = 0)), hbacc]
    have hATT := ((s5.cc (C' := zup C' 2 3 0) (fun r hr => zup_r hr) (zup_ne _ _ _ _ (by omega)) (zup_ne _ _ _ _ (by omega))).mvk (k' := k' + 1) ⟨by omega, by omega⟩).shut ⟨k15, kp, cz⟩ hbt
    rw [zup_zup] at hATT
    have eD : pgoD (patn (pskip M)) (nI e.1) 15 = pattA (zup (zup M 0 14 (nI (k' + 1))) 0 13 (nI (opn L))) e.1 := by
      have e14 : patn (pskip M) = zup M 0 14 (nI (k' + 1)) := by
        rw [s8]
        unfold patn
        rw [zup_at, zup_zup]
        exact congrArg (zup M 0 14) (ixA (a := k') (b := 1) rfl (ixC 1))
      have eC : pgoC (patn (pskip M)) = zup (zup M 0 14 (nI (k' + 1))) 0 13 (nI (opn L)) := by
        unfold pgoC
        rw [e14, zup_ne _ _ _ _ (by omega), h13, show nI (opn L + 1) - 1 = nI (opn L) from ixS (a := opn L + 1) (b := 1) rfl (ixC 1) (by omega)]
      unfold pgoD pattA
      rw [eC]
      by_cases z : 0 < zup (zup M 0 14 (nI (k' + 1))) 0 13 (nI (opn L)) 0 13
      · rw [if_pos z, if_pos ⟨z, by decide⟩]
      · rw [if_neg z, if_neg (fun y => z y.1)]
    have hAW : ATW fs (zup (zup M 0 14 (nI (k' + 1))) 0 13 (nI (opn L)) 1) L t.1 e.1 (k' + 1) := by
      obtain ⟨σ1, σ2, y1, y2, y3⟩ := hSW
      rw [zup_r (by decide), zup_r (by decide)]
      refine ⟨σ2, σ1 + 1, y3, y2.done b5 b3 (by rw [k15, kp]; rfl) cz ?_, by omega⟩
      rw [if_pos k15]; exact Nat.le_refl _
    have hcl := ATT.clo L i _ _ e.1 (by omega) hATT hAW
    obtain ⟨d1, d2, d3⟩ := CLO.go hA hC hcl (fun _ z => by
      have z2 := z.2.1
      rw [bepA_23, zup_ne _ _ _ _ (by omega), zup_at] at z2
      exact absurd z2 (by decide)) (by rw [bepA_70, zup_ne _ _ _ _ (by omega), zup_ne _ _ _ _ (by omega)]; exact h70') hte (by omega) hj
    rw [hbr, hgo, if_pos hph, eD]
    exact ⟨hgV (fun _ => by rw [eD]; exact d1) (fun y => absurd hph y), d2, d3⟩
  · have hph : ¬ phere (pskip M) = 125 := by
      rw [s9]
      by_cases z : k' < len
      · rw [if_pos z]
        have := (s10 z).2.2.1
        exact fun y => q125 ⟨z, (nI_eq (b := 125) (by omega) (by decide)).mp y⟩
      · rw [if_neg z]; decide
    obtain ⟨Ms, eMs⟩ : ∃ Ms, Ms = zup M 0 14 (nI k') := ⟨_, rfl⟩
    have hHN : HN b0 n0 g f (Ms 1) (t.1, t.2) e.1 (t.2.1 e.1) := by
      have := hh k15
      rw [cz] at this
      rw [eMs, zup_r (by decide)]
      exact HP.hn this
    have hmr : ∀ j, j ≠ 14 → Ms 0 j = M 0 j := fun j hj => by rw [eMs, zup_ne _ _ _ _ (Or.inr hj)]
    have hV : pbclauseV (pskip M) (nI e.1) := by
      rw [s8, ← eMs]
      refine ⟨by rw [eMs]; exact s5.pat.1, iv_nI (by omega) (by decide), (hHN.clause (M := Ms) (t := (t.1, t.2)) (w := 0) (by show t.1 ≤ 65000; omega) b2 (by decide)).1, by rw [hmr 1 (by decide), c2]; exact iv_nI (by omega) (by decide), ?_⟩
      rw [hmr 13 (by decide), h13, tn_nI (by omega)]
      exact ⟨iv_nI (by omega) (by decide), by omega⟩
    rw [hgo, if_neg hph]
    refine ⟨hgV (fun y => absurd y hph) (fun _ => hV), ?_⟩
    show pparV how j 1 (pbclause (pskip M) (nI e.1)) ∧ RES b0 n0 fs S0 M0 len t0 (mk how) _ (ppar how j 1 (pbclause (pskip M) (nI e.1)))
    rw [s8, ← eMs]
    have hMB : MB fs M0 Ms := by rw [eMs]; exact s5.2.2.2.2.2
    have h15 : Ms 0 15 = -9 := by rw [hmr 15 (by decide)]; exact c5
    have h14 : Ms 0 14 = nI k' := by rw [eMs, zup_at]
    have hpat : pat Ms := by rw [eMs]; exact s5.pat.1
    have hKs := s5.2.2.2.2.1
    have hfl : ∀ T, brd len (len - k') k' (g, R, f, C') = ((g, R, f, T), nI k') → KB S0 (g, R, f, T) → pbclause Ms (nI e.1) = pfails Ms → pparV how j 1 (pbclause Ms (nI e.1)) ∧ RES b0 n0 fs S0 M0 len t0 (mk how) (brd len (len - k') k' (g, R, f, C')) (ppar how j 1 (pbclause Ms (nI e.1))) := fun T z1 z2 z3 => by
      obtain ⟨j, rfl⟩ : ∃ j', j = j' + 1 := ⟨j - 1, by omega⟩
      rw [z1, z3]
      exact CP.fail (kk := k') h15 h14 (by omega) hMB hpat rfl z2
    by_cases hk' : k' < len
    · obtain ⟨u1, u2, u3, u4⟩ := s10 hk'
      have h32 : ¬ C' 1 k' = 32 := by rw [u4]; exact fun z => u1 ((nI_eq (b := 32) (by omega) (by decide)).mp z)
      have n125 : ¬ tx k' = 125 := fun z => q125 ⟨hk', z⟩
      have hpm : phere Ms = nI (tx k') := by rw [eMs, ← s8, s9, if_pos hk']
      have hbf : bclsA g R f (zup C' 2 3 0) (nI (tx k')) (L.length + 1) = ((g, R, f, zup C' 2 3 0), 0) → brd len (len - k') k' (g, R, f, C') = ((g, R, f, zup C' 2 3 0), nI k') := fun z => by
        have hb : bacc g R f C' (C' 1 k') (L.length + 1) m = ((g, R, f, zup C' 2 3 0), 0) := by rw [bacc_4 h24', u4, z]
        rw [show len - k' = len - k' - 1 + 1 by omega, brd_0 h32 (s7 hk') ⟨i1, i2⟩ (by rw [hb]), hb]
      by_cases hw : tx k' = 58 ∨ (65 ≤ tx k' ∧ tx k' ≤ 70)
      · obtain ⟨w, hw7, hcw, h6⟩ : ∃ w, w < 7 ∧ clw (tx k') w ∧ (tx k' = 58 ↔ w = 6) := by
          rcases hw with z | z
          · exact ⟨6, by decide, Or.inl ⟨z, rfl⟩, ⟨fun _ => rfl, fun _ => z⟩⟩
          · exact ⟨tx k' - 65, by omega, Or.inr ⟨z.1, z.2, rfl⟩, by omega⟩
        have hr4 : (R 4 (L.length + 1)).getD 0 = t.2.1 e.1 := by rw [r5]; rfl
        have ecl := bcls_e (g := g) (R := R) (f := f) (C := zup C' 2 3 0) (n := L.length + 1) h29n u3 hcw
        rw [hr4] at ecl
        have epb := pbc_e (M := Ms) (h := nI e.1) hpm u3 hcw
        rcases (hHN.clause (M := Ms) (t := (t.1, t.2)) (w := w) (by show t.1 ≤ 65000; omega) b2 hw7).2 with ⟨z1, z2⟩ | ⟨q, v, b, z1, z2, z3, -, -, -, -, -, -, z4, -⟩
        · rw [if_pos z2, Nat.add_sub_cancel] at ecl
          rw [if_pos z1] at epb
          obtain ⟨r', rfl⟩ : ∃ r', r = r' + 1 := ⟨r - 1, by omega⟩
          obtain ⟨hA, hC⟩ := ih r' rfl
          obtain ⟨R1, eR1⟩ : ∃ R1, R1 = zup R 8 (L.length + 1) (if w = 6 then R 8 L.length else some (t.2.1 e.1)) := ⟨_, rfl⟩
          obtain ⟨C1, eC1⟩ : ∃ C1, C1 = zup (zup (zup C' 2 3 0) 6 (L.length + 1) (nI w)) 2 2 1 := ⟨_, rfl⟩
          rw [← eR1, ← eC1] at ecl
          have hbacc : bacc g R f C' (C' 1 k') (L.length + 1) m = ((g, R1, f, C1), 1) := by rw [bacc_4 h24', u4, ecl]
          have hbr : brd len (len - k') k' (g, R, f, C') = brd len (len - (k' + 1)) (k' + 1) (g, R1, f, C1) := by
            rw [show len - k' = len - (k' + 1) + 1 by omega, brd_1 h32 (s7 hk') ⟨i1, i2⟩ (by rw [hbacc]; exact (by decide : ¬ (1 : Int32) = 0)), hbacc]
          have c1r : ∀ r, r ≠ 2 → r ≠ 6 → C1 r = C' r := fun r a b => by rw [eC1, zup_r a, zup_r b, zup_r a]
          have c12 : ∀ j, j ≠ 2 → j ≠ 3 → C1 2 j = C' 2 j := fun j a b => by rw [eC1, zup_ne _ _ _ _ (Or.inr a), zup_r (by decide), zup_ne _ _ _ _ (Or.inr b)]
          have c122 : C1 2 2 = 1 := by rw [eC1, zup_at]
          have c123 : C1 2 3 = 0 := by rw [eC1, zup_ne _ _ _ _ (by omega), zup_r (by decide), zup_at]
          have c16 : C1 6 (L.length + 1) = nI w ∧ ∀ j, j ≠ L.length + 1 → C1 6 j = C' 6 j := by
            rw [eC1]
            exact ⟨by rw [zup_r (by decide), zup_at], fun j hj => by rw [zup_r (by decide), zup_ne _ _ _ _ (Or.inr hj), zup_r (by decide)]⟩
          have e14 : patn Ms = zup M 0 14 (nI (k' + 1)) := by
            rw [eMs]
            unfold patn
            rw [zup_at, zup_zup]
            exact congrArg (zup M 0 14) (ixA (a := k') (b := 1) rfl (ixC 1))
          have hTX1 : TX len tx C1 (zup M 0 14 (nI (k' + 1))) := hTX.at (c1r 1 (by decide) (by decide)) (by rw [zup_ne _ _ _ _ (by omega), zup_ne _ _ _ _ (by omega)]) (by rw [zup_r (by decide), zup_r (by decide)])
          obtain ⟨C2, n1, -, -, n4⟩ := brd_nb (g := g) (R := R1) (f := f) 121 (k' + 1) C1 hTX1 (by omega)
          have n1 : C2 = C1 := n1.elim id (fun z => z.trans (zup_self c123))
          rw [n1] at n4
          obtain ⟨k3, ek3⟩ : ∃ k3, k3 = nbk len tx 121 (k' + 1) := ⟨_, rfl⟩
          have hge := nbk_ge (len := len) (tx := tx) 121 (k' + 1)
          have hle := nbk_le (len := len) (tx := tx) 121 (k' + 1) (by omega)
          have hnb := nbk_nb (len := len) (tx := tx) 121 (k' + 1) (by omega) (by omega)
          have hsk : pskip (zup M 0 14 (nI (k' + 1))) = zup (zup M 0 14 (nI (k' + 1))) 0 14 (nI k3) := by rw [ek3]; exact pskip_e hTX1 (zup_at _ _ _ _) (by omega)
          rw [← ek3] at hge hle hnb n4
          rw [hbr, n4]
          obtain ⟨t1, t2⟩ := ptake_e (lo := 97) (hi := 122) hTX1 (zup_at _ _ _ _) hsk hle (by decide)
          have l97 : (nI 97 : Int32) = 97 := rfl
          have l122 : (nI 122 : Int32) = 122 := rfl
          rw [l97, l122, ← e14] at t1 t2
          have hkk1 : KB S0 (g, R1, f, C1) := by
            obtain ⟨k5, k6, k7, k8, k9, k10, k11⟩ := hKs
            refine ⟨k5, fun r a b c d => (c1r r a c).trans (k6 r a b c d), fun r a b c => ?_, ?_, k9, k10, fun q => ?_⟩
            · show R1 r = _
              rw [eR1, zup_r c]; exact k7 r a b c
            · show R1 8 0 = _
              rw [eR1, zup_ne _ _ _ _ (by omega)]; exact k8
            · show iv 7 (C1 6 q)
              by_cases z : q = L.length + 1
              · rw [z, c16.1]; exact iv_nI (by omega) (by decide)
              · rw [c16.2 q z]; exact k11 q
          have i11 : tn (C1 2 9) = L.length + 1 := by rw [c12 9 (by decide) (by decide)]; exact i1
          have i12 : tn (C1 2 1) = m := by rw [c12 1 (by decide) (by decide)]; exact i2
          have h19 : ¬ zup C1 2 3 0 2 9 < 1 := by
            rw [zup_ne _ _ _ _ (by omega), c12 9 (by decide) (by decide)]
            rw [zup_ne _ _ _ _ (by omega)] at h29n
            exact h29n
          have hr14 : (R1 4 (L.length + 1)).getD 0 = t.2.1 e.1 := by rw [eR1, zup_r (by decide)]; exact hr4
          have hg6 : g.2.2.2 ((R1 4 (L.length + 1)).getD 0) 6 = some (t.2.1 e.1 + 2) := by
            rw [hr14]; exact hHN.1.2.1
          by_cases hin : k3 < len ∧ 97 ≤ tx k3 ∧ tx k3 ≤ 122
          · obtain ⟨w1, w2⟩ := hin
            have v126 := (hTX.2.2 k3 w1).2.2.2
            have v1 : C1 1 k3 = nI (tx k3) := (hTX1.2.2 k3 w1).1
            have et := t1 w1 w2
            rw [e14, zup_zup, ← e14] at et
            have ev : nI (tx k3) - 97 = nI (tx k3 - 97) := ixS rfl (ixC 97) w2.1
            have hb2 : bacc g R1 f C1 (C1 1 k3) (L.length + 1) m = ((g, R1, zup f (t.2.1 e.1 + 2) w (nI (tx k3 - 97)), zup (zup (zup C1 2 3 0) 7 (L.length + 1) (C' 7 L.length ||| 1 <<< (nI (tx k3 - 97) &&& 31))) 2 2 0), 1) := by
              rw [bacc_1 c122, v1, bvarA_s ((ltrI v126).mpr w2) h19 hg6, ev, zup_r (show (6 : Nat) ≠ 2 by decide), c16.1, tn_nI (by omega), zup_r (show (7 : Nat) ≠ 2 by decide), Nat.add_sub_cancel, c1r 7 (by decide) (by decide)]
            obtain ⟨C3, eC3⟩ : ∃ C3, C3 = zup (zup (zup C1 2 3 0) 7 (L.length + 1) (C' 7 L.length ||| 1 <<< (nI (tx k3 - 97) &&& 31))) 2 2 0 := ⟨_, rfl⟩
            rw [← eC3] at hb2
            have hbr2 : brd len (len - k3) k3 (g, R1, f, C1) = brd len (len - (k3 + 1)) (k3 + 1) (g, R1, zup f (t.2.1 e.1 + 2) w (nI (tx k3 - 97)), C3) := by
              rw [show len - k3 = len - (k3 + 1) + 1 by omega, brd_1 (by rw [v1]; exact fun z => hnb ⟨w1, (nI_eq (b := 32) (by omega) (by decide)).mp z⟩) (fun z => by
                have z2 := z.2.1
                rw [c123] at z2
                exact absurd z2 (by decide)) ⟨i11, i12⟩ (by rw [hb2]; exact (by decide : ¬ (1 : Int32) = 0)), hb2]
            rw [hbr2]
            have c3r : ∀ r, r ≠ 2 → r ≠ 7 → C3 r = C1 r := fun r a b => by rw [eC3, zup_r a, zup_r b, zup_r a]
            have c37 : C3 7 (L.length + 1) = C' 7 L.length ||| 1 <<< (nI (tx k3 - 97) &&& 31) ∧ ∀ j, j ≠ L.length + 1 → C3 7 j = C' 7 j := by
              rw [eC3]
              exact ⟨by rw [zup_r (by decide), zup_at], fun j hj => by rw [zup_r (by decide), zup_ne _ _ _ _ (Or.inr hj), zup_r (by decide), c1r 7 (by decide) (by decide)]⟩
            have c32 : ∀ j, j ≠ 2 → j ≠ 3 → C3 2 j = C' 2 j := fun j a b => by rw [eC3, zup_ne _ _ _ _ (Or.inr a), zup_r (by decide), zup_ne _ _ _ _ (Or.inr b)]; exact c12 j a b
            have c322 : C3 2 2 = 0 := by rw [eC3, zup_at]
            have c323 : C3 2 3 = 0 := by rw [eC3, zup_ne _ _ _ _ (by omega), zup_r (by decide), zup_at]
            rw [et] at epb
            have hPf := s5.clauseE (C1 := C3) (R1 := R1) (w := w) (v := tx k3 - 97) (k4 := k3 + 1) (F := zup f (t.2.1 e.1 + 2) w (nI (tx k3 - 97))) (phere Ms = 58) (by
                rw [hpm, ← h6]
                exact nI_eq (b := 58) (by omega) (by decide)) hn0 ⟨k15, kp, cz⟩ hw7 (by omega) z2 ⟨by omega, by omega⟩ rfl ⟨fun j hj => by rw [eR1, zup_r hj], fun j hj => by rw [eR1, zup_ne _ _ _ _ (Or.inr hj)], by rw [eR1, zup_at]⟩ ⟨fun r a b c => (c3r r a c).trans (c1r r a b), c32 1 (by decide) (by decide), c32 9 (by decide) (by decide), by rw [c3r 6 (by decide) (by decide)]; exact c16, c37⟩
            rw [zup_zup] at hPf
            rw [if_pos (by show zup M 0 14 (nI (k3 + 1)) 0 15 = -9; rw [zup_ne _ _ _ _ (by omega)]; exact c5)] at epb
            rw [epb]
            exact hA _ _ _ _ _ _ _ _ _ j hPf (Or.inl ⟨_, _, rfl, fun z => by have z3 : t.1 = 0 := z.2.2; omega⟩) hbt c322 (fun _ z => by
              have z2 := z.2.1
              rw [c323] at z2
              exact absurd z2 (by decide)) (by rw [c37.2 0 (by omega)]; exact h70') (hte.new c7) (hSW.clb (M := M) (N := zup M 0 14 (nI (k3 + 1))) (phere Ms = 58) hP.P3 ⟨k15, kp, cz⟩ ((zup_ne _ _ _ _ (by omega)).trans c2) (by omega) b2 (zup_r (by decide)) (by omega)) (by omega) hj
          · have et := t2 hin
            rw [e14, zup_zup, ← e14] at et
            have h153 : zup M 0 14 (nI k3) 0 15 = -9 := by rw [zup_ne _ _ _ _ (by omega)]; exact c5
            have ef : pfails (zup M 0 14 (nI k3)) 0 15 = nI k3 := by
              unfold pfails
              rw [zup_at, if_pos h153, zup_at]
            have n9 : ¬ nI k3 = -9 := (iv_nI (N := 200) (by omega) (by decide)).nn (by decide)
            rw [et, if_neg (by show ¬ pfails (zup M 0 14 (nI k3)) 0 15 = -9; rw [ef]; exact n9)] at epb
            rw [epb]
            obtain ⟨j, rfl⟩ : ∃ j', j = j' + 1 := ⟨j - 1, by omega⟩
            have hMB3 : MB fs M0 (zup M 0 14 (nI k3)) := hP.2.2.2.2.2.z (by omega)
            have hpt3 : pat (zup M 0 14 (nI k3)) := ⟨by rw [zup_at]; exact iv_nI (by omega) (by decide), by rw [zup_ne _ _ _ _ (by omega)]; exact hP.pat.1.2⟩
            obtain ⟨T, hT1, hT2⟩ : ∃ T, brd len (len - k3) k3 (g, R1, f, C1) = ((g, R1, f, T), nI k3) ∧ KB S0 (g, R1, f, T) := by
              by_cases w1 : k3 < len
              · have v126 := (hTX.2.2 k3 w1).2.2.2
                have v1 : C1 1 k3 = nI (tx k3) := (hTX1.2.2 k3 w1).1
                have hb2 : bacc g R1 f C1 (C1 1 k3) (L.length + 1) m = ((g, R1, f, zup C1 2 3 0), 0) := by
                  rw [bacc_1 c122, v1, bvarA_0 (fun z => hin ⟨w1, (ltrI v126).mp z.1⟩)]
                refine ⟨zup C1 2 3 0, ?_, hkk1.z (by omega)⟩
                rw [show len - k3 = len - k3 - 1 + 1 by omega, brd_0 (by rw [v1]; exact fun z => hnb ⟨w1, (nI_eq (b := 32) (by omega) (by decide)).mp z⟩) (fun z => by
                  have z2 := z.2.1
                  rw [c123] at z2
                  exact absurd z2 (by decide)) ⟨i11, i12⟩ (by rw [hb2]), hb2]
              · refine ⟨C1, ?_, hkk1⟩
                have : k3 = len := by omega
                rw [this, Nat.sub_self]
                show ((g, R1, f, C1), if C1 2 2 = 5 then (-9 : Int32) else nI len) = _
                rw [if_neg (by rw [c122]; decide)]
            rw [hT1]
            exact CP.fail (kk := k3) h153 (zup_at _ _ _ _) (by omega) hMB3 hpt3 rfl hT2
        · rw [if_neg (by rw [z4]; exact fun z => by cases z)] at ecl
          have z2 : q < t.1 := z2
          rw [if_neg (by rw [z3]; exact (iv_nI (N := 65000) (by omega) (by decide)).nn (by decide))] at epb
          exact hfl _ (hbf ecl) (hKs.z (by omega)) epb
      · exact hfl _ (hbf (bcls_0 u3 hw n125)) (hKs.z (by omega)) (pbc_0 hpm u3 hw)
    · have hpm : phere Ms = nI 0 := by rw [eMs, ← s8, s9, if_neg hk']; rfl
      refine hfl C' ?_ hKs (pbc_0 hpm (by decide) (by decide))
      have : k' = len := by omega
      rw [this, Nat.sub_self]
      show ((g, R, f, C'), if C' 2 2 = 5 then (-9 : Int32) else nI len) = _
      rw [if_neg (by rw [h24']; decide)]
end CLPS
