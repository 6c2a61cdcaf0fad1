/-! A text is read, in both: from an expression on, as a whole. -/
theorem pk0 : pkindOf 0 = -9 := by decide
section EXPR
variable {b0 n0 fs : Nat} {S0 : bSt} {M0 : zI} {len : Nat} {tx : Nat → Nat} {t0 : zTs} {how : Int32}
theorem AW.step {r : Nat} (hn0 : b0 ≤ S0.1.1 ∧ n0 ≤ S0.1.1) (h8 : S0.2.1 8 0 = none) (ih : ∀ r', r = r' + 1 → AWp b0 n0 fs S0 M0 len tx t0 how r' ∧ CPp b0 n0 fs S0 M0 len tx t0 how r') : AWp b0 n0 fs S0 M0 len tx t0 how r := by
  intro g f R C M t L m k j hP hL hbt h22 hnd h70 hte hSW hr hj
  obtain ⟨j, rfl⟩ : ∃ j', j = j' + 1 := ⟨j - 1, by omega⟩
  obtain ⟨C', k', s1, s2, s3, s4, s5, s6, s7, s8, s9, s10⟩ := hP.skip hnd
  rw [s6]
  have hTX := s5.2.1.1
  have hl := hTX.1
  have h22' : C' 2 2 = 0 := (s4 2 (by decide)).trans h22
  have h70' : C' 7 0 = (if how = 1 then 8388608 else 0) := by rw [s3 7 (by decide)]; exact h70
  obtain ⟨hv, hoc⟩ := AW.mask hP hL h70 (hP.2.2.2.2.1.2.2.2.1.trans h8)
  have hv' : pparV0 M how = C' 7 L.length := by rw [s3 7 (by decide)]; exact hv
  have h15 : zup M 0 14 (nI k') 0 15 = -9 := s5.2.1.2.1.2.2.2.2
  have hMB := s5.2.2.2.2.2
  obtain ⟨i1, i2, i3, i4⟩ := s5.idx
  have hB0 : pparB M how = pbw (zup M 0 14 (nI k')) (C' 7 L.length) (pparR0 M) := by
    unfold pparB pbegins
    rw [s8, hv']
  by_cases hk' : k' < len
  · obtain ⟨u1, u2, u3, u4⟩ := s10 hk'
    have hph : phere (zup M 0 14 (nI k')) = nI (tx k') := by
      rw [phere_e hTX (zup_at _ _ _ _) (by omega), if_pos hk']
    have h32 : ¬ C' 1 k' = 32 := by rw [u4]; exact fun z => u1 ((nI_eq (b := 32) (by omega) (by decide)).mp z)
    obtain ⟨r', rfl⟩ : ∃ r', r = r' + 1 := ⟨r - 1, by omega⟩
    obtain ⟨hA, hC⟩ := ih r' rfl
    have hfl : baccE g R f (zup C' 2 3 0) (nI (tx k')) L.length m = ((g, R, f, zup C' 2 3 0), 0) → pbw (zup M 0 14 (nI k')) (C' 7 L.length) (pparR0 M) = (1, pfails (zup M 0 14 (nI k'))) → pparV how (j + 1) 1 M ∧ RES b0 n0 fs S0 M0 len t0 (mk how) (brd len (len - k') k' (g, R, f, C')) (ppar how (j + 1) 1 M) := fun y1 y2 => by
      have hb : bacc g R f C' (C' 1 k') L.length m = ((g, R, f, zup C' 2 3 0), 0) := by rw [bacc_0 h22', u4, y1]
      have hbr : brd len (len - k') k' (g, R, f, C') = ((g, R, f, zup C' 2 3 0), nI k') := by
        rw [show len - k' = len - k' - 1 + 1 by omega, brd_0 h32 (s7 hk') ⟨i1, i2⟩ (by rw [hb]), hb]
      obtain ⟨j, rfl⟩ : ∃ j', j = j' + 1 := ⟨j - 1, by omega⟩
      rw [hbr]
      exact AW.fail (kk := k') hP (N := zup M 0 14 (nI k')) (by rw [hB0, y2]) h15 (zup_at _ _ _ _) (by omega) hMB s5.pat.1 rfl (s5.2.2.2.2.1.z (by omega))
    by_cases qd : 48 ≤ tx k' ∧ tx k' ≤ 57
    · exact AW.num hP s5 hL hbt h22' h70' hte hn0 hSW s1 (s7 hk') s8 hk' u4 qd hA hC (by omega) (by omega)
    have hnd' : ¬ dgt (nI (tx k')) := fun z => qd ((dgtI u3).mp z)
    have p1 : ¬ ¬ (phere (zup M 0 14 (nI k')) < 48 ∨ 57 < phere (zup M 0 14 (nI k'))) := by
      rw [hph]
      exact fun z => hnd' ⟨fun y => z (Or.inl y), fun y => z (Or.inr y)⟩
    by_cases ql : 97 ≤ tx k' ∧ tx k' ≤ 122
    · by_cases qm : ml (C' 7 L.length) (tx k' - 97)
      · exact AW.var hP s5 hL hbt h22' h70' hte hn0 hSW s1 (s7 hk') s8 hk' u4 ql hv' qm hA hC (by omega) (by omega)
      · have hlt : ltr (nI (tx k')) := (ltrI u3).mpr ql
        have ev : nI (tx k') - 97 = nI (tx k' - 97) := ixS rfl (ixC 97) ql.1
        obtain ⟨m1, m2⟩ := ml_test (x := C' 7 L.length) (y := tx k' - 97) (by omega)
        refine hfl (baccE_l0 hnd' hlt ?_) ?_
        · rw [zup_r (by decide), ev]
          exact m2.mpr qm
        · unfold pbw
          rw [if_neg p1, if_neg (by
            rw [hph, ev]
            exact fun z => qm (m1.mp z.2)), if_pos (Or.inl (by rw [hph]; exact kind_l _ (by omega) ql))]
    have hnl' : ¬ ltr (nI (tx k')) := fun z => ql ((ltrI u3).mp z)
    have p2 : ¬ (¬ (phere (zup M 0 14 (nI k')) < 97 ∨ 122 < phere (zup M 0 14 (nI k'))) ∧ (C' 7 L.length >>> ((phere (zup M 0 14 (nI k')) - 97) &&& 31)) &&& 1 = 1) := by
      rw [hph]
      exact fun z => hnl' ⟨fun y => z.1 (Or.inl y), fun y => z.1 (Or.inr y)⟩
    rcases kind_of (tx k') (by omega) with ⟨q1, q2, q3⟩ | ⟨κ, q1, q2, q3, q4, q5, q6, q7⟩
    · refine hfl (baccE_z hnd' hnl' q2 q3) ?_
      unfold pbw
      rw [if_neg p1, if_neg p2, if_pos (Or.inl (by rw [hph]; exact q1))]
    · exact AW.sign hP s5 hL hbt h22' h70' hte hn0 hSW s1 (s7 hk') s8 hk' u4 u1 q3 ⟨q1, q2⟩ q4 q5 q6 q7 qd ql hv' hoc hA (by omega) (by omega)
  · obtain rfl : k' = len := by omega
    have hph : phere (zup M 0 14 (nI k')) = 0 := by
      rw [phere_e hTX (zup_at _ _ _ _) (Nat.le_refl _), if_neg hk']
    obtain ⟨j, rfl⟩ : ∃ j', j = j' + 1 := ⟨j - 1, by omega⟩
    have hbr : brd k' (k' - k') k' (g, R, f, C') = ((g, R, f, C'), nI k') := by
      rw [Nat.sub_self]
      show ((g, R, f, C'), if C' 2 2 = 5 then (-9 : Int32) else nI k') = _
      rw [if_neg (by rw [h22']; decide)]
    rw [hbr]
    refine AW.fail (kk := k') hP (N := zup M 0 14 (nI k')) ?_ h15 (zup_at _ _ _ _) (by omega) hMB s5.pat.1 rfl s5.2.2.2.2.1
    rw [hB0]
    unfold pbw
    rw [hph, if_neg (by decide), if_neg (fun z => absurd z.1 (by decide)), if_pos (Or.inl pk0)]
end EXPR
