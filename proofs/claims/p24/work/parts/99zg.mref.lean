/-! may, in the reference: what the rounds lead to. -/
/-- what node m reads lies in L -/
def RD (M : zI) (L : List Nat) (m : Nat) : Prop := m < 65000 ∧ ((M 1 (5 * m) = nI 16 ∧ ∃ b, b ∈ L ∧ b < 65000 ∧ M 1 (5 * m + 2) = nI b ∧ ¬ M 1 (5 * b) = nI 16) ∨ ∃ κ, κ ≤ 15 ∧ M 1 (5 * m) = nI κ ∧
  (∀ i, i < ari κ → ∃ m', m' ∈ L ∧ m' < 65000 ∧ M 1 (5 * m + 2 + i) = nI m') ∧ (κ = 10 ∨ κ = 11 → ∃ a, a < 6 ∧ M 1 (5 * m + 1) = nI a) ∧
  (κ = 13 → ∃ p, p < 4 ∧ M 1 (5 * m + 1) = nI p ∧ (M 2 (1 + p) = -9 ∨ ∃ r, r ∈ L ∧ r < 65000 ∧ M 2 (1 + p) = nI r)) ∧ (κ = 14 → ∃ h, h ∈ L ∧ h < 65000 ∧ M 1 (5 * m + 4) = nI h) ∧
  (κ = 15 → plpV M (nI m) ∧ ∃ qs, chC (M 1) qs (M 1 (5 * m + 3)) ∧ qs.length ≤ 7 ∧ ∀ q ∈ qs, q ∈ L ∧ q < 65000))
def LE2 (L : List Nat) (N N' : zI) : Prop := ∀ m ∈ L, sle (N 14 m) (N' 14 m) ∧ sle (N 15 m) (N' 15 m)
theorem LE2.rf {L : List Nat} {N : zI} : LE2 L N N := fun _ _ => ⟨sle.rf, sle.rf⟩
theorem LE2.tr {L : List Nat} {N N' N'' : zI} (h : LE2 L N N') (k : LE2 L N' N'') : LE2 L N N'' := fun m hm => ⟨(h m hm).1.tr (k m hm).1, (h m hm).2.tr (k m hm).2⟩
section MREF
variable {M N N' : zI} {L : List Nat} {m κ : Nat}
def pS (M N : zI) (κ m r : Nat) : Int32 := ((if 0 < ari κ then N r (tn (M 1 (5 * m + 2 + 0))) else 0) ||| (if 1 < ari κ then N r (tn (M 1 (5 * m + 2 + 1))) else 0)) ||| (if 2 < ari κ then N r (tn (M 1 (5 * m + 2 + 2))) else 0)
theorem plv_n (N1 : N 1 = M 1) (hm : m < 65000) (hk : M 1 (5 * m) = nI κ) (h2 : 2 ≤ κ) (h15 : κ < 15) : pleaves N (nI m) = plvE N (nI m) (pS M N κ m 14) ∧ plate N (nI m) = pltE N (nI m) (pS M N κ m 15) := by
  have hpk := pk_e N1 hm hk
  obtain ⟨-, -, -, hpp, ha⟩ := sgn_p κ (by omega) h2
  have c0 : ¬ pkind N (nI m) < 2 := by rw [hpk]; exact nI_nlt (b := 2) h2 (by omega)
  have c16 : ¬ pkind N (nI m) = 16 := by rw [hpk]; exact fun z => absurd ((nI_eq (b := 16) (by omega) (by decide)).mp z) (by omega)
  have c15 : ¬ pkind N (nI m) = 15 := by rw [hpk]; exact fun z => absurd ((nI_eq (b := 15) (by omega) (by decide)).mp z) (by omega)
  have htn : tn (pparts (pkind N (nI m))) = ari κ := by rw [hpk, hpp, tn_nI (by omega)]
  constructor
  · rw [plv_1 c0 c16 c15, htn, ppr3 N1 hm 14 ha]
    rfl
  · have p1 : ppart N (nI m) 1 = M 1 (5 * m + 2 + 0) := ppt_e N1 hm (j := 1) (by decide)
    rw [plt_1 c0 c15, if_neg c16, htn, ppr2 N1 hm 15 ha, p1]
    unfold pS
    rw [if_pos (show 0 < ari κ from ha.1)]
theorem pS_mono (hp : ∀ i, i < ari κ → ∃ m', m' ∈ L ∧ m' < 65000 ∧ M 1 (5 * m + 2 + i) = nI m') (hle : LE2 L N N') : sle (pS M N κ m 14) (pS M N' κ m 14) ∧ sle (pS M N κ m 15) (pS M N' κ m 15) := by
  have one : ∀ i r, r = 14 ∨ r = 15 → sle (if i < ari κ then N r (tn (M 1 (5 * m + 2 + i))) else 0) (if i < ari κ then N' r (tn (M 1 (5 * m + 2 + i))) else 0) := fun i r hr => by
    by_cases q : i < ari κ
    · obtain ⟨m', a, b, e⟩ := hp i q
      rw [if_pos q, if_pos q, e, tn_nI (by omega)]
      rcases hr with rfl | rfl
      · exact (hle m' a).1
      · exact (hle m' a).2
    · rw [if_neg q, if_neg q]; exact sle.rf
  exact ⟨((one 0 14 (Or.inl rfl)).or (one 1 14 (Or.inl rfl))).or (one 2 14 (Or.inl rfl)), ((one 0 15 (Or.inr rfl)).or (one 1 15 (Or.inr rfl))).or (one 2 15 (Or.inr rfl))⟩
theorem pofhA_mono {x : Int32} (h : ∀ w, pclause N x w = pclause N' x w) : ∀ (j k : Nat) (s s' : Int32), k + j = 6 → sle s s' → sle (pofhA N x j k s) (pofhA N' x j k s') := by
  intro j
  induction j with
  | zero => intro k s s' _ hs; exact hs
  | succ j ih =>
    intro k s s' hk hs
    show sle (pofhA N x j (k + 1) (if pclause N x (nI k) = -9 then s else phandled s (nI k))) (pofhA N' x j (k + 1) (if pclause N' x (nI k) = -9 then s' else phandled s' (nI k)))
    refine ih _ _ _ (by omega) ?_
    rw [h]
    by_cases q : pclause N' x (nI k) = -9
    · rw [if_pos q, if_pos q]; exact hs
    · rw [if_neg q, if_neg q]; exact hs.handled (by omega)
theorem pchA_mono (N1 : N 1 = M 1) (N1' : N' 1 = M 1) {qs : List Nat} {x s s' : Int32} (r : Nat) (hr : r = 14 ∨ r = 15) (hc : chC (M 1) qs x) (hl : qs.length ≤ 7) (hq : ∀ q ∈ qs, q ∈ L ∧ q < 65000) (hle : LE2 L N N') (hs : sle s s') : sle (pchA N r 8 x s) (pchA N' r 8 x s') := fun i z => by
  rw [pch_b N1 r qs x 8 s hc (by omega) (fun q h => (hq q h).2)] at z
  rw [pch_b N1' r qs x 8 s' hc (by omega) (fun q h => (hq q h).2)]
  rcases z with z | ⟨q, h, z⟩
  · exact Or.inl (hs i z)
  · refine Or.inr ⟨q, h, ?_⟩
    rcases hr with rfl | rfl
    · exact (hle q (hq q h).1).1 i z
    · exact (hle q (hq q h).1).2 i z
theorem parg_n2 (N1 : N 1 = M 1) (hm : m < 65000) : parg N (nI m) = M 1 (5 * m + 1) := by
  unfold parg
  rw [N1, tn_nI (by omega)]
/-- more notes lead to more notes -/
theorem RD.mono (h : RD M L m) (hs : psame M N) (hs' : psame M N') (hle : LE2 L N N') : sle (pleaves N (nI m)) (pleaves N' (nI m)) ∧ sle (plate N (nI m)) (plate N' (nI m)) := by
  obtain ⟨hm, h⟩ := h
  have N1 : N 1 = M 1 := hs 1 (by decide) (by decide)
  have N1' : N' 1 = M 1 := hs' 1 (by decide) (by decide)
  have N2 : N 2 = M 2 := hs 2 (by decide) (by decide)
  have N2' : N' 2 = M 2 := hs' 2 (by decide) (by decide)
  rcases h with ⟨hk, b, b1, b2, b3, b4⟩ | ⟨κ, hκ, hk, hp, h10, h13, h14, h15⟩
  · obtain ⟨e1, e2⟩ := mlvC hm hk b3 b2 N1
    obtain ⟨e1', e2'⟩ := mlvC hm hk b3 b2 N1'
    rw [e1, e2, e1', e2']
    exact hle b b1
  · have hpk := pk_e N1 hm hk
    have hpk' := pk_e N1' hm hk
    by_cases k2 : κ < 2
    · have c0 : pkind N (nI m) < 2 := by rw [hpk]; exact nI_lt (b := 2) (by omega) (by decide)
      have c0' : pkind N' (nI m) < 2 := by rw [hpk']; exact nI_lt (b := 2) (by omega) (by decide)
      rw [show pleaves N (nI m) = 0 from if_pos c0, show plate N (nI m) = 0 from if_pos c0]
      exact ⟨sle.zero, sle.zero⟩
    · by_cases k15 : κ = 15
      · subst k15
        obtain ⟨-, qs, c1, c2, c3⟩ := h15 rfl
        have hpk : pkind N (nI m) = 15 := hpk
        have hpk' : pkind N' (nI m) = 15 := hpk'
        have c0 : ¬ pkind N (nI m) < 2 := by rw [hpk]; decide
        have c16 : ¬ pkind N (nI m) = 16 := by rw [hpk]; decide
        have c0' : ¬ pkind N' (nI m) < 2 := by rw [hpk']; decide
        have c16' : ¬ pkind N' (nI m) = 16 := by rw [hpk']; decide
        obtain ⟨m', a1, a2, a3⟩ := hp 0 (by decide)
        have a3 : M 1 (5 * m + 1 + 1) = nI m' := a3
        have p1 : ppart N (nI m) 1 = nI m' := (ppt_e N1 hm (j := 1) (by decide)).trans a3
        have p1' : ppart N' (nI m) 1 = nI m' := (ppt_e N1' hm (j := 1) (by decide)).trans a3
        have e3 : N 1 (5 * tn (nI m) + 3) = M 1 (5 * m + 3) := by rw [N1, tn_nI (by omega)]
        have e3' : N' 1 (5 * tn (nI m) + 3) = M 1 (5 * m + 3) := by rw [N1', tn_nI (by omega)]
        have hcl : ∀ w, pclause N (nI m) w = pclause N' (nI m) w := fun w => by
          unfold pclause
          rw [pclA_same hs, pclA_same hs', N1, N1']
        rw [show pleaves N (nI m) = pchA N 14 8 (N 1 (5 * tn (nI m) + 3)) (pofh N (nI m)) from (if_neg c0).trans ((if_neg c16).trans (if_pos hpk)), show pleaves N' (nI m) = pchA N' 14 8 (N' 1 (5 * tn (nI m) + 3)) (pofh N' (nI m)) from (if_neg c0').trans ((if_neg c16').trans (if_pos hpk')),
          show plate N (nI m) = pchA N 15 8 (N 1 (5 * tn (nI m) + 3)) (N 15 (tn (ppart N (nI m) 1))) from (if_neg c0).trans (if_pos hpk), show plate N' (nI m) = pchA N' 15 8 (N' 1 (5 * tn (nI m) + 3)) (N' 15 (tn (ppart N' (nI m) 1))) from (if_neg c0').trans (if_pos hpk'), e3, e3']
        refine ⟨pchA_mono N1 N1' 14 (Or.inl rfl) c1 c2 c3 hle ?_, pchA_mono N1 N1' 15 (Or.inr rfl) c1 c2 c3 hle ?_⟩
        · unfold pofh
          rw [p1, p1', tn_nI (by omega)]
          exact (pofhA_mono hcl 6 0 _ _ rfl (hle m' a1).1).or (hle m' a1).2
        · rw [p1, p1', tn_nI (by omega)]
          exact (hle m' a1).2
      · obtain ⟨e1, e2⟩ := plv_n N1 hm hk (by omega) (by omega)
        obtain ⟨e1', e2'⟩ := plv_n N1' hm hk (by omega) (by omega)
        rw [e1, e2, e1', e2']
        obtain ⟨s1, s2⟩ := pS_mono (m := m) hp hle
        unfold plvE pltE
        rw [hpk, hpk', parg_n2 N1 hm, parg_n2 N1' hm]
        by_cases k10 : κ < 10
        · have k10' : ¬ nI κ = 10 := ne_k (b := 10) (by omega) (by decide) (by omega)
          have k11 : ¬ nI κ = 11 := ne_k (b := 11) (by omega) (by decide) (by omega)
          have k12 : ¬ nI κ = 12 := ne_k (b := 12) (by omega) (by decide) (by omega)
          have k13 : ¬ nI κ = 13 := ne_k (b := 13) (by omega) (by decide) (by omega)
          have k14 : ¬ nI κ = 14 := ne_k (b := 14) (by omega) (by decide) (by omega)
          simp only [if_neg k10', if_neg k11, if_neg k12, if_neg k13, if_neg k14]
          exact ⟨s1, s2⟩
        · have hs5 : κ = 10 ∨ κ = 11 ∨ κ = 12 ∨ κ = 13 ∨ κ = 14 := by omega
          rcases hs5 with rfl | rfl | rfl | rfl | rfl
          · rw [if_pos (by decide), if_pos (by decide), if_neg (by decide), if_neg (by decide), if_neg (by decide), if_neg (by decide), if_neg (by decide), if_neg (by decide)]
            exact ⟨s1.or sle.rf, s2⟩
          · obtain ⟨a, a1, a2⟩ := h10 (Or.inr rfl)
            rw [if_neg (by decide), if_pos (by decide), if_neg (by decide), if_pos (by decide), if_neg (by decide), if_neg (by decide), if_neg (by decide), if_neg (by decide), if_neg (by decide), if_neg (by decide), a2]
            exact ⟨s1.masked a1, s2⟩
          · obtain ⟨m', a1, a2, a3⟩ := hp 1 (by decide)
            have a3 : M 1 (5 * m + 1 + 2) = nI m' := a3
            have p1 : ppart N (nI m) 2 = nI m' := (ppt_e N1 hm (j := 2) (by decide)).trans a3
            have p1' : ppart N' (nI m) 2 = nI m' := (ppt_e N1' hm (j := 2) (by decide)).trans a3
            rw [if_neg (by decide), if_neg (by decide), if_pos (by decide), if_neg (by decide), if_neg (by decide), if_pos (by decide), if_pos (by decide), if_pos (by decide), p1, p1', tn_nI (by omega)]
            exact ⟨s1, s2.or (hle m' a1).1⟩
          · obtain ⟨p, p1, p2, p3⟩ := h13 rfl
            have hc : ∀ r, pcal N r (nI m) = if M 2 (1 + p) = -9 then 0 else N r (tn (M 2 (1 + p))) := fun r => by
              unfold pcal
              rw [parg_n2 N1 hm, p2, tn_nI (by omega), N2]
            have hc' : ∀ r, pcal N' r (nI m) = if M 2 (1 + p) = -9 then 0 else N' r (tn (M 2 (1 + p))) := fun r => by
              unfold pcal
              rw [parg_n2 N1' hm, p2, tn_nI (by omega), N2']
            rw [if_neg (by decide), if_neg (by decide), if_neg (by decide), if_pos (by decide), if_neg (by decide), if_neg (by decide), if_neg (by decide), if_pos (by decide), if_neg (by decide), if_pos (by decide), if_neg (by decide), if_pos (by decide), hc, hc, hc', hc']
            rcases p3 with z | ⟨r, z1, z2, z3⟩
            · simp only [if_pos z]
              exact ⟨s1.or sle.rf, s2.or sle.rf⟩
            · have z9 : ¬ nI r = -9 := (iv_nI (N := 65000) z2 (by decide)).nn (by decide)
              rw [z3]
              simp only [if_neg z9]
              rw [tn_nI (by omega)]
              exact ⟨s1.or (hle r z1).1, s2.or (hle r z1).2⟩
          · obtain ⟨h, z1, z2, z3⟩ := h14 rfl
            rw [if_neg (by decide), if_neg (by decide), if_neg (by decide), if_neg (by decide), if_pos (by decide), if_neg (by decide), if_neg (by decide), if_neg (by decide), if_neg (by decide), if_pos (by decide), if_neg (by decide), if_neg (by decide), if_pos (by decide), if_neg (by decide), if_neg (by decide), if_pos (by decide), N1, N1', tn_nI (by omega), z3, tn_nI (by omega)]
            exact ⟨s1.or (hle h z1).1, s2.or (hle h z1).2⟩
end MREF
