/-! may, in both: both come to the same notes. -/
section MCLR
variable {b0 n0 : Nat} {g : zG} {f f0 M : zI} {t : zTs} {R : zRf} {L : List Nat}
theorem gfg_v {a x : Nat} : ∀ (j k : Nat) (f : zI), ((f x 8 = 0 ∧ f x 9 = 0) ∨ ∃ i, k ≤ i ∧ i < k + j ∧ x = pA g a i) → gfg g a j k f x 8 = 0 ∧ gfg g a j k f x 9 = 0 := by
  intro j
  induction j with
  | zero =>
    intro k f h
    rcases h with h | ⟨i, a, b, -⟩
    · exact h
    · omega
  | succ j ih =>
    intro k f h
    refine ih (k + 1) _ ?_
    by_cases q : x = pA g a k
    · subst q
      refine Or.inl ⟨?_, zup_at _ _ _ _⟩
      rw [zup_ne _ _ _ _ (by omega), zup_at]
    · rcases h with h | ⟨i, i1, i2, i3⟩
      · refine Or.inl ⟨?_, ?_⟩
        · rw [zup_r q, zup_r q]; exact h.1
        · rw [zup_r q, zup_r q]; exact h.2
      · refine Or.inr ⟨i, ?_, by omega, i3⟩
        rcases Nat.lt_or_ge k i with z | z
        · exact z
        · exact absurd ((show i = k by omega) ▸ i3) q
theorem gfg_f {a : Nat} : ∀ (j k : Nat) (f : zI), (∀ i, i < k + j → g.2.1 (pA g a i) = 1) → FEQ g f (gfg g a j k f) := by
  intro j
  induction j with
  | zero => intro k f _; exact FEQ.rf
  | succ j ih =>
    intro k f h
    exact ((FEQ.up (h k (by omega)) (by decide)).tr (FEQ.up (h k (by omega)) (by decide))).tr (ih (k + 1) _ (fun i hi => h i (by omega)))
theorem gfo_v {r : Option Nat} {x : Nat} (h : (f x 8 = 0 ∧ f x 9 = 0) ∨ inB g r x) : gfo g r f x 8 = 0 ∧ gfo g r f x 9 = 0 := by
  cases r with
  | none =>
    rcases h with h | ⟨a, ha, -⟩
    · exact h
    · cases ha
  | some a =>
    refine gfg_v _ 0 f ?_
    rcases h with h | ⟨a', ha, i, hi, e⟩
    · exact Or.inl h
    · cases ha
      exact Or.inr ⟨i, Nat.zero_le _, by omega, e⟩
theorem gfo_f {r : Option Nat} (hC : MCX b0 n0 g f0 M t R L) (hr : BDL g M t L r) : FEQ g f (gfo g r f) := by
  cases r with
  | none => exact FEQ.rf
  | some a =>
    refine gfg_f _ 0 f (fun i hi => ?_)
    obtain ⟨m, m1, m2, m3⟩ := hr a rfl i (by omega)
    rw [m3]; exact (hC.2.2.1 m m1 m2).1
theorem gfs_v {x : Nat} : ∀ (j k : Nat) (f : zI), ((f x 8 = 0 ∧ f x 9 = 0) ∨ ∃ i, k ≤ i ∧ i < k + j ∧ inB g (R 18 i) x) → gfs g R j k f x 8 = 0 ∧ gfs g R j k f x 9 = 0 := by
  intro j
  induction j with
  | zero =>
    intro k f h
    rcases h with h | ⟨i, a, b, -⟩
    · exact h
    · omega
  | succ j ih =>
    intro k f h
    refine ih (k + 1) _ ?_
    rcases h with h | ⟨i, i1, i2, i3⟩
    · exact Or.inl (gfo_v (Or.inl h))
    · by_cases q : i = k
      · subst q; exact Or.inl (gfo_v (Or.inr i3))
      · exact Or.inr ⟨i, by omega, by omega, i3⟩
theorem gfs_f (hC : MCX b0 n0 g f0 M t R L) (hr : ∀ k, k < 4 → BDL g M t L (R 18 k)) : ∀ (j k : Nat) (f : zI), k + j ≤ 4 → FEQ g f (gfs g R j k f) := by
  intro j
  induction j with
  | zero => intro k f _; exact FEQ.rf
  | succ j ih =>
    intro k f hk
    exact (gfo_f hC (hr k (by omega))).tr (ih (k + 1) _ (by omega))
theorem gclear_v {x : Nat} (h : inBs g R x) : gclear g R f x 8 = 0 ∧ gclear g R f x 9 = 0 := by
  unfold gclear
  rcases h with h | ⟨k, k1, k2⟩
  · exact gfs_v 4 0 _ (Or.inl (gfo_v (Or.inr h)))
  · exact gfs_v 4 0 _ (Or.inr ⟨k, Nat.zero_le _, by omega, k2⟩)
theorem gclear_f (hC : MCX b0 n0 g f0 M t R L) (hr : ∀ k, k < 4 → BDL g M t L (R 18 k)) (hr0 : BDL g M t L (R 17 0)) : FEQ g f (gclear g R f) := (gfo_f hC hr0).tr (gfs_f hC hr 4 0 _ (by omega))
/-- both come to the same notes -/
theorem MAYS (hC : MCX b0 n0 g f M t R L) (hr : ∀ k, k < 4 → BDL g M t L (R 18 k)) (hr0 : BDL g M t L (R 17 0)) (hcov : ∀ m ∈ L, ¬ M 1 (5 * m) = nI 16 → inBs g R (t.2.1 m)) (hlen : L.length ≤ 600)
    (hI : ∀ k, k < 5 → ¬ M 2 k = -9 → ∀ m, tn (M 2 k) ≤ m → m < tn (M 11 (tn (M 2 k))) → m ∈ L) (hI' : ∀ m ∈ L, ∃ k, k < 5 ∧ ¬ M 2 k = -9 ∧ tn (M 2 k) ≤ m ∧ m < tn (M 11 (tn (M 2 k)))) :
    pmayT pmayf (pcl5 5 0 M) ∧ gfixV g R 39000 (gclear g R f) ∧ FEQ g f (gfix g R 39000 (gclear g R f)) ∧ psame M (pmayM M) ∧ ∀ m ∈ L, ¬ M 1 (5 * m) = nI 16 → pmayM M 14 m = gfix g R 39000 (gclear g R f) (t.2.1 m) 8 := by
  have z0 : ∀ m ∈ L, pcl5 5 0 M 14 m = 0 ∧ pcl5 5 0 M 15 m = 0 := fun m hm => by
    obtain ⟨k, k1, k2⟩ := hI' m hm
    exact pcl5_v 5 0 M psame.rf (Or.inr ⟨k, Nat.zero_le _, by omega, k2⟩)
  have hs0 : psame M (pcl5 5 0 M) := pcl5_same _ _ _
  have hp0 : PRE L (pcl5 5 0 M) := fun m hm => by
    rw [(z0 m hm).1, (z0 m hm).2]; exact ⟨sle.zero, sle.zero⟩
  obtain ⟨y1, y2, y3⟩ := pmay_go hC.1 hI hI' pmayf (pcl5 5 0 M) hs0 hp0 (by unfold pmayf; omega)
  have hf1 : FEQ g f (gclear g R f) := gclear_f hC hr hr0
  have c0 : ∀ m ∈ L, mT (gclear g R f) M t 14 m = 0 ∧ mT (gclear g R f) M t 15 m = 0 := fun m hm => by
    have one : ∀ m ∈ L, ¬ M 1 (5 * m) = nI 16 → mT (gclear g R f) M t 14 m = 0 ∧ mT (gclear g R f) M t 15 m = 0 := fun m hm h16 => by
      rw [mT_14 h16, mT_15 h16]
      exact gclear_v (hcov m hm h16)
    by_cases h16 : M 1 (5 * m) = nI 16
    · obtain ⟨b, b1, b2, b3, -⟩ := hC.cl hm h16
      rw [(b3 _).1, (b3 _).2]; exact one b b1 b2
    · exact one m hm h16
  have hp1 : PRE L (mT (gclear g R f) M t) := fun m hm => by
    rw [(c0 m hm).1, (c0 m hm).2]; exact ⟨sle.zero, sle.zero⟩
  obtain ⟨x1, x2, x3⟩ := gfix_go hC hr hr0 39000 (gclear g R f) hf1 hp1 (by omega)
  obtain ⟨F, eF⟩ : ∃ F, F = gfix g R 39000 (gclear g R f) := ⟨_, rfl⟩
  rw [← eF] at x2 x3 ⊢
  have eN : pmayM M = pmayL pmayf (pcl5 5 0 M) := rfl
  rw [← eN] at y2 y3
  have hfix : FIX L (mT F M t) := fun m hm => by
    by_cases h16 : M 1 (5 * m) = nI 16
    · obtain ⟨b, b1, b2, b3, b4⟩ := hC.cl hm h16
      obtain ⟨b5, b6⟩ := b4 (mT F M t) mT_same
      rw [b5, b6]; exact b3 F
    · obtain ⟨s1, s2⟩ := hC.stp x2.1 hm h16
      obtain ⟨w1, w2⟩ := x3 _ (hcov m hm h16)
      rw [← s1, ← s2, mT_14 h16, mT_15 h16]
      exact ⟨w1, w2⟩
  have hA : LE2 L (pmayM M) (mT F M t) := y2.2.2.2 _ mT_same hfix (fun m hm => by
    rw [(z0 m hm).1, (z0 m hm).2]; exact ⟨sle.zero, sle.zero⟩)
  have hB : LE2 L (mT F M t) (pmayM M) := x2.2.2.2 _ y2.1 y3 (fun m hm => by
    rw [(c0 m hm).1, (c0 m hm).2]; exact ⟨sle.zero, sle.zero⟩)
  refine ⟨y1, x1, x2.1, y2.1, fun m hm h16 => ?_⟩
  have e := (hA m hm).1.anti (hB m hm).1
  rw [mT_14 h16] at e
  exact e
theorem RD.pnV {m : Nat} (h : RD M L m) : pnV M (nI m) := by
  obtain ⟨hm, h⟩ := h
  have hpk : pkind M (nI m) = M 1 (5 * m) := by unfold pkind; rw [tn_nI (by omega)]
  have hpp : ∀ j, j ≤ 3 → ppart M (nI m) (nI j) = M 1 (5 * m + 1 + j) := fun j hj => ppt_e rfl hm hj
  have p1 : ppart M (nI m) 1 = M 1 (5 * m + 1 + 1) := hpp 1 (by decide)
  rcases h with ⟨hk, b, b1, b2, b3, b4⟩ | ⟨κ, hκ, hk, hp, h10, h13, h14, h15⟩
  · rw [hk] at hpk
    have b3 : M 1 (5 * m + 1 + 1) = nI b := b3
    refine ⟨iv_nI hm (by decide), fun _ => by rw [p1, b3]; exact iv_nI b2 (by decide), fun z => ?_, fun _ _ z => ?_, fun z => ?_, fun z => ?_⟩
    · rw [hpk] at z; exact absurd z (by decide)
    · rw [hpk] at z; exact absurd rfl z
    · rw [hpk] at z; exact absurd z (by decide)
    · rw [hpk] at z; exact absurd z (by decide)
  · rw [hk] at hpk
    have hnc : ¬ pkind M (nI m) < 2 → 2 ≤ κ := fun z => by
      rw [hpk] at z
      rcases Nat.lt_or_ge κ 2 with w | w
      · exact absurd (nI_lt (b := 2) w (by decide)) z
      · exact w
    have hpi : ∀ j, 1 ≤ j → j ≤ ari κ → iv 65000 (M 1 (5 * m + 1 + j)) := fun j j1 j2 => by
      obtain ⟨m', -, a2, a3⟩ := hp (j - 1) (by omega)
      rw [show 5 * m + 1 + j = 5 * m + 2 + (j - 1) by omega, a3]
      exact iv_nI a2 (by decide)
    refine ⟨iv_nI hm (by decide), fun z => ?_, fun z => ?_, fun z1 z2 z3 j j1 j2 => ?_, fun z => ?_, fun z => ?_⟩
    · obtain ⟨-, -, -, -, ha⟩ := sgn_p κ (by omega) (hnc z)
      rw [p1]; exact hpi 1 (Nat.le_refl _) ha.1
    · rw [hpk] at z
      exact (h15 ((nI_eq (b := 15) (by omega) (by decide)).mp z)).1
    · obtain ⟨-, -, -, hq, ha⟩ := sgn_p κ (by omega) (hnc z1)
      rw [hpk, hq, tn_nI (by omega)] at j2
      rw [hpp j (by omega)]; exact hpi j j1 j2
    · rw [hpk] at z
      obtain ⟨p, p1, p2, p3⟩ := h13 ((nI_eq (b := 13) (by omega) (by decide)).mp z)
      have e : parg M (nI m) = nI p := (parg_n2 rfl hm).trans p2
      rw [e, tn_nI (by omega)]
      refine ⟨iv_nI p1 (by decide), fun w => ?_⟩
      rcases p3 with y | ⟨r, y1, y2, y3⟩
      · exact absurd y w
      · rw [y3]; exact iv_nI y2 (by decide)
    · rw [hpk] at z
      obtain ⟨h, z1, z2, z3⟩ := h14 ((nI_eq (b := 14) (by omega) (by decide)).mp z)
      rw [tn_nI (by omega), z3]; exact iv_nI z2 (by decide)
end MCLR
