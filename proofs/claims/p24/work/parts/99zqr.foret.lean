/-! What is left open was foretold: may says so. -/
section FOR
variable {M X N : zI} {b0 n0 c k : Nat} {g : zG} {f : zI} {lab : Nat → Nat} {n m : Nat} {L : List Nat}
theorem RD.same (h : RD M L m) (hs : psame M X) : RD X L m := by
  have e1 : X 1 = M 1 := hs 1 (by decide) (by decide)
  have e2 : X 2 = M 2 := hs 2 (by decide) (by decide)
  unfold RD at h ⊢
  rw [e1, e2]
  refine ⟨h.1, h.2.imp id ?_⟩
  rintro ⟨κ, k1, k2, k3, k4, k5, k6, k7⟩
  exact ⟨κ, k1, k2, k3, k4, k5, k6, fun q => ⟨(k7 q).1.same hs, (k7 q).2⟩⟩
/-- the labels of a node's parts, of a handler's clauses -/
theorem LB.of (h : ∀ j, j < n → NDL (X 1) lab n j) (hn : n < 2 ^ 31) (hm : m < n) : LB X lab m := by
  obtain ⟨κ, k1, k2, k3, k4, k5⟩ := h m hm
  have ke : ∀ j, j < 100 → X 1 (5 * m) = nI j → κ = j := fun j hj z => (nI_eq (by omega) (by omega)).mp (k2.symm.trans z)
  refine ⟨fun κ' i m' e1 e2 e3 e4 e5 => ?_, fun e => (by obtain ⟨o, o1, o2, o3⟩ := k4 (ke 14 (by decide) e); exact ⟨o, o2, o1, o3⟩), fun e w q w7 q65 ec => ?_⟩
  · obtain rfl := ke κ' (by omega) e1
    rcases k3 i (by unfold arj; rw [if_neg (show ¬ κ = 16 by omega)]; exact e3) with z | ⟨z, z1, z2, z3, z4⟩
    · rw [z] at e4
      exact absurd e4.symm ((iv_nI (N := 65000) e5 (by decide)).nn (by decide))
    · obtain rfl : z = m' := (nI_eq (by omega) (by omega)).mp (z2.symm.trans e4)
      exact ⟨z3, z4⟩
  · obtain rfl := ke 15 (by decide) e
    have e3 : pclause X (nI m) (nI w) = pclA X (nI w) 8 (X 1 (5 * m + 3)) := by unfold pclause; rw [tn_nI (by omega)]
    rw [e3] at ec
    rcases k5 rfl with z | ⟨z, v, z1, z2, z3, z4, z5, z6, z7⟩
    · rw [z] at ec
      have : pclA X (nI w) 8 (-9) = -9 := if_pos rfl
      rw [this] at ec
      exact absurd ec.symm ((iv_nI (N := 65000) q65 (by decide)).nn (by decide))
    · have hz9 : ¬ nI z = -9 := fun y => by
        have := congrArg Int32.toInt y
        have e9 : (-9 : Int32).toInt = -9 := by decide
        have hp := nI_pos' (show z < 2 ^ 31 by omega)
        rw [y] at hp
        exact absurd hp (by decide)
      have eA : pclA X (nI w) 8 (X 1 (5 * m + 3)) = if X 1 (5 * z + 4) = nI w then nI z else -9 := by
        rw [z3]
        show (if nI z = -9 then nI z else if X 1 (5 * tn (nI z) + 4) = nI w then nI z else pclA X (nI w) 7 (X 1 (5 * tn (nI z) + 3))) = _
        rw [if_neg hz9, tn_nI (by omega), z5]
        rfl
      rw [eA] at ec
      by_cases q2 : X 1 (5 * z + 4) = nI w
      · rw [if_pos q2] at ec
        obtain rfl : z = q := (nI_eq (by omega) (by omega)).mp ec
        refine ⟨z4, fun b b65 eb => ?_⟩
        have hw6 : w < 6 := by
          have := (nI_eq (by omega) (by omega)).mp (z6.symm.trans q2)
          omega
        obtain ⟨κ2, p1, p2, p3, -, -⟩ := h z z1
        obtain rfl : κ2 = 16 := (nI_eq (by omega) (by decide)).mp (p2.symm.trans z4)
        rcases p3 0 (by decide) with y | ⟨y, y1, y2, y3, y4⟩
        · have : X 1 (5 * z + 2) = -9 := y
          rw [this] at eb
          exact absurd eb.symm ((iv_nI (N := 65000) b65 (by decide)).nn (by decide))
        · have y2 : X 1 (5 * z + 2) = nI y := y2
          obtain rfl : y = b := (nI_eq (by omega) (by omega)).mp (y2.symm.trans eb)
          rw [y3, z7, if_neg (by omega)]
      · rw [if_neg q2] at ec
        exact absurd ec.symm ((iv_nI (N := 65000) q65 (by decide)).nn (by decide))
/-- may tells of an operation that is left open -/
theorem OB.foretold (h : OB b0 n0 c k M g f) (hk : 120 * k ≤ 64800) (hL : LABM M) (hF : FT M) (h3 : M 2 5 = 3) : ∃ l, l < 4 ∧ (pmay M (-1) (M 2 15) (nI l)).1 = 1 := by
  obtain ⟨g, R, f, C, t, y, n0', -, -, h, -⟩ := h
  have u1 := h.2.2.1.1.1
  have u2 : t.1 ≤ 120 * k := h.2.2.1.1.2
  have h65 : t.1 ≤ 65000 := by omega
  obtain ⟨hC, hB, hcov, hlen, hBK, hE⟩ := h.mcx h65
  have hI : ∀ k, k < 5 → ¬ M 2 k = -9 → ∀ m, tn (M 2 k) ≤ m → m < tn (M 11 (tn (M 2 k))) → m ∈ mLs M := fun k hk h9 m a b => mLs_mem.mpr ⟨k, hk, mLk_mem.mpr ⟨h9, a, b⟩⟩
  have hI' : ∀ m ∈ mLs M, ∃ k, k < 5 ∧ ¬ M 2 k = -9 ∧ tn (M 2 k) ≤ m ∧ m < tn (M 11 (tn (M 2 k))) := fun m hm => by
    obtain ⟨k, k1, k2⟩ := mLs_mem.mp hm
    exact ⟨k, k1, mLk_mem.mp k2⟩
  have z0 : ∀ m ∈ mLs M, pcl5 5 0 M 14 m = 0 ∧ pcl5 5 0 M 15 m = 0 := fun m hm => by
    obtain ⟨k, k1, k2⟩ := hI' m hm
    exact pcl5_v 5 0 M psame.rf (Or.inr ⟨k, Nat.zero_le _, by omega, k2⟩)
  have hs0 : psame M (pcl5 5 0 M) := pcl5_same _ _ _
  have hp0 : PRE (mLs M) (pcl5 5 0 M) := fun m hm => by
    rw [(z0 m hm).1, (z0 m hm).2]; exact ⟨sle.zero, sle.zero⟩
  obtain ⟨-, y2, y3⟩ := pmay_go hC.1 hI hI' pmayf (pcl5 5 0 M) hs0 hp0 (by unfold pmayf; omega)
  obtain ⟨X, eX⟩ : ∃ X, X = pmayM M := ⟨_, rfl⟩
  have y2 : psame M X := by rw [eX]; exact y2.1
  have y3 : FIX (mLs M) X := by rw [eX]; exact y3
  have x1 : X 1 = M 1 := y2 1 (by decide) (by decide)
  have x2 : X 2 = M 2 := y2 2 (by decide) (by decide)
  obtain ⟨lab, N, l1, l2, l3, l4⟩ := hL
  obtain rfl : t.1 = N := (nI_eq (by omega) l2).mp (u1.symm.trans l1)
  have hlt : ∀ m ∈ mLs M, m < t.1 := fun m hm => by
    obtain ⟨k, k1, k2, k3, k4⟩ := hI' m hm
    rcases l4 k k1 with z | ⟨r, r1, r2, -⟩
    · exact absurd z k2
    · obtain ⟨e, e1, e2, e3⟩ := hE k r k1 r2 r1
      rw [r2, tn_nI (by omega), e1, tn_nI (by omega)] at k4
      omega
  have root : ∀ k, k < 5 → ¬ M 2 k = -9 → ∃ r, r ∈ mLs M ∧ r < 65000 ∧ X 2 k = nI r ∧ lab r = 0 ∧ ¬ X 1 (5 * r) = nI 16 := fun k hk h9 => by
    rcases l4 k hk with z | ⟨r, r1, r2, r3, κ, κ1, κ2⟩
    · exact absurd z h9
    · obtain ⟨e, e1, e2, e3⟩ := hE k r hk r2 r1
      refine ⟨r, hI k hk h9 r ?_ ?_, by omega, by rw [x2]; exact r2, r3, ?_⟩
      · rw [r2, tn_nI (by omega)]; exact Nat.le_refl _
      · rw [r2, tn_nI (by omega), e1, tn_nI (by omega)]; exact e2
      · rw [x1, κ2]; exact fun z => absurd ((nI_eq (by omega) (by decide)).mp z) (by omega)
  have h0 : ¬ M 2 0 = -9 := by
    obtain ⟨hCO, hBO, e0, -⟩ := h.2.2.2.1.1.base
    have e0 : C 17 2 = M 2 5 := e0
    rcases hBO.1 with ⟨-, z⟩ | ⟨r, a, z1, z2, -⟩
    · have := h.2.2.2.1.2.1 z
      exact absurd (this.symm.trans (e0.trans h3)) (by decide)
    · have z1 : r < t.1 := z1
      have z2 : M 2 0 = nI r := z2
      rw [z2]; exact (iv_nI (N := 65000) (by omega) (by decide)).nn (by decide)
  have hS : SCX X (mLs M) lab := by
    refine ⟨fun m hm => ⟨(hC.1 m hm).same y2, y3 m hm, LB.of (n := t.1) (by rw [x1]; exact l3) (by omega) (hlt m hm)⟩, root 0 (by decide) h0, fun p hp => ?_⟩
    by_cases q : M 2 (1 + p) = -9
    · left; rw [x2]; exact q
    · exact Or.inr (root (1 + p) (by omega) q)
  obtain ⟨hN, cA, cB, np, nr, -, -, hop⟩ := hF X (mLs M) lab hS x1.symm (fun k _ => by rw [x2])
  obtain ⟨a, l, a6, l4', ea, eb⟩ := hop h3
  refine ⟨l, l4', ?_⟩
  have ep : proot M (-1) = M 2 0 := if_pos rfl
  rw [ea]
  unfold pmay
  rw [if_neg (fun z => by
    rcases z with z | z | z
    · exact absurd z (by decide)
    · exact z.elim (nI_nlt (b := 0) (by omega) (by omega)) (nI_nlt (a := 5) (by omega) (by omega))
    · exact z.elim (nI_nlt (b := 0) (by omega) (by omega)) (nI_nlt (a := 3) (by omega) (by omega))), ep, if_neg h0]
  show ((pmayM M 14 (tn (M 2 0))) >>> ((4 * nI a + nI l) &&& 31)) &&& 1 = 1
  rw [← eX, show 4 * nI a + nI l = nI (4 * a + l) from ixA (ixM (ixC 4) rfl) rfl, and1, b_sshr _ (by omega) _ (by decide), if_pos (show 4 * a + l + 0 < 32 by omega), Nat.add_zero]
  rw [x2] at eb
  rw [if_pos eb]
end FOR
