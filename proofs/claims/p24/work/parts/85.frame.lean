/-! What a frame shows, in both. -/
theorem bclA_eq {b0 n0 : Nat} {g : zG} {f M : zI} {t : zTs} {n e : Nat} (h : HN b0 n0 g f (M 1) t n e) (ht : t.1 ≤ 65000) (hn : n < t.1) : ∀ j k x, j + k = 6 → bclA g e j k x = pclsA M (nI n) j k x := by
  intro j
  induction j with
  | zero => intro k x _; rfl
  | succ j ih =>
    intro k x hk
    show bclA g e j (k + 1) (if bclause g e (nI k) = none then x else x + 1) = pclsA M (nI n) j (k + 1) (x + (if pclause M (nI n) (nI k) = -9 then 0 else 1))
    rw [ih (k + 1) _ (by omega)]
    congr 1
    rcases (HN.clause (w := k) h ht hn (by omega)).2 with ⟨q1, q2⟩ | ⟨q, v, b, q1, q2, q3, -, -, -, -, -, -, q4, -⟩
    · rw [if_pos q1, if_pos q2]; exact (Int32.add_zero x).symm
    · rw [if_neg (by rw [q4]; exact fun z => by cases z), if_neg (by rw [q3]; exact (iv_nI (N := 65000) (by omega) (by decide)).nn (by decide))]
set_option maxHeartbeats 1000000 in
theorem FR.prop {b0 n0 c i x : Nat} {X : zCt} {R : zRf} {C : zI} (h : CO b0 n0 X R C) (hc : c + 27 ≤ n0) (hF : FR b0 n0 X i x) : (qf X) x 0 = pof (qM X) (nI i) 0 ∧ bprop (qg X) (qf X) C x = pprop (qM X) (nI i) ∧ bpropV (qg X) (qf X) c x ∧ ppropV (qM X) (nI i) := by
  have hb := h.2.2.2.2.2
  have hN := h.1.1
  obtain ⟨k1, k2, k3, κ, k4, k5, k6, k7, hK⟩ := hF
  have hi : i < 40000 := by omega
  have p0 : pof (qM X) (nI i) 0 = nI κ := (pof_n (k := 0) (by omega) (by decide)).trans k6
  have p4 : pof (qM X) (nI i) 4 = (qM X) 4 (7 * i + 4) := pof_n (k := 4) (by omega) (by decide)
  have ke : ∀ q, q < 100 → (nI κ = nI q ↔ κ = q) := fun q hq => nI_eq (by omega) (by omega)
  have hnode : κ ≤ 12 → ¬ κ = 2 → ∃ n k', n < (qt X).1 ∧ n < 65000 ∧ pof (qM X) (nI i) 1 = nI n ∧ (qg X).2.2.2 x 1 = some ((qt X).2.1 n) ∧ k' ≤ 15 ∧ EN b0 n0 (qg X) (qf X) ((qM X) 1) (qt X) k' n ∧ κ = frk k' := by
    intro h1 h2
    obtain ⟨n, k', a1, a2, a3, a4, a5, a6, a7, -, -⟩ := FK.node (b0 := b0) (n0 := n0) h.1 hK hi h1 h2
    exact ⟨n, k', a1, a2, a3, a4, a5, a6, a7⟩
  have hmk : κ = 7 ∨ κ = 8 ∨ κ = 10 → ∃ n, n < 65000 ∧ pof (qM X) (nI i) 1 = nI n ∧ (qg X).2.2.2 x 1 = some ((qt X).2.1 n) ∧ (qf X) ((qt X).2.1 n) 1 = parg (qM X) (nI n) := by
    intro hκ
    obtain ⟨n, k', a1, a2, a3, a4, a5, a6, a7⟩ := hnode (by omega) (by omega)
    refine ⟨n, a2, a3, a4, ?_⟩
    rw [parg_n (by omega)]
    refine a6.1.2.2.2 ?_
    have hs : k' = 10 ∨ k' = 11 ∨ k' = 13 := by
      rcases hκ with rfl | rfl | rfl
      · exact Or.inl ((show ∀ k, k < 16 → 7 = frk k → k = 10 by decide) k' (by omega) a7)
      · exact Or.inr (Or.inl ((show ∀ k, k < 16 → 8 = frk k → k = 11 by decide) k' (by omega) a7))
      · exact Or.inr (Or.inr ((show ∀ k, k < 16 → 10 = frk k → k = 13 by decide) k' (by omega) a7))
    omega
  have hres : κ = 11 ∨ κ = 14 → iv 1200 (pof (qM X) (nI i) 4) ∧ buses C (qf X) ((qg X).2.2.2 x 4) = puses (qM X) (pof (qM X) (nI i) 4) := by
    intro hκ
    obtain ⟨r, r1, r2, r3, -⟩ := hK.2.2.2 hκ
    have r1' : r < 1000 := by omega
    rw [p4, r2, r3]
    refine ⟨iv_nI (by omega) (by decide), ?_⟩
    have e : (qf X) (rG X r) 0 = nI r := (h.2.2.1 r r1).1.2.2.1
    unfold buses puses
    simp only
    rw [e, if_pos (kpl r1'), tn_nI (by omega)]
    exact h.2.2.2.2.1.2.2.2.2.2.1 r r1
  refine ⟨k7.trans p0.symm, ?_, ⟨fun q => ?_, fun q => ?_⟩, iv_nI hi (by decide), fun q => ?_, fun q => ?_, fun q => ?_, fun q => ?_⟩
  · unfold pprop
    rw [p0]
    by_cases c2 : κ = 2
    · subst c2
      rw [bprop_2 k7, if_pos (show nI 2 = 2 ∨ nI 2 = 13 from Or.inl rfl), p4]; exact hK.2.1 (Or.inl rfl)
    by_cases c13 : κ = 13
    · subst c13
      rw [bprop_13 k7, if_pos (show nI 13 = 2 ∨ nI 13 = 13 from Or.inr rfl), p4]; exact hK.2.1 (Or.inr rfl)
    rw [if_neg (show ¬ (nI κ = 2 ∨ nI κ = 13) from fun z => z.elim (fun z => c2 ((ke 2 (by decide)).mp z)) (fun z => c13 ((ke 13 (by decide)).mp z)))]
    by_cases c7 : κ = 7 ∨ κ = 8 ∨ κ = 10
    · obtain ⟨n, n1, n2, n3, n4⟩ := hmk c7
      rw [n2, ← n4, if_pos (show nI κ = 7 ∨ nI κ = 8 ∨ nI κ = 10 from c7.imp (fun z => (ke 7 (by decide)).mpr z) (Or.imp (fun z => (ke 8 (by decide)).mpr z) (fun z => (ke 10 (by decide)).mpr z)))]
      rcases c7 with rfl | rfl | rfl
      · rw [bprop_7 k7, pA_eq n3]
      · rw [bprop_8 k7, pA_eq n3]
      · rw [bprop_10 k7, pA_eq n3]
    rw [if_neg (show ¬ (nI κ = 7 ∨ nI κ = 8 ∨ nI κ = 10) from fun z => c7 (z.imp (fun z => (ke 7 (by decide)).mp z) (Or.imp (fun z => (ke 8 (by decide)).mp z) (fun z => (ke 10 (by decide)).mp z))))]
    by_cases c9 : κ = 9
    · subst c9
      obtain ⟨q, q1, q2, q3⟩ := hK.2.2.1 rfl
      have q1' : q < 1000 := by omega
      rw [bprop_9 k7, if_pos (show nI 9 = 9 from rfl), p4, q2, q3, tn_nI (by omega)]
      unfold bexecd
      rw [if_pos (kpl q1'), tn_nI (by omega)]
      exact h.2.2.2.2.1.2.2.2.2.2.2.1 q q1
    rw [if_neg (show ¬ (nI κ = 9) from fun z => c9 ((ke 9 (by decide)).mp z))]
    by_cases c11 : κ = 11 ∨ κ = 14
    · rw [if_pos (show nI κ = 11 ∨ nI κ = 14 from c11.imp (fun z => (ke 11 (by decide)).mpr z) (fun z => (ke 14 (by decide)).mpr z)), ← (hres c11).2]
      rcases c11 with rfl | rfl
      · rw [bprop_11 k7]
      · rw [bprop_14 k7]
    rw [if_neg (show ¬ (nI κ = 11 ∨ nI κ = 14) from fun z => c11 (z.imp (fun z => (ke 11 (by decide)).mp z) (fun z => (ke 14 (by decide)).mp z)))]
    by_cases c12 : κ = 12
    · subst c12
      obtain ⟨n, k', a1, a2, a3, a4, a5, a6, a7⟩ := hnode (by decide) (by decide)
      obtain rfl : k' = 15 := (show ∀ k, k < 16 → 12 = frk k → k = 15 by decide) k' (by omega) a7
      rw [bprop_12 k7, if_pos (show nI 12 = 12 from rfl), pA_eq a4, a3]
      exact bclA_eq (a6.2.2.2.2.2 rfl) hN a1 6 0 0 rfl
    rw [if_neg (show ¬ (nI κ = 12) from fun z => c12 ((ke 12 (by decide)).mp z))]
    have nk : ∀ q, q < 100 → ¬ κ = q → ¬ (qf X) x 0 = nI q := fun q hq hn z => hn ((ke q hq).mp (k7.symm.trans z))
    exact bprop_d (nk 7 (by decide) (by omega)) (nk 8 (by decide) (by omega)) (nk 10 (by decide) (by omega)) (nk 2 (by decide) c2) (nk 13 (by decide) c13) (nk 12 (by decide) c12) (nk 11 (by decide) (by omega)) (nk 14 (by decide) (by omega)) (nk 9 (by decide) c9)
  · rw [k7] at q
    obtain ⟨n, -, -, n3, -⟩ := hmk (q.imp (fun z => (ke 7 (by decide)).mp z) (Or.imp (fun z => (ke 8 (by decide)).mp z) (fun z => (ke 10 (by decide)).mp z)))
    rw [pA_eq n3]; exact n3
  · rw [k7] at q
    obtain rfl : κ = 12 := (ke 12 (by decide)).mp q
    obtain ⟨n, k', a1, a2, a3, a4, a5, a6, a7⟩ := hnode (by decide) (by decide)
    rw [pA_eq a4]
    exact ⟨a4, a6.eok hc⟩
  · rw [p0] at q
    obtain ⟨n, n1, n2, -⟩ := hmk (q.imp (fun z => (ke 7 (by decide)).mp z) (Or.imp (fun z => (ke 8 (by decide)).mp z) (fun z => (ke 10 (by decide)).mp z)))
    rw [n2]; exact iv_nI n1 (by decide)
  · rw [p0] at q
    obtain rfl : κ = 12 := (ke 12 (by decide)).mp q
    obtain ⟨n, k', a1, a2, a3, a4, a5, a6, a7⟩ := hnode (by decide) (by decide)
    obtain rfl : k' = 15 := (show ∀ k, k < 16 → 12 = frk k → k = 15 by decide) k' (by omega) a7
    rw [a3]
    exact ⟨iv_nI a2 (by decide), (HN.clause (w := 0) (a6.2.2.2.2.2 rfl) hN a1 (by decide)).1⟩
  · rw [p0] at q
    obtain ⟨j, j1, j2, -⟩ := hK.2.2.1 ((ke 9 (by decide)).mp q)
    rw [p4, j2]; exact iv_nI (by omega) (by decide)
  · rw [p0] at q
    exact (hres (q.imp (fun z => (ke 11 (by decide)).mp z) (fun z => (ke 14 (by decide)).mp z))).1
/-- the frames below the top, in the reference -/
theorem CO.bel {b0 n0 : Nat} {X : zCt} {R : zRf} {C : zI} (h : CO b0 n0 X R C) : ∀ j p, p < nD X → j ≤ p → pagV (qM X) j (nI (fI X p)) ∧ pbel (qM X) j (nI (fI X p)) = nI (fI X (p - j)) := by
  have hb := h.2.2.2.2.2
  intro j
  induction j with
  | zero => intro p _ _; exact ⟨trivial, rfl⟩
  | succ j ih =>
    intro p hp hj
    obtain ⟨x, -, x2, -, x4⟩ := h.2.2.2.1.2.2 p hp
    have hi : fI X p < nP X := x2.1
    have e : pof (qM X) (nI (fI X p)) 5 = nI (fI X (p - 1)) := (pof_n (k := 5) (by omega) (by decide)).trans (x4.trans (if_neg (by omega)))
    obtain ⟨i1, i2⟩ := ih (p - 1) (by omega) (by omega)
    show (iv 40000 (nI (fI X p)) ∧ pagV (qM X) j (pof (qM X) (nI (fI X p)) 5)) ∧ pbel (qM X) j (pof (qM X) (nI (fI X p)) 5) = _
    rw [e]
    exact ⟨⟨iv_nI (by omega) (by decide), i1⟩, i2.trans (by rw [show p - 1 - j = p - (j + 1) by omega])⟩
theorem RQ.frame {b0 n0 c b : Nat} {X : zCt} {R : zRf} {C : zI} (h : RQ b0 n0 X R C b) (hc : c + 27 ≤ n0) (k y : Int32) : bframe (qg X) R (qf X) C k y = pframe (qM X) k y ∧ (∀ x, bbelow C R k = some x → bpropV (qg X) (qf X) c x) ∧ pframeV (qM X) k := by
  obtain ⟨hC, -, -, -⟩ := h.base
  have hd := hC.depth
  have hd100 : nD X ≤ 100 := hC.2.2.2.1.1
  have d1 : C 19 1 = nI (nD X) := hC.2.2.2.2.1.1.1
  have h7 := hC.2.2.2.1.2.1
  have hb := hC.2.2.2.2.2
  have hy : (y = 0 ∨ y = 1) ↔ ¬ (y < 0 ∨ 1 < y) := by
    have e1 : (1 < y) = ¬ y < 2 := lt_sub (a := 1) (by decide)
    constructor
    · rintro (rfl | rfl) <;> decide
    · intro q
      have q1 : ¬ y < 0 := fun z => q (Or.inl z)
      have q2 : y < 2 := Classical.byContradiction (fun z => q (Or.inr (by rw [e1]; exact z)))
      obtain ⟨a1, a2⟩ := tn_of (n := 2) q1 (by decide) q2
      have hs : tn y = 0 ∨ tn y = 1 := by omega
      rcases hs with hs | hs <;> rw [hs] at a2
      · exact Or.inl a2
      · exact Or.inr a2
  by_cases q : ¬ k < 0 ∧ k < nI (nD X)
  · obtain ⟨q1, q2⟩ := tn_of q.1 (by omega) q.2
    have hlt : tn k < nD X := q1
    have e1 : nI (nD X) - 1 = nI (nD X - 1) := ixS (a := nD X) (b := 1) rfl (ixC 1) (by omega)
    have e2 : nI (nD X - 1) - k = nI (nD X - 1 - tn k) := ixS (a := nD X - 1) (b := tn k) rfl q2 (by omega)
    obtain ⟨x, x1, x2, -⟩ := hC.2.2.2.1.2.2 (nD X - 1 - tn k) (by omega)
    have hbl : bbelow C R k = some x := by
      unfold bbelow
      rw [d1, if_pos q, e1, e2, tn_nI (by omega)]; exact x1
    obtain ⟨p1, p2, p3, p4⟩ := x2.prop hC hc
    obtain ⟨b1, b2⟩ := hC.bel (tn k) (nD X - 1) (by omega) (by omega)
    rw [if_neg (by omega)] at h7
    have hr : ¬ (k < 0 ∨ pdepth (qM X) - 1 < k) := by
      rw [hd, e1]
      refine fun z => z.elim q.1 (fun z => ?_)
      rw [q2] at z
      exact nI_nlt (a := nD X - 1) (b := tn k) (by omega) (by omega) z
    refine ⟨?_, fun x' hx' => ?_, fun _ => ?_⟩
    · unfold pframe
      rw [h7, b2]
      by_cases hy2 : y = 0 ∨ y = 1
      · rw [if_neg (fun z => z.elim hr (hy.mp hy2))]
        by_cases y0 : y = 0
        · rw [bframe_0 hbl y0, if_pos y0]; exact p1
        · rw [bframe_1 hbl y0 (hy2.resolve_left y0), if_neg y0]; exact p2
      · rw [if_pos (Or.inr (Classical.byContradiction (fun z => hy2 (hy.mpr z)))), bframe_e hbl (fun z => hy2 (Or.inl z)) (fun z => hy2 (Or.inr z))]
    · obtain rfl : x = x' := Option.some.inj (hbl.symm.trans hx')
      exact p3
    · rw [h7, b2]
      exact ⟨b1, iv_nI (by have := x2.1; omega) (by decide), p4⟩
  · have hbl : bbelow C R k = none := by unfold bbelow; rw [d1, if_neg q]
    have hr : k < 0 ∨ pdepth (qM X) - 1 < k := by
      rw [hd]
      by_cases k0 : k < 0
      · exact Or.inl k0
      · refine Or.inr ?_
        have kn : ¬ k < nI (nD X) := fun z => q ⟨k0, z⟩
        by_cases d0 : nD X = 0
        · rw [d0]
          rw [d0] at kn
          show (-1 : Int32) < k
          have z1 := Int32.le_iff_toInt_le.mp (Int32.not_lt.mp k0)
          rw [Int32.lt_iff_toInt_lt]
          have z2 : (0 : Int32).toInt = 0 := rfl
          have z3 : (-1 : Int32).toInt = -1 := rfl
          omega
        · rw [show nI (nD X) - 1 = nI (nD X - 1) from ixS (a := nD X) (b := 1) rfl (ixC 1) (by omega), lt_sub (by omega), show nD X - 1 + 1 = nD X by omega]
          exact kn
    refine ⟨?_, fun x' hx' => ?_, fun z => absurd hr z⟩
    · unfold pframe
      rw [bframe_n hbl, if_pos (Or.inl hr)]
    · rw [hbl] at hx'; cases hx'
