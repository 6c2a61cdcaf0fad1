/-! A text is read by the reference: every clause has a body. -/
def CLB (fs : Nat) (M : zI) (n : Nat) : Prop := ∃ b, fs ≤ b ∧ b < tn (M 0 1) ∧ M 1 (5 * n + 2) = nI b ∧ ¬ M 1 (5 * b) = nI 16
def CLI (fs : Nat) (M : zI) : Prop := fs ≤ tn (M 0 1) ∧ (∀ j, j < tn (M 0 13) → ∃ n, fs ≤ n ∧ n < tn (M 0 1) ∧ M 7 j = nI n) ∧ ∀ n, fs ≤ n → n < tn (M 0 1) → M 1 (5 * n) = nI 16 → CLB fs M n ∨ ∃ j, j < tn (M 0 13) ∧ M 7 j = nI n ∧ M 8 j = 0
section CLAU
variable {fs : Nat} {M N : zI}
theorem CLI.of (h : CLI fs M) (h1 : N 1 = M 1) (h7 : N 7 = M 7) (h8 : N 8 = M 8) (ha : N 0 1 = M 0 1) (hb : N 0 13 = M 0 13) : CLI fs N := by
  unfold CLI CLB at h ⊢
  rw [h1, h7, h8, ha, hb]; exact h
theorem CLI.grow {u s : Nat} (h : CLI fs M) (hu : M 0 1 = nI u) (hu' : u < 65000) (hs : M 0 13 = nI s) (hs' : s < 130) (hN1 : N 0 1 = nI (u + 1)) (hT : ∀ n, n < u → N 1 (5 * n) = M 1 (5 * n) ∧ N 1 (5 * n + 2) = M 1 (5 * n + 2))
    (hS : (N 0 13 = nI s ∧ ¬ N 1 (5 * u) = nI 16) ∨ (N 0 13 = nI (s + 1) ∧ N 7 s = nI u ∧ N 8 s = 0)) (h78 : ∀ j, j < s → N 7 j = M 7 j ∧ N 8 j = M 8 j) : CLI fs N := by
  obtain ⟨a1, a2, a3⟩ := h
  have e1 : tn (M 0 1) = u := by rw [hu]; exact tn_nI (by omega)
  have e2 : tn (M 0 13) = s := by rw [hs]; exact tn_nI (by omega)
  have e3 : tn (N 0 1) = u + 1 := by rw [hN1]; exact tn_nI (by omega)
  unfold CLB at a3
  rw [e1] at a1 a2 a3
  rw [e2] at a2 a3
  have e4 : s ≤ tn (N 0 13) := by
    rcases hS with ⟨z, -⟩ | ⟨z, -⟩
    · rw [z, tn_nI (by omega)]; omega
    · rw [z, tn_nI (by omega)]; omega
  refine ⟨by omega, fun j hj => ?_, fun n n1 n2 n16 => ?_⟩
  · rw [e3]
    by_cases q : j < s
    · obtain ⟨n, b1, b2, b3⟩ := a2 j q
      exact ⟨n, b1, by omega, (h78 j q).1.trans b3⟩
    · rcases hS with ⟨z, -⟩ | ⟨z, z7, -⟩
      · rw [z, tn_nI (by omega)] at hj; omega
      · rw [z, tn_nI (by omega)] at hj
        obtain rfl : j = s := by omega
        exact ⟨u, a1, by omega, z7⟩
  · rw [e3] at n2
    by_cases q : n < u
    · rw [(hT n q).1] at n16
      rcases a3 n n1 q n16 with ⟨b, b1, b2, b3, b4⟩ | ⟨j, j1, j2, j3⟩
      · exact Or.inl ⟨b, b1, by rw [e3]; omega, (hT n q).2.trans b3, by rw [(hT b b2).1]; exact b4⟩
      · exact Or.inr ⟨j, by omega, (h78 j j1).1.trans j2, (h78 j j1).2.trans j3⟩
    · obtain rfl : n = u := by omega
      rcases hS with ⟨-, z⟩ | ⟨z, z7, z8⟩
      · exact absurd n16 z
      · exact Or.inr ⟨s, by rw [z, tn_nI (by omega)]; omega, z7, z8⟩
theorem CLI.att {s p b n : Nat} {x : Int32} (h : CLI fs M) (hs : tn (M 0 13) = s + 1) (hu : tn (M 0 1) ≤ 65000) (h7 : M 7 s = nI n) (hn : n < 65000) (h8 : M 8 s = nI p) (hp : p < 3) (hx : x = nI b ∧ fs ≤ b ∧ b < tn (M 0 1) ∧ ¬ M 1 (5 * b) = nI 16) : CLI fs (pattach M x) := by
  obtain ⟨a1, a2, a3⟩ := h
  have ept : ptop M = s := by unfold ptop; omega
  have r1 : ∀ j, pattach M x 1 j = zup M 1 (5 * n + 2 + p) x 1 j := fun j => by
    unfold pattach
    try dsimp only
    rw [zup_r (by decide), ept, h7, h8, tn_nI (by omega), tn_nI (by omega)]
  have r8 : ∀ j, j ≠ s → pattach M x 8 j = M 8 j := fun j hj => by
    unfold pattach
    try dsimp only
    rw [ept, zup_ne _ _ _ _ (Or.inr hj), zup_r (by decide)]
  have r0 : pattach M x 0 = M 0 := by
    unfold pattach
    try dsimp only
    rw [zup_r (by decide), zup_r (by decide)]
  have r7 : pattach M x 7 = M 7 := by
    unfold pattach
    try dsimp only
    rw [zup_r (by decide), zup_r (by decide)]
  have k0 : ∀ m, pattach M x 1 (5 * m) = M 1 (5 * m) := fun m => by
    rw [r1]; exact zup_ne _ _ _ _ (Or.inr (by omega))
  have hit : ∀ m, m = n → p = 0 → CLB fs (pattach M x) m := fun m hm h0 => by
    subst hm; subst h0
    refine ⟨b, hx.2.1, by rw [r0]; exact hx.2.2.1, ?_, by rw [k0]; exact hx.2.2.2⟩
    rw [r1]
    exact (zup_at _ _ _ _).trans hx.1
  refine ⟨by rw [r0]; exact a1, fun j hj => ?_, fun m m1 m2 m16 => ?_⟩
  · rw [r0] at hj ⊢
    rw [r7]; exact a2 j hj
  · rw [r0] at m2
    rw [k0] at m16
    rcases a3 m m1 m2 m16 with ⟨b', b1, b2, b3, b4⟩ | ⟨j, j1, j2, j3⟩
    · by_cases q : m = n ∧ p = 0
      · exact Or.inl (hit m q.1 q.2)
      · refine Or.inl ⟨b', b1, by rw [r0]; exact b2, ?_, by rw [k0]; exact b4⟩
        rw [r1]
        exact (zup_ne _ _ _ _ (Or.inr (by omega))).trans b3
    · by_cases q : j = s
      · subst q
        refine Or.inl (hit m ((nI_eq (by omega) (by omega)).mp (j2.symm.trans h7)) ?_)
        exact (nI_eq (b := 0) (by omega) (by decide)).mp (h8.symm.trans j3)
      · exact Or.inr ⟨j, by rw [r0]; exact j1, by rw [r7]; exact j2, (r8 j q).trans j3⟩
theorem CLI.pop (h : CLI fs M) (hz : pnz M) (hu : tn (M 0 1) ≤ 65000) (hno : ¬ (pkind M (M 7 (ptop M)) = 16 ∧ M 8 (ptop M) = 0)) : CLI fs (pgoC M) := by
  obtain ⟨a1, a2, a3⟩ := h
  obtain ⟨e1, e2⟩ := pgoC_top hz
  have hz2 := hz.2
  have r0 : pgoC M 0 1 = M 0 1 := zup_ne _ _ _ _ (by omega)
  have hlt : ptop M + 1 = tn (M 0 13) := by unfold ptop; omega
  refine ⟨by rw [r0]; exact a1, fun j hj => ?_, fun n n1 n2 n16 => ?_⟩
  · rw [e1] at hj
    rw [r0, pgoC_row (by decide)]
    exact a2 j (by omega)
  · rw [r0] at n2
    rw [pgoC_row (by decide)] at n16
    rcases a3 n n1 n2 n16 with ⟨b, b1, b2, b3, b4⟩ | ⟨j, j1, j2, j3⟩
    · exact Or.inl ⟨b, b1, by rw [r0]; exact b2, by rw [pgoC_row (by decide)]; exact b3, by rw [pgoC_row (by decide)]; exact b4⟩
    · by_cases q : j = ptop M
      · refine absurd ⟨?_, by rw [← q]; exact j3⟩ hno
        unfold pkind
        rw [← q, j2, tn_nI (by omega)]; exact n16
      · exact Or.inr ⟨j, by rw [e1]; omega, by rw [pgoC_row (by decide)]; exact j2, by rw [pgoC_row (by decide)]; exact j3⟩
theorem CLI.goD {x k : Int32} (h : CLI fs M) (hz : pnz M) (hu : tn (M 0 1) ≤ 65000) (hx : x = M 7 (ptop M)) (hk : k = pkind M x) (hno : ¬ (k = 16 ∧ M 8 (ptop M) = 0)) (hV : pgoDV M k) : CLI fs (pgoD M x k) := by
  subst hx
  subst hk
  have hp := h.pop hz hu hno
  unfold pgoD
  split
  · rename_i q
    obtain ⟨z1, z2, z3⟩ := pgoC_nz hz q.1
    obtain ⟨v1, v2⟩ := hV z2 q.2
    obtain ⟨e1, e2⟩ := pgoC_top hz
    have r0 : pgoC M 0 1 = M 0 1 := zup_ne _ _ _ _ (by omega)
    obtain ⟨b, b1, b2, b3⟩ := h.2.1 (ptop M) (by unfold ptop; omega)
    refine hp.att (s := tn (M 0 13) - 2) (p := tn (M 8 (tn (M 0 13) - 2))) (b := b) (n := tn (M 7 (tn (M 0 13) - 2))) ?_ (by rw [r0]; exact hu) (by rw [pgoC_row (by decide)]; exact v1.2) (by have := v1.1; omega) (by rw [pgoC_row (by decide)]; exact v2.2) v2.1 ⟨b3, b1, by rw [r0]; exact b2, ?_⟩
    · rw [e1]; unfold ptop; omega
    · rw [pgoC_row (by decide)]
      intro z
      refine q.2 ?_
      unfold pkind
      rw [b3, tn_nI (by omega)]; exact z
  · exact hp
theorem pent_e {n v m : Int32} {s : Nat} (hs : M 0 13 = nI s) (hs' : s < 2 ^ 31) : penter M n v m 1 = M 1 ∧ penter M n v m 0 1 = M 0 1 ∧ penter M n v m 0 13 = nI (s + 1) ∧ penter M n v m 7 s = n ∧ penter M n v m 8 s = 0 ∧ ∀ j, j < s → penter M n v m 7 j = M 7 j ∧ penter M n v m 8 j = M 8 j := by
  unfold penter
  try dsimp only
  rw [hs, tn_nI hs']
  refine ⟨?_, ?_, ?_, ?_, ?_, fun j hj => ⟨?_, ?_⟩⟩
  · rw [zup_r (by decide), zup_r (by decide), zup_r (by decide), zup_r (by decide), zup_r (by decide)]
  · rw [zup_ne _ _ _ _ (by omega), zup_r (by decide), zup_r (by decide), zup_r (by decide), zup_r (by decide)]
  · rw [zup_at, zup_r (by decide), zup_r (by decide), zup_r (by decide), zup_r (by decide), hs, nI_1]
  · rw [zup_r (by decide), zup_r (by decide), zup_r (by decide), zup_r (by decide), zup_at]
  · rw [zup_r (by decide), zup_r (by decide), zup_r (by decide), zup_at]
  · rw [zup_r (by decide), zup_r (by decide), zup_r (by decide), zup_r (by decide), zup_ne _ _ _ _ (by omega)]
  · rw [zup_r (by decide), zup_r (by decide), zup_r (by decide), zup_ne _ _ _ _ (by omega), zup_r (by decide)]
theorem CLI.fails (h : CLI fs M) : CLI fs (pfails M) := h.of (zup_r (by decide)) (zup_r (by decide)) (zup_r (by decide)) (zup_ne _ _ _ _ (by omega)) (zup_ne _ _ _ _ (by omega))
theorem CLI.skip (h : CLI fs M) : CLI fs (pskip M) := h.of (pskip_row (by decide)) (pskip_row (by decide)) (pskip_row (by decide)) (pskip_0 (by decide)) (pskip_0 (by decide))
theorem CLI.atn (h : CLI fs M) : CLI fs (patn M) := h.of (zup_r (by decide)) (zup_r (by decide)) (zup_r (by decide)) (zup_ne _ _ _ _ (by omega)) (zup_ne _ _ _ _ (by omega))
theorem CLI.take {a b : Int32} (h : CLI fs M) : CLI fs (ptake M a b).2 := by
  unfold ptake
  split
  · exact h.skip.fails
  · exact h.skip.atn
theorem CLI.rarg {k : Int32} (h : CLI fs M) : CLI fs (preadArg M k).2 := by
  unfold preadArg
  by_cases c8 : k = 8
  · rw [if_pos c8]; exact h.take
  rw [if_neg c8]
  by_cases c9 : k = 9
  · rw [if_pos c9]; exact h
  rw [if_neg c9]
  by_cases c10 : k = 10
  · rw [if_pos c10]; exact h.take
  rw [if_neg c10]
  by_cases c11 : k = 11
  · rw [if_pos c11]; exact h.take
  rw [if_neg c11]
  by_cases c12 : k = 12
  · rw [if_pos c12]; exact h
  rw [if_neg c12]
  by_cases c13 : k = 13
  · rw [if_pos c13]; exact h.take
  rw [if_neg c13]
  exact h
theorem prnA_row : ∀ (k : Nat) (v : Int32) (M : zI) (r : Nat), r ≠ 0 → (prnA k v M).2 r = M r := by
  intro k
  induction k with
  | zero => intro v M r h; rfl
  | succ k ih =>
    intro v M r h
    unfold prnA
    split
    · rfl
    · rw [ih _ _ r h]
      exact zup_r h
theorem CLI.cl {x : Int32} (h : CLI fs M) (hV : pbclauseV M x) : CLI fs (pbclause M x) := by
  obtain ⟨-, -, -, v1, v2, -⟩ := hV
  by_cases q : (phere M = 58 ∨ ¬ (phere M - 65 < 0 ∨ 5 < phere M - 65)) ∧ pclause M x (pbc1 M) = -9
  · rw [pbclause_yes q]
    have hT := (h.atn).take (a := 97) (b := 122)
    have t1 : (ptake (patn M) 97 122).2 0 1 = M 0 1 := (ptake_0 (by decide) (by decide)).trans (zup_ne _ _ _ _ (by omega))
    have t13 : (ptake (patn M) 97 122).2 0 13 = M 0 13 := (ptake_0 (by decide) (by decide)).trans (zup_ne _ _ _ _ (by omega))
    generalize (ptake (patn M) 97 122).2 = T at hT t1 t13 ⊢
    generalize (ptake (patn M) 97 122).1 = a
    split
    · have hu : T 0 1 = nI (tn (M 0 1)) := t1.trans v1.2
      have hs : T 0 13 = nI (tn (M 0 13)) := t13.trans v2.2
      obtain ⟨p1, p2, p3, p4, p5, p6, p7, p8, -⟩ := pmake_1 (M := T) (κ := 16) (a := a) hu (by have := v1.1; omega)
      have c13 : pbcC T x (pbc1 M) a 0 13 = nI (tn (M 0 13)) := (pbcC_0 (by decide) (by decide)).trans hs
      have c1 : pbcC T x (pbc1 M) a 0 1 = nI (tn (M 0 1) + 1) := by
        unfold pbcC
        try dsimp only
        rw [zup_r (by decide), zup_r (by decide), zup_r (by decide)]; exact p8
      have c7 : ∀ r, r ≠ 0 → r ≠ 1 → pbcC T x (pbc1 M) a r = T r := fun r r0 r1 => by
        unfold pbcC
        try dsimp only
        rw [zup_r r1, zup_r r1, zup_r r1]; exact p7 r r0 r1
      have cT : ∀ j, j < 5 * tn (M 0 1) → (∀ n, j ≠ 5 * n + 3) → pbcC T x (pbc1 M) a 1 j = T 1 j := fun j hj hn => by
        unfold pbcC
        try dsimp only
        rw [hu, tn_nI (by have := v1.1; omega), zup_ne _ _ _ _ (Or.inr (hn _)), zup_ne _ _ _ _ (by omega), zup_ne _ _ _ _ (by omega)]; exact p1 j hj
      unfold pbcD
      obtain ⟨n1, n2, n3, n4, n5, n6⟩ := pent_e (M := pbcC T x (pbc1 M) a) (n := T 0 1) (v := pbcC T x (pbc1 M) a 9 (tn (pbcC T x (pbc1 M) a 0 13) - 1) ||| (1 <<< (a &&& 31))) (m := if phere M = 58 then pbcC T x (pbc1 M) a 10 (tn (pbcC T x (pbc1 M) a 0 13) - 1) else x + 1) c13 (by have := v2.1; omega)
      refine hT.grow hu v1.1 hs v2.1 (n2.trans c1) (fun n hn => ?_) (Or.inr ⟨n3, n4.trans hu, n5⟩) (fun j hj => ?_)
      · rw [n1, cT _ (by omega) (fun n => by omega), cT _ (by omega) (fun n => by omega)]
        exact ⟨rfl, rfl⟩
      · rw [(n6 j hj).1, (n6 j hj).2, c7 7 (by decide) (by decide), c7 8 (by decide) (by decide)]
        exact ⟨rfl, rfl⟩
    · exact hT
  · rw [pbclause_no q]; exact h.fails
theorem CLI.beg {v m : Int32} (h : CLI fs M) (hp : pat M) (hN : iv 64990 (M 0 1)) (hO : iv 129 (M 0 13)) (h15 : M 0 15 = -9) : CLI fs (pbw M v m).2 ∧ tn ((pbw M v m).2 0 1) ≤ tn (M 0 1) + 1 ∧ (¬ (pbw M v m).1 = 0 → (pbw M v m).2 0 15 = -9 → ∃ b, fs ≤ b ∧ b < tn ((pbw M v m).2 0 1) ∧ (pbw M v m).2 0 17 = nI b ∧ ¬ (pbw M v m).2 1 (5 * b) = nI 16) := by
  have hN1 := hN.1
  have hO1 := hO.1
  have leaf : ∀ (P : zI) (κ a w : Int32), CLI fs P → P 0 1 = M 0 1 → P 0 13 = M 0 13 → w = M 0 1 → ¬ κ = nI 16 → CLI fs (zup (pmake P κ a) 0 17 w) ∧ tn (zup (pmake P κ a) 0 17 w 0 1) ≤ tn (M 0 1) + 1 ∧ ∃ b, fs ≤ b ∧ b < tn (zup (pmake P κ a) 0 17 w 0 1) ∧ zup (pmake P κ a) 0 17 w 0 17 = nI b ∧ ¬ zup (pmake P κ a) 0 17 w 1 (5 * b) = nI 16 := by
    intro P κ a w hP h1 h13 hw hκ
    have hu : P 0 1 = nI (tn (M 0 1)) := h1.trans hN.2
    have hs : P 0 13 = nI (tn (M 0 13)) := h13.trans hO.2
    obtain ⟨p1, p2, p3, p4, p5, p6, p7, p8, -⟩ := pmake_1 (M := P) (κ := κ) (a := a) hu (by omega)
    have z1 : zup (pmake P κ a) 0 17 w 1 = pmake P κ a 1 := zup_r (by decide)
    have z0 : zup (pmake P κ a) 0 17 w 0 1 = nI (tn (M 0 1) + 1) := (zup_ne _ _ _ _ (by omega)).trans p8
    refine ⟨hP.grow hu (by omega) hs (by omega) z0 (fun n hn => ?_) (Or.inl ⟨?_, ?_⟩) (fun j _ => ?_), by rw [z0, tn_nI (by omega)]; omega, tn (M 0 1), ?_, ?_, ?_, ?_⟩
    · rw [z1, p1 _ (by omega), p1 _ (by omega)]
      exact ⟨rfl, rfl⟩
    · rw [zup_ne _ _ _ _ (by omega), pmake_0 (by decide) (by decide)]; exact hs
    · rw [z1, p2]; exact hκ
    · rw [zup_r (by decide), zup_r (by decide), p7 7 (by decide) (by decide), p7 8 (by decide) (by decide)]
      exact ⟨rfl, rfl⟩
    · exact h.1
    · rw [z0, tn_nI (by omega)]; omega
    · rw [zup_at, hw]; exact hN.2
    · rw [z1, p2]; exact hκ
  by_cases c1 : ¬ (phere M < 48 ∨ 57 < phere M)
  · have e : pbw M v m = (1, zup (pbwN M) 0 17 ((prnum M).2 0 1)) := if_pos c1
    rw [e]
    have k1 : (prnum M).2 0 1 = M 0 1 := prnA_0 _ _ _ _ (by decide)
    have k13 : (prnum M).2 0 13 = M 0 13 := prnA_0 _ _ _ _ (by decide)
    have hP : CLI fs (prnum M).2 := h.of (prnA_row _ _ _ _ (by decide)) (prnA_row _ _ _ _ (by decide)) (prnA_row _ _ _ _ (by decide)) k1 k13
    obtain ⟨y1, y3, y2⟩ := leaf (prnum M).2 0 (prnum M).1 ((prnum M).2 0 1) hP k1 k13 k1 (by decide)
    exact ⟨y1, y3, fun _ _ => y2⟩
  · by_cases c2 : ¬ (phere M < 97 ∨ 122 < phere M) ∧ (v >>> ((phere M - 97) &&& 31)) &&& 1 = 1
    · have e : pbw M v m = (1, zup (pbwV M) 0 17 (M 0 1)) := (if_neg c1).trans (if_pos c2)
      rw [e]
      obtain ⟨y1, y3, y2⟩ := leaf (patn M) 1 (phere M - 97) (M 0 1) h.atn (zup_ne _ _ _ _ (by omega)) (zup_ne _ _ _ _ (by omega)) rfl (by decide)
      exact ⟨y1, y3, fun _ _ => y2⟩
    · by_cases c3 : pkindOf (phere M) = -9 ∨ (pkindOf (phere M) = 14 ∧ m = 0)
      · have e : pbw M v m = (1, pfails M) := (if_neg c1).trans ((if_neg c2).trans (if_pos c3))
        rw [e]
        refine ⟨h.fails, ?_, fun _ q => ?_⟩
        · show tn (pfails M 0 1) ≤ _
          rw [show pfails M 0 1 = M 0 1 from zup_ne _ _ _ _ (by omega)]; omega
        have q : pfails M 0 15 = -9 := q
        have q2 : (if M 0 15 = -9 then M 0 14 else M 0 15) = -9 := (zup_at _ _ _ _).symm.trans q
        rw [if_pos h15] at q2
        exact absurd q2 (hp.1.nn (by decide))
      · rw [pbw_1 c1 c2 c3]
        refine (and_assoc.mp ⟨?_, fun q => absurd rfl q⟩)
        have hT : CLI fs (pbwA M).2 := h.atn.rarg
        have t1 : (pbwA M).2 0 1 = M 0 1 := (preadArg_0 (by decide) (by decide)).trans (zup_ne _ _ _ _ (by omega))
        have t13 : (pbwA M).2 0 13 = M 0 13 := (preadArg_0 (by decide) (by decide)).trans (zup_ne _ _ _ _ (by omega))
        generalize (pbwA M).2 = T at hT t1 t13 ⊢
        generalize (pbwA M).1 = a
        generalize pkindOf (phere M) = κ
        show CLI fs (if T 0 15 = -9 then pbwF T κ a v m else T) ∧ tn ((if T 0 15 = -9 then pbwF T κ a v m else T) 0 1) ≤ tn (M 0 1) + 1
        split
        · have hu : T 0 1 = nI (tn (M 0 1)) := t1.trans hN.2
          have hs : T 0 13 = nI (tn (M 0 13)) := t13.trans hO.2
          obtain ⟨f1, -, -⟩ := pbwF_1 (k := κ) (a := a) (v := v) (m := m) hu (by omega)
          obtain ⟨p1, p2, p3, p4, p5, p6, p7, p8, -⟩ := pmake_1 (M := T) (κ := κ) (a := a) hu (by omega)
          have r : ∀ r, r ≠ 1 → pbw4 (zup (pmake T κ a) 0 17 (T 0 1)) κ m r = zup (pmake T κ a) 0 17 (T 0 1) r := fun r hr => by
            unfold pbw4
            exact zup_r hr
          obtain ⟨n1, n2, n3, n4, n5, n6⟩ := pent_e (M := pbw4 (zup (pmake T κ a) 0 17 (T 0 1)) κ m) (n := T 0 1) (v := v) (m := m) (s := tn (M 0 13)) (by rw [r 0 (by decide), zup_ne _ _ _ _ (by omega), pmake_0 (by decide) (by decide)]; exact hs) (by omega)
          have nx : pbwF T κ a v m 0 1 = nI (tn (M 0 1) + 1) := n2.trans (by rw [r 0 (by decide), zup_ne _ _ _ _ (by omega)]; exact p8)
          refine ⟨hT.grow hu (by omega) hs (by omega) nx (fun n hn => ⟨f1 _ (by omega), f1 _ (by omega)⟩) (Or.inr ⟨n3, n4.trans hu, n5⟩) (fun j hj => ?_), by rw [nx, tn_nI (by omega)]; omega⟩
          · refine ⟨(n6 j hj).1.trans ?_, (n6 j hj).2.trans ?_⟩
            · rw [r 7 (by decide), zup_r (by decide), p7 7 (by decide) (by decide)]
            · rw [r 8 (by decide), zup_r (by decide), p7 8 (by decide) (by decide)]
        · exact ⟨hT, by rw [t1]; omega⟩
theorem CLI.goes : ∀ (j : Nat) (M : zI), CLI fs M → tn (M 0 1) ≤ 65000 → pgoesV j M → CLI fs (pgoes j M).2 ∧ ((pgoes j M).1 = 0 → (pgoes j M).2 0 13 = 0) := by
  intro j
  induction j with
  | zero => intro M _ _ hV; exact absurd hV id
  | succ j ih =>
    intro M h hu hV
    obtain ⟨hp, hi, hV⟩ := hV
    have hi1 := hi.1
    by_cases c : 0 < M 0 13
    · have h0 : 0 < tn (M 0 13) := by
        rcases Nat.eq_zero_or_pos (tn (M 0 13)) with q | q
        · rw [hi.2, q] at c; exact absurd c (by decide)
        · exact q
      have hz : pnz M := ⟨hi, h0⟩
      obtain ⟨v1, v2, v3⟩ := hV h0
      by_cases c1 : pkind M (M 7 (ptop M)) = 15 ∧ M 8 (ptop M) = 1
      · by_cases c2 : phere (pskip M) = 125
        · have e : pgoes (j + 1) M = pgoes j (pgoD (patn (pskip M)) (M 7 (ptop M)) (pkind M (M 7 (ptop M)))) := (if_neg (fun z => z c)).trans ((if_pos c1).trans (if_pos c2))
          rw [e]
          obtain ⟨w1, w2⟩ := (v2 c1).1 c2
          obtain ⟨Q, eQ⟩ : ∃ Q, Q = patn (pskip M) := ⟨_, rfl⟩
          have q0 : ∀ c, c ≠ 14 → Q 0 c = M 0 c := fun c hc => by rw [eQ]; exact (zup_ne _ _ _ _ (Or.inr hc)).trans (pskip_0 hc)
          have qr : ∀ r, r ≠ 0 → Q r = M r := fun r hr => by rw [eQ]; exact (zup_r hr).trans (pskip_row hr)
          have hQ : CLI fs Q := by rw [eQ]; exact h.skip.atn
          rw [← eQ] at w2 ⊢
          have tp : ptop Q = ptop M := by unfold ptop; rw [q0 13 (by decide)]
          refine ih _ (hQ.goD ⟨by rw [q0 13 (by decide)]; exact hi, by rw [q0 13 (by decide)]; exact h0⟩ (by rw [q0 1 (by decide)]; exact hu) (by rw [tp, qr 7 (by decide)]) (by unfold pkind; rw [qr 1 (by decide)]) (fun z => by rw [c1.1] at z; exact absurd z.1 (by decide)) ?_) ?_ w2
          · unfold pgoDV at w1 ⊢
            rw [q0 13 (by decide), qr 7 (by decide), qr 8 (by decide)]; exact w1
          · have e2 : pgoD Q (M 7 (ptop M)) (pkind M (M 7 (ptop M))) 0 1 = M 0 1 := by
              have e3 : pgoC Q 0 1 = M 0 1 := (zup_ne _ _ _ _ (by omega)).trans (q0 1 (by decide))
              unfold pgoD
              split
              · unfold pattach
                try dsimp only
                rw [zup_r (by decide), zup_r (by decide)]; exact e3
              · exact e3
            rw [e2]; exact hu
        · have e : pgoes (j + 1) M = (1, pbclause (pskip M) (M 7 (ptop M))) := (if_neg (fun z => z c)).trans ((if_pos c1).trans (if_neg c2))
          rw [e]
          exact ⟨h.skip.cl ((v2 c1).2 c2), fun q => absurd q (show ¬ (1 : Int32) = 0 by decide)⟩
      · by_cases c2 : (if pkind M (M 7 (ptop M)) = 16 then M 8 (ptop M) = 0 else M 8 (ptop M) < pparts (pkind M (M 7 (ptop M))))
        · have e : pgoes (j + 1) M = (1, M) := (if_neg (fun z => z c)).trans ((if_neg c1).trans (if_pos c2))
          rw [e]
          exact ⟨h, fun q => absurd q (show ¬ (1 : Int32) = 0 by decide)⟩
        · have e : pgoes (j + 1) M = pgoes j (pgoD M (M 7 (ptop M)) (pkind M (M 7 (ptop M)))) := (if_neg (fun z => z c)).trans ((if_neg c1).trans (if_neg c2))
          rw [e]
          obtain ⟨w1, w2⟩ := v3 c1 c2
          refine ih _ (h.goD hz hu rfl rfl (fun z => c2 (by rw [if_pos z.1]; exact z.2)) w1) ?_ w2
          have e2 : pgoD M (M 7 (ptop M)) (pkind M (M 7 (ptop M))) 0 1 = M 0 1 := by
            have e3 : pgoC M 0 1 = M 0 1 := zup_ne _ _ _ _ (by omega)
            unfold pgoD
            split
            · unfold pattach
              try dsimp only
              rw [zup_r (by decide), zup_r (by decide)]; exact e3
            · exact e3
          rw [e2]; exact hu
    · have e : pgoes (j + 1) M = (0, M) := if_pos c
      rw [e]
      refine ⟨h, fun _ => ?_⟩
      rcases Nat.eq_zero_or_pos (tn (M 0 13)) with q | q
      · show M 0 13 = 0
        rw [hi.2, q]; rfl
      · exact absurd (by rw [hi.2]; exact nI_lt (a := 0) q (by omega)) c
theorem CLI.par {how : Int32} : ∀ (j : Nat) (more : Int32) (M : zI), CLI fs M → (more = 0 → M 0 13 = 0) → pparV how j more M → CLI fs (ppar how j more M) ∧ (ppar how j more M 0 15 = -9 → ppar how j more M 0 13 = 0) := by
  intro j
  induction j with
  | zero => intro more M _ _ hV; exact absurd hV id
  | succ j ih =>
    intro more M h hm hV
    by_cases c : more = 0
    · have e : ppar how (j + 1) more M = M := if_pos c
      rw [e]
      exact ⟨h, fun _ => hm c⟩
    · by_cases c2 : M 0 15 = -9
      · obtain ⟨⟨b1, b2, b3⟩, v2, v3, v4⟩ := hV c c2
        have b21 := b2.1
        have hs : CLI fs (pskip M) := h.skip
        obtain ⟨y1, y3, y2⟩ := hs.beg (v := pparV0 M how) (m := pparR0 M) b1.skip (by rw [pskip_0 (by decide)]; exact b2) (by rw [pskip_0 (by decide)]; exact b3) (by rw [pskip_0 (by decide)]; exact c2)
        have y1 : CLI fs (pparB M how).2 := y1
        have y3 : tn ((pparB M how).2 0 1) ≤ tn (pskip M 0 1) + 1 := y3
        rw [pskip_0 (by decide)] at y3
        have y2 : ¬ (pparB M how).1 = 0 → (pparB M how).2 0 15 = -9 → ∃ b, fs ≤ b ∧ b < tn ((pparB M how).2 0 1) ∧ (pparB M how).2 0 17 = nI b ∧ ¬ (pparB M how).2 1 (5 * b) = nI 16 := y2
        by_cases c3 : (pparB M how).2 0 15 = -9 ∧ ¬ (pparB M how).1 = 0
        · have e : ppar how (j + 1) more M = ppar how j (pgoes pgf (pparT (pparB M how).2)).1 (pgoes pgf (pparT (pparB M how).2)).2 := (if_neg c).trans ((if_neg (fun z => z c2)).trans (if_pos c3))
          rw [e]
          obtain ⟨w1, w2, w3⟩ := v3 c3
          obtain ⟨b, z1, z2, z3, z4⟩ := y2 c3.2 c3.1
          have hu : tn ((pparB M how).2 0 1) ≤ 65000 := by omega
          obtain ⟨k1, k2⟩ : CLI fs (pparT (pparB M how).2) ∧ pparT (pparB M how).2 0 1 = (pparB M how).2 0 1 := by
            unfold pparT
            split
            · rename_i q
              obtain ⟨g1, g2, g3⟩ := w1 q
              obtain ⟨g11, g12⟩ := g1
              refine ⟨y1.att (s := ptop (pparB M how).2) (b := b) ?_ hu g2.2 (by have := g2.1; omega) g3.2 g3.1 ⟨z3, z1, z2, z4⟩, ?_⟩
              · unfold ptop; omega
              · unfold pattach
                try dsimp only
                rw [zup_r (by decide), zup_r (by decide)]
            · exact ⟨y1, rfl⟩
          obtain ⟨g1, g2⟩ := CLI.goes pgf _ k1 (by rw [k2]; exact hu) w2
          exact ih _ _ g1 g2 w3
        · have e : ppar how (j + 1) more M = ppar how j more (pparB M how).2 := (if_neg c).trans ((if_neg (fun z => z c2)).trans (if_neg c3))
          rw [e]
          exact ih _ _ y1 (fun z => absurd z c) (v4 c3)
      · have e : ppar how (j + 1) more M = M := (if_neg c).trans (if_pos c2)
        rw [e]
        exact ⟨h, fun q => absurd q c2⟩
end CLAU
/-- what was read whole: its clauses have bodies -/
theorem CLAUS {M : zI} {how : Int32} (hV : pparseV M how) (hok : pparN (pparM M how) 0 15 = -9) : ∀ n, tn (M 0 1) ≤ n → n < tn (pparN (pparM M how) 0 1) → pparN (pparM M how) 1 (5 * n) = nI 16 → CLB (tn (M 0 1)) (pparN (pparM M how)) n := by
  have h0 : CLI (tn (M 0 1)) (ppar0 M) := by
    have e1 : ppar0 M 0 1 = M 0 1 := by
      unfold ppar0
      rw [zup_ne _ _ _ _ (by omega), zup_ne _ _ _ _ (by omega), zup_ne _ _ _ _ (by omega), zup_ne _ _ _ _ (by omega)]
    have e13 : tn (ppar0 M 0 13) = 0 := by
      unfold ppar0
      rw [zup_ne _ _ _ _ (by omega), zup_at]; rfl
    refine ⟨by rw [e1]; exact Nat.le_refl _, fun j hj => by omega, fun n a b => by rw [e1] at b; omega⟩
  obtain ⟨k1, k2⟩ := CLI.par pparf 1 (ppar0 M) h0 (fun z => absurd z (by decide)) hV.2.1
  have k1 : CLI (tn (M 0 1)) (pparM M how) := k1
  have k2 : pparM M how 0 15 = -9 → pparM M how 0 13 = 0 := k2
  have hN : CLI (tn (M 0 1)) (pparN (pparM M how)) ∧ pparN (pparM M how) 0 13 = 0 := by
    unfold pparN at hok ⊢
    by_cases c : pparM M how 0 15 = -9
    · rw [if_pos c]
      split
      · exact ⟨k1.skip.fails, (zup_ne _ _ _ _ (by omega)).trans ((pskip_0 (by decide)).trans (k2 c))⟩
      · exact ⟨k1.skip, (pskip_0 (by decide)).trans (k2 c)⟩
    · rw [if_neg c] at hok
      exact absurd hok c
  intro n n1 n2 n16
  rcases hN.1.2.2 n n1 n2 n16 with z | ⟨j, j1, -⟩
  · exact z
  · rw [hN.2] at j1
    exact absurd j1 (Nat.not_lt_zero j)
