/-! What calls leave: the block's own references, what lies below; numbers. -/
section LOWS
variable {b0 n0 c k : Nat} {g : zG} {f M : zI} {t : zTs} {y : zGs} {n : zNs} {R : zRf} {C : zI}
theorem WR.blo (h : WR b0 n0 c k (g, R, f, C) M t y n) (hk : 120 * k ≤ 64800) {len : Nat} (hlen : C 0 1 = nI len) (hl : len ≤ 120) (z : Int32) (hz : z = 0 ∨ z = 1) : zLe g (bread g R f C len z).1.1 ∧ ∀ a, a < g.1 → (bread g R f C len z).1.1.2.2.2 a = g.2.2.2 a ∧ (bread g R f C len z).1.2.2.1 a = f a := by
  obtain ⟨⟨⟨w1, w2, w3⟩, w4, w5⟩, ⟨⟨len', tx, v1, v2⟩, v3, v4⟩, ⟨⟨u1, u2⟩, u3⟩, -⟩ := h
  have v2 : C 0 1 = nI len' := v2
  have hl' := v1.1
  have u2 : t.1 ≤ 120 * k := u2
  obtain rfl : len' = len := (nI_eq (by omega) (by omega)).mp (v2.symm.trans hlen)
  obtain ⟨-, p2, -⟩ := PARSE (b0 := b0) (n0 := n0) (g := g) (R := R) (f := f) (C := C) (M := M) (t := t) (how := z) (z := z) v1 ⟨w2, w3⟩ v4 v3 u1 (by omega) (by rcases hz with rfl | rfl <;> rfl)
  obtain ⟨a1, -⟩ := KB.wr (G := (bread g R f C len' z).1.1) (R' := (bread g R f C len' z).1.2.1) (F := (bread g R f C len' z).1.2.2.1) (C' := (bread g R f C len' z).1.2.2.2) p2
  exact a1
theorem WR.row0 (h : WR b0 n0 c k (g, R, f, C) M t y n) (hk : 120 * k ≤ 64800) {len : Nat} (hlen : C 0 1 = nI len) (hl : len ≤ 120) (z : Int32) (hz : z = 0 ∨ z = 1) : (bread g R f C len z).1.2.2.2 0 1 = C 0 1 := by
  obtain ⟨⟨⟨w1, w2, w3⟩, w4, w5⟩, ⟨⟨len', tx, v1, v2⟩, v3, v4⟩, ⟨⟨u1, u2⟩, u3⟩, -⟩ := h
  have v2 : C 0 1 = nI len' := v2
  have hl' := v1.1
  have u2 : t.1 ≤ 120 * k := u2
  obtain rfl : len' = len := (nI_eq (by omega) (by omega)).mp (v2.symm.trans hlen)
  obtain ⟨-, p2, -⟩ := PARSE (b0 := b0) (n0 := n0) (g := g) (R := R) (f := f) (C := C) (M := M) (t := t) (how := z) (z := z) v1 ⟨w2, w3⟩ v4 v3 u1 (by omega) (by rcases hz with rfl | rfl <;> rfl)
  obtain ⟨-, -, a3, -⟩ := KB.wr (G := (bread g R f C len' z).1.1) (R' := (bread g R f C len' z).1.2.1) (F := (bread g R f C len' z).1.2.2.1) (C' := (bread g R f C len' z).1.2.2.2) p2
  exact congrFun (a3 0 (Or.inl rfl)) 1
theorem WR.row0_fault (h : WR b0 n0 c k (g, R, f, C) M t y n) (hk : 120 * k ≤ 64800) {len : Nat} (hlen : C 0 1 = nI len) (hl : len ≤ 120) (x : Int32) : (bfault g R f C len x).1.2.2.2 0 1 = C 0 1 := by
  by_cases x0 : x = 0
  · rw [bfault_0 x0]
    exact h.row0 hk hlen hl 0 (Or.inl rfl)
  · by_cases x1 : x = 1
    · rw [bfault_1 x1]
      exact h.row0 hk hlen hl 1 (Or.inr rfl)
    · rw [bfault_n x0 x1]
theorem WR.row0_define (h : WR b0 n0 c k (g, R, f, C) M t y n) (hk : 120 * k ≤ 64800) {len : Nat} (hlen : C 0 1 = nI len) (hl : len ≤ 120) (x : Int32) (m : Nat) : (bdefine g R f C len x m).1.2.2.2 0 1 = C 0 1 := by
  by_cases q : ¬ x < 0 ∧ x < 4
  · by_cases q9 : (bread g R f C len 1).2 = -9
    · rw [bdefine_d rfl q q9]
      exact h.row0 hk hlen hl 1 (Or.inr rfl)
    · rw [bdefine_s rfl q q9]
      exact h.row0 hk hlen hl 1 (Or.inr rfl)
  · rw [bdefine_b q]
theorem bbegin_0 {g : zG} {R : zRf} {C : zI} : (bbegin g R C).2 0 1 = C 0 1 := by
  unfold bbegin
  split
  · rfl
  · show kfill (zup (zup (zup (zup (zup (zup (zup (zup (zup (zup (zup C 17 2 1) 17 3 0) 17 6 0) 19 1 0) 19 2 0) 21 1 0) 21 2 0) 21 3 0) 21 5 0) 21 6 0) 17 11 0) 25 6 0 0 1 = C 0 1
    unfold kfill
    rw [zu1_ne _ _ _ (by decide)]
    iterate 11 (rw [zup_r (show (0 : Nat) ≠ _ by decide)])
theorem brest_00 {g : zG} {R : zRf} {C : zI} : (brest g R C).2.2 0 1 = C 0 1 := by
  unfold brest
  split
  · rfl
  · exact bbegin_0
theorem bkeep_C {c : Nat} {g : zG} {R : zRf} {f C : zI} {x : Int32} {n : Nat} : (bkeep c g R f C x n).1.2.2.2 = C := by
  unfold bkeep
  split <;> rfl
/-- the text is the reference's, and that is as it was -/
theorem WR.row0_of {k' : Nat} {G : zG} {F N : zI} {t' : zTs} {y' : zGs} {n' : zNs} {R' : zRf} {C' : zI} (h : WR b0 n0 c k (g, R, f, C) M t y n) (h' : WR b0 n0 c k' (G, R', F, C') N t' y' n') (e : N 0 8 = M 0 8) : C' 0 1 = C 0 1 := by
  obtain ⟨-, ⟨⟨len, tx, v1, v2⟩, -⟩, -⟩ := h
  obtain ⟨-, ⟨⟨len', tx', v1', v2'⟩, -⟩, -⟩ := h'
  have v2 : C 0 1 = nI len := v2
  have v2' : C' 0 1 = nI len' := v2'
  have w : M 0 8 = nI len := v1.2.1
  have w' : N 0 8 = nI len' := v1'.2.1
  rw [v2, v2', ← w, ← w', e]
theorem WR.lo_fault (h : WR b0 n0 c k (g, R, f, C) M t y n) (hk : 120 * k ≤ 64800) (hF : CF c R) {len : Nat} (hlen : C 0 1 = nI len) (hl : len ≤ 120) (x : Int32) : CF c (bfault g R f C len x).1.2.1 ∧ ∀ a, a < g.1 → (bfault g R f C len x).1.1.2.2.2 a = g.2.2.2 a ∧ (bfault g R f C len x).1.2.2.1 a = f a := by
  by_cases x0 : x = 0
  · rw [bfault_0 x0]
    exact ⟨hF.read, (h.blo hk hlen hl 0 (Or.inl rfl)).2⟩
  · by_cases x1 : x = 1
    · rw [bfault_1 x1]
      exact ⟨hF.read, (h.blo hk hlen hl 1 (Or.inr rfl)).2⟩
    · rw [bfault_n x0 x1]
      exact ⟨hF, fun _ _ => ⟨rfl, rfl⟩⟩
theorem WR.lo_define (h : WR b0 n0 c k (g, R, f, C) M t y n) (hk : 120 * k ≤ 64800) (hF : CF c R) {len : Nat} (hlen : C 0 1 = nI len) (hl : len ≤ 120) (x : Int32) (m : Nat) : CF c (bdefine g R f C len x m).1.2.1 ∧ ∀ a, a < g.1 → (bdefine g R f C len x m).1.1.2.2.2 a = g.2.2.2 a ∧ (bdefine g R f C len x m).1.2.2.1 a = f a := by
  obtain ⟨b1, b2⟩ := h.blo hk hlen hl 1 (Or.inr rfl)
  have hR : CF c (bread g R f C len 1).1.2.1 := hF.read
  by_cases q : ¬ x < 0 ∧ x < 4
  · by_cases q9 : (bread g R f C len 1).2 = -9
    · rw [bdefine_d rfl q q9]
      obtain ⟨x1, x2, -⟩ := bbd_all (g := (bread g R f C len 1).1.1) (R := (bread g R f C len 1).1.2.1) (f := (bread g R f C len 1).1.2.2.1) (n := m)
      refine ⟨hR.upj (by decide), fun a ha => ?_⟩
      have ha2 : a < (bread g R f C len 1).1.1.1 := Nat.lt_of_lt_of_le ha b1.1
      exact ⟨(x1.2 a ha2).trans (b2 a ha).1, (x2 a ha2).trans (b2 a ha).2⟩
    · rw [bdefine_s rfl q q9]
      exact ⟨hR, b2⟩
  · rw [bdefine_b q]
    exact ⟨hF, fun _ _ => ⟨rfl, rfl⟩⟩
theorem WR.lo_load (h : WR b0 n0 c k (g, R, f, C) M t y n) (hk : 120 * k ≤ 64800) (hF : CF c R) {len : Nat} (hlen : C 0 1 = nI len) (hl : len ≤ 120) (m j : Nat) : CF c (bload g R f C len m j).1.2.1 ∧ ∀ a, a < g.1 → (bload g R f C len m j).1.1.2.2.2 a = g.2.2.2 a ∧ (bload g R f C len m j).1.2.2.1 a = f a := by
  obtain ⟨b1, b2⟩ := h.blo hk hlen hl 0 (Or.inl rfl)
  have hR : CF c (bread g R f C len 0).1.2.1 := hF.read
  by_cases q9 : (bread g R f C len 0).2 = -9
  · rw [bload_d rfl q9]
    obtain ⟨x1, x2, x3, -⟩ := bbd_all (g := (bread g R f C len 0).1.1) (R := (bread g R f C len 0).1.2.1) (f := (bread g R f C len 0).1.2.2.1) (n := m)
    refine ⟨?_, fun a ha => ?_⟩
    · show CF c (bbegin _ (zup (bloadL (bread g R f C len 0).1 m j).1 17 0 _) _).1
      exact CF.beg (CF.up (CF.lst0 hR) (by decide))
    · have ha2 : a < (bread g R f C len 0).1.1.1 := Nat.lt_of_lt_of_le ha b1.1
      constructor
      · refine Eq.trans ?_ ((x1.2 a ha2).trans (b2 a ha).1)
        show (zpR (znG (bloadG (bread g R f C len 0).1 m) 13 _) ((bread g R f C len 0).1.1.1 + 1) 2 _).2.2.2 a = _
        rw [zpR_o (by omega)]
        exact zu1_ne _ _ _ (by have := x1.1.1; show a ≠ (bbdG (bread g R f C len 0).1.1 (bread g R f C len 0).1.2.1 m).1; omega)
      · refine Eq.trans ?_ ((x2 a ha2).trans (b2 a ha).2)
        show zu1 (zu1 (bloadF (bread g R f C len 0).1 m) (bloadG (bread g R f C len 0).1 m).1 _) (bloadG (bread g R f C len 0).1 m).1 _ a = _
        have hne : a ≠ (bloadG (bread g R f C len 0).1 m).1 := by have := x1.1.1; show a ≠ (bbdG (bread g R f C len 0).1.1 (bread g R f C len 0).1.2.1 m).1; omega
        rw [zu1_ne _ _ _ hne, zu1_ne _ _ _ hne]
        rfl
  · rw [bload_s rfl q9]
    exact ⟨hR, b2⟩
theorem CF.undef (h : CF c R) (x : Int32) : CF c (bundef R x).2 := by
  unfold bundef
  split
  · exact h.upj (by decide)
  · exact h
theorem CF.rest (h : CF c R) : CF c (brest g R C).2.1 := by
  unfold brest
  split
  · exact h
  · exact h.beg
theorem kp_lo {a m x : Nat} (ra : RA b0 g a) (ha : c + 27 ≤ a) (hx : c + 27 ≤ x ∧ x < a) : (kpG c g R a m).2.2.2 x = g.2.2.2 x ∧ kpF c g R f C a m x = f x := by
  have hp := ((ra.img (R := R) ha).cpy (n := m) (b := c + 13) (Or.inr (by omega))).pk
  exact ⟨(cpyG_o (by omega) (by omega) (by omega)).trans (gv_out (by omega)), (cpyF_o hp (by omega)).trans (cv_out (by omega))⟩
theorem WR.lo_keep (hW : CW b0 g c) (hF : CF c R) (h : WR b0 n0 c k (g, R, f, C) M t y n) (x : Int32) (m : Nat) : CF c (bkeep c g R f C x m).1.2.1 ∧ ∀ a, c + 27 ≤ a → a < n0 → (bkeep c g R f C x m).1.1.2.2.2 a = g.2.2.2 a ∧ (bkeep c g R f C x m).1.2.2.1 a = f a := by
  obtain ⟨⟨⟨w1, w2, w3⟩, -⟩, -, -, -, ⟨⟨i1, i2⟩, -⟩, -⟩ := h
  have w2 : b0 ≤ g.1 := w2
  have w3 : n0 ≤ g.1 := w3
  by_cases q : x < 0 ∨ 1 < x
  · rw [bkeep_b (img_no q)]
    exact ⟨hF, fun _ _ _ => ⟨rfl, rfl⟩⟩
  · obtain ⟨i, hi, rfl⟩ := img_of q
    have hpx2 : ¬ nI i < 0 ∧ nI i < 2 := ⟨nI_pos (by omega), nI_lt (b := 2) hi (by decide)⟩
    have htn : tn (nI i) = i := tn_nI (by omega)
    have hI : IMG b0 n0 g f M t R (201 * k) i := by
      have z : i = 0 ∨ i = 1 := by omega
      rcases z with rfl | rfl
      · exact i1
      · exact i2
    cases hR : R 26 i with
    | none =>
      rw [bkeep_t (bkp1_n (by rw [htn]; exact hR)) hpx2]
      refine ⟨hF.upj (by decide), fun a a1 a2 => ?_⟩
      have hi8 : zIn b0 (znG g 8 0) g.1 8 := zIn.self w2
      have ra : RA b0 (bimgS c g f).1 g.1 := kiniX8_RA rfl hi8
      obtain ⟨z1, z2⟩ := kp_lo (R := zup R 26 (tn (nI i)) (some g.1)) (f := (bimgS c g f).2) (C := C) (m := m) (x := a) ra hW.2.1 ⟨a1, by omega⟩
      obtain ⟨o1, o2⟩ := kiniX8_old (S := (znG g 8 0, znI g f)) (a := g.1) (y := a) rfl (by omega)
      refine ⟨z1.trans (o1.trans (zu1_ne _ _ _ (by omega))), z2.trans (o2.trans (zu1_ne _ _ _ (by omega)))⟩
    | some a' =>
      rw [bkeep_t (bkp1_s (by rw [htn]; exact hR)) hpx2]
      obtain ⟨ra, hn⟩ := hI.some hR
      exact ⟨hF, fun a a1 a2 => kp_lo (a := a') ra (show c + 27 ≤ a' by omega) ⟨a1, show a < a' by omega⟩⟩
theorem lo_back (hW : CW b0 g c) (hF : CF c R) (x : Int32) (m : Nat) (hR : ∀ a, ¬ x < 0 ∧ x < 2 → R 26 (tn x) = some a → c + 27 ≤ a) : CF c (bback c g R f C x m).1.2.1 ∧ ∀ a, c + 27 ≤ a → (bback c g R f C x m).1.1.2.2.2 a = g.2.2.2 a ∧ (bback c g R f C x m).1.2.2.1 a = f a := by
  by_cases q : ¬ x < 0 ∧ x < 2
  · cases hr : R 26 (tn x) with
    | none =>
      rw [bback_n q hr]
      exact ⟨hF, fun _ _ => ⟨rfl, rfl⟩⟩
    | some a' =>
      rw [bback_s q hr]
      have ha' := hR a' q hr
      refine ⟨hF.bk ha', fun a a1 => ?_⟩
      have hp := ((RA.now hW hF).cpy (n := m) (b := a') (by omega)).pk
      exact ⟨(cpyG_o (by omega) (by omega) (by omega)).trans (gv_out (by omega)), (cpyF_o hp (by omega)).trans (cv_out (by omega))⟩
  · rw [bback_b q]
    exact ⟨hF, fun _ _ => ⟨rfl, rfl⟩⟩
/-- a run's numbers, as calls ask for them -/
theorem WR.nums (h : WR b0 n0 c k (g, R, f, C) M t y n) : C 19 1 = nI n.1 ∧ n.1 ≤ 100 ∧ vd 40000 (M 2 7) ∧ iv 1200 (M 2 11) ∧ iv 39999 (pdr1 M 2 21) ∧ ∃ len, C 0 1 = nI len ∧ M 0 8 = nI len ∧ len ≤ 120 := by
  obtain ⟨-, ⟨⟨len, tx, v1, v2⟩, -⟩, -, ⟨q1, -⟩, -⟩ := h
  have hCO := q1.base.1
  have hbd : n.2.1 ≤ 1100 ∧ n.2.2.1 ≤ 1000 ∧ n.2.2.2.1 ≤ 1000 ∧ n.2.2.2.2 ≤ 39800 := hCO.2.2.2.2.2
  have e7 : M 2 7 = (if n.1 = 0 then -9 else nI (y.2.2.2.2.2 (n.1 - 1))) := hCO.2.2.2.1.2.1
  have e11 : M 2 11 = nI n.2.2.1 := hCO.2.2.2.2.1.2.2.1.1
  have e21 : M 2 21 = nI n.2.2.2.2 := hCO.2.2.2.2.1.2.2.2.2.1
  refine ⟨hCO.2.2.2.2.1.1.1, hCO.2.2.2.1.1, ?_, by rw [e11]; exact iv_nI (by omega) (by decide), ?_, len, v2, v1.2.1, v1.1⟩
  · by_cases q : n.1 = 0
    · rw [e7, if_pos q]; exact Or.inl rfl
    · rw [e7, if_neg q]
      obtain ⟨x, -, x2, -⟩ := hCO.2.2.2.1.2.2 (n.1 - 1) (by show n.1 - 1 < n.1; omega)
      have x2 : y.2.2.2.2.2 (n.1 - 1) < n.2.2.2.2 := x2.1
      exact Or.inr (iv_nI (by omega) (by decide))
  · have e : pdr1 M 2 21 = M 2 21 := by
      unfold pdr1 pmakeRes
      try dsimp only
      rw [zup_ne _ _ _ _ (by omega), zup_ne _ _ _ _ (by omega), zup_ne _ _ _ _ (by omega), zup_ne _ _ _ _ (by omega), zup_ne _ _ _ _ (by omega), zup_ne _ _ _ _ (by omega)]
    rw [e, e21]; exact iv_nI (by omega) (by decide)
/-- the reference's handler() keeps one number of its own -/
theorem WR.m28 (h : WR b0 n0 c k (g, R, f, C) M t y n) (hk : 120 * k ≤ 64800) (v : Int32) : WR b0 n0 c (k + 1) (g, R, f, C) (zup M 0 28 v) t y n := by
  have h' := h
  obtain ⟨-, -, -, ⟨q1, q2, q3⟩, -⟩ := h
  have nr : ∀ r, r ≠ 0 → zup M 0 28 v r = M r := fun r hr => zup_r hr
  have hx : zLe g g ∧ ZZ n0 g (fun _ => False) ∧ ∀ y, n0 ≤ y → y < g.1 → ¬ False → g.2.2.2 y = g.2.2.2 y ∧ (g.2.1 y ≠ 1 → f y = f y) ∧ ∀ k, k < 8 → f y k = f y k := ⟨zLe.rf, ZZ.non n0 _, fun y _ _ _ => ⟨rfl, fun _ => rfl, fun _ _ => rfl⟩⟩
  have e1 := nr 1 (by decide)
  have e2 := nr 2 (by decide)
  have hT : TR b0 n0 g f (zup M 0 28 v 1) t := by rw [e1]; exact q1.base.1.1
  have hQ : RQ b0 n0 (g, f, zup M 0 28 v, t, y, n) R C (201 * (k + 1)) := q1.mv (Z := fun _ => False) ⟨hx, fun j _ => congrFun (nr 4 (by decide)) j, Nat.le_refl _, fun j _ => congrFun e1 j, fun _ _ => ⟨rfl, rfl, rfl⟩⟩ hT (fun _ _ => rfl) ⟨⟨rfl, rfl, fun _ _ _ _ => rfl, rfl⟩, fun _ _ => rfl, fun _ _ => rfl, fun _ _ => rfl, fun _ _ => rfl, fun j _ _ => congrFun e2 j⟩ ⟨fun j _ => congrFun e2 j, ⟨rfl, rfl, rfl, rfl⟩, ⟨rfl, rfl⟩, rfl, fun _ _ => rfl⟩ (UC.mono q1.2.2.1 (by omega))
  exact h'.runs hk (KF.rf _) ⟨fun r h0 _ _ _ _ _ _ => nr r h0, fun j _ b => zup_ne _ _ _ _ (Or.inr b), fun j _ => congrFun e2 j⟩ hQ q2 (GL.mono (GL.of q3 rfl rfl (zup_ne _ _ _ _ (by omega)) (nr 19 (by decide))) (by omega))
end LOWS
set_option maxRecDepth 20000 in
theorem R_X12_back_b {l : Launch} {d : Nat} {D : zD} {b0 : Nat} {g : zG} {f M : zI} {o : Nat} (hW : RW b0 g o) (x : Int32) (hx : x < 0 ∨ 1 < x) (hd : 1 ≤ d) : zM l d D b0 mX12_back [.ref o, .int x] g (rv o f M) (zEx (some (.int ((pback M x).1))) g (rv o f ((pback M x).2))) := by
  refine zM.start zmd_X12_back (Nat.le_of_ble_eq_true rfl) ⟨rfl, rfl, trivial⟩ [some (.ref o), some (.int x), none] rfl ?_
  refine z_iload1 dX12_back_0 ?_
  refine z_iconst (v := 0) dX12_back_1 (by decide) ?_
  refine z_iconst (v := 1) dX12_back_2 (by decide) ?_
  refine z_callSi zmd_X12_isIn zl_RX12_74 zst_X12_isIn (R_X12_isIn (d := d - 1) hW _ _ _) rfl rfl (by omega) rfl dX12_back_3 ?_
  refine z_if_ne (tgt := 11) dX12_back_6 (by decide) (fun c6 => absurd hx (zByes c6)) (fun c6 => ?_)
  show zS _ _ _ _ _ _ _ 9 _ _ _ _ _
  refine z_iconst (v := (-1)) dX12_back_9 (by decide) ?_
  refine z_iret dX12_back_10 rfl ?_
  rw [show pback M x = (-1, M) from if_pos hx]
  exact ⟨rfl, rfl, rfl, rfl, rfl⟩
set_option maxRecDepth 20000 in
theorem B_X11_run_b {l : Launch} {d : Nat} {D : zD} {b0 : Nat} {g : zG} {f C : zI} {R : zRf} {c : Nat} (hW : CW b0 g c) (hw : zOK b0 zNo (gv c g R)) (x : Int32) (hx : x < 1 ∨ 200 < x) : zM l d D b0 mX11_run [.ref (c + 0), .int x] (gv c g R) (cv c f C) (zCy b0 zNo c g (some (.int (brunM g R f C x).2)) (brunM g R f C x).1.1 (brunM g R f C x).1.2.1 (brunM g R f C x).1.2.2.1 (brunM g R f C x).1.2.2.2 0 0) := by
  rw [brunM_b hx]
  refine zM.start zmd_X11_run (Nat.le_of_ble_eq_true rfl) ⟨rfl, rfl, trivial⟩ [some (.ref (c + 0)), some (.int x), none] rfl ?_
  refine z_iload1 dX11_run_0 ?_
  refine z_iconst (v := 1) dX11_run_1 (by decide) ?_
  refine z_icmp_lt (tgt := 12) dX11_run_2 (by decide) (fun c2 => ?_) (fun c2 => ?_)
  · show zS _ _ _ _ _ _ _ 12 _ _ _ _ _
    refine z_iconst (v := (-1)) dX11_run_12 (by decide) ?_
    refine z_iret dX11_run_13 rfl ?_
    exact ⟨rfl, rfl, rfl, by omega, by omega, hw, zLe.rf, hW⟩
  · show zS _ _ _ _ _ _ _ 5 _ _ _ _ _
    refine z_iload1 dX11_run_5 ?_
    refine z_sipush (v := 200) dX11_run_6 (by decide) ?_
    refine z_icmp_le (tgt := 14) dX11_run_9 (by decide) (fun c9 => absurd hx (fun q => q.elim c2 (by first | exact c9 | (intro q2; exact c9 q2)))) (fun c9 => ?_)
    show zS _ _ _ _ _ _ _ 12 _ _ _ _ _
    refine z_iconst (v := (-1)) dX11_run_12 (by decide) ?_
    refine z_iret dX11_run_13 rfl ?_
    exact ⟨rfl, rfl, rfl, by omega, by omega, hw, zLe.rf, hW⟩
