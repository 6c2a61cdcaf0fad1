/-! keep, in both: a slot that is free; the call as a whole. -/
section KEEPE
variable {b0 n0 c k : Nat} {g : zG} {f M : zI} {t : zTs} {y : zGs} {n : zNs} {R : zRf} {C : zI}
theorem WR.keepN {i : Nat} (hW : CW b0 g c) (hF : CF c R) (h : WR b0 n0 c k (g, R, f, C) M t y n) (hk : 120 * k ≤ 64800) (hi : i < 2) (hRi : R 26 i = none) : (n.1 ≤ 100 ∧ C 19 1 = nI n.1 ∧ iv 1001 (C 21 1) ∧ iv 1001 (C 21 5) ∧ M 2 21 = nI n.2.2.2.2 ∧ n.2.2.2.2 ≤ 39800) ∧ (bkeep c g R f C (nI i) n.1).2 = (pkeep M (nI i)).1 ∧ WR b0 n0 c (k + 1) (bkeep c g R f C (nI i) n.1).1 (pkeep M (nI i)).2 t y n := by
  obtain ⟨⟨⟨w1, w2, w3⟩, w4, w5⟩, ⟨hTX, v3, v4⟩, ⟨⟨u1, u2⟩, u3⟩, ⟨q1, q2, q3⟩, ⟨⟨i1, i2⟩, i3, i4, i5⟩, hbd⟩ := h
  have u2 : t.1 ≤ 120 * k := u2
  have w2 : b0 ≤ g.1 := w2
  have w3 : n0 ≤ g.1 := w3
  have w4 : EOs b0 g c := w4
  have w5 : RC n0 g := w5
  have i3 : M 0 4 = FB R := i3
  have hb : 201 * k ≤ 201 * (k + 1) := by omega
  have hpx : ¬ (nI i < 0 ∨ 1 < nI i) := by
    have z : i = 0 ∨ i = 1 := by omega
    rcases z with rfl | rfl <;> decide
  have hpx2 : ¬ nI i < 0 ∧ nI i < 2 := ⟨nI_pos (by omega), nI_lt (b := 2) hi (by decide)⟩
  have htn : tn (nI i) = i := tn_nI (by omega)
  obtain ⟨hI', hB'⟩ : IMG b0 n0 g f M t R (201 * k) (1 - i) ∧ IMB b0 n0 g f M t R (1 - i) := by
    have z : i = 0 ∨ i = 1 := by omega
    rcases z with rfl | rfl
    · exact ⟨i2, i5⟩
    · exact ⟨i1, i4⟩
  -- the new object
  have hi8 : zIn b0 (znG g 8 0) g.1 8 := zIn.self w2
  obtain ⟨Q, eQ⟩ : ∃ Q, Q = bimgS c g f := ⟨_, rfl⟩
  have eQ' : Q = kiniX8 (znG g 8 0, znI g f) g.1 := eQ
  have ra : RA b0 Q.1 g.1 := by rw [eQ']; exact kiniX8_RA rfl hi8
  have hl : zLe g Q.1 := by rw [eQ']; exact (zLe.new g 8 0).tr (kiniX8_z (znG g 8 0, znI g f) _)
  have s1 : Q.1.1 = g.1 + 13 := by rw [eQ']; rfl
  have old : ∀ y, y < g.1 → Q.1.2.2.2 y = g.2.2.2 y ∧ Q.2 y = f y := fun y hy => by
    rw [eQ']
    obtain ⟨a1, a2⟩ := kiniX8_old (S := (znG g 8 0, znI g f)) (a := g.1) (y := y) rfl hy
    rw [a1, a2]
    exact ⟨zu1_ne _ _ _ (by omega), zu1_ne _ _ _ (by omega)⟩
  have fz : ∀ r, Q.2 (g.1 + 5) r = 0 := fun r => by
    rw [eQ']; exact (kiniX8_f (S := (znG g 8 0, znI g f)) (a := g.1) (k := r) rfl).2 5 (by decide) (by decide)
  have tg : ∀ x, g.1 ≤ x → x < Q.1.1 → Q.1.2.1 x ≠ 1 ∧ Q.1.2.1 x ≠ 7 := fun x h1 h2 => by
    obtain ⟨⟨a1, a2, a3, a4, a5, a6, a7, a8, a9⟩, -⟩ := ra
    obtain ⟨b1, b2, b3, b4⟩ : Q.1.2.1 (g.1 + 9) = 5 ∧ Q.1.2.1 (g.1 + 10) = 18 ∧ Q.1.2.1 (g.1 + 11) = 13 ∧ Q.1.2.1 (g.1 + 12) = 13 := by rw [eQ']; exact kiniX8_tg rfl
    have hs : x = g.1 ∨ x = g.1 + 1 ∨ x = g.1 + 2 ∨ x = g.1 + 3 ∨ x = g.1 + 4 ∨ x = g.1 + 5 ∨ x = g.1 + 6 ∨ x = g.1 + 7 ∨ x = g.1 + 8 ∨ x = g.1 + 9 ∨ x = g.1 + 10 ∨ x = g.1 + 11 ∨ x = g.1 + 12 := by omega
    rcases hs with rfl | rfl | rfl | rfl | rfl | rfl | rfl | rfl | rfl | rfl | rfl | rfl | rfl
    · rw [a1.2.2]; decide
    · rw [a2.2.2]; decide
    · rw [a3.2.2]; decide
    · rw [a4.2.2]; decide
    · rw [a5.2.2]; decide
    · rw [a6.2.2]; decide
    · rw [a7.2.2]; decide
    · rw [a8.2.2]; decide
    · rw [a9.2.2]; decide
    · rw [b1]; decide
    · rw [b2]; decide
    · rw [b3]; decide
    · rw [b4]; decide
  obtain ⟨R1, eR⟩ : ∃ R1, R1 = zup R 26 i (some g.1) := ⟨_, rfl⟩
  have rr : ∀ r, r ≠ 26 → R1 r = R r := fun r hr => by rw [eR]; exact zup_r hr
  have ro : R1 26 (1 - i) = R 26 (1 - i) := by rw [eR]; exact zup_ne _ _ _ _ (Or.inr (by omega))
  have ri : R1 26 i = some g.1 := by rw [eR]; exact zup_at _ _ _ _
  have hW1 : CW b0 Q.1 c := hW.le hl
  have hF1 : CF c R1 := by rw [eR]; exact hF.upj (by decide)
  have hx : zLe g Q.1 ∧ ZZ n0 g (fun _ => False) ∧ ∀ y, n0 ≤ y → y < g.1 → ¬ False → Q.1.2.2.2 y = g.2.2.2 y ∧ (g.2.1 y ≠ 1 → Q.2 y = f y) ∧ ∀ k, k < 8 → Q.2 y k = f y k := ⟨hl, ZZ.non n0 _, fun y _ hy _ => ⟨(old y hy).1, fun _ => (old y hy).2, fun k _ => by rw [(old y hy).2]⟩⟩
  have hT1 : TR b0 n0 Q.1 Q.2 (M 1) t := TR.mv (Z := fun _ => False) q1.base.1.1 hx
  have hQ1 : RQ b0 n0 (Q.1, Q.2, M, t, y, n) R1 C (201 * (k + 1)) := q1.mv (Z := fun _ => False) ⟨hx, fun _ _ => rfl, Nat.le_refl _, fun _ _ => rfl, fun _ _ => ⟨rfl, rfl, rfl⟩⟩ hT1 (fun p _ => congrFun (rr 20 (by decide)) p) ⟨⟨rfl, rfl, fun _ _ _ _ => rfl, rfl⟩, fun _ _ => rfl, fun _ _ => rfl, fun _ _ => rfl, fun _ _ => rfl, fun _ _ _ => rfl⟩ ⟨fun _ _ => rfl, ⟨rfl, rfl, rfl, rfl⟩, ⟨congrFun (rr 17 (by decide)) 4, congrFun (rr 17 (by decide)) 5⟩, congrFun (rr 17 (by decide)) 0, fun p _ => congrFun (rr 18 (by decide)) p⟩ (UC.mono q1.2.2.1 hb)
  have hMN1 : MN R1 C := q2.mv (congrFun (rr 17 (by decide)) 0) rfl
  have hap : ∀ a, R 26 (1 - i) = some a → RA b0 g a → ∀ j, j < 9 → Q.1.2.2.2 (a + j) = g.2.2.2 (a + j) ∧ Q.2 (a + j) = f (a + j) := fun a _ ha j hj => by
    obtain ⟨⟨-, -, -, -, -, -, -, -, a9⟩, -⟩ := ha
    exact old _ (by have := a9.2.1; omega)
  have hI1 : IMG b0 n0 Q.1 Q.2 M t R1 (201 * (k + 1)) (1 - i) := hI'.mv hb hx ⟨Nat.le_refl _, fun _ _ => rfl, fun _ _ => ⟨rfl, rfl, rfl⟩⟩ hT1 (fun _ _ => rfl) (fun _ _ => rfl) hap ro
  have hoB : ∀ a', R1 26 (1 - i) = some a' → a' ≠ g.1 ∧ BOD b0 n0 Q.1 Q.2 (iM M (1 - i)) t (iR Q.1 a') := fun a' ha' => by
    rw [ro] at ha'
    obtain ⟨ra', -⟩ := hI'.some ha'
    have hrr := hap a' ha' ra'
    have eI : ∀ j, 17 ≤ j → j < 26 → iR Q.1 a' j = iR g a' j := fun j h1 h2 => (hrr (j - 17) (by omega)).1
    refine ⟨fun z => by have := ra'.1.1.2.1; omega, ?_⟩
    exact (hB' a' ha').2.mv hx (fun _ _ _ _ _ z => z) (by omega) (fun _ _ => rfl) (fun _ _ => rfl) (Nat.le_refl _) (fun _ _ => ⟨rfl, rfl, rfl⟩) (fun _ _ => rfl) (congrFun (eI 17 (by omega) (by omega)) 0) (fun p _ => congrFun (eI 18 (by omega) (by omega)) p)
  have hbd1 : BOD b0 n0 Q.1 Q.2 M t R1 := hbd.mv hx (fun _ _ _ _ _ z => z) (by omega) (fun _ _ => rfl) (fun _ _ => rfl) (Nat.le_refl _) (fun _ _ => ⟨rfl, rfl, rfl⟩) (fun _ _ => rfl) (congrFun (rr 17 (by decide)) 0) (fun p _ => congrFun (rr 18 (by decide)) p)
  have h4 : (pkeep M (nI i)).2 0 4 = FB R1 := by
    unfold pkeep
    rw [if_neg hpx]
    show zup (pkeep2 M (nI i)) 0 4 (M 0 4 ||| 1 <<< (nI i &&& 31)) 0 4 = FB R1
    rw [zup_at, i3, eR]
    exact (FB_bit (R := R) hi).2.1 g.1
  have hEO : EOs b0 Q.1 c := fun a ha b hbb => by
    have ha1 : a < Q.1.1 := ha.2.1
    by_cases z : a < g.1
    · have hbb : Q.1.2.2.2 a 5 = some b ∨ Q.1.2.2.2 a 6 = some b := hbb
      rw [(old a z).1] at hbb
      obtain ⟨y1, y2, y3⟩ := w4 a ⟨ha.1, z, (hl.2 a z).1.symm.trans ha.2.2⟩ b hbb
      exact ⟨(hl.2 b y3).2.trans y1, y2, by omega⟩
    · exact absurd ha.2.2 (tg a (by omega) ha1).1
  have hRC : RC n0 Q.1 := fun x x0 x1 x7 => by
    by_cases z : x < g.1
    · rw [(old x z).1]
      exact w5 x x0 z ((hl.2 x z).1.symm.trans x7)
    · exact absurd x7 (tg x (by omega) x1).2
  obtain ⟨r1, r2⟩ := WR.keepA hW1 hF1 w1 (by omega) (by omega) hEO hRC hTX v3 ((congrFun (rr 8 (by decide)) 0).trans v4) u1 (by omega) (by omega) (u3.le hl (fun _ _ => rfl)) hQ1 hMN1 (GL.mono q3 hb) hi ri ra w3 (fun r => ⟨0, Nat.zero_le _, fz r⟩) hI1 hoB hbd1 (by omega) h4
  have eb : bkeep c g R f C (nI i) n.1 = ((kpG c Q.1 R1 g.1 n.1, R1, kpF c Q.1 R1 Q.2 C g.1 n.1, C), C 17 2) := by
    rw [bkeep_t (bkp1_n (by rw [htn]; exact hRi)) hpx2, htn, eQ, eR]
  refine ⟨r1, ?_, by rw [eb]; exact r2⟩
  rw [eb]
  unfold pkeep
  rw [if_neg hpx]
  exact q1.base.2.2.1
theorem img_of {x : Int32} (q : ¬ (x < 0 ∨ 1 < x)) : ∃ i, i < 2 ∧ x = nI i := by
  obtain ⟨j, j1, j2⟩ := nI_of (fun z => q (Or.inl z))
  have hj : j < 2 := by
    rcases Nat.lt_or_ge j 2 with z | z
    · exact z
    · exact absurd (Or.inr (by rw [j2]; exact (nI_ltI (a := 1) (by decide) (by omega)).mpr (by omega))) q
  exact ⟨j, hj, j2⟩
theorem img_no {x : Int32} (q : x < 0 ∨ 1 < x) : ¬ (¬ x < 0 ∧ x < 2) := fun z => by
  rcases q with q | q
  · exact z.1 q
  · have z2 := z.2
    rw [Int32.lt_iff_toInt_lt] at z2 q
    have e3 : (1 : Int32).toInt = 1 := by decide
    have e4 : (2 : Int32).toInt = 2 := by decide
    rw [e3] at q
    rw [e4] at z2
    omega
/-- keep -/
theorem WR.keep (hW : CW b0 g c) (hF : CF c R) (h : WR b0 n0 c k (g, R, f, C) M t y n) (hk : 120 * k ≤ 64800) (x : Int32) :
    (¬ (x < 0 ∨ 1 < x) → ∀ a, R 26 (tn x) = some a → RA b0 g a ∧ c + 27 ≤ a) ∧ (n.1 ≤ 100 ∧ C 19 1 = nI n.1 ∧ iv 1001 (C 21 1) ∧ iv 1001 (C 21 5) ∧ M 2 21 = nI n.2.2.2.2 ∧ n.2.2.2.2 ≤ 39800) ∧ (bkeep c g R f C x n.1).2 = (pkeep M x).1 ∧ WR b0 n0 c (k + 1) (bkeep c g R f C x n.1).1 (pkeep M x).2 t y n := by
  by_cases q : x < 0 ∨ 1 < x
  · have eb : bkeep c g R f C x n.1 = ((g, R, f, C), -1) := bkeep_b (img_no q)
    have ep : pkeep M x = (-1, M) := if_pos q
    rw [eb, ep]
    refine ⟨fun z => absurd q z, ?_, rfl, h.same hk⟩
    have hCO := h.2.2.2.1.1.base.1
    have hbd : n.2.1 ≤ 1100 ∧ n.2.2.1 ≤ 1000 ∧ n.2.2.2.1 ≤ 1000 ∧ n.2.2.2.2 ≤ 39800 := hCO.2.2.2.2.2
    have e41 : C 21 1 = nI n.2.2.1 := hCO.2.2.2.2.1.2.2.1.2
    have e45 : C 21 5 = nI n.2.2.2.1 := hCO.2.2.2.2.1.2.2.2.1.2
    exact ⟨hCO.2.2.2.1.1, hCO.2.2.2.2.1.1.1, by rw [e41]; exact iv_nI (by omega) (by decide), by rw [e45]; exact iv_nI (by omega) (by decide), hCO.2.2.2.2.1.2.2.2.2.1, hbd.2.2.2⟩
  · obtain ⟨i, hi, rfl⟩ := img_of q
    have htn : tn (nI i) = i := tn_nI (by omega)
    rw [htn]
    cases hR : R 26 i with
    | none =>
      obtain ⟨r1, r2, r3⟩ := h.keepN hW hF hk hi hR
      exact ⟨fun _ a z => (by cases z), r1, r2, r3⟩
    | some a =>
      obtain ⟨r0, r1, r2, r3⟩ := WR.keepT hW hF h hk hi hR
      exact ⟨fun _ a' z => (by cases z; exact r0), r1, r2, r3⟩
end KEEPE
set_option maxRecDepth 20000 in
theorem B_X11_keep_b {l : Launch} {d : Nat} {D : zD} {b0 : Nat} {g : zG} {f C : zI} {R : zRf} {c : Nat} (hW : CW b0 g c) (hw : zOK b0 zNo (gv c g R)) (x : Int32) (n : Nat) (hx : ¬ (¬ x < 0 ∧ x < 2)) (hd : 3 ≤ d) : zM l d D b0 mX11_keep [.ref (c + 0), .int x] (gv c g R) (cv c f C) (zCy b0 zNo c g (some (.int (bkeep c g R f C x n).2)) (bkeep c g R f C x n).1.1 (bkeep c g R f C x n).1.2.1 (bkeep c g R f C x n).1.2.2.1 (bkeep c g R f C x n).1.2.2.2 13 5199) := by
  refine zM.start zmd_X11_keep (Nat.le_of_ble_eq_true rfl) ⟨rfl, rfl, trivial⟩ [some (.ref (c + 0)), some (.int x)] rfl ?_
  refine z_iload1 dX11_keep_0 ?_
  refine z_callSi zmd_X11_isImage zl_RX11_186 zst_X11_isImage (K_X11_isImage (d := d - 1) _) rfl rfl (by omega) rfl dX11_keep_1 ?_
  refine z_if_ne (tgt := 9) dX11_keep_4 (by decide) (fun c4 => absurd (zB_t c4) hx) (fun c4 => ?_)
  show zS _ _ _ _ _ _ _ 7 _ _ _ _ _
  rw [bkeep_b hx]
  refine z_iconst (v := (-1)) dX11_keep_7 (by decide) ?_
  refine z_iret dX11_keep_8 rfl ?_
  exact ⟨rfl, rfl, rfl, by omega, by omega, hw, zLe.rf, hW⟩
set_option maxRecDepth 20000 in
theorem B_X11_back_b {l : Launch} {d : Nat} {D : zD} {b0 : Nat} {g : zG} {f C : zI} {R : zRf} {c : Nat} (hW : CW b0 g c) (hw : zOK b0 zNo (gv c g R)) (x : Int32) (n : Nat) (hx : ¬ (¬ x < 0 ∧ x < 2)) (hd : 3 ≤ d) : zM l d D b0 mX11_back [.ref (c + 0), .int x] (gv c g R) (cv c f C) (zCy b0 zNo c g (some (.int (bback c g R f C x n).2)) (bback c g R f C x n).1.1 (bback c g R f C x n).1.2.1 (bback c g R f C x n).1.2.2.1 (bback c g R f C x n).1.2.2.2 0 0) := by
  refine zM.start zmd_X11_back (Nat.le_of_ble_eq_true rfl) ⟨rfl, rfl, trivial⟩ [some (.ref (c + 0)), some (.int x)] rfl ?_
  refine z_iload1 dX11_back_0 ?_
  refine z_callSi zmd_X11_isImage zl_RX11_186 zst_X11_isImage (K_X11_isImage (d := d - 1) _) rfl rfl (by omega) rfl dX11_back_1 ?_
  refine z_if_ne (tgt := 9) dX11_back_4 (by decide) (fun c4 => absurd (zB_t c4) hx) (fun c4 => ?_)
  show zS _ _ _ _ _ _ _ 7 _ _ _ _ _
  rw [bback_b hx]
  refine z_iconst (v := (-1)) dX11_back_7 (by decide) ?_
  refine z_iret dX11_back_8 rfl ?_
  exact ⟨rfl, rfl, rfl, by omega, by omega, hw, zLe.rf, hW⟩
