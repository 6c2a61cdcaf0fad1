/-! An image of a run: keep, restart, back. -/
section IMGS
variable {l : Launch} {d : Nat} {D : zD} {b0 n0 c c' k k' : Nat} {g G : zG} {f F M N : zI} {R : zRf} {C : zI} {t : zTs} {y : zGs} {n : zNs}
/-- the object at c, with its image 0 -/
def OR (b0 n0 c k : Nat) (M : zI) (g : zG) (f : zI) : Prop := ∃ g0 R f0 C t y n, (g = gv c g0 R ∧ f = cv c f0 C) ∧ (CW b0 g0 c ∧ CF c R ∧ zOK b0 zNo (gv c g0 R)) ∧ WR b0 n0 c k (g0, R, f0, C) M t y n ∧ R 26 1 = none ∧ ∃ a, R 26 0 = some a
theorem OR.toB (h : OR b0 n0 c k M g f) : OB b0 n0 c k M g f := by
  obtain ⟨g0, R, f0, C, t, y, n, e, w, h, h1, -⟩ := h
  exact ⟨g0, R, f0, C, t, y, n, e, w, h.toQ, h1⟩
/-- what lies above the object's block stays -/
def KV (c : Nat) (g : zG) (f : zI) (G : zG) (F : zI) : Prop := zLe g G ∧ ∀ y, y < g.1 → c + 27 ≤ y → G.2.2.2 y = g.2.2.2 y ∧ F y = f y
theorem KV.nn (h : KV c g f G F) (hc : c + 27 ≤ c') (hn : c + 27 ≤ n0) : KN n0 c' g f G F := ⟨h.1, fun y hy hz => by
  obtain ⟨a, b⟩ := h.2 y hy (by omega)
  exact ⟨a, fun _ => b, fun _ _ => by rw [b]⟩⟩
theorem KV.of {R' : zRf} {C' : zI} (hl : zLe g G) (h : ∀ y, y < g.1 → c + 27 ≤ y → G.2.2.2 y = g.2.2.2 y ∧ F y = f y) : KV c (gv c g R) (cv c f C) (gv c G R') (cv c F C') := ⟨hl, fun y hy hc => by
  rw [gv_out (by omega), gv_out (by omega), cv_out (by omega), cv_out (by omega)]
  exact h y hy hc⟩
def UQ (b0 n0 c k : Nat) (N : zI) (x : Int32) (g : zG) (f : zI) (c1 c2 : Nat) : zP := fun r G F mc ms => r = some (.int x) ∧ mc ≤ c1 ∧ ms ≤ c2 ∧ OR b0 n0 c k N G F ∧ KV c g f G F
theorem UQ.mk {mi : zMI} {av : List Value} {x x' : Int32} {c1 c2 a : Nat} {R' : zRf} {C' : zI} {t' : zTs} {y' : zGs} {n' : zNs} (hB : zM l d D b0 mi (.ref (c + 0) :: av) (gv c g R) (cv c f C) (zCy b0 zNo c g (some (.int x)) G R' F C' c1 c2)) (hx : x = x') (hF' : CF c R')
    (hO : ∀ y, y < g.1 → c + 27 ≤ y → G.2.2.2 y = g.2.2.2 y ∧ F y = f y) (hWR : WR b0 n0 c k' (G, R', F, C') N t' y' n') (hR1 : R' 26 1 = none) (hR0 : R' 26 0 = some a) : zM l d D b0 mi (.ref c :: av) (gv c g R) (cv c f C) (UQ b0 n0 c k' N x' (gv c g R) (cv c f C) c1 c2) := by
  refine hB.mono (fun r g1 f1 mc ms h => ?_)
  obtain ⟨rfl, rfl, rfl, h1, h2, h3, h4, h5⟩ := h
  subst hx
  exact ⟨rfl, h1, h2, ⟨G, R', F, C', t', y', n', ⟨rfl, rfl⟩, ⟨h5, hF', h3⟩, hWR, hR1, a, hR0⟩, KV.of h4 hO⟩
theorem kp_lo2 {a m x : Nat} (ra : RA b0 g a) (ha : c + 27 ≤ a) (hx : c + 27 ≤ x ∧ x < a) : (kpG c g R a m).2.2.2 x = g.2.2.2 x ∧ kpF c g R f C a m x = f x := by
  have hp := ((ra.img (R := R) ha).cpy (n := m) (b := c + 13) (Or.inr (by omega))).pk
  exact ⟨(cpyG_o (by omega) (by omega) (by omega)).trans (gv_out (by omega)), (cpyF_o hp (by omega)).trans (cv_out (by omega))⟩
theorem pkeep_01 : (pkeep M (nI 0)).1 = M 2 5 := by
  unfold pkeep
  rw [if_neg (by decide)]
/-- an image is kept -/
theorem O_keep0 (h : OB b0 n0 c k M g f) (hk : 120 * k ≤ 64800) (hd : 3 ≤ d) (h0 : g.2.2.2 (c + 26) 0 = none) (h4 : M 0 4 = 0) : zM l d D b0 mX11_keep [.ref c, .int 0] g f (UQ b0 n0 c (k + 1) (pkeep M (nI 0)).2 (M 2 5) g f 13 5199) := by
  obtain ⟨g, R, f, C, t, y, n, ⟨rfl, rfl⟩, ⟨hW, hF, hw⟩, h, h26⟩ := h
  have e0 : R 26 0 = none := by
    have e : (gv c g R).2.2.2 (c + 26) = R 26 := gv_at (j := 26) (by decide)
    rw [← e]; exact h0
  have hFB : M 0 4 = FB R := by
    unfold FB
    rw [if_pos e0, if_pos h26, h4]; rfl
  have h : WR b0 n0 c k (g, R, f, C) M t y n := ⟨h.1, h.2.1, h.2.2.1, h.2.2.2.1, ⟨⟨Or.inl e0, Or.inl h26⟩, hFB, fun a z => (by
    have z : R 26 0 = some a := z
    rw [e0] at z; cases z), fun a z => (by
    have z : R 26 1 = some a := z
    rw [h26] at z; cases z)⟩, h.2.2.2.2.2⟩
  have w2 : b0 ≤ g.1 := h.1.1.2.1
  have w3 : c + 27 ≤ g.1 := Nat.le_trans h.1.1.1 h.1.1.2.2
  obtain ⟨⟨b1, b2, b3, b4, -⟩, a2, a3⟩ := h.keepN hW hF hk (i := 0) (by decide) e0
  have hB := B_X11_keep (l := l) (d := d) (D := D) (f := f) hW hF hw (nI 0) n.1 b2 b1 b3 b4 (fun a z => (by
    have z : R 26 0 = some a := z
    rw [e0] at z; cases z)) hd
  have eb : bkeep c g R f C (nI 0) n.1 = ((kpG c (bimgS c g f).1 (zup R 26 0 (some g.1)) g.1 n.1, zup R 26 0 (some g.1), kpF c (bimgS c g f).1 (zup R 26 0 (some g.1)) (bimgS c g f).2 C g.1 n.1, C), C 17 2) := by
    rw [bkeep_t (bkp1_n (show R 26 (tn (nI 0)) = none from e0)) (by decide)]
    rfl
  have ra : RA b0 (bimgS c g f).1 g.1 := kiniX8_RA rfl (zIn.self w2)
  rw [eb] at hB a2 a3
  refine UQ.mk (a := g.1) hB (a2.trans pkeep_01) (hF.upj (by decide)) (fun x hx hc => ?_) a3 ?_ ?_
  · obtain ⟨z1, z2⟩ := kp_lo2 (R := zup R 26 0 (some g.1)) (f := (bimgS c g f).2) (C := C) (m := n.1) (x := x) ra w3 ⟨hc, hx⟩
    obtain ⟨o1, o2⟩ := kiniX8_old (S := (znG g 8 0, znI g f)) (a := g.1) (y := x) rfl hx
    exact ⟨z1.trans (o1.trans (zu1_ne _ _ _ (by omega))), z2.trans (o2.trans (zu1_ne _ _ _ (by omega)))⟩
  · exact (zup_ne (f := R) (a := 26) (k := 0) (v := some g.1) (b := 26) (j := 1) (Or.inr (by decide))).trans h26
  · exact zup_at R 26 0 (some g.1)
theorem bgo_26 {e x : Option Nat} : bgoTo R e x 26 = R 26 := by
  unfold bgoTo
  rw [zup_r (show (26 : Nat) ≠ 17 by decide), zup_r (show (26 : Nat) ≠ 17 by decide)]
theorem bbeg_26 : (bbegin g R C).1 26 = R 26 := by
  unfold bbegin
  split
  · rfl
  · rename_i m _
    exact bgo_26 (R := R) (e := g.2.2.2 m 0) (x := none)
/-- the run is begun anew -/
theorem O_rest (h : OR b0 n0 c k M g f) (hk : 120 * k ≤ 64800) (hd : 2 ≤ d) (h9 : ¬ M 2 0 = -9) : zM l d D b0 mX11_restart [.ref c] g f (UQ b0 n0 c (k + 1) (pbegin M) (M 2 5) g f 0 0) := by
  obtain ⟨g, R, f, C, t, y, n, ⟨rfl, rfl⟩, ⟨hW, hF, hw⟩, h, h26, a, ha⟩ := h
  obtain ⟨a2, y', n', a3⟩ := h.restart hk
  have e9 : prestart M = (M 2 5, pbegin M) := if_neg h9
  rw [e9] at a2 a3
  have e26 : (brest g R C).2.1 26 = R 26 := by
    unfold brest
    split
    · rfl
    · exact bbeg_26
  have hF' : CF c (brest g R C).2.1 := by
    unfold brest
    split
    · exact hF
    · exact hF.beg
  exact UQ.mk (a := a) (B_X11_restart hW hF hw hd) a2 hF' (fun _ _ _ => ⟨rfl, rfl⟩) a3 (by rw [e26]; exact h26) (by rw [e26]; exact ha)
/-- what the image holds comes back -/
theorem O_back0 (h : OR b0 n0 c k M g f) (hk : 120 * k ≤ 64800) (hd : 3 ≤ d) : zM l d D b0 mX11_back [.ref c, .int 0] g f (UQ b0 n0 c (k + 1) (pback M (nI 0)).2 (pback M (nI 0)).1 g f 0 0) := by
  obtain ⟨g, R, f, C, t, y, n, ⟨rfl, rfl⟩, ⟨hW, hF, hw⟩, h, h26, a, ha⟩ := h
  rcases h.back hW hF hk (nI 0) with ⟨a1, a2, a3⟩ | ⟨i, a', y', n', hi, hxi, z1, ra, hca, ⟨b1, b2, b3, b4, b5, b6⟩, a2, a3⟩
  · exact absurd ha (a3 a (by decide))
  · obtain rfl : 0 = i := (nI_eq (by decide) (by omega)).mp hxi
    obtain rfl : a = a' := Option.some.inj (ha.symm.trans z1)
    have hR1 : ∀ x, R 26 (tn (nI 0)) = some x → x = a := fun x z => Option.some.inj (z.symm.trans ha)
    have hB := B_X11_back (l := l) (d := d) (D := D) (f := f) (C := C) hW hF hw (nI 0) n'.1 b2 (fun x z => by rw [hR1 x z]; exact ⟨ra, hca⟩) (fun x z => by rw [hR1 x z]; exact ⟨b1, b3, b4⟩) hd
    have eb : bback c g R f C (nI 0) n'.1 = ((bkG c g R a n'.1, bkR c g R a n'.1, bkF c g R f C a n'.1, bkC c g R f C a n'.1), bkC c g R f C a n'.1 17 2) := bback_s (by decide) ha
    rw [eb] at hB a2 a3
    have e26 : bkR c g R a n'.1 26 = R 26 := bkR_o (by decide) (by decide) (by decide) (by decide)
    refine UQ.mk (a := a) hB a2 (hF.bk hca) (fun x hx hc => ?_) a3 ((congrFun e26 1).trans h26) ((congrFun e26 0).trans ha)
    have hp := ((RA.now hW hF).cpy (n := n'.1) (b := a) (by omega)).pk
    exact ⟨(cpyG_o (by omega) (by omega) (by omega)).trans (gv_out (by omega)), (cpyF_o hp (by omega)).trans (cv_out (by omega))⟩
/-- what came back is what was kept -/
theorem pback_same (h4 : M 0 4 = 0) : (pback (pbegin (pkeep M (nI 0)).2) (nI 0)).1 = M 2 5 ∧ (∀ r, r ≠ 0 → r ≠ 3 → r ≠ 5 → (pback (pbegin (pkeep M (nI 0)).2) (nI 0)).2 r = M r) ∧ ∀ j, j ≠ 4 → (pback (pbegin (pkeep M (nI 0)).2) (nI 0)).2 0 j = M 0 j := by
  have t0 : tn (nI 0) = 0 := tn_nI (by decide)
  obtain ⟨K, eK⟩ : ∃ K, K = (pkeep M (nI 0)).2 := ⟨_, rfl⟩
  have eK2 : K = zup (pkeep2 M (nI 0)) 0 4 (M 0 4 ||| 1 <<< (nI 0 &&& 31)) := by
    rw [eK]
    unfold pkeep
    rw [if_neg (by decide)]
  rw [← eK]
  have kr : ∀ r, r ≠ 0 → r ≠ 3 → r ≠ 5 → K r = M r := fun r r0 r3 r5 => by
    rw [eK2, zup_r r0]
    unfold pkeep2 pkeep1
    funext q
    rw [pcp_r r5, pcp_r r3]
  have k0 : ∀ j, j ≠ 4 → K 0 j = M 0 j := fun j hj => by
    rw [eK2, zup_ne _ _ _ _ (Or.inr hj)]
    unfold pkeep2 pkeep1
    rw [pcp_r (by decide), pcp_r (by decide)]
  have k4 : K 0 4 = 1 := by
    rw [eK2, zup_at, h4]
    decide
  have k3 : ∀ j, j < 8490 → K 3 j = M 2 j := fun j hj => by
    rw [eK2, zup_r (by decide)]
    unfold pkeep2
    rw [pcp_r (by decide)]
    unfold pkeep1
    rw [t0]
    show (if 3 = 3 ∧ 8490 * 0 ≤ j ∧ j < 8490 * 0 + 8490 then M 2 (0 + (j - 8490 * 0)) else _) = _
    rw [if_pos ⟨rfl, by omega, by omega⟩]
    exact congrArg (M 2) (by omega)
  have k5 : ∀ j, j < 7 * tn (M 2 21) → K 5 j = M 4 j := fun j hj => by
    rw [eK2, zup_r (by decide)]
    unfold pkeep2
    rw [t0]
    show (if 5 = 5 ∧ 280000 * 0 ≤ j ∧ j < 280000 * 0 + 7 * tn (M 2 21) then pkeep1 M (nI 0) 4 (0 + (j - 280000 * 0)) else _) = _
    rw [if_pos ⟨rfl, by omega, by omega⟩]
    unfold pkeep1
    rw [pcp_r (by decide)]
    exact congrArg (M 4) (by omega)
  have br : ∀ r, r ≠ 2 → pbegin K r = K r := fun r hr => pbegin_0 hr
  have p1 : ∀ r, r ≠ 2 → pback1 (pbegin K) (nI 0) r = K r := fun r hr => by
    unfold pback1
    funext q
    rw [pcp_r hr, br r hr]
  have n2 : ∀ j, pback1 (pbegin K) (nI 0) 2 j = M 2 j := fun j => by
    unfold pback1
    rw [t0]
    show (if 2 = 2 ∧ 0 ≤ j ∧ j < 0 + 8490 then pbegin K 3 (8490 * 0 + (j - 0)) else pbegin K 2 j) = _
    by_cases q : j < 8490
    · rw [if_pos ⟨rfl, by omega, by omega⟩, br 3 (by decide), show 8490 * 0 + (j - 0) = j by omega]
      exact k3 j q
    · rw [if_neg (by omega), pbegin_lo (Or.inr (by omega)), kr 2 (by decide) (by decide) (by decide)]
  have ep : pback (pbegin K) (nI 0) = (pback2 (pbegin K) (nI 0) 2 5, pback2 (pbegin K) (nI 0)) := by
    unfold pback
    rw [if_neg (by decide), if_neg]
    rw [br 0 (by decide), k4]
    decide
  have b2 : ∀ r, r ≠ 4 → pback2 (pbegin K) (nI 0) r = pback1 (pbegin K) (nI 0) r := fun r hr => by
    unfold pback2
    funext q
    rw [pcp_r hr]
  rw [ep]
  refine ⟨?_, fun r r0 r3 r5 => ?_, fun j hj => ?_⟩
  · show pback2 (pbegin K) (nI 0) 2 5 = _
    rw [b2 2 (by decide)]; exact n2 5
  · show pback2 (pbegin K) (nI 0) r = _
    by_cases q2 : r = 2
    · subst q2
      rw [b2 2 (by decide)]; exact funext n2
    · by_cases q4 : r = 4
      · subst q4
        funext j
        unfold pback2
        rw [t0]
        show (if 4 = 4 ∧ 0 ≤ j ∧ j < 0 + 7 * tn (pback1 (pbegin K) (nI 0) 2 21) then pback1 (pbegin K) (nI 0) 5 (280000 * 0 + (j - 0)) else pback1 (pbegin K) (nI 0) 4 j) = _
        rw [n2 21, p1 5 (by decide), p1 4 (by decide)]
        by_cases q : j < 7 * tn (M 2 21)
        · rw [if_pos ⟨rfl, by omega, by omega⟩, show 280000 * 0 + (j - 0) = j by omega]
          exact k5 j q
        · rw [if_neg (by omega), kr 4 (by decide) (by decide) (by decide)]
      · rw [b2 r q4, p1 r q2, kr r r0 r3 r5]
  · show pback2 (pbegin K) (nI 0) 0 j = _
    rw [b2 0 (by decide), p1 0 (by decide), k0 j hj]
/-- the images' rows aside, a table is as good as another -/
theorem OB.tbl (h : OB b0 n0 c k M g f) (hk : 120 * k ≤ 64800) (hr : ∀ r, r ≠ 0 → r ≠ 3 → r ≠ 5 → N r = M r) (h0 : ∀ j, j ≠ 4 → N 0 j = M 0 j) : OB b0 n0 c k N g f := by
  obtain ⟨g0, R, f0, C, t, y, n, e, w, h, h26⟩ := h
  obtain ⟨⟨⟨w1, w2, w3⟩, w4, w5⟩, ⟨⟨len, tx, v1, v2⟩, v3, v4⟩, ⟨⟨u1, u2⟩, u3⟩, ⟨q1, q2, q3⟩, -, hbd⟩ := h
  have u2 : t.1 ≤ 120 * k := u2
  have hx : zLe g0 g0 ∧ ZZ n0 g0 (fun _ => False) ∧ ∀ y, n0 ≤ y → y < g0.1 → ¬ False → g0.2.2.2 y = g0.2.2.2 y ∧ (g0.2.1 y ≠ 1 → f0 y = f0 y) ∧ ∀ k, k < 8 → f0 y k = f0 y k := ⟨zLe.rf, ZZ.non n0 _, fun y _ _ _ => ⟨rfl, fun _ => rfl, fun _ _ => rfl⟩⟩
  have e1 : N 1 = M 1 := hr 1 (by decide) (by decide) (by decide)
  have e2 : N 2 = M 2 := hr 2 (by decide) (by decide) (by decide)
  have e4 : N 4 = M 4 := hr 4 (by decide) (by decide) (by decide)
  have hT : TR b0 n0 g0 f0 (N 1) t := by rw [e1]; exact q1.base.1.1
  refine ⟨g0, R, f0, C, t, y, n, e, w, ⟨⟨⟨w1, w2, w3⟩, w4, w5⟩, ⟨⟨len, tx, v1.at rfl (h0 8 (by decide)) (hr 6 (by decide) (by decide) (by decide)), v2⟩, v3, v4⟩, ⟨⟨(h0 1 (by decide)).trans u1, u2⟩, u3.le zLe.rf (fun j _ => congrFun e1 j)⟩, ⟨?_, q2, GL.of q3 rfl rfl (h0 27 (by decide)) (hr 19 (by decide) (by decide) (by decide))⟩, trivial, ?_⟩, h26⟩
  · exact q1.mv (Z := fun _ => False) ⟨hx, fun k _ => congrFun e4 k, Nat.le_refl _, fun j _ => congrFun e1 j, fun _ _ => ⟨rfl, rfl, rfl⟩⟩ hT (fun _ _ => rfl) ⟨⟨rfl, rfl, fun _ _ _ _ => rfl, rfl⟩, fun _ _ => rfl, fun _ _ => rfl, fun _ _ => rfl, fun _ _ => rfl, fun j _ _ => congrFun e2 j⟩ ⟨fun j _ => congrFun e2 j, ⟨rfl, rfl, rfl, rfl⟩, ⟨rfl, rfl⟩, rfl, fun _ _ => rfl⟩ q1.2.2.1
  · exact hbd.mv hx (fun _ _ _ _ _ z => z) (by omega) (fun j _ => congrFun e1 j) (fun j _ => congrFun (hr 11 (by decide) (by decide) (by decide)) j) (Nat.le_refl _) (fun _ _ => ⟨rfl, rfl, rfl⟩) (fun j _ => congrFun e2 j) rfl (fun _ _ => rfl)
/-- where something was begun there is a main expression -/
theorem OB.main (h : OB b0 n0 c k M g f) (hk : 120 * k ≤ 64800) (h5 : ¬ M 2 5 = 0) : ¬ M 2 0 = -9 := by
  obtain ⟨g, R, f, C, t, y, n0', -, -, h, -⟩ := h
  have u2 : t.1 ≤ 120 * k := h.2.2.1.1.2
  obtain ⟨hCO, hBO, e0, -⟩ := h.2.2.2.1.1.base
  have e0 : C 17 2 = M 2 5 := e0
  rcases hBO.1 with ⟨-, z⟩ | ⟨r, a, z1, z2, -⟩
  · exact absurd (e0.symm.trans (h.2.2.2.1.2.1 z)) h5
  · have z1 : r < t.1 := z1
    have z2 : M 2 0 = nI r := z2
    rw [z2]; exact (iv_nI (N := 65000) (by omega) (by decide)).nn (by decide)
end IMGS
