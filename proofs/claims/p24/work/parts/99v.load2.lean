/-! load, in both: the call. -/
section LOADX
variable {b0 n0 : Nat} {g G : zG} {f F M : zI} {t : zTs}
theorem EN.xt2 {T : Nat → Int32} {k n b : Nat} (h : EN b0 n0 g f T t k n) (hk : T (5 * n) = nI k) (hk2 : k ≤ 15) (hn : n < t.1) (hu : t.1 ≤ 65536) (hl : zLe g G) (hc : ∀ y, y < g.1 → y ≠ b → G.2.2.2 y = g.2.2.2 y ∧ F y = f y) (ho : ∀ i, i < t.1 → ¬ T (5 * i) = nI 16 → (t.2.1 i < g.1 ∧ t.2.1 i ≠ b) ∧ (T (5 * i) = nI 15 → (t.2.1 i + 1 < g.1 ∧ t.2.1 i + 1 ≠ b) ∧ t.2.1 i + 2 < g.1 ∧ t.2.1 i + 2 ≠ b)) : EN b0 n0 G F T t k n := by
  have hA : AG b0 0 t.1 (fun _ => True) g f T t G F T t := ⟨hl, fun i _ hi _ => ⟨fun z => hc _ (ho i hi z).1.1 (ho i hi z).1.2, fun z => by
    obtain ⟨⟨q1, q2⟩, q3, q4⟩ := (ho i hi (by rw [z]; decide)).2 z
    exact ⟨(hc _ q1 q2).1, (hc _ q3 q4).2⟩⟩, fun _ _ _ => rfl, fun _ _ _ _ _ _ => rfl, fun _ _ _ _ _ _ _ => rfl, fun _ _ _ => ⟨rfl, rfl, rfl⟩, hu⟩
  exact EN.fr (ub := t.1) (ub' := t.1) (fs := 0) h hk hk2 hA (Nat.zero_le _) hn trivial (Nat.le_refl _) (fun q => by
    obtain ⟨-, h', d2, d3, -⟩ := h.2.2.2.1 q
    exact ⟨h', Nat.zero_le _, d2, d3⟩)
theorem FRS.off {b : Nat} (h : FRS n0 0 g M t) (hb : g.2.1 b = 0) : ∀ i, i < t.1 → ¬ M 1 (5 * i) = nI 16 → (t.2.1 i < g.1 ∧ t.2.1 i ≠ b) ∧ (M 1 (5 * i) = nI 15 → (t.2.1 i + 1 < g.1 ∧ t.2.1 i + 1 ≠ b) ∧ t.2.1 i + 2 < g.1 ∧ t.2.1 i + 2 ≠ b) := fun i hi h16 => by
  obtain ⟨-, z2, z3, z4⟩ := h.1 i (Nat.zero_le _) hi h16
  refine ⟨⟨z2, fun z => by rw [z, hb] at z3; omega⟩, fun q => ?_⟩
  obtain ⟨y1, y2, y3⟩ := z4 q
  exact ⟨⟨by omega, fun z => by rw [z, hb] at y2; omega⟩, y1, fun z => by rw [z, hb] at y3; omega⟩
theorem TR.xt2 {b : Nat} (h : TR b0 n0 g f (M 1) t) (hF : FRS n0 0 g M t) (hb : g.2.1 b = 0) (hl : zLe g G) (hc : ∀ y, y < g.1 → y ≠ b → G.2.2.2 y = g.2.2.2 y ∧ F y = f y) : TR b0 n0 G F (M 1) t := by
  have h65 := h.1
  refine ⟨h65, fun n hn => ?_⟩
  rcases h.2 n hn with z | ⟨k, k1, k2, k3⟩
  · exact Or.inl z
  · exact Or.inr ⟨k, k1, k2, k3.xt2 k2 k1 hn (by omega) hl hc (hF.off hb)⟩
theorem BD.xt2 {b r0 : Nat} (h : BD b0 n0 g f M t r0 b) (h65 : t.1 ≤ 65000) (hF : FRS n0 0 g M t) (hb : g.2.1 b = 0) (hl : zLe g G) (hc : ∀ y, y < g.1 → y ≠ b → G.2.2.2 y = g.2.2.2 y ∧ F y = f y) (hb1 : G.2.2.2 b 1 = g.2.2.2 b 1) : BD b0 n0 G F M t r0 b := by
  obtain ⟨e, A, k, ⟨e1, e2, e3⟩, ⟨a1, a2, a3, a4, a5⟩, h1, h2, h3⟩ := h
  have rA : G.2.2.2 A = g.2.2.2 A := (hc A a3.2.1 (fun z => by have := a3.2.2; rw [z, hb] at this; omega)).1
  refine ⟨e, A, k, ⟨e1, e2, e3⟩, ⟨hb1.trans a1, a2, a3.le hl, (hl.2 _ a3.2.1).2.trans a4, a5⟩, fun i hi => by rw [rA]; exact h1 i hi, fun m b c d => by rw [rA]; exact h2 m b c d, fun m b c => ?_⟩
  rcases h3 m b c with z | ⟨κ, z1, z2, z3, z4⟩
  · exact Or.inl z
  · exact Or.inr ⟨κ, z1, z2, z3.xt2 z2 z1 c (by show e ≤ 65536; omega) hl hc (fun i hi h16 => hF.off hb i (by have : i < e := hi; omega) h16), z4⟩
end LOADX
section LOADC
variable {b0 n0 c k : Nat} {g : zG} {f M : zI} {t : zTs} {y : zGs} {n : zNs} {R : zRf} {C : zI}
theorem WR.load (h : WR b0 n0 c k (g, R, f, C) M t y n) (hk : 120 * (k + 1) ≤ 64800) {len : Nat} (hlen : C 0 1 = nI len) (hl : len ≤ 120) :
    pparseV M 0 ∧ ∃ m t' n', bloadV b0 c (bread g R f C len 0) m 1000 ∧ (bload g R f C len m 1000).2 = (pload M).1 ∧ (bload g R f C len m 1000).1.2.2.2 0 1 = C 0 1 ∧ WR b0 n0 c (k + 1) (bload g R f C len m 1000).1 (pload M).2 t' y n' := by
  have h' := h
  obtain ⟨⟨⟨w1, w2, w3⟩, w4, w5⟩, ⟨⟨len', tx, v1, v2⟩, v3, v4⟩, ⟨⟨u1, u2⟩, u3⟩, ⟨q1, q2, q3⟩, -, hbd⟩ := h
  have v2 : C 0 1 = nI len' := v2
  have hl' := v1.1
  obtain rfl : len' = len := (nI_eq (by omega) (by omega)).mp (v2.symm.trans hlen)
  have u2 : t.1 ≤ 120 * k := u2
  have w3 : n0 ≤ g.1 := w3
  have w2 : b0 ≤ g.1 := w2
  have w4 : EOs b0 g c := w4
  have w5 : RC n0 g := w5
  obtain ⟨p1, p2, p3, p4, p5, p6⟩ := PARSE (b0 := b0) (n0 := n0) (g := g) (R := R) (f := f) (C := C) (M := M) (t := t) (how := 0) (z := 0) v1 ⟨w2, w3⟩ v4 v3 u1 (by omega) rfl
  refine ⟨p1, ?_⟩
  have e2 : (pparse M 0).2 = zup (pparN (pparM M 0)) 11 t.1 (pparN (pparM M 0) 0 1) := by
    unfold pparse
    rw [u1, tn_nI (by omega)]
  have e1 : (pparse M 0).1 = if pparN (pparM M 0) 0 15 = -9 then nI t.1 else -9 := by
    unfold pparse
    rw [u1]
  obtain ⟨Q, eQ⟩ : ∃ Q, Q = bread g R f C len' 0 := ⟨_, rfl⟩
  rw [← eQ] at p2 p5 p6 ⊢
  obtain ⟨P, eP⟩ : ∃ P, P = pparN (pparM M 0) := ⟨_, rfl⟩
  rw [← eP] at e1 e2 p3 p5 p6
  obtain ⟨W, eW⟩ : ∃ W, W = pparse M 0 := ⟨_, rfl⟩
  have epd : pload M = if W.1 = -9 then (-2, zup W.2 0 1 (M 0 1)) else (W.2 0 16, pbegin (zup W.2 2 0 W.1)) := by rw [eW]; rfl
  rw [← eW] at e1 e2
  have hnine : ¬ nI t.1 = -9 := (iv_nI (N := 65000) (by omega) (by decide)).nn (by decide)
  rw [epd]
  by_cases q9 : Q.2 = -9
  · obtain ⟨t', m, s1, s2, s3, s4, s5, s6, s7, s8, s9, s10, s11, s12⟩ := p6 q9
    obtain ⟨⟨G, R', F, C'⟩, z⟩ := Q
    have q9 : z = -9 := q9
    subst q9
    have s6 : C' 2 1 = nI m := s6
    have hp15 : P 0 15 = -9 := p5.symm
    have eW1 : W.1 = nI t.1 := by rw [e1, if_pos hp15]
    rw [if_neg (by rw [eW1]; exact hnine), eW1]
    have ebd : bload g R f C len' m 1000 = (bload2 (G, R', F, C') m 1000, nI m) := bload_d eQ.symm rfl
    obtain ⟨N, eN⟩ : ∃ N, N = zup W.2 2 0 (nI t.1) := ⟨_, rfl⟩
    rw [← eN]
    obtain ⟨a1, a2, a3, a4, a5, a6⟩ := KB.wr p2
    have nP : ∀ r, r ≠ 2 → r ≠ 11 → N r = P r := fun r r2 r11 => by rw [eN, zup_r r2, e2, zup_r r11]
    have nr : ∀ r, r ≠ 0 → r ≠ 1 → r ≠ 2 → r ≠ 7 → r ≠ 8 → r ≠ 9 → r ≠ 10 → r ≠ 11 → N r = M r := fun r b0 b1 b2 b7 b8 b9 b10 b11 => by
      rw [nP r b2 b11, p3.1 r b0 b1 b7 b8 b9 b10, ppar0_r b0]
    have n2 : ∀ i, i ≠ 0 → N 2 i = M 2 i := fun i hi => by
      rw [eN, zup_ne _ _ _ _ (Or.inr hi), e2, zup_r (by decide), p3.1 2 (by decide) (by decide) (by decide) (by decide) (by decide) (by decide), ppar0_r (by decide)]
    have n2p : N 2 0 = nI t.1 := by rw [eN, zup_at]
    have n00 : ∀ i, i ≠ 1 → i ≠ 13 → i ≠ 14 → i ≠ 15 → i ≠ 16 → i ≠ 17 → N 0 i = M 0 i := fun i b1 b2 b3 b4 b5 b6 => by
      rw [nP 0 (by decide) (by decide), p3.2.1 i b1 b2 b3 b4 b5 b6, ppar0_0 b2 b3 b4 b5]
    have n1 : ∀ i, i < 5 * t.1 → N 1 i = M 1 i := fun i hi => by
      rw [nP 1 (by decide) (by decide), p3.2.2 i hi, ppar0_r (by decide)]
    have n11 : ∀ i, i < t.1 → N 11 i = M 11 i := fun i hi => by
      rw [eN, zup_r (by decide), e2, zup_ne _ _ _ _ (by omega), p3.1 11 (by decide) (by decide) (by decide) (by decide) (by decide) (by decide), ppar0_r (by decide)]
    have n11t : N 11 t.1 = nI t'.1 := by rw [eN, zup_r (by decide), e2, zup_at]; exact s7
    have hNds : NDS b0 n0 t.1 G F R' N t' [] m := by
      have s4 : NDS b0 n0 t.1 G F R' P t' [] m := s4
      unfold NDS at s4 ⊢
      rw [nP 1 (by decide) (by decide)]; exact s4
    have hFrs : FRS g.1 t.1 G N t' := by
      have s5 : FRS g.1 t.1 G P t' := s5
      unfold FRS at s5 ⊢
      rw [nP 1 (by decide) (by decide)]; exact s5
    have hT0 : TR b0 n0 g f (M 1) t := q1.base.1.1
    have hCl : ∀ m, t.1 ≤ m → m < t'.1 → N 1 (5 * m) = nI 16 → ∃ b, t.1 ≤ b ∧ b < t'.1 ∧ N 1 (5 * m + 2) = nI b ∧ ¬ N 1 (5 * b) = nI 16 := fun m c1 c2 c3 => by
      have z0 : tn (M 0 1) = t.1 := by rw [u1]; exact tn_nI (by omega)
      have z1 : tn (P 0 1) = t'.1 := by rw [s7]; exact tn_nI (by omega)
      rw [nP 1 (by decide) (by decide)] at c3 ⊢
      have z2 := CLAUS p1 (by rw [← eP]; exact hp15) m (by omega)
      rw [← eP] at z2
      obtain ⟨b, b1, b2, b3, b4⟩ := z2 (by omega) c3
      exact ⟨b, by omega, by omega, b3, b4⟩
    obtain ⟨d1, d2, d3, d4⟩ := BODY hT0 u3 ⟨w2, w3⟩ p2 n1 ⟨s1, by omega, by omega⟩ (by omega) hNds hFrs s9 n11t hCl
    obtain ⟨x1, x2, x3, ⟨x4, x5, x6⟩, x7, x8, x9, x10⟩ := bbd_all (g := G) (R := R') (f := F) (n := m)
    have hgG : g.1 ≤ G.1 := a1.1.1
    have hroot0 : R' 3 0 = some (t'.2.1 t.1) := (hNds.2.2.2 s1).2.1
    have eE : bloadE (G, R', F, C') = t'.2.1 t.1 := by
      show (R' 3 0).getD 0 = _
      rw [hroot0]; rfl
    obtain ⟨H, eH⟩ : ∃ H, H = bbdG G R' m := ⟨_, rfl⟩
    obtain ⟨K, eK⟩ : ∃ K, K = bbdF G R' F m := ⟨_, rfl⟩
    rw [← eH] at x1 x3 x4 x5 x6 x7 x8 x9 x10 d1 d2 d3 d4
    rw [← eK] at x2 d1 d3
    -- the listing
    have hWt : WTx (N 1) t'.1 t.1 len' := by rw [nP 1 (by decide) (by decide)]; exact s10
    obtain ⟨l1, l2, l3⟩ := LISTS (R := R') (C := C') d1 hWt hl
    obtain ⟨NL, eNL⟩ : ∃ NL, NL = llistN H R' K C' (t'.2.1 t.1) 1000 := ⟨_, rfl⟩
    obtain ⟨LL, eL'⟩ : ∃ LL, LL = llist H R' K C' (t'.2.1 t.1) 1000 := ⟨_, rfl⟩
    obtain ⟨RL, CL⟩ := LL
    have eL := eL'.symm
    have l13 : llistN H R' K C' (t'.2.1 t.1) 1000 < 240 := l1.2.2
    rw [← eNL] at l13 l3
    rw [eL] at l2 l3
    obtain ⟨H1, eH1⟩ : ∃ H1, H1 = zpR (znG H 13 NL) (G.1 + 1) 2 (some H.1) := ⟨_, rfl⟩
    obtain ⟨K1, eK1⟩ : ∃ K1, K1 = zu1 (znI H K) H.1 (fun k => if k < NL then CL 10 k else 0) := ⟨_, rfl⟩
    obtain ⟨RX, eRX⟩ : ∃ RX, RX = zup RL 17 0 (some (G.1 + 1)) := ⟨_, rfl⟩
    have eb2 : bload2 (G, R', F, C') m 1000 = (H1, (bbegin H1 RX CL).1, K1, (bbegin H1 RX CL).2) := by
      have f1 : bload1 (G, R', F, C') m 1000 = H1 := by
        unfold bload1 bloadN
        rw [eE]
        show zpR (znG (bbdG G R' m) 13 (llistN (bbdG G R' m) R' (bbdF G R' F m) C' (t'.2.1 t.1) 1000)) (G.1 + 1) 2 (some (bbdG G R' m).1) = H1
        rw [← eH, ← eK, ← eNL, eH1]
      have f2 : bloadL (G, R', F, C') m 1000 = (RL, CL) := by
        unfold bloadL
        rw [eE]
        show llist (bbdG G R' m) R' (bbdF G R' F m) C' (t'.2.1 t.1) 1000 = _
        rw [← eH, ← eK, eL]
      have f3 : bloadN (G, R', F, C') m 1000 = NL := by
        unfold bloadN
        rw [eE]
        show llistN (bbdG G R' m) R' (bbdF G R' F m) C' (t'.2.1 t.1) 1000 = _
        rw [← eH, ← eK, ← eNL]
      have f4 : bloadG (G, R', F, C') m = H := by rw [eH]; rfl
      have f5 : bloadF (G, R', F, C') m = K := by rw [eK]; rfl
      unfold bload2
      rw [f1, f2, f3, f4, f5]
      show (H1, (bbegin H1 (zup RL 17 0 (some (G.1 + 1))) CL).1, zu1 (znI H K) H.1 (fun k => if k < NL then CL 10 k else 0), (bbegin H1 (zup RL 17 0 (some (G.1 + 1))) CL).2) = _
      rw [← eRX, ← eK1]
    -- the heap
    have h1s : H1.1 = H.1 + 1 := by rw [eH1]; rfl
    have h1t : H1.2.1 = zu1 H.2.1 H.1 13 ∧ H1.2.2.1 = zu1 H.2.2.1 H.1 NL := by rw [eH1]; exact ⟨rfl, rfl⟩
    have h1r : ∀ y, y ≠ G.1 + 1 → y < H.1 → H1.2.2.2 y = H.2.2.2 y := fun y hy hy2 => by
      rw [eH1, zpR_o hy]
      show zu1 H.2.2.2 H.1 _ y = _
      rw [zu1_ne _ _ _ (by omega)]
    have h1f : ∀ j, j ≠ 2 → H1.2.2.2 (G.1 + 1) j = H.2.2.2 (G.1 + 1) j := fun j hj => by
      rw [eH1]
      show zup (zu1 H.2.2.2 H.1 _) (G.1 + 1) 2 _ (G.1 + 1) j = _
      rw [zup_ne _ _ _ _ (Or.inr hj), zu1_ne _ _ _ (by omega)]
    have h1l : zLe H H1 := ⟨by omega, fun a ha => by rw [h1t.1, h1t.2, zu1_ne _ _ _ (by omega), zu1_ne _ _ _ (by omega)]; exact ⟨rfl, rfl⟩⟩
    have k1f : ∀ y, y < H.1 → K1 y = K y := fun y hy => by
      rw [eK1, zu1_ne _ _ _ (by omega)]
      unfold znI
      rw [zu1_ne _ _ _ (by omega)]
    have hc1 : ∀ y, y < H.1 → y ≠ G.1 + 1 → H1.2.2.2 y = H.2.2.2 y ∧ K1 y = K y := fun y hy z => ⟨h1r y z hy, k1f y hy⟩
    have hT1 : TR b0 n0 H1 K1 (N 1) t' := d1.xt2 d2 x5 h1l hc1
    have hF1 : FRS n0 0 H1 N t' := d2.le h1l (fun _ _ => rfl)
    have hD1 : BD b0 n0 H1 K1 N t' t.1 (G.1 + 1) := d3.xt2 d1.1 d2 x5 h1l hc1 (h1f 1 (by decide))
    have hgH : zLe g H1 ∧ ∀ y, y < g.1 → H1.2.2.2 y = g.2.2.2 y ∧ K1 y = f y := ⟨(a1.1.tr x1.1).tr h1l, fun y hy => ⟨(h1r y (by omega) (by omega)).trans ((x1.2 y (by omega)).trans (a1.2 y hy).1), (k1f y (by omega)).trans ((x2 y (by omega)).trans (a1.2 y hy).2)⟩⟩
    have hx : zLe g H1 ∧ ZZ n0 g (fun _ => False) ∧ ∀ y, n0 ≤ y → y < g.1 → ¬ False → H1.2.2.2 y = g.2.2.2 y ∧ (g.2.1 y ≠ 1 → K1 y = f y) ∧ ∀ k, k < 8 → K1 y k = f y k := ⟨hgH.1, ZZ.non n0 _, fun y _ hy _ => ⟨(hgH.2 y hy).1, fun _ => (hgH.2 y hy).2, fun k _ => by rw [(hgH.2 y hy).2]⟩⟩
    have hEH : EOs b0 H c := fun a ha b hb => by
      have ha1 := ha.2.1
      have ha2 := ha.2.2
      by_cases z : a < g.1
      · have hcell : H.2.2.2 a = g.2.2.2 a := (x1.2 a (by omega)).trans (a1.2 a z).1
        rw [hcell] at hb
        obtain ⟨y1, y2, y3⟩ := w4 a ⟨ha.1, z, ((a1.1.tr x1.1).2 a z).1.symm.trans ha2⟩ b hb
        exact ⟨((a1.1.tr x1.1).2 b y3).2.trans y1, y2, by omega⟩
      · by_cases z2 : a < G.1
        · rw [x1.2 a z2] at hb
          obtain ⟨y1, y2, y3⟩ := (a2 a (by omega) z2).2.2 ((x1.1.2 a z2).1.symm.trans ha2) b hb
          exact ⟨(x1.1.2 b y3).2.trans y1, fun z => by omega, by omega⟩
        · have hxx : a = G.1 ∨ a = G.1 + 1 ∨ a = G.1 + 2 := by omega
          rcases hxx with rfl | rfl | rfl
          · rw [x4] at ha2; omega
          · rw [x5] at ha2; omega
          · rw [x6] at ha2; omega
    have h1tt : ∀ a, a < H.1 → H1.2.1 a = H.2.1 a := fun a ha => (h1l.2 a ha).1
    have h1tn : H1.2.1 H.1 = 13 := by rw [h1t.1, zu1_at]
    have hE1 : EOs b0 H1 c := fun a ha b hb => by
      have ha1 := ha.2.1
      have ha2 := ha.2.2
      by_cases z : a = H.1
      · rw [z, h1tn] at ha2; omega
      · have z2 : a < H.1 := by omega
        have z3 : a ≠ G.1 + 1 := fun q => by rw [h1tt a z2, q, x5] at ha2; omega
        rw [h1r a z3 z2] at hb
        obtain ⟨y1, y2, y3⟩ := hEH a ⟨ha.1, z2, (h1tt a z2).symm.trans ha2⟩ b hb
        exact ⟨(h1l.2 b y3).2.trans y1, y2, by omega⟩
    have hRC1 : RC n0 H1 := fun x y0 y1 y7 => by
      by_cases z : x = H.1
      · rw [z, h1tn] at y7; omega
      · have z2 : x < H.1 := by omega
        rw [h1tt x z2] at y7
        by_cases z3 : x < g.1
        · rw [(hgH.2 x z3).1]
          exact w5 x y0 z3 (((a1.1.tr x1.1).2 x z3).1.symm.trans y7)
        · by_cases z4 : x < G.1
          · exact absurd ((x1.1.2 x z4).1.symm.trans y7) (a2 x (by omega) z4).1
          · have hxx : x = G.1 ∨ x = G.1 + 1 ∨ x = G.1 + 2 := by omega
            rcases hxx with rfl | rfl | rfl
            · rw [x4] at y7; omega
            · rw [x5] at y7; omega
            · rw [x6] at y7; omega
    -- the old bodies, moved
    obtain ⟨N0, eN0⟩ : ∃ N0, N0 = zup N 2 0 (M 2 0) := ⟨_, rfl⟩
    have m1 : N 1 = N0 1 := by rw [eN0, zup_r (by decide)]
    have m11 : N 11 = N0 11 := by rw [eN0, zup_r (by decide)]
    have m2 : ∀ i, 1 ≤ i → i < 5 → N 2 i = N0 2 i := fun i hi _ => by rw [eN0, zup_ne _ _ _ _ (by omega)]
    have m2' : ∀ i, i < 5 → N0 2 i = M 2 i := fun i hi => by
      by_cases z : i = 0
      · rw [z, eN0, zup_at]
      · rw [← m2 i (by omega) hi]; exact n2 i z
    have r17 : R' 17 0 = R 17 0 := congrFun (a5 17 (by decide) (by decide) (by decide)) 0
    have r18 : ∀ p, p < 4 → R' 18 p = R 18 p := fun p _ => congrFun (a5 18 (by decide) (by decide) (by decide)) p
    have hBO0 : BO b0 n0 (H1, K1, N0, t', y, n) R' := q1.base.2.1.mv (np := 0) ⟨hx, fun k hk => absurd hk (by omega), by omega, fun i hi => by rw [← m1]; exact n1 i hi, s9⟩ m2' r17 r18
    have hBD0 : BOD b0 n0 H1 K1 N0 t' R' := hbd.mv hx (fun _ _ _ _ _ z => z) (by omega) (fun i hi => by rw [← m1]; exact n1 i hi) (fun i hi => by rw [← m11]; exact n11 i hi) (by omega) s9 m2' r17 r18
    have lR : ∀ r, r ≠ 11 → RL r = R' r := l2.1
    have lC : ∀ r, r ≠ 9 → r ≠ 10 → r ≠ 12 → CL r = C' r := l2.2
    have rx17 : RX 17 0 = some (G.1 + 1) := by rw [eRX, zup_at]
    have rxr : ∀ r, r ≠ 11 → r ≠ 17 → RX r = R' r := fun r a b => by rw [eRX, zup_r b]; exact lR r a
    have hroot : ¬ N 1 (5 * t.1) = nI 16 := (hNds.2.2.2 s1).2.2
    have hzb : zIn b0 H1 (G.1 + 1) 0 := ⟨by omega, by omega, by rw [h1tt _ (by omega)]; exact x5⟩
    have hrb : (∀ v, ¬ t'.2.2.1 t.1 v) ∧ ¬ t'.2.2.2 t.1 := ⟨fun v hv => ml_0 (s11 v hv), fun hv => (s12 hv) (by show R' 8 0 = none; exact a6.trans v4)⟩
    have hBO : BO b0 n0 (H1, K1, N, t', y, n) RX := hBO0.main m1 m2 n2p rx17 (fun q _ => by rw [rxr 18 (by decide) (by decide)]) ⟨s1, hroot⟩ ⟨by omega, hzb, (h1f 0 (by decide)).trans d4⟩ hrb
    have hML : ML b0 n0 H1 K1 N t' t.1 (G.1 + 1) := ⟨H.1, NL, t'.1, by rw [eH1]; exact zup_at _ _ _ _, ⟨by omega, by omega, by rw [h1tt _ (by omega), show H.1 - 2 = G.1 + 1 by omega]; exact x5⟩, ⟨by omega, by omega, h1tn⟩, by rw [h1t.2, zu1_at], l13, Nat.le_refl _, l3.of (fun _ _ => rfl) (fun i hi => by rw [eK1, zu1_at, if_pos hi])⟩
    have hBD : BOD b0 n0 H1 K1 N t' RX := hBD0.main m1 m11 m2 n2p rx17 (fun q _ => by rw [rxr 18 (by decide) (by decide)]) s1 ⟨by omega, hzb⟩ hD1 hML
    have hb : 201 * k ≤ 201 * (k + 1) := by omega
    have hUC : UC (201 * (k + 1)) CL := fun r => by
      have hU : UC (201 * k) C := q1.2.2.1
      obtain ⟨u, z1, z2⟩ := hU r
      exact ⟨u, by omega, by rw [lC 22 (by decide) (by decide) (by decide), a3 22 (by omega)]; exact z2⟩
    have hGL : GL (201 * (k + 1)) CL N := (GL.of q3 (by rw [lC 13 (by decide) (by decide) (by decide), a3 13 (by omega)]) (by rw [lC 16 (by decide) (by decide) (by decide), a3 16 (by omega)]) (n00 27 (by decide) (by decide) (by decide) (by decide) (by decide) (by decide)) (nr 19 (by decide) (by decide) (by decide) (by decide) (by decide) (by decide) (by decide) (by decide))).mono hb
    obtain ⟨⟨-, -, kC, kR, kR17, -⟩, ⟨mA, mB, mC⟩, hRQ, hGL2⟩ := CO.begins (y := y) (n := n) hT1 hBO rx17 hUC hGL
    have kC : ∀ r, r < 13 ∨ 26 ≤ r → (bbegin H1 RX CL).2 r = CL r := kC
    have kR : ∀ r, r ≠ 14 → r ≠ 17 → r ≠ 20 → (bbegin H1 RX CL).1 r = RX r := kR
    have kR17 : ∀ j, j ≠ 4 → j ≠ 5 → (bbegin H1 RX CL).1 17 j = RX 17 j := kR17
    have q1' : pbegin N 1 = N 1 := mA 1 (by decide) (by decide) (by decide) (by decide) (by decide) (by decide) (by decide)
    have q11 : pbegin N 11 = N 11 := mA 11 (by decide) (by decide) (by decide) (by decide) (by decide) (by decide) (by decide)
    have him := h'.imgs (G := H1) (F := K1) (N := pbegin N) (R' := (bbegin H1 RX CL).1) (t' := t') (by omega) hgH (by rw [kR 26 (by decide) (by decide) (by decide), rxr 26 (by decide) (by decide), a5 26 (by decide) (by decide) (by decide)])
      ⟨by rw [mA 3 (by decide) (by decide) (by decide) (by decide) (by decide) (by decide) (by decide), nr 3 (by decide) (by decide) (by decide) (by decide) (by decide) (by decide) (by decide) (by decide)], by rw [mA 5 (by decide) (by decide) (by decide) (by decide) (by decide) (by decide) (by decide), nr 5 (by decide) (by decide) (by decide) (by decide) (by decide) (by decide) (by decide) (by decide)]⟩ (by rw [mB 4 (by decide) (by decide), n00 4 (by decide) (by decide) (by decide) (by decide) (by decide) (by decide)]) (fun j hj => by rw [q1']; exact n1 j hj) (fun j hj => by rw [q11]; exact n11 j hj) (by omega) s9 (by rw [q1']; exact hT1)
    have hBDf : BOD b0 n0 H1 K1 (pbegin N) t' (bbegin H1 RX CL).1 := by
      have z := hBD.sm (N := pbegin N) q1' q11 mC
      refine ⟨fun a ha => z.1 a ?_, fun p hp a ha => z.2 p hp a ?_⟩
      · rw [← kR17 0 (by decide) (by decide)]; exact ha
      · rw [← kR 18 (by decide) (by decide) (by decide)]; exact ha
    refine ⟨m, t', (0, 0, 0, 0, 0), fun _ => ⟨⟨s6, by omega, by show R' 3 0 = some ((R' 3 0).getD 0); rw [hroot0]; rfl⟩, ?_, ?_⟩, ?_, ?_, ?_⟩
    · show EO b0 (bbdG G R' m) c
      rw [← eH]; exact hEH.EO
    · show llistV (bbdG G R' m) R' (bbdF G R' F m) C' (bloadE (G, R', F, C')) 1000
      rw [eE, ← eH, ← eK]; exact l1
    · rw [ebd]
      show nI m = W.2 0 16
      rw [e2, zup_r (by decide)]; exact s8.symm
    · rw [ebd, eb2]
      show (bbegin H1 RX CL).2 0 1 = C 0 1
      rw [kC 0 (by omega), lC 0 (by decide) (by decide) (by decide), a3 0 (by omega)]
    · rw [ebd, eb2]
      refine ⟨⟨⟨w1, by show b0 ≤ H1.1; omega, by show n0 ≤ H1.1; omega⟩, hE1, hRC1⟩, ⟨⟨len', tx, v1.at ?_ ?_ ?_, ?_⟩, fun j => ?_, ?_⟩, ⟨⟨?_, by omega⟩, hF1.le zLe.rf (fun j _ => congrFun q1' j)⟩, ⟨hRQ, fun z => ?_, hGL2⟩, him, hBDf⟩
      · show (bbegin H1 RX CL).2 1 = C 1
        rw [kC 1 (by omega), lC 1 (by decide) (by decide) (by decide), a3 1 (by omega)]
      · show pbegin N 0 8 = M 0 8
        rw [mB 8 (by decide) (by decide), n00 8 (by decide) (by decide) (by decide) (by decide) (by decide) (by decide)]
      · show pbegin N 6 = M 6
        rw [mA 6 (by decide) (by decide) (by decide) (by decide) (by decide) (by decide) (by decide), nr 6 (by decide) (by decide) (by decide) (by decide) (by decide) (by decide) (by decide) (by decide)]
      · show (bbegin H1 RX CL).2 0 1 = nI len'
        rw [kC 0 (by omega), lC 0 (by decide) (by decide) (by decide), a3 0 (by omega)]; exact v2
      · show iv 7 ((bbegin H1 RX CL).2 6 j)
        rw [kC 6 (by omega), lC 6 (by decide) (by decide) (by decide)]; exact a4 j
      · show (bbegin H1 RX CL).1 8 0 = none
        rw [kR 8 (by decide) (by decide) (by decide), rxr 8 (by decide) (by decide)]; exact a6.trans v4
      · show pbegin N 0 1 = nI t'.1
        rw [mB 1 (by decide) (by decide), nP 0 (by decide) (by decide)]; exact s7
      · have z : (bbegin H1 RX CL).1 17 0 = none := z
        rw [kR17 0 (by decide) (by decide), rx17] at z; cases z
  · have hp15 : ¬ P 0 15 = -9 := fun z => q9 (p5.trans z)
    have eW1 : W.1 = -9 := by rw [e1, if_neg hp15]
    have ebd : bload g R f C len' 0 1000 = (Q.1, -2) := bload_s eQ.symm q9
    rw [if_pos eW1]
    refine ⟨0, t, n, fun z => absurd z q9, by rw [ebd], ?_, ?_⟩
    · rw [ebd]
      obtain ⟨⟨G, R', F, C'⟩, z⟩ := Q
      exact congrFun ((KB.wr p2).2.2.1 0 (Or.inl rfl)) 1
    rw [ebd, e2]
    obtain ⟨⟨G, R', F, C'⟩, z⟩ := Q
    exact h'.letgo (by omega) p2 p3 _
end LOADC
