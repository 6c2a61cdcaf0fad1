/-! A text is read, in both: a clause begins. -/
section CLAU
variable {b0 n0 fs : Nat} {S0 : bSt} {M0 : zI} {len : Nat} {tx : Nat → Nat} {g : zG} {f : zI} {R : zRf} {t : zTs} {m k : Nat}
/-- a handler with its clauses so far -/
theorem HP.hn {T : Nat → Int32} {n e w : Nat} (h : HP b0 g f T (t.1, t.2) n e 0 w none) : HN b0 n0 g f T (t.1, t.2) n e := by
  obtain ⟨z1, qs, z2, z3, z4, z5, -⟩ := h
  rw [if_pos rfl] at z2
  refine ⟨z1, qs, z2, ?_, z4, fun w hw hq => (z5 w hw hq).trans (if_neg (fun z => z.1 rfl))⟩
  have := pig 7 _ z3 (fun x hx => by
    obtain ⟨q, hq, rfl⟩ := List.mem_map.mp hx
    obtain ⟨-, -, -, w, b, v, w1, w2, -⟩ := z4 q hq
    show tn (T (5 * q + 4)) < 7
    rw [w2, tn_nI (by omega)]; exact w1)
  rw [List.length_map] at this
  exact this
theorem bclause_w {e w : Nat} (h5 : g.2.2.2 e 5 = some (e + 1)) (l5 : g.2.2.1 (e + 1) = 7) (hw : w < 7) : bclause g e (nI w) = g.2.2.2 (e + 1) w := by
  unfold bclause
  rw [h5]
  simp only
  rw [tn_nI (by omega)]
  first
    | rfl
    | exact if_pos ⟨nI_pos (by omega), by rw [l5]; exact nI_lt hw (by decide)⟩
    | exact if_pos ⟨nI_pos (by omega), nI_lt (b := 7) hw (by decide)⟩
theorem PS.clauseE {C C1 M : zI} {R1 : zRf} {e : Ent} {L : List Ent} {w v k4 : Nat} {F : zI} (r : Prop) [Decidable r] (hrw : r ↔ w = 6) (h : PS b0 n0 fs S0 M0 len tx g f R C M t (e :: L) m k none) (hn0 : b0 ≤ S0.1.1 ∧ n0 ≤ S0.1.1) (he : e.2.1 = 15 ∧ e.2.2.1 = 1 ∧ e.2.2.2.1 = 0) (hw : w < 7) (hv : v < 26) (hcl : bclause g (t.2.1 e.1) (nI w) = none) (hk4 : k + 2 ≤ k4 ∧ k4 ≤ len)
    (hF : F = zup f (t.2.1 e.1 + 2) w (nI v)) (hR1 : (∀ j, j ≠ 8 → R1 j = R j) ∧ (∀ j, j ≠ L.length + 1 → R1 8 j = R 8 j) ∧ R1 8 (L.length + 1) = (if w = 6 then R 8 L.length else some (t.2.1 e.1)))
    (hC1 : (∀ r, r ≠ 2 → r ≠ 6 → r ≠ 7 → C1 r = C r) ∧ C1 2 1 = C 2 1 ∧ C1 2 9 = C 2 9 ∧ (C1 6 (L.length + 1) = nI w ∧ ∀ j, j ≠ L.length + 1 → C1 6 j = C 6 j) ∧ (C1 7 (L.length + 1) = C 7 L.length ||| 1 <<< (nI v &&& 31) ∧ ∀ j, j ≠ L.length + 1 → C1 7 j = C 7 j)) :
    PS b0 n0 fs S0 M0 len tx g F R1 C1 (pbcD (zup M 0 14 (nI k4)) (nI e.1) (nI w) (nI v) r) (tN t 0 (fun _ => False) False) ((e.1, 15, 1, t.1, w) :: L) m k4 none := by
  obtain ⟨⟨h1, ⟨h2, h2n⟩, h3⟩, ⟨c0, ⟨c1, c2, c3, c4, c5⟩, ⟨c6, c7, c8, c9, c10, c11⟩, c12, c13⟩, hN, hFr, hK, hMB⟩ := h
  have hl := c0.1
  have hb : t.1 ≤ 65536 := by omega
  have hs0 : S0.1.1 ≤ g.1 := hK.1.1.1
  have h1' := h1
  obtain ⟨⟨b1, b2, b3, b4, b5⟩, ⟨p1, p2, p3, p4⟩, hd, ⟨f1, f2, f3⟩, ho, hno, hh, -⟩ := h1
  obtain ⟨⟨r1, r2, r3, r4⟩, ⟨r5, r6⟩, ⟨r7, r8⟩, -, -⟩ := h2
  obtain ⟨k15, kp, cz⟩ := he
  have b2 : e.1 < t.1 := b2
  have hHP := hh k15
  rw [cz] at hHP
  obtain ⟨⟨q51, q52, q53, q54, q55, q56⟩, qs, q2, q3, q4, q5, -⟩ := hHP
  rw [if_pos rfl] at q2
  have q51 : g.2.2.2 (t.2.1 e.1) 5 = some (t.2.1 e.1 + 1) := q51
  have hslot : g.2.2.2 (t.2.1 e.1 + 1) w = none := by rw [← bclause_w q51 q55 hw]; exact hcl
  have hnw : ∀ q ∈ qs, ¬ M 1 (5 * q + 4) = nI w := by
    intro q hq z
    obtain ⟨-, -, -, w', b, v', w1, w2, -, -, -, -, -, -, w3, -⟩ := q4 q hq
    have : w' = w := (nI_eq (by omega) (by omega)).mp (w2.symm.trans z)
    rw [this] at w3
    exact absurd (hslot.symm.trans w3) (fun z => by cases z)
  have ho1 : opn (e :: L) = opn L + 1 := by show opn L + (if e.2.2.2.1 = 0 then 1 else 2) = _; rw [if_pos cz]
  have c13 : M 0 13 = nI (opn L + 1) := c13.trans (congrArg nI ho1)
  rw [ho1] at c10
  obtain ⟨M2, eM2⟩ : ∃ M2, M2 = pbcD (zup M 0 14 (nI k4)) (nI e.1) (nI w) (nI v) r := ⟨_, rfl⟩
  rw [← eM2]
  obtain ⟨p1', p2', p3', p4', p5', p6', p7', p8', p9'⟩ := pmake_1 (M := zup M 0 14 (nI k4)) (κ := 16) (a := nI v) (N := t.1) ((zup_ne _ _ _ _ (by omega)).trans c2) (by omega)
  have n1 : zup M 0 14 (nI k4) 0 1 = nI t.1 := (zup_ne _ _ _ _ (by omega)).trans c2
  obtain ⟨P, eP⟩ : ∃ P, P = pmake (zup M 0 14 (nI k4)) 16 (nI v) := ⟨_, rfl⟩
  rw [← eP] at p1' p2' p3' p4' p5' p6' p7' p8' p9'
  have eC : pbcC (zup M 0 14 (nI k4)) (nI e.1) (nI w) (nI v) = zup (zup (zup P 1 (5 * t.1 + 3) (M 1 (5 * e.1 + 3))) 1 (5 * t.1 + 4) (nI w)) 1 (5 * e.1 + 3) (nI t.1) := by
    unfold pbcC
    dsimp only
    rw [n1, tn_nI (by omega), tn_nI (by omega), ← eP, p1' (5 * e.1 + 3) (by omega), zup_r (show (1 : Nat) ≠ 0 by decide)]
  have hr0 : ∀ r, r ≠ 0 → r ≠ 1 → P r = M r := fun r h0 h1 => by rw [p7' r h0 h1, zup_r h0]
  have hP13 : P 0 13 = nI (opn L + 1) := by rw [eP, pmake_0 (by decide) (by decide), zup_ne _ _ _ _ (by omega)]; exact c13
  obtain ⟨ow, eow⟩ : ∃ ow, ow = (if r then M 10 (opn L) else nI e.1 + 1) := ⟨_, rfl⟩
  have eX : M2 = zup (zup (zup (zup (zup (zup (zup (zup P 1 (5 * t.1 + 3) (M 1 (5 * e.1 + 3))) 1 (5 * t.1 + 4) (nI w)) 1 (5 * e.1 + 3) (nI t.1)) 7 (opn L + 1) (nI t.1)) 8 (opn L + 1) 0) 9 (opn L + 1) (C 7 L.length ||| 1 <<< (nI v &&& 31))) 10 (opn L + 1) ow) 0 13 (nI (opn L + 2)) := by
    rw [eM2]
    unfold pbcD penter
    dsimp only
    rw [eC, n1]
    have a13 : zup (zup (zup P 1 (5 * t.1 + 3) (M 1 (5 * e.1 + 3))) 1 (5 * t.1 + 4) (nI w)) 1 (5 * e.1 + 3) (nI t.1) 0 13 = nI (opn L + 1) := by
      rw [zup_r (by decide), zup_r (by decide), zup_r (by decide)]; exact hP13
    have a9 : zup (zup (zup P 1 (5 * t.1 + 3) (M 1 (5 * e.1 + 3))) 1 (5 * t.1 + 4) (nI w)) 1 (5 * e.1 + 3) (nI t.1) 9 (opn L) = C 7 L.length := by
      rw [zup_r (by decide), zup_r (by decide), zup_r (by decide), hr0 9 (by decide) (by decide)]; exact r3
    have a10 : zup (zup (zup P 1 (5 * t.1 + 3) (M 1 (5 * e.1 + 3))) 1 (5 * t.1 + 4) (nI w)) 1 (5 * e.1 + 3) (nI t.1) 10 (opn L) = M 10 (opn L) := by
      rw [zup_r (by decide), zup_r (by decide), zup_r (by decide), hr0 10 (by decide) (by decide)]
    rw [a13, tn_nI (by omega), show opn L + 1 - 1 = opn L by omega, a9, a10, zup_r (show (0 : Nat) ≠ 10 by decide), zup_r (show (0 : Nat) ≠ 9 by decide), zup_r (show (0 : Nat) ≠ 8 by decide), zup_r (show (0 : Nat) ≠ 7 by decide), a13, show nI (opn L + 1) + 1 = nI (opn L + 2) from ixA (a := opn L + 1) (b := 1) rfl (ixC 1), eow]
  have hT1 : ∀ j, j < 5 * t.1 → j ≠ 5 * e.1 + 3 → M2 1 j = M 1 j := fun j hj h3 => by
    rw [eX, zup_r (by decide), zup_r (by decide), zup_r (by decide), zup_r (by decide), zup_r (by decide), zup_ne _ _ _ _ (Or.inr h3), zup_ne _ _ _ _ (by omega), zup_ne _ _ _ _ (by omega), p1' j hj, zup_r (by decide)]
  have hTe : M2 1 (5 * e.1 + 3) = nI t.1 := by rw [eX, zup_r (by decide), zup_r (by decide), zup_r (by decide), zup_r (by decide), zup_r (by decide), zup_at]
  have hTc : M2 1 (5 * t.1) = nI 16 ∧ M2 1 (5 * t.1 + 1) = nI v ∧ M2 1 (5 * t.1 + 2) = -9 ∧ M2 1 (5 * t.1 + 3) = M 1 (5 * e.1 + 3) ∧ M2 1 (5 * t.1 + 4) = nI w := by
    rw [eX, zup_r (show (1 : Nat) ≠ 0 by decide), zup_r (show (1 : Nat) ≠ 10 by decide), zup_r (show (1 : Nat) ≠ 9 by decide), zup_r (show (1 : Nat) ≠ 8 by decide), zup_r (show (1 : Nat) ≠ 7 by decide)]
    refine ⟨?_, ?_, ?_, ?_, ?_⟩
    · rw [zup_ne _ _ _ _ (by omega), zup_ne _ _ _ _ (by omega), zup_ne _ _ _ _ (by omega)]; exact p2'
    · rw [zup_ne _ _ _ _ (by omega), zup_ne _ _ _ _ (by omega), zup_ne _ _ _ _ (by omega)]; exact p3'
    · rw [zup_ne _ _ _ _ (by omega), zup_ne _ _ _ _ (by omega), zup_ne _ _ _ _ (by omega)]; exact p4'
    · rw [zup_ne _ _ _ _ (by omega), zup_ne _ _ _ _ (by omega), zup_at]
    · rw [zup_ne _ _ _ _ (by omega), zup_at]
  have hr : ∀ r, r ≠ 0 → r ≠ 1 → r ≠ 7 → r ≠ 8 → r ≠ 9 → r ≠ 10 → M2 r = M r := fun r h0 h1 h7 h8 h9 h10 => by
    rw [eX, zup_r h0, zup_r h10, zup_r h9, zup_r h8, zup_r h7, zup_r h1, zup_r h1, zup_r h1, hr0 r h0 h1]
  have h0j : ∀ j, j ≠ 1 → j ≠ 13 → j ≠ 14 → j ≠ 16 → M2 0 j = M 0 j := fun j a e b c => by
    rw [eX, zup_ne _ _ _ _ (Or.inr e), zup_r (by decide), zup_r (by decide), zup_r (by decide), zup_r (by decide), zup_r (by decide), zup_r (by decide), zup_r (by decide), eP, pmake_0 a c, zup_ne _ _ _ _ (Or.inr b)]
  have s7 : (∀ j, j ≠ opn L + 1 → M2 7 j = M 7 j) ∧ M2 7 (opn L + 1) = nI t.1 := by
    constructor
    · intro j hj
      rw [eX, zup_r (by decide), zup_r (by decide), zup_r (by decide), zup_r (by decide), zup_ne _ _ _ _ (Or.inr hj), zup_r (by decide), zup_r (by decide), zup_r (by decide), hr0 7 (by decide) (by decide)]
    · rw [eX, zup_r (by decide), zup_r (by decide), zup_r (by decide), zup_r (by decide), zup_at]
  have s8 : (∀ j, j ≠ opn L + 1 → M2 8 j = M 8 j) ∧ M2 8 (opn L + 1) = 0 := by
    constructor
    · intro j hj
      rw [eX, zup_r (by decide), zup_r (by decide), zup_r (by decide), zup_ne _ _ _ _ (Or.inr hj), zup_r (by decide), zup_r (by decide), zup_r (by decide), zup_r (by decide), hr0 8 (by decide) (by decide)]
    · rw [eX, zup_r (by decide), zup_r (by decide), zup_r (by decide), zup_at]
  have s9 : (∀ j, j ≠ opn L + 1 → M2 9 j = M 9 j) ∧ M2 9 (opn L + 1) = C 7 L.length ||| 1 <<< (nI v &&& 31) := by
    constructor
    · intro j hj
      rw [eX, zup_r (by decide), zup_r (by decide), zup_ne _ _ _ _ (Or.inr hj), zup_r (by decide), zup_r (by decide), zup_r (by decide), zup_r (by decide), zup_r (by decide), hr0 9 (by decide) (by decide)]
    · rw [eX, zup_r (by decide), zup_r (by decide), zup_at]
  have s10 : (∀ j, j ≠ opn L + 1 → M2 10 j = M 10 j) ∧ M2 10 (opn L + 1) = ow := by
    constructor
    · intro j hj
      rw [eX, zup_r (by decide), zup_ne _ _ _ _ (Or.inr hj), zup_r (by decide), zup_r (by decide), zup_r (by decide), zup_r (by decide), zup_r (by decide), zup_r (by decide), hr0 10 (by decide) (by decide)]
    · rw [eX, zup_r (by decide), zup_at]
  have hse := hFr.1 e.1 b1 b2 (by rw [b3, k15]; decide)
  obtain ⟨sz2, st14, st13⟩ := hse.2.2.2 (by rw [b3, k15])
  have oF : ∀ y, y ≠ t.2.1 e.1 + 2 → F y = f y := fun y hy => by rw [hF]; exact zup_r hy
  have oFw : ∀ j, j ≠ w → F (t.2.1 e.1 + 2) j = f (t.2.1 e.1 + 2) j := fun j hj => by rw [hF]; exact zup_ne _ _ _ _ (Or.inr hj)
  have hAt : AG b0 fs t.1 (fun n => n ≠ e.1) g f (M 1) t g F (M2 1) (tN t 0 (fun _ => False) False) := by
    refine ⟨zLe.rf, fun n n0' n1 hn => ⟨fun h => ⟨rfl, ?_⟩, fun h => ⟨rfl, ?_⟩⟩, fun n _ h => hT1 _ (by omega) (by omega), fun n _ h hn j hj => hT1 _ (by omega) (by omega), fun n _ h h16 hq j hj => hT1 _ (by omega) ?_, fun n _ h => tN_o h, hb⟩
    · refine oF _ (fun z => ?_)
      have := (hFr.1 n n0' n1 h).2.2.1
      rw [z, st13] at this
      exact absurd this (by decide)
    · have h16 : ¬ M 1 (5 * n) = nI 16 := by rw [h]; decide
      refine oF _ (fun z => ?_)
      rcases Nat.lt_or_gt_of_ne hn with q | q
      · have := hFr.2 n e.1 n0' q b2 h16 (by rw [b3, k15]; decide); omega
      · have := hFr.2 e.1 n b1 q n1 (by rw [b3, k15]; decide) h16; omega
    · by_cases z : n = e.1
      · subst z; rw [b3, k15] at h16; exact absurd h16 (by decide)
      · omega
  have hAl : AG b0 fs e.1 (fun n => n ≠ e.1) g f (M 1) t g F (M2 1) (tN t 0 (fun _ => False) False) := ⟨hAt.1, fun n a b c => hAt.2.1 n a (by omega) c, fun n a b => hAt.2.2.1 n a (by omega), fun n a b c => hAt.2.2.2.1 n a (by omega) c, fun n a b c => hAt.2.2.2.2.1 n a (by omega) c, fun n a b => hAt.2.2.2.2.2.1 n a (by omega), by omega⟩
  have e1 : (tN t 0 (fun _ => False) False).2.1 e.1 = t.2.1 e.1 := (tN_o b2).1
  have e2 : (tN t 0 (fun _ => False) False).2.2.1 e.1 = t.2.2.1 e.1 := (tN_o b2).2.1
  have e3 : (tN t 0 (fun _ => False) False).2.2.2 e.1 = t.2.2.2 e.1 := (tN_o b2).2.2
  have ct : ¬ t.1 = 0 := by omega
  refine ⟨⟨⟨⟨b1, Nat.lt_succ_of_lt b2, ?_, (by decide : 2 ≤ 15), Nat.le_refl 15⟩, ⟨?_, ?_, ?_, fun (z : 15 = 8 ∨ 15 = 10 ∨ 15 = 11 ∨ 15 = 13) => by omega⟩, ⟨fun (z : 15 = 8) => absurd z (by decide), fun (z : 15 = 10 ∨ 15 = 11) => by omega, fun (z : 15 = 13) => absurd z (by decide)⟩, ⟨fun i a b => ?_, Or.inr ⟨rfl, rfl⟩, fun i a b => ?_⟩, fun (z : 15 = 14) => absurd z (by decide), fun z => absurd rfl z, fun _ => ?_, fun _ => ⟨⟨rfl, rfl⟩, b2, Nat.lt_succ_self _, hTc.1, hTc.2.2.1, hTc.2.2.2.2, hw, hTe, v, hv, hTc.2.1, ?_⟩⟩, ⟨⟨⟨?_, ?_, ?_, ?_⟩, ⟨?_, ?_⟩, ⟨?_, ?_⟩, fun z => absurd z ct, fun _ => ⟨hC1.2.2.2.1.1, s7.2, s8.2, s9.2.trans hC1.2.2.2.2.1.symm, ?_, ?_, fun z => ?_⟩⟩, fun z => absurd rfl z⟩, ?_⟩, ⟨c0.at (hC1.1 1 (by decide) (by decide) (by decide)) (h0j 8 (by decide) (by decide) (by decide) (by decide)) (hr 6 (by decide) (by decide) (by decide) (by decide) (by decide) (by decide)), ⟨hC1.2.1.trans c1, ?_, ?_, ?_, ?_⟩, ⟨hk4.2, by show fs ≤ t.1 + 1; omega, by show t.1 + 1 ≤ fs + k4; omega, by omega, ?_, c11⟩, hC1.2.2.1.trans c12, ?_⟩, ?_, ?_, ?_, ?_⟩
  · show M2 1 (5 * e.1) = nI 15
    rw [hT1 _ (by omega) (by omega), ← k15]; exact b3
  · show n0 ≤ (tN t 0 (fun _ => False) False).2.1 e.1
    rw [e1]; exact p1
  · show zIn b0 g ((tN t 0 (fun _ => False) False).2.1 e.1) 1
    rw [e1]; exact p2
  · show F ((tN t 0 (fun _ => False) False).2.1 e.1) 0 = sgn 15
    rw [e1, oF _ (by omega), ← k15]; exact p3
  · have a : i < 1 := a
    have h0 := f1 i (by omega) b
    rw [k15] at h0
    refine ⟨fun z => ?_, fun z => ?_⟩
    · obtain ⟨mm, m1, m2, m3, m4, m5, m6, m7⟩ := h0.1 z
      have m2 : mm < t.1 := m2
      refine ⟨mm, m1, Nat.lt_succ_of_lt m2, (hT1 _ (by omega) (by omega)).trans m3, by rw [hT1 _ (by omega) (by omega)]; exact m4, ?_, ?_, ?_⟩
      · show g.2.2.2 ((tN t 0 (fun _ => False) False).2.1 e.1) (2 + i) = some ((tN t 0 (fun _ => False) False).2.1 mm)
        rw [e1, (tN_o m2).1]; exact m5
      · show ∀ y, (tN t 0 (fun _ => False) False).2.2.1 mm y → (tN t 0 (fun _ => False) False).2.2.1 e.1 y ∨ (15 = 8 ∧ i = 1 ∧ y < 26 ∧ M2 1 (5 * e.1 + 1) = nI y)
        rw [e2, (tN_o m2).2.1]
        intro y hy
        exact (m6 y hy).imp id (fun z => absurd z.1 (by decide))
      · show (tN t 0 (fun _ => False) False).2.2.2 mm → (tN t 0 (fun _ => False) False).2.2.2 e.1
        rw [e3, (tN_o m2).2.2]; exact m7
    · show g.2.2.2 ((tN t 0 (fun _ => False) False).2.1 e.1) (2 + i) = none
      rw [e1]; exact h0.2 z
  · have a : 1 ≤ i := a
    show g.2.2.2 ((tN t 0 (fun _ => False) False).2.1 e.1) (2 + i) = _
    rw [e1]
    refine (f3 i (by omega) b).trans ?_
    rw [if_neg (fun z => z.2 ⟨k15, kp⟩)]
    exact (if_neg (fun z => z.2 ⟨rfl, rfl⟩)).symm
  · show HP b0 g F (M2 1) (t.1 + 1, (tN t 0 (fun _ => False) False).2) e.1 ((tN t 0 (fun _ => False) False).2.1 e.1) t.1 w none
    rw [e1]
    have hcl' : ∀ q ∈ qs, ∀ j, j < 5 → M2 1 (5 * q + j) = M 1 (5 * q + j) := fun q hq => (q4 q hq).cl hAt b1
    refine ⟨⟨q51, q52, q53, q54, q55, q56⟩, qs, ?_, ?_, fun q hq => ?_, fun w' hw' hq => ?_, fun _ q hq => ?_⟩
    · rw [if_neg ct, hTc.2.2.2.1]
      exact chC_fr qs _ q2 (fun q hq => hcl' q hq 3 (by omega))
    · have e4 : qs.map (fun q => tn (M2 1 (5 * q + 4))) = qs.map (fun q => tn (M 1 (5 * q + 4))) := List.map_congr_left (fun q hq => by rw [hcl' q hq 4 (by omega)])
      rw [e4]; exact q3
    · obtain ⟨y1, y2, y3, w', b, v', y4, y5, y6, y7, y8, y9, y10, y11, y12, y13, y14, y15⟩ := q4 q hq
      have y2 : q < t.1 := y2
      have y7 : b < t.1 := y7
      have rq := hcl' q hq
      refine ⟨y1, Nat.lt_succ_of_lt y2, (rq 0 (by omega)).trans y3, w', b, v', y4, (rq 4 (by omega)).trans y5, y6, Nat.lt_succ_of_lt y7, (rq 2 (by omega)).trans y8, by rw [hT1 _ (by omega) (by omega)]; exact y9, y10, (rq 1 (by omega)).trans y11, ?_, ?_, ?_, ?_⟩
      · show g.2.2.2 (t.2.1 e.1 + 1) w' = some ((tN t 0 (fun _ => False) False).2.1 b)
        rw [(tN_o y7).1]; exact y12
      · rw [oFw w' (fun z => hnw q hq (by rw [y5, z]))]; exact y13
      · show ∀ y, (tN t 0 (fun _ => False) False).2.2.1 b y → (tN t 0 (fun _ => False) False).2.2.1 e.1 y ∨ y = v'
        rw [(tN_o y7).2.1, e2]; exact y14
      · show (tN t 0 (fun _ => False) False).2.2.2 b → w' < 6 ∨ (tN t 0 (fun _ => False) False).2.2.2 e.1
        rw [(tN_o y7).2.2, e3]; exact y15
    · have := q5 w' hw' (fun q hq' z => hq q hq' ((hcl' q hq' 4 (by omega)).trans z))
      rw [if_neg (fun z => z.1 rfl)] at this
      rw [this]
      split <;> rfl
    · rw [hcl' q hq 4 (by omega)]; exact hnw q hq
  · show F ((tN t 0 (fun _ => False) False).2.1 e.1 + 2) w = nI v
    rw [e1, hF]; exact zup_at _ _ _ _
  · rw [s7.1 _ (by omega)]; exact r1
  · show M2 8 (opn L) = nI 1
    rw [s8.1 _ (by omega), ← kp]; exact r2
  · rw [s9.1 _ (by omega), hC1.2.2.2.2.2 _ (by omega)]; exact r3
  · rw [s10.1 _ (by omega), hR1.2.1 _ (by omega)]; exact r4.fr hAt (Nat.le_of_lt b2)
  · show R1 4 (L.length + 1) = some ((tN t 0 (fun _ => False) False).2.1 e.1)
    rw [hR1.1 4 (by decide), e1]; exact r5
  · show C1 5 (L.length + 1) = nI 1
    rw [hC1.1 5 (by decide) (by decide) (by decide), show nI 1 = nI e.2.2.1 from (congrArg nI kp).symm]; exact r6
  · show ∀ y, ml (C1 7 L.length) y ↔ (tN t 0 (fun _ => False) False).2.2.1 e.1 y
    rw [hC1.2.2.2.2.2 _ (by omega), e2]; exact r7
  · show ¬ R1 8 L.length = none ↔ (tN t 0 (fun _ => False) False).2.2.2 e.1
    rw [hR1.2.1 _ (by omega), e3]; exact r8
  · show OC (M2 1) (tN t 0 (fun _ => False) False) fs t.1 (M2 10 (opn L + 1)) (R1 8 (L.length + 1))
    rw [s10.2, hR1.2.2, eow]
    by_cases q : w = 6
    · rw [if_pos (hrw.mpr q), if_pos q]
      have h0 := r4.fr hAt (Nat.le_of_lt b2)
      refine h0.imp id ?_
      rintro ⟨hh, w1, w2, w3⟩
      exact ⟨hh, w1, by omega, w3⟩
    · rw [if_neg (fun z => q (hrw.mp z)), if_neg q]
      refine Or.inr ⟨e.1, b1, b2, ?_, ixA (a := e.1) (b := 1) rfl (ixC 1), congrArg some e1.symm⟩
      rw [hT1 _ (by omega) (by omega), ← k15]; exact b3
  · show C1 7 (L.length + 1) = C1 7 L.length ||| 1 <<< (M2 1 (5 * t.1 + 1) &&& 31)
    rw [hC1.2.2.2.2.1, hC1.2.2.2.2.2 _ (by omega), hTc.2.1]
  · show R1 8 (L.length + 1) = R1 8 L.length
    rw [hR1.2.2, if_pos z, hR1.2.1 _ (by omega)]
  · show STK b0 n0 fs g F R1 C1 M2 (tN t 0 (fun _ => False) False) L e.1 (some ((tN t 0 (fun _ => False) False).2.1 e.1))
    rw [e1]
    exact STK.fr (P := fun n => n ≠ e.1) L e.1 e.1 _ h3 hAl (fun n hn => by omega) (Nat.le_refl _) ⟨fun j hj => ⟨congrFun (hR1.1 4 (by decide)) j, hR1.2.1 j (by omega), congrFun (hC1.1 5 (by decide) (by decide) (by decide)) j, hC1.2.2.2.1.2 j (by omega), hC1.2.2.2.2.2 j (by omega)⟩, fun j hj => ⟨s7.1 j (by omega), s8.1 j (by omega), s9.1 j (by omega), s10.1 j (by omega)⟩⟩
  · rw [eX, zup_ne _ _ _ _ (by omega), zup_r (by decide), zup_r (by decide), zup_r (by decide), zup_r (by decide), zup_r (by decide), zup_r (by decide), zup_r (by decide)]; exact p8'
  · rw [eX, zup_ne _ _ _ _ (by omega), zup_r (by decide), zup_r (by decide), zup_r (by decide), zup_r (by decide), zup_r (by decide), zup_r (by decide), zup_r (by decide), p9', zup_ne _ _ _ _ (by omega), c3, if_pos rfl]
    exact Int32.add_zero _
  · rw [eX, zup_ne _ _ _ _ (by omega), zup_r (by decide), zup_r (by decide), zup_r (by decide), zup_r (by decide), zup_r (by decide), zup_r (by decide), zup_r (by decide), eP, pmake_0 (by decide) (by decide), zup_at]
  · rw [h0j 15 (by decide) (by decide) (by decide) (by decide)]; exact c5
  · show opn L + (if t.1 = 0 then 1 else 2) ≤ k4
    rw [if_neg ct]; omega
  · rw [eX, zup_at]
    show nI (opn L + 2) = nI (opn L + (if t.1 = 0 then 1 else 2))
    rw [if_neg ct]
  · obtain ⟨g1, g2, g3, g4⟩ := hN
    refine ⟨fun n a b => ?_, fun i hi => ?_, fun n a b c => ?_, fun _ => ?_⟩
    · have b : n < t.1 + 1 := b
      by_cases q : n = t.1
      · subst q; exact Or.inr (Or.inl hTc.1)
      · have b' : n < t.1 := by omega
        rcases g1 n a b' with q | q | ⟨κ, q1, q2, q3, q4⟩
        · obtain ⟨e', w1, w2⟩ := q
          rcases List.mem_cons.mp w1 with rfl | w1
          · exact Or.inl ⟨_, List.mem_cons_self .., w2⟩
          · exact Or.inl ⟨e', List.mem_cons_of_mem _ w1, w2⟩
        · exact Or.inr (Or.inl ((hT1 _ (by omega) (by omega)).trans q))
        · by_cases z : n = e.1
          · exact Or.inl ⟨_, List.mem_cons_self .., z.symm⟩
          · exact Or.inr (Or.inr ⟨κ, q1, (hT1 _ (by omega) (by omega)).trans q2, q3.fr q2 q1 hAt a b' z (Nat.le_succ _) q4, by rw [hT1 _ (by omega) (by omega)]; exact q4⟩)
    · obtain ⟨n, q1, q2, q3, q4⟩ := g2 i hi
      exact ⟨n, q1, Nat.lt_succ_of_lt q2, by rw [hT1 _ (by omega) (by omega)]; exact q3, by rw [hR1.1 3 (by decide), (tN_o q2).1]; exact q4⟩
    · have b : n < t.1 + 1 := b
      by_cases q : n = t.1
      · subst q; exact absurd hTc.1 c
      · have b' : n < t.1 := by omega
        rw [hT1 _ (by omega) (by omega)] at c
        obtain ⟨i, i1, i2⟩ := g3 n a b' c
        exact ⟨i, i1, by rw [hR1.1 3 (by decide), (tN_o b').1]; exact i2⟩
    · obtain ⟨w1, w2, w3⟩ := g4 (by omega)
      exact ⟨w1, by rw [hR1.1 3 (by decide), (tN_o (by omega)).1]; exact w2, by rw [hT1 _ (by omega) (by omega)]; exact w3⟩
  · refine ⟨fun n a b c => ?_, fun n n' a b c d e' => ?_⟩
    · have b : n < t.1 + 1 := b
      by_cases q : n = t.1
      · subst q; exact absurd hTc.1 c
      · have b' : n < t.1 := by omega
        rw [hT1 _ (by omega) (by omega)] at c ⊢
        rw [(tN_o b').1]
        exact hFr.1 n a b' c
    · have c : n' < t.1 + 1 := c
      by_cases q : n' = t.1
      · subst q; exact absurd hTc.1 e'
      · have c' : n' < t.1 := by omega
        rw [hT1 _ (by omega) (by omega)] at d e'
        rw [(tN_o c').1, (tN_o (by omega)).1]
        exact hFr.2 n n' a b c' d e'
  · obtain ⟨⟨k1, k2'⟩, k3, k4', k5, k6, k7, k8⟩ := hK
    refine ⟨⟨k1, fun y hy => ⟨(k2' y hy).1, (oF y (by omega)).trans (k2' y hy).2⟩⟩, fun r a b c d => (hC1.1 r a c d).trans (k3 r a b c d), fun r a b c => (hR1.1 r c).trans (k4' r a b c), (hR1.2.1 0 (by omega)).trans k5, k6, k7, fun j => ?_⟩
    show iv 7 (C1 6 j)
    by_cases z : j = L.length + 1
    · rw [z, hC1.2.2.2.1.1]; exact iv_nI hw (by decide)
    · rw [hC1.2.2.2.1.2 j z]; exact k8 j
  · rw [eX]
    refine MB.z (MB.z (MB.z (MB.z (MB.z (MB.z (MB.z (MB.z ?_ (by omega)) (by omega)) (by omega)) (by omega)) (by omega)) (by omega)) (by omega)) (by omega)
    refine ⟨fun r a0 a1 a7 a8 a9 a10 => ?_, fun j b1 b2 b3 b4 b5 b6 => ?_, fun j hj => ?_⟩
    · rw [hr0 r a0 a1]; exact hMB.1 r a0 a1 a7 a8 a9 a10
    · rw [eP, pmake_0 b1 b5, zup_ne _ _ _ _ (Or.inr b3)]; exact hMB.2.1 j b1 b2 b3 b4 b5 b6
    · rw [p1' j (by omega), zup_r (by decide)]; exact hMB.2.2 j hj
end CLAU
