/-! A text is read, in both: blanks, faults, what one round of the reference does. -/
def mk (how : Int32) : Int32 := if how = 1 then 8388608 else 0
/-- the text was read so, in both -/
def RES (b0 n0 fs : Nat) (S0 : bSt) (M0 : zI) (len : Nat) (t0 : zTs) (w : Int32) (q : bSt × Int32) (N : zI) : Prop :=
  KB S0 q.1 ∧ MB fs M0 (pparN N) ∧ pat N ∧ q.2 = (pparN N) 0 15 ∧ (q.2 = -9 → ∃ (t : zTs) (m : Nat), fs < t.1 ∧ t.1 ≤ fs + len ∧ m ≤ len ∧ NDS b0 n0 fs q.1.1 q.1.2.2.1 q.1.2.1 (pparN N) t [] m ∧ FRS S0.1.1 fs q.1.1 (pparN N) t ∧ q.1.2.2.2 2 1 = nI m ∧ (pparN N) 0 1 = nI t.1 ∧ (pparN N) 0 16 = nI m ∧
    (∀ n, n < fs → t.2.1 n = t0.2.1 n ∧ t.2.2.1 n = t0.2.2.1 n ∧ t.2.2.2 n = t0.2.2.2 n) ∧ WTx ((pparN N) 1) t.1 fs len ∧ (∀ y, t.2.2.1 fs y → ml w y) ∧ (t.2.2.2 fs → ¬ q.1.2.1 8 0 = none))
def TE (t0 : zTs) (fs : Nat) (t : zTs) : Prop := ∀ n, n < fs → t.2.1 n = t0.2.1 n ∧ t.2.2.1 n = t0.2.2.1 n ∧ t.2.2.2 n = t0.2.2.2 n
/-- no digit goes on -/
def ND (len : Nat) (C : zI) (k : Nat) : Prop := k < len → ¬ (dgt (C 1 k) ∧ 0 < C 2 3 ∧ C 2 3 < 3)
theorem bepA_70 {f : zI} {R : zRf} : ∀ (n : Nat) (C : zI), bepA f R n C 7 0 = C 7 0 := by
  intro n
  induction n with
  | zero => intro C; exact zup_ne _ _ _ _ (by omega)
  | succ n ih =>
    intro C
    unfold bepA
    repeat' split
    · rw [zup_ne _ _ _ _ (by omega), zup_ne _ _ _ _ (by omega)]
    · rw [zup_ne _ _ _ _ (by omega), zup_ne _ _ _ _ (by omega), zup_ne _ _ _ _ (by omega)]
    · rw [zup_ne _ _ _ _ (by omega), zup_ne _ _ _ _ (by omega)]
    · rw [ih, zup_ne _ _ _ _ (by omega), zup_ne _ _ _ _ (by omega)]
section TOKS
variable {b0 n0 fs : Nat} {S0 : bSt} {M0 : zI} {len : Nat} {tx : Nat → Nat} {g : zG} {f : zI} {R : zRf} {t t0 : zTs} {m k : Nat} {how : Int32}
theorem PS.mvk {C M : zI} {L : List Ent} {nx : Option Nat} {k' : Nat} (h : PS b0 n0 fs S0 M0 len tx g f R C M t L m k nx) (hk : k ≤ k' ∧ k' ≤ len) : PS b0 n0 fs S0 M0 len tx g f R C (zup M 0 14 (nI k')) t L m k' nx := by
  obtain ⟨k1, ⟨c0, ⟨c1, c2, c3, c4, c5⟩, ⟨c6, c7, c8, c9, c10, c11⟩, c12, c13⟩, k3, k4, k5, k12⟩ := h
  have hl := c0.1
  have hb : t.1 ≤ 65536 := by omega
  have r : ∀ r, r ≠ 0 → zup M 0 14 (nI k') r = M r := fun r hr => zup_r hr
  have z : ∀ j, j ≠ 14 → zup M 0 14 (nI k') 0 j = M 0 j := fun j hj => zup_ne _ _ _ _ (Or.inr hj)
  refine ⟨STK.fr (P := fun _ => True) L t.1 t.1 nx k1 (by rw [r 1 (by decide)]; exact AG.rf hb) (fun _ _ => trivial) (Nat.le_refl _) ⟨fun j _ => ⟨rfl, rfl, rfl, rfl, rfl⟩, fun j _ => ?_⟩, ⟨c0.at rfl (z 8 (by decide)) (r 6 (by decide)), ⟨c1, (z 1 (by decide)).trans c2, (z 16 (by decide)).trans c3, zup_at _ _ _ _, (z 15 (by decide)).trans c5⟩, ⟨hk.2, c7, by omega, by omega, by omega, c11⟩, c12, (z 13 (by decide)).trans c13⟩, ?_, ?_, k5, k12.z (by omega)⟩
  · rw [r 7 (by decide), r 8 (by decide), r 9 (by decide), r 10 (by decide)]
    exact ⟨rfl, rfl, rfl, rfl⟩
  · unfold NDS at k3 ⊢
    rw [r 1 (by decide)]; exact k3
  · unfold FRS at k4 ⊢
    rw [r 1 (by decide)]; exact k4
theorem PS.skip {C M : zI} {L : List Ent} (h : PS b0 n0 fs S0 M0 len tx g f R C M t L m k none) (hnd : ND len C k) : ∃ C' k', k ≤ k' ∧ k' ≤ len ∧ (∀ r, r ≠ 2 → C' r = C r) ∧ (∀ j, j ≠ 3 → C' 2 j = C 2 j) ∧ PS b0 n0 fs S0 M0 len tx g f R C' (zup M 0 14 (nI k')) t L m k' none ∧ brd len (len - k) k (g, R, f, C) = brd len (len - k') k' (g, R, f, C') ∧
    ND len C' k' ∧ pskip M = zup M 0 14 (nI k') ∧ phere (pskip M) = (if k' < len then nI (tx k') else 0) ∧ (k' < len → ¬ tx k' = 32 ∧ 32 ≤ tx k' ∧ tx k' ≤ 126 ∧ C' 1 k' = nI (tx k')) := by
  have hT := h.2.1.1
  have hk := h.2.1.2.2.1.1
  have h14 : M 0 14 = nI k := h.2.1.2.1.2.2.2.1
  have hl := hT.1
  obtain ⟨C', c1, c2, c3, c4⟩ := brd_nb (g := g) (R := R) (f := f) 121 k C hT hk
  have hle := nbk_ge (len := len) (tx := tx) 121 k
  have hle2 := nbk_le (len := len) (tx := tx) 121 k hk
  have hnb := nbk_nb (len := len) (tx := tx) 121 k hk (by omega)
  have hr : ∀ r, r ≠ 2 → C' r = C r := fun r hr => by
    rcases c1 with c1 | c1 <;> rw [c1]
    exact zup_r hr
  have hj : ∀ j, j ≠ 3 → C' 2 j = C 2 j := fun j hj => by
    rcases c1 with c1 | c1 <;> rw [c1]
    exact zup_ne _ _ _ _ (Or.inr hj)
  have es := pskip_e hT h14 hk
  have hP := (h.cc hr (hj 1 (by decide)) (hj 9 (by decide))).mvk (k' := nbk len tx 121 k) ⟨hle, hle2⟩
  refine ⟨C', nbk len tx 121 k, hle, hle2, hr, hj, hP, c4, fun hlt => ?_, es, ?_, fun hlt => ⟨fun z => hnb ⟨hlt, z⟩, (hT.2.2 _ hlt).2.2.1, (hT.2.2 _ hlt).2.2.2, by rw [hr 1 (by decide)]; exact (hT.2.2 _ hlt).1⟩⟩
  · by_cases q : nbk len tx 121 k = k
    · rw [q] at hlt ⊢
      rw [c2 q]; exact hnd hlt
    · rw [c3 (by omega)]
      rintro ⟨-, z, -⟩
      rw [zup_at] at z
      exact absurd z (by decide)
  · rw [es]
    exact phere_e hP.2.1.1 (zup_at _ _ _ _) hle2
/-- a fault, in both -/
theorem FLT {q : bSt × Int32} {N : zI} {kk : Nat} (hq : q.2 = nI kk) (hk : kk ≤ 120) (hK : KB S0 q.1) (hN : N 0 15 = nI kk) (hM : MB fs M0 N) (hp : pat N) : RES b0 n0 fs S0 M0 len t0 (mk how) q N ∧ ∀ j mm, pparV how (j + 1) mm N ∧ ppar how (j + 1) mm N = N := by
  have n9 : ¬ nI kk = -9 := (iv_nI (N := 200) (by omega) (by decide)).nn (by decide)
  have e : pparN N = N := if_neg (by rw [hN]; exact n9)
  refine ⟨⟨hK, by rw [e]; exact hM, hp, by rw [e, hN]; exact hq, fun z => absurd (hq.symm.trans z) n9⟩, fun j mm => ⟨fun _ z => absurd (hN.symm.trans z) n9, ?_⟩⟩
  show (if mm = 0 then N else if ¬ N 0 15 = -9 then N else _) = N
  by_cases z : mm = 0
  · rw [if_pos z]
  · rw [if_neg z, if_pos (by rw [hN]; exact n9)]
/-- where a round of the reference begins -/
theorem AW.pre {C M : zI} {L : List Ent} (h : PS b0 n0 fs S0 M0 len tx g f R C M t L m k none) : pbeginsV M ∧ (¬ M 0 13 = 0 → pnz M ∧ iv 65000 (M 7 (ptop M))) := by
  obtain ⟨p1, p2, p3⟩ := h.pat
  obtain ⟨hS, ⟨c0, ⟨-, c2, -⟩, ⟨c6, c7, c8, c9, c10, c11⟩, -, c13⟩, -⟩ := h
  have hl := c0.1
  refine ⟨⟨p1, by rw [c2]; exact iv_nI (by omega) (by decide), by rw [c13]; exact iv_nI (by omega) (by decide)⟩, fun hz => ?_⟩
  have hpos : 0 < opn L := by
    rcases Nat.eq_zero_or_pos (opn L) with q | q
    · rw [c13, q] at hz; exact absurd rfl hz
    · exact q
  have hL : L ≠ [] := fun z => by subst z; exact absurd hpos (Nat.lt_irrefl 0)
  obtain ⟨q1, q2⟩ := hS.top (by omega) hpos
  have hpt : ptop M = opn L - 1 := by unfold ptop; rw [c13, tn_nI (by omega)]
  exact ⟨p3 hL, by rw [hpt]; exact q1.mono (by decide)⟩
theorem AW.flt {C M N : zI} {L : List Ent} {j kk : Nat} (h : PS b0 n0 fs S0 M0 len tx g f R C M t L m k none) (hB : (pparB M how).2 = N) (hN : N 0 15 = nI kk) (hk : kk ≤ 120) (hV : pparV how (j + 1) 1 N ∧ ppar how (j + 1) 1 N = N) : pparV how (j + 2) 1 M ∧ ppar how (j + 2) 1 M = N := by
  have n9 : ¬ N 0 15 = -9 := by rw [hN]; exact (iv_nI (N := 200) (by omega) (by decide)).nn (by decide)
  have h15 : M 0 15 = -9 := h.2.1.2.1.2.2.2.2
  obtain ⟨a1, a2⟩ := AW.pre h
  have hw : ¬ ((pparB M how).2 0 15 = -9 ∧ ¬ (pparB M how).1 = 0) := fun z => n9 (by rw [← hB]; exact z.1)
  refine ⟨fun _ _ => ⟨a1, a2, fun z => absurd z hw, fun _ => by rw [hB]; exact hV.1⟩, ?_⟩
  show (if (1 : Int32) = 0 then M else if ¬ M 0 15 = -9 then M else if (pparB M how).2 0 15 = -9 ∧ ¬ (pparB M how).1 = 0 then _ else ppar how (j + 1) 1 (pparB M how).2) = N
  rw [if_neg (by decide), if_neg (fun z => z h15), if_neg hw, hB]
  exact hV.2
theorem AW.ope {C M N : zI} {L : List Ent} {j : Nat} (h : PS b0 n0 fs S0 M0 len tx g f R C M t L m k none) (hB : pparB M how = (0, N)) (hV : pparV how j 1 N) : pparV how (j + 1) 1 M ∧ ppar how (j + 1) 1 M = ppar how j 1 N := by
  have h15 : M 0 15 = -9 := h.2.1.2.1.2.2.2.2
  obtain ⟨a1, a2⟩ := AW.pre h
  have hw : ¬ ((pparB M how).2 0 15 = -9 ∧ ¬ (pparB M how).1 = 0) := fun z => z.2 (by rw [hB])
  refine ⟨fun _ _ => ⟨a1, a2, fun z => absurd z hw, fun _ => by rw [hB]; exact hV⟩, ?_⟩
  show (if (1 : Int32) = 0 then M else if ¬ M 0 15 = -9 then M else if (pparB M how).2 0 15 = -9 ∧ ¬ (pparB M how).1 = 0 then _ else ppar how j 1 (pparB M how).2) = _
  rw [if_neg (by decide), if_neg (fun z => z h15), if_neg hw, hB]
theorem AW.whl {C M N : zI} {L : List Ent} {j : Nat} (h : PS b0 n0 fs S0 M0 len tx g f R C M t L m k none) (hB : pparB M how = (1, N)) (hN : N 0 15 = -9) (hT : 0 < N 0 13 → pnz N ∧ iv 64990 (N 7 (ptop N)) ∧ iv 3 (N 8 (ptop N))) (hG : pgoesV pgf (pparT N)) (hV : pparV how j (pgoes pgf (pparT N)).1 (pgoes pgf (pparT N)).2) : pparV how (j + 1) 1 M ∧ ppar how (j + 1) 1 M = ppar how j (pgoes pgf (pparT N)).1 (pgoes pgf (pparT N)).2 := by
  have h15 : M 0 15 = -9 := h.2.1.2.1.2.2.2.2
  obtain ⟨a1, a2⟩ := AW.pre h
  have hw : (pparB M how).2 0 15 = -9 ∧ ¬ (pparB M how).1 = 0 := by rw [hB]; exact ⟨hN, show ¬ (1 : Int32) = 0 by decide⟩
  refine ⟨fun _ _ => ⟨a1, a2, fun _ => by rw [hB]; exact ⟨hT, hG, hV⟩, fun z => absurd hw z⟩, ?_⟩
  show (if (1 : Int32) = 0 then M else if ¬ M 0 15 = -9 then M else if (pparB M how).2 0 15 = -9 ∧ ¬ (pparB M how).1 = 0 then ppar how j (pgoes pgf (pparT (pparB M how).2)).1 (pgoes pgf (pparT (pparB M how).2)).2 else _) = _
  rw [if_neg (by decide), if_neg (fun z => z h15), if_pos hw, hB]
/-- what surrounds the next expression, in both -/
theorem AW.mask {C M : zI} {L : List Ent} (h : PS b0 n0 fs S0 M0 len tx g f R C M t L m k none) (hL : NX L ∨ L = []) (h70 : C 7 0 = (if how = 1 then 8388608 else 0)) (h80 : R 8 0 = none) : pparV0 M how = C 7 L.length ∧ OC (M 1) t fs t.1 (pparR0 M) (R 8 L.length) := by
  obtain ⟨hS, ⟨c0, -, ⟨c6, c7, c8, c9, c10, c11⟩, -, c13⟩, -⟩ := h
  have hl := c0.1
  unfold pparV0 pparR0
  cases L with
  | nil =>
    have c13 : M 0 13 = 0 := c13
    rw [if_pos c13, if_pos c13]
    exact ⟨h70.symm, Or.inl ⟨rfl, h80⟩⟩
  | cons e L =>
    have hn : ¬ (e.2.1 = 15 ∧ e.2.2.1 = 1 ∧ e.2.2.2.1 = 0) := by
      rcases hL with ⟨e', L', q1, q2⟩ | q
      · cases q1; exact q2
      · cases q
    obtain ⟨h1, ⟨⟨⟨r1, r2, r3, r4⟩, -, -, r9, r10⟩, -⟩, -⟩ := hS
    have b2 : e.1 < t.1 := h1.1.2.1
    have b5 := h1.1.2.2.2.2
    have b4 := h1.1.2.2.2.1
    have hpos : ¬ M 0 13 = 0 := by
      rw [c13]
      intro z
      have : opn (e :: L) = 0 := (nI_eq (b := 0) (by omega) (by decide)).mp z
      have h2 : opn (e :: L) = opn L + (if e.2.2.2.1 = 0 then 1 else 2) := rfl
      rw [h2] at this; split at this <;> omega
    rw [if_neg hpos, if_neg hpos]
    unfold pboundNext
    by_cases cz : e.2.2.2.1 = 0
    · have hpt : ptop M = opn L := by
        have h2 : opn (e :: L) = opn L + 1 := by show opn L + (if e.2.2.2.1 = 0 then 1 else 2) = _; rw [if_pos cz]
        unfold ptop; rw [c13, h2, tn_nI (by omega)]; omega
      obtain ⟨w1, w2⟩ := r9 cz (fun z => hn ⟨z.1, z.2, cz⟩)
      rw [hpt, r1, r2, r3, pkind_n (by omega), h1.1.2.2.1, parg_n (by omega)]
      refine ⟨?_, ?_⟩
      · show _ = C 7 (L.length + 1)
        rw [w1]
        by_cases q : e.2.1 = 8 ∧ e.2.2.1 = 1
        · rw [if_pos q, if_pos (show nI e.2.1 = 8 ∧ nI e.2.2.1 = 1 by rw [q.1, q.2]; exact ⟨rfl, rfl⟩)]
        · rw [if_neg q, if_neg (fun z : nI e.2.1 = 8 ∧ nI e.2.2.1 = 1 => q ⟨(nI_eq (b := 8) (by omega) (by decide)).mp z.1, (nI_eq (b := 1) (by
            have := (sgn_p e.2.1 (by omega) b4).2.2.2.2.2
            rcases h1.2.2.2.1.2.1 with w | w <;> omega) (by decide)).mp z.2⟩)]
          exact Int32.or_zero
      · show OC (M 1) t fs t.1 (M 10 (opn L)) (R 8 (L.length + 1))
        rw [w2]
        refine r4.imp id ?_
        rintro ⟨h, y1, y2, y3⟩
        exact ⟨h, y1, by omega, y3⟩
    · obtain ⟨w1, w2, w3, w4, w5, w6, w7⟩ := r10 cz
      obtain ⟨u0, u1, u2, u3, -⟩ := h1.2.2.2.2.2.2.2 cz
      have u2 : e.2.2.2.1 < t.1 := u2
      have hpt : ptop M = opn L + 1 := by
        have h2 : opn (e :: L) = opn L + 2 := by show opn L + (if e.2.2.2.1 = 0 then 1 else 2) = _; rw [if_neg cz]
        unfold ptop; rw [c13, h2, tn_nI (by omega)]; omega
      rw [hpt, w2, w3, w4, pkind_n (by omega), u3]
      refine ⟨?_, ?_⟩
      · rw [if_neg (fun z : nI 16 = 8 ∧ (0 : Int32) = 1 => absurd z.2 (by decide))]
        exact Int32.or_zero
      · show OC (M 1) t fs t.1 (M 10 (opn L + 1)) (R 8 (L.length + 1))
        refine w5.imp id ?_
        rintro ⟨h, y1, y2, y3⟩
        exact ⟨h, y1, by omega, y3⟩
/-- the text's end -/
theorem PS.ends {C M : zI} (h : PS b0 n0 fs S0 M0 len tx g f R C M t [] m k none) (hnd : ND len C k) (h2 : C 2 2 = 5) (hft : fs < t.1) (ht : TE t0 fs t) (hW : SW fs (M 1) [] t.1 k) (hD : (∀ y, t.2.2.1 fs y → ml (C 7 0) y) ∧ (t.2.2.2 fs → ¬ R 8 0 = none)) (h70 : C 7 0 = mk how) : RES b0 n0 fs S0 M0 len t0 (mk how) (brd len (len - k) k (g, R, f, C)) M := by
  obtain ⟨C', k', a1, a2, a3, a4, a5, a6, a7, a8, a9, a10⟩ := h.skip hnd
  have h15 : M 0 15 = -9 := h.2.1.2.1.2.2.2.2
  have hl := h.2.1.1.1
  have e14 : pskip M 0 14 = nI k' := by rw [a8, zup_at]
  have e8 : pskip M 0 8 = nI len := by rw [a8, zup_ne _ _ _ _ (by omega)]; exact h.2.1.1.2.1
  have e15 : pskip M 0 15 = -9 := by rw [a8, zup_ne _ _ _ _ (by omega)]; exact h15
  have hMBs : MB fs M0 (pskip M) := by rw [a8]; exact a5.2.2.2.2.2
  rw [a6]
  by_cases q : k' < len
  · obtain ⟨b1, b2, b3, b4⟩ := a10 q
    have hpN : pparN M = pfails (pskip M) := by
      unfold pparN
      rw [if_pos h15, if_pos (by rw [e14, e8]; exact nI_lt q (by omega))]
    have hb : bacc g R f C' (C' 1 k') (tn (C' 2 9)) (tn (C' 2 1)) = ((g, R, f, zup C' 2 3 0), 0) := by
      have c5 : C' 2 2 = 5 := (a4 2 (by decide)).trans h2
      exact bacc_5 (by rw [c5]; decide) (by rw [c5]; decide) (by rw [c5]; decide) (by rw [c5]; decide) (by rw [c5]; decide)
    have hbr : brd len (len - k') k' (g, R, f, C') = ((g, R, f, zup C' 2 3 0), nI k') := by
      rw [show len - k' = len - k' - 1 + 1 by omega, brd_0 (by rw [b4]; exact fun z => b1 ((nI_eq (b := 32) (by omega) (by decide)).mp z)) (a7 q) ⟨rfl, rfl⟩ (by rw [hb]), hb]
    rw [hbr]
    have n9 : ¬ nI k' = -9 := (iv_nI (N := 200) (by omega) (by decide)).nn (by decide)
    have ef : pfails (pskip M) 0 15 = nI k' := by
      unfold pfails
      rw [zup_at, if_pos e15, e14]
    refine ⟨(a5.cc (C' := zup C' 2 3 0) (fun r hr => zup_r hr) (zup_ne _ _ _ _ (by omega)) (zup_ne _ _ _ _ (by omega))).2.2.2.2.1, ?_, h.pat.1, by rw [hpN, ef], fun z => absurd z n9⟩
    rw [hpN]
    unfold pfails
    exact hMBs.z (by omega)
  · obtain rfl : k' = len := by omega
    have hpN : pparN M = pskip M := by
      unfold pparN
      rw [if_pos h15, if_neg (by rw [e14, e8]; exact nI_nlt (Nat.le_refl _) (by omega))]
    have hbr : brd k' (k' - k') k' (g, R, f, C') = ((g, R, f, C'), -9) := by
      rw [Nat.sub_self]
      show ((g, R, f, C'), if C' 2 2 = 5 then (-9 : Int32) else nI k') = _
      rw [if_pos ((a4 2 (by decide)).trans h2)]
    rw [hbr]
    refine ⟨a5.2.2.2.2.1, by rw [hpN]; exact hMBs, h.pat.1, by rw [hpN, e15], fun _ => ⟨t, m, hft, a5.2.1.2.2.1.2.2.1, a5.2.1.2.2.1.2.2.2.1, ?_, ?_, ?_, ?_, ?_, ht, ?_, by rw [← h70]; exact hD.1, hD.2⟩⟩
    · rw [hpN, a8]; exact a5.2.2.1
    · rw [hpN, a8]; exact a5.2.2.2.1
    · exact a5.2.1.2.1.1
    · rw [hpN, a8]; exact a5.2.1.2.1.2.1
    · rw [hpN, a8]; exact a5.2.1.2.1.2.2.1
    · rw [hpN, a8, zup_r (by decide)]
      rcases hW with z | z
      · exact absurd z (by omega)
      · exact z.up (Nat.le_refl _) (by omega) (fun _ _ _ => rfl)
end TOKS
