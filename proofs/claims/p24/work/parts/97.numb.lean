/-! A text is read, in both: what goes on behind a part; numbers. -/
theorem bepA_fr {f F : zI} {R : zRf} : ∀ (n : Nat) (C : zI), (∀ d, 1 ≤ d → d ≤ n → F ((R 4 d).getD 0) = f ((R 4 d).getD 0)) → bepA F R n C = bepA f R n C := by
  intro n
  induction n with
  | zero => intro C _; rfl
  | succ n ih =>
    intro C h
    have h1 := h (n + 1) (by omega) (Nat.le_refl _)
    unfold bepA
    rw [h1, ih _ (fun d a b => h d a (by omega))]
theorem dgtI {x : Nat} (hx : x ≤ 126) : dgt (nI x) ↔ 48 ≤ x ∧ x ≤ 57 := by
  have a : nI x < 48 ↔ x < 48 := nI_ltI (b := 48) (by omega) (by decide)
  have b : 57 < nI x ↔ 57 < x := nI_ltI (a := 57) (by decide) (by omega)
  show (¬ nI x < 48 ∧ ¬ 57 < nI x) ↔ _
  rw [a, b]
  omega
theorem ltrI {x : Nat} (hx : x ≤ 126) : ltr (nI x) ↔ 97 ≤ x ∧ x ≤ 122 := by
  have a : nI x < 97 ↔ x < 97 := nI_ltI (b := 97) (by omega) (by decide)
  have b : 122 < nI x ↔ 122 < x := nI_ltI (a := 122) (by decide) (by omega)
  show (¬ nI x < 97 ∧ ¬ 122 < nI x) ↔ _
  rw [a, b]
  omega
section NUMB
variable {b0 n0 fs : Nat} {S0 : bSt} {M0 : zI} {len : Nat} {tx : Nat → Nat} {g : zG} {f : zI} {R : zRf} {t t0 : zTs} {m k : Nat} {how : Int32}
/-- the reading from an expression on, from a clause on, of the rest of r bytes -/
def AWp (b0 n0 fs : Nat) (S0 : bSt) (M0 : zI) (len : Nat) (tx : Nat → Nat) (t0 : zTs) (how : Int32) (r : Nat) : Prop := ∀ (g : zG) (f : zI) (R : zRf) (C M : zI) (t : zTs) (L : List Ent) (m k j : Nat), PS b0 n0 fs S0 M0 len tx g f R C M t L m k none → (NX L ∨ L = []) → bot L t.1 = fs → C 2 2 = 0 → ND len C k → C 7 0 = (if how = 1 then 8388608 else 0) → TE t0 fs t → SW fs (M 1) L t.1 k → len - k ≤ r → r + 3 ≤ j →
  pparV how j 1 M ∧ RES b0 n0 fs S0 M0 len t0 (mk how) (brd len (len - k) k (g, R, f, C)) (ppar how j 1 M)
def CPp (b0 n0 fs : Nat) (S0 : bSt) (M0 : zI) (len : Nat) (tx : Nat → Nat) (t0 : zTs) (how : Int32) (r : Nat) : Prop := ∀ (g : zG) (f : zI) (R : zRf) (C M : zI) (t : zTs) (L : List Ent) (m k i j : Nat), PS b0 n0 fs S0 M0 len tx g f R C M t L m k none → NC L → bot L t.1 = fs → C 2 2 = 4 → ND len C k → C 7 0 = (if how = 1 then 8388608 else 0) → TE t0 fs t → SW fs (M 1) L t.1 k → len - k ≤ r → opn L + 2 ≤ i → r + 2 ≤ j →
  pgoesV i M ∧ pparV how j (pgoes i M).1 (pgoes i M).2 ∧ RES b0 n0 fs S0 M0 len t0 (mk how) (brd len (len - k) k (g, R, f, C)) (ppar how j (pgoes i M).1 (pgoes i M).2)
theorem CLO.go {C' N : zI} {i j r : Nat} (hA : AWp b0 n0 fs S0 M0 len tx t0 how r) (hC : CPp b0 n0 fs S0 M0 len tx t0 how r) (h : CLO b0 n0 fs S0 M0 len tx g f R C' t m k i N) (hnd : ND len C' k) (h70 : C' 7 0 = (if how = 1 then 8388608 else 0)) (hte : TE t0 fs t) (hr : len - k ≤ r) (hj : r + 3 ≤ j) :
    pgoesV i N ∧ pparV how j (pgoes i N).1 (pgoes i N).2 ∧ RES b0 n0 fs S0 M0 len t0 (mk how) (brd len (len - k) k (g, R, f, C')) (ppar how j (pgoes i N).1 (pgoes i N).2) := by
  obtain ⟨M', L', hP, hw, h⟩ := h
  rcases h with ⟨a1, a2, a3, a4, a5, a6⟩ | ⟨a1, a2, a3, a4, a5⟩ | ⟨a1, a2, a3, i', a4, a5, a6⟩
  · obtain ⟨j, rfl⟩ : ∃ j', j = j' + 1 := ⟨j - 1, by omega⟩
    subst a2
    rw [a4]
    refine ⟨a5, fun z => absurd rfl z, ?_⟩
    show RES b0 n0 fs S0 M0 len t0 (mk how) _ (if (0 : Int32) = 0 then M' else _)
    rw [if_pos rfl]
    exact hP.ends hnd a1 a3 hte hw a6 h70
  · rw [a4]
    obtain ⟨b1, b2⟩ := hA g f R C' M' t L' m k j hP (Or.inl a2) a3 a1 hnd h70 hte hw hr hj
    exact ⟨a5, b1, b2⟩
  · obtain ⟨b1, b2, b3⟩ := hC g f R C' M' t L' m k i' j hP a2 a3 a1 hnd h70 hte hw hr a4 (by omega)
    rw [a5]
    exact ⟨a6 b1, b2, b3⟩
theorem CLO.cc {C' C'' N : zI} {i : Nat} (h : CLO b0 n0 fs S0 M0 len tx g f R C' t m k i N) (hr : ∀ r, r ≠ 2 → C'' r = C' r) (hj : ∀ j, j ≠ 3 → C'' 2 j = C' 2 j) : CLO b0 n0 fs S0 M0 len tx g f R C'' t m k i N := by
  obtain ⟨M', L', hP, hw, h⟩ := h
  refine ⟨M', L', hP.cc hr (hj 1 (by decide)) (hj 9 (by decide)), hw, ?_⟩
  rw [hj 2 (by decide), hr 7 (by decide)]
  exact h
/-- the digits that go on, in both -/
theorem DIG {a0 : Nat} (hR3 : R 3 m = some a0) : ∀ (d cnt p a : Nat) (F C M : zI), cnt + d = 3 → 1 ≤ cnt → TX len tx C M → M 0 14 = nI p → p ≤ len → F a0 1 = nI a → C 2 3 = nI cnt → C 2 1 = nI (m + 1) → m < 1000 →
    ∃ p' a' cnt', p ≤ p' ∧ p' ≤ len ∧ (p' ≤ p + d ∧ a' < (a + 1) * 10 ^ (p' - p)) ∧ prnA d (nI a) M = (nI a', zup M 0 14 (nI p')) ∧ brd len (len - p) p (g, R, F, C) = brd len (len - p') p' (g, R, zup F a0 1 (nI a'), zup C 2 3 (nI cnt')) ∧ ND len (zup C 2 3 (nI cnt')) p' := by
  intro d
  induction d with
  | zero =>
    intro cnt p a F C M hc h1 hT h14 hp hF h3 h21 hm
    refine ⟨p, a, cnt, Nat.le_refl _, hp, ⟨by omega, by rw [Nat.sub_self]; omega⟩, ?_, ?_, fun _ z => ?_⟩
    · show (nI a, M) = _
      rw [zup_self h14]
    · rw [zup_self hF, zup_self h3]
    · have z3 := z.2.2
      rw [zup_at] at z3
      have : cnt < 3 := (nI_ltI (b := 3) (by omega) (by decide)).mp z3
      omega
  | succ d ih =>
    intro cnt p a F C M hc h1 hT h14 hp hF h3 h21 hm
    have hl := hT.1
    have hph := phere_e hT h14 hp
    by_cases q : p < len ∧ 48 ≤ tx p ∧ tx p ≤ 57
    · obtain ⟨q1, q2, q3⟩ := q
      obtain ⟨t1, t2, t3, t4⟩ := hT.2.2 p q1
      rw [if_pos q1] at hph
      have hdg : dgt (nI (tx p)) := (dgtI t4).mpr ⟨q2, q3⟩
      have hcond : ¬ (phere M < 48 ∨ 57 < phere M) := by
        rw [hph]
        exact fun z => z.elim hdg.1 hdg.2
      have e1 : 10 * nI a + phere M - 48 = nI (10 * a + tx p - 48) := by
        rw [hph]
        exact ixS (ixA (ixM (a := 10) rfl rfl) rfl) (ixC 48) (by omega)
      have e2 : F a0 1 * 10 + (nI (tx p) - 48) = nI (10 * a + tx p - 48) := by
        rw [hF]
        refine (ixA (ixM rfl (ixC 10)) (ixS rfl (ixC 48) q2)).trans (congrArg nI (by omega))
      have e14 : patn M = zup M 0 14 (nI (p + 1)) := by
        unfold patn
        rw [h14]
        exact congrArg (zup M 0 14) (ixA (a := p) (b := 1) rfl (ixC 1))
      have epr : prnA (d + 1) (nI a) M = prnA d (nI (10 * a + tx p - 48)) (zup M 0 14 (nI (p + 1))) := by
        show (if phere M < 48 ∨ 57 < phere M then (nI a, M) else prnA d (10 * nI a + phere M - 48) (patn M)) = _
        rw [if_neg hcond, e1, e14]
      have hx : nI cnt + 1 = nI (cnt + 1) := ixA (a := cnt) (b := 1) rfl (ixC 1)
      have hbr : brd len (len - p) p (g, R, F, C) = brd len (len - (p + 1)) (p + 1) (g, R, zup F a0 1 (nI (10 * a + tx p - 48)), zup C 2 3 (nI (cnt + 1))) := by
        rw [show len - p = len - (p + 1) + 1 by omega, brd_d (n := tn (C 2 9)) (m := m + 1) (by rw [t1]; exact fun z => absurd ((nI_eq (b := 32) (by omega) (by decide)).mp z) (by omega)) ⟨by rw [t1]; exact hdg, by rw [h3]; exact nI_lt (a := 0) (by omega) (by omega), by rw [h3]; exact nI_lt (b := 3) (by omega) (by decide)⟩ ⟨rfl, by rw [h21]; exact tn_nI (by omega)⟩]
        unfold bdig
        rw [if_pos (by rw [h21]; exact nI_lt (a := 0) (by omega) (by omega)), Nat.add_sub_cancel, hR3, t1, h3, hx]
        show brd len _ _ (g, R, zup F a0 1 (F a0 1 * 10 + (nI (tx p) - 48)), _) = _
        rw [e2]
      obtain ⟨p', a', cnt', b1, b2, bb, b3, b4, b5⟩ := ih (cnt + 1) (p + 1) (10 * a + tx p - 48) (zup F a0 1 (nI (10 * a + tx p - 48))) (zup C 2 3 (nI (cnt + 1))) (zup M 0 14 (nI (p + 1))) (by omega) (by omega) (hT.at (zup_r (by decide)) (zup_ne _ _ _ _ (by omega)) (zup_r (by decide))) (zup_at _ _ _ _) (by omega) (zup_at _ _ _ _) (zup_at _ _ _ _) ((zup_ne _ _ _ _ (by omega)).trans h21) hm
      rw [zup_zup] at b3
      rw [zup_zup, zup_zup] at b4
      rw [zup_zup] at b5
      refine ⟨p', a', cnt', by omega, b2, ⟨by omega, ?_⟩, epr.trans b3, hbr.trans b4, b5⟩
      have h10 : (10 * a + tx p - 48 + 1) * 10 ^ (p' - (p + 1)) ≤ (10 * (a + 1)) * 10 ^ (p' - (p + 1)) := Nat.mul_le_mul_right _ (by omega)
      have h11 : (a + 1) * 10 ^ (p' - p) = (10 * (a + 1)) * 10 ^ (p' - (p + 1)) := by
        rw [show p' - p = p' - (p + 1) + 1 by omega, Nat.pow_succ, Nat.mul_comm 10 (a + 1), Nat.mul_assoc, Nat.mul_comm 10 (10 ^ _)]
      rw [h11]
      exact Nat.lt_of_lt_of_le bb.2 h10
    · have hcond : phere M < 48 ∨ 57 < phere M := by
        rw [hph]
        by_cases z : p < len
        · rw [if_pos z]
          obtain ⟨t1, t2, t3, t4⟩ := hT.2.2 p z
          have hnd : ¬ dgt (nI (tx p)) := fun y => q ⟨z, (dgtI t4).mp y⟩
          by_cases y : nI (tx p) < 48
          · exact Or.inl y
          · exact Or.inr (Classical.byContradiction (fun w => hnd ⟨y, w⟩))
        · rw [if_neg z]; exact Or.inl (by decide)
      refine ⟨p, a, cnt, Nat.le_refl _, hp, ⟨by omega, by rw [Nat.sub_self]; omega⟩, ?_, ?_, fun hlt z => ?_⟩
      · show (if phere M < 48 ∨ 57 < phere M then (nI a, M) else _) = _
        rw [if_pos hcond, zup_self h14]
      · rw [zup_self hF, zup_self h3]
      · obtain ⟨t1, t2, t3, t4⟩ := hT.2.2 p hlt
        have z1 := z.1
        rw [zup_r (by decide), t1] at z1
        exact q ⟨hlt, (dgtI t4).mp z1⟩
theorem STK.op {C M : zI} : ∀ (L : List Ent) (ub : Nat) (nx : Option Nat), STK b0 n0 fs g f R C M t L ub nx → ∀ d, 1 ≤ d → d ≤ L.length → (R 4 d).getD 0 < g.1 := by
  intro L
  induction L with
  | nil => intro ub nx _ d h1 h2; exact absurd h2 (by show ¬ d ≤ 0; omega)
  | cons e L ih =>
    intro ub nx h d h1 h2
    by_cases q : d = L.length + 1
    · rw [q, h.2.1.1.2.1.1]
      exact h.1.2.1.2.1.2.1
    · exact ih _ _ h.2.2 d h1 (by have h2 : d ≤ L.length + 1 := h2; omega)
theorem ATT.topv {C M : zI} {L : List Ent} {x : Nat} (h : ATT b0 n0 fs S0 M0 len tx g f R C M t L m k x) : 0 < M 0 13 → pnz M ∧ iv 64990 (M 7 (ptop M)) ∧ iv 3 (M 8 (ptop M)) := by
  intro hz
  have hP := h.1
  obtain ⟨-, -, p3⟩ := hP.pat
  obtain ⟨hS, ⟨c0, -, ⟨c6, c7, c8, c9, c10, c11⟩, -, c13⟩, -⟩ := hP
  have hl := c0.1
  have hpos : 0 < opn L := by
    rw [c13] at hz
    exact (nI_ltI (a := 0) (by decide) (by omega)).mp hz
  have hL : L ≠ [] := fun z => by subst z; exact absurd hpos (Nat.lt_irrefl 0)
  have hpt : ptop M = opn L - 1 := by unfold ptop; rw [c13, tn_nI (by omega)]
  rw [hpt]
  exact ⟨p3 hL, hS.top (by omega) hpos⟩
theorem pparT_e {N : zI} {x : Nat} (h : N 0 17 = nI x) : pparT N = pattA N x := by
  unfold pparT pattA
  rw [h]
end NUMB
