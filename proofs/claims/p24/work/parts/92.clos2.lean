/-! A text is read, in both: closing, entry by entry. -/
/-- x, whole, is to become a part of what is open -/
def ATT (b0 n0 fs : Nat) (S0 : bSt) (M0 : zI) (len : Nat) (tx : Nat → Nat) (g : zG) (f : zI) (R : zRf) (C M : zI) (t : zTs) (L : List Ent) (m k x : Nat) : Prop :=
  PS b0 n0 fs S0 M0 len tx g f R C M t L m k (some (t.2.1 x)) ∧ (fs ≤ x ∧ x < t.1 ∧ ¬ M 1 (5 * x) = nI 16) ∧ (∀ e ∈ L, e.1 < x ∧ e.2.2.2.1 < x) ∧ bot L x = fs ∧ (∀ y, t.2.2.1 x y → ml (C 7 L.length) y) ∧ (t.2.2.2 x → ¬ R 8 L.length = none)
/-- the text is at its end, an expression is due, a clause is due -/
def NX (L : List Ent) : Prop := ∃ e L', L = e :: L' ∧ ¬ (e.2.1 = 15 ∧ e.2.2.1 = 1 ∧ e.2.2.2.1 = 0)
def NC (L : List Ent) : Prop := ∃ e L', L = e :: L' ∧ (e.2.1 = 15 ∧ e.2.2.1 = 1 ∧ e.2.2.2.1 = 0)
def CLO (b0 n0 fs : Nat) (S0 : bSt) (M0 : zI) (len : Nat) (tx : Nat → Nat) (g : zG) (f : zI) (R : zRf) (C' : zI) (t : zTs) (m k i : Nat) (N : zI) : Prop :=
  ∃ M' L', PS b0 n0 fs S0 M0 len tx g f R C' M' t L' m k none ∧ SW fs (M' 1) L' t.1 k ∧
    ((C' 2 2 = 5 ∧ L' = [] ∧ fs < t.1 ∧ pgoes i N = (0, M') ∧ pgoesV i N ∧ (∀ y, t.2.2.1 fs y → ml (C' 7 0) y) ∧ (t.2.2.2 fs → ¬ R 8 0 = none)) ∨
     (C' 2 2 = 0 ∧ NX L' ∧ bot L' t.1 = fs ∧ pgoes i N = (1, M') ∧ pgoesV i N) ∨
     (C' 2 2 = 4 ∧ NC L' ∧ bot L' t.1 = fs ∧ ∃ i', opn L' + 2 ≤ i' ∧ pgoes i N = pgoes i' M' ∧ (pgoesV i' M' → pgoesV i N)))
theorem bepA_23 {f : zI} {R : zRf} : ∀ (n : Nat) (C : zI), bepA f R n C 2 3 = C 2 3 := by
  intro n
  induction n with
  | zero => intro C; exact zup_ne _ _ _ _ (by omega)
  | succ n ih =>
    intro C
    unfold bepA
    repeat' split
    · rw [zup_ne _ _ _ _ (by omega), zup_ne _ _ _ _ (by omega)]
    · rw [zup_ne _ _ _ _ (by omega), zup_ne _ _ _ _ (by omega), zup_ne _ _ _ _ (by omega)]
    · rw [zup_ne _ _ _ _ (by omega), zup_ne _ _ _ _ (by omega)]
    · rw [ih, zup_ne _ _ _ _ (by omega), zup_ne _ _ _ _ (by omega)]
section CLOS2
variable {b0 n0 fs : Nat} {S0 : bSt} {M0 : zI} {len : Nat} {tx : Nat → Nat} {g : zG} {f : zI} {R : zRf} {t : zTs} {m k : Nat}
/-- only the reader's numbers change -/
theorem PS.cc {C C' M : zI} {L : List Ent} {nx : Option Nat} (h : PS b0 n0 fs S0 M0 len tx g f R C M t L m k nx) (hr : ∀ r, r ≠ 2 → C' r = C r) (h1 : C' 2 1 = C 2 1) (h9 : C' 2 9 = C 2 9) : PS b0 n0 fs S0 M0 len tx g f R C' M t L m k nx := by
  obtain ⟨k1, ⟨c1, ⟨c2, c3, c4, c5, c6⟩, c7, c8, c9⟩, k3, k4, ⟨k5, k6, k7, k8, k9, k10, k11⟩, k12⟩ := h
  have hl := c1.1
  have hb : t.1 ≤ 65536 := by omega
  refine ⟨STK.fr (P := fun _ => True) L t.1 t.1 nx k1 (AG.rf hb) (fun _ _ => trivial) (Nat.le_refl _) ⟨fun j _ => ?_, fun j _ => ⟨rfl, rfl, rfl, rfl⟩⟩, ⟨c1.at (hr 1 (by decide)) rfl rfl, ⟨h1.trans c2, c3, c4, c5, c6⟩, c7, h9.trans c8, c9⟩, k3, k4, ⟨k5, fun r a b c d => (hr r a).trans (k6 r a b c d), k7, k8, k9, k10, fun j => ?_⟩, k12⟩
  · rw [hr 5 (by decide), hr 6 (by decide), hr 7 (by decide)]
    exact ⟨rfl, rfl, rfl, rfl, rfl⟩
  · show iv 7 (C' 6 j)
    rw [hr 6 (by decide)]; exact k11 j
theorem PS.pat {C M : zI} {L : List Ent} {nx : Option Nat} (h : PS b0 n0 fs S0 M0 len tx g f R C M t L m k nx) : pat M ∧ iv 131 (M 0 13) ∧ (L ≠ [] → pnz M) := by
  obtain ⟨-, ⟨⟨c0, c1, -⟩, ⟨-, -, -, c5, -⟩, ⟨c7, -, -, -, c11, -⟩, -, c9⟩, -⟩ := h
  refine ⟨⟨by rw [c5]; exact iv_nI (by omega) (by decide), by rw [c1]; exact iv_nI (by omega) (by decide)⟩, by rw [c9]; exact iv_nI (by omega) (by decide), fun hL => ⟨by rw [c9]; exact iv_nI (by omega) (by decide), ?_⟩⟩
  rw [c9, tn_nI (by omega)]
  cases L with
  | nil => exact absurd rfl hL
  | cons e L => show 0 < opn L + _; split <;> omega
/-- a part is entered into the tree: nothing else changes -/
theorem NDS.fr {M M' : zI} {L L' : List Ent} {z : Nat} (h : NDS b0 n0 fs g f R M t L m) (hb : t.1 ≤ 65536) (hz : z < t.1) (hz2 : M 1 (5 * z) = nI 16 → M 1 (5 * z + 2) = -9) (hT : ∀ j, (j < 5 * z + 2 ∨ 5 * z + 4 < j) → M' 1 j = M 1 j)
    (hL : ∀ n, (∃ e ∈ L, e.1 = n) → (∃ e ∈ L', e.1 = n) ∨ ∃ k, k ≤ 15 ∧ M' 1 (5 * n) = nI k ∧ EN b0 n0 g f (M' 1) (t.1, t.2) k n ∧ (k = 14 → ∃ h, fs ≤ h ∧ h < n ∧ M' 1 (5 * n + 4) = nI h)) (hzL : ¬ M 1 (5 * z) = nI 16 → ∃ e ∈ L, e.1 = z) : NDS b0 n0 fs g f R M' t L' m := by
  obtain ⟨h1, h2, h3, h4⟩ := h
  have hk : ∀ n, M' 1 (5 * n) = M 1 (5 * n) := fun n => hT _ (by omega)
  have hA : AG b0 fs t.1 (fun n => n ≠ z) g f (M 1) t g f (M' 1) t := ⟨zLe.rf, fun _ _ _ _ => ⟨fun _ => ⟨rfl, rfl⟩, fun _ => ⟨rfl, rfl⟩⟩, fun n _ _ => hk n, fun n _ _ hn j hj => hT _ (by omega), fun n _ _ h16 hn j hj => by
    by_cases q : n = z
    · subst q
      rcases hn with hn | hn
      · exact absurd rfl hn
      · exact absurd (hz2 h16) hn
    · exact hT _ (by omega), fun _ _ _ => ⟨rfl, rfl, rfl⟩, hb⟩
  refine ⟨fun n n0' n1 => ?_, fun i hi => ?_, fun n n0' n1 n2 => ?_, fun q => ?_⟩
  · rcases h1 n n0' n1 with q | q | ⟨κ, q1, q2, q3, q4⟩
    · rcases hL n q with q | q
      · exact Or.inl q
      · exact Or.inr (Or.inr q)
    · exact Or.inr (Or.inl ((hk n).trans q))
    · by_cases e : n = z
      · subst e
        rcases hL n (hzL (fun z => absurd ((nI_eq (by omega) (by decide)).mp (q2.symm.trans z)) (by omega))) with q | q
        · exact Or.inl q
        · exact Or.inr (Or.inr q)
      · refine Or.inr (Or.inr ⟨κ, q1, (hk n).trans q2, q3.fr q2 q1 hA n0' n1 e (Nat.le_refl _) q4, fun w => ?_⟩)
        rw [hA.2.2.2.1 n n0' n1 e 4 (by omega)]; exact q4 w
  · obtain ⟨n, q1, q2, q3, q4⟩ := h2 i hi
    exact ⟨n, q1, q2, by rw [hk]; exact q3, q4⟩
  · rw [hk] at n2; exact h3 n n0' n1 n2
  · rw [hk]; exact h4 q
theorem FRS.fr {s0 : Nat} {M M' : zI} (h : FRS s0 fs g M t) (hk : ∀ n, M' 1 (5 * n) = M 1 (5 * n)) : FRS s0 fs g M' t := by
  refine ⟨fun n a b c => ?_, fun n n' a b c d e => ?_⟩
  · rw [hk] at c ⊢; exact h.1 n a b c
  · rw [hk] at d e; exact h.2 n n' a b c d e
theorem MB.z {M N : zI} {r j : Nat} {x : Int32} (h : MB fs M N) (c : (r = 0 ∧ (j = 1 ∨ j = 13 ∨ j = 14 ∨ j = 15 ∨ j = 16 ∨ j = 17)) ∨ (r = 1 ∧ 5 * fs ≤ j) ∨ r = 7 ∨ r = 8 ∨ r = 9 ∨ r = 10) : MB fs M (zup N r j x) := by
  refine ⟨fun q a0 a1 a7 a8 a9 a10 => ?_, fun q b1 b2 b3 b4 b5 b6 => ?_, fun q hq => ?_⟩
  · rw [zup_r (by omega)]; exact h.1 q a0 a1 a7 a8 a9 a10
  · rw [zup_ne _ _ _ _ (by omega)]; exact h.2.1 q b1 b2 b3 b4 b5 b6
  · rw [zup_ne _ _ _ _ (by omega)]; exact h.2.2 q hq
theorem KB.z {S : bSt} {C : zI} {r j : Nat} {x : Int32} (h : KB S (g, R, f, C)) (c : r = 2 ∨ r = 5 ∨ r = 7) : KB S (g, R, f, zup C r j x) := by
  obtain ⟨k5, k6, k7, k8, k9, k10, k11⟩ := h
  exact ⟨k5, fun q a b e d => (zup_r (by omega)).trans (k6 q a b e d), k7, k8, k9, k10, fun q => by show iv 7 (zup C r j x 6 q); rw [zup_r (by omega)]; exact k11 q⟩
theorem STK.top {C M : zI} {L : List Ent} {ub : Nat} {nx : Option Nat} (h : STK b0 n0 fs g f R C M t L ub nx) (hu : ub ≤ 64980) (hL : 0 < opn L) : iv 64990 (M 7 (opn L - 1)) ∧ iv 3 (M 8 (opn L - 1)) := by
  cases L with
  | nil => exact absurd hL (Nat.lt_irrefl 0)
  | cons e L =>
    obtain ⟨h1, ⟨⟨⟨r1, r2, -⟩, -, -, -, r10⟩, -⟩, -⟩ := h
    have b2 : e.1 < ub := h1.1.2.1
    have hari := (sgn_p e.2.1 (by have := h1.1.2.2.2.2; omega) h1.1.2.2.2.1).2.2.2.2.2
    show iv 64990 (M 7 (opn L + (if e.2.2.2.1 = 0 then 1 else 2) - 1)) ∧ iv 3 (M 8 (opn L + (if e.2.2.2.1 = 0 then 1 else 2) - 1))
    by_cases cz : e.2.2.2.1 = 0
    · rw [if_pos cz, Nat.add_sub_cancel, r1, r2]
      refine ⟨iv_nI (by omega) (by decide), iv_nI ?_ (by decide)⟩
      rcases h1.2.2.2.1.2.1 with q | q <;> omega
    · obtain ⟨-, w2, w3, -⟩ := r10 cz
      have u2 : e.2.2.2.1 < ub := (h1.2.2.2.2.2.2.2 cz).2.2.1
      rw [if_neg cz, show opn L + 2 - 1 = opn L + 1 by omega, w2, w3]
      exact ⟨iv_nI (by omega) (by decide), ⟨by decide, by decide⟩⟩
theorem STK.P3 {C M : zI} : ∀ (L : List Ent) (ub : Nat) (nx : Option Nat), STK b0 n0 fs g f R C M t L ub nx → P3 L := by
  intro L
  induction L with
  | nil => intro ub nx _ e he; cases he
  | cons e L ih =>
    intro ub nx h e' he'
    rcases List.mem_cons.mp he' with rfl | he'
    · obtain ⟨⟨⟨-, -, -, -, b5⟩, -, -, ⟨-, f2, -⟩, -⟩, -⟩ := h
      have := ari_3 e'.2.1 b5
      omega
    · exact ih _ _ h.2.2 e' he'
theorem PS.P3 {C M : zI} {L : List Ent} {nx : Option Nat} (h : PS b0 n0 fs S0 M0 len tx g f R C M t L m k nx) : P3 L := h.1.P3
set_option maxHeartbeats 4000000 in
/-- closing: what was read to its end becomes a part, and so what that ends -/
theorem ATT.clo : ∀ (L : List Ent) (i : Nat) (C M : zI) (x : Nat), opn L + 2 ≤ i → ATT b0 n0 fs S0 M0 len tx g f R C M t L m k x → ATW fs (M 1) L t.1 x k → CLO b0 n0 fs S0 M0 len tx g f R (bepA f R L.length C) t m k i (pattA M x) := by
  intro L
  induction L with
  | nil =>
    intro i C M x hi h hW
    obtain ⟨hPS, ⟨x1, x2, x3⟩, -, hbo, hbd, hrs⟩ := h
    have hbo' : x = fs := hbo
    have h13 : M 0 13 = nI 0 := hPS.2.1.2.2.2.2
    obtain ⟨j, rfl⟩ : ∃ j, i = j + 1 := ⟨i - 1, by have hi : 0 + 2 ≤ i := hi; omega⟩
    have n0' : ¬ 0 < M 0 13 := by rw [h13]; decide
    have e1 : pattA M x = M := if_neg n0'
    have hP2 : PS b0 n0 fs S0 M0 len tx g f R (bepA f R 0 C) M t [] m k none := by
      obtain ⟨-, k2⟩ := hPS
      exact PS.cc (C := C) ⟨trivial, k2⟩ (fun r hr => zup_r hr) (zup_ne _ _ _ _ (by omega)) (zup_ne _ _ _ _ (by omega))
    rw [e1]
    refine ⟨M, [], hP2, ?_, Or.inl ⟨zup_at _ _ _ _, rfl, by omega, if_pos n0', ⟨hP2.pat.1, hP2.pat.2.1, fun q => ?_⟩, fun y hy => by
      have e7 : bepA f R ([] : List Ent).length C 7 0 = C 7 0 := zup_ne _ _ _ _ (by omega)
      rw [e7]
      rw [← hbo'] at hy
      exact hbd y hy, fun hy => by
      rw [← hbo'] at hy
      exact hrs hy⟩⟩
    · obtain ⟨s, σ, -, z2, z3⟩ := hW
      rw [hbo'] at z2
      exact Or.inr (z2.up (Nat.le_refl _) (by omega) (fun _ _ _ => rfl))
    rw [h13] at q
    exact absurd q (by decide)
  | cons e L ih =>
    intro i C M x hi h hW
    obtain ⟨hPS, ⟨x1, x2, x3⟩, hlt, hbo, hbd, hrs⟩ := h
    have hPS' := hPS
    have hP3 := hPS.P3
    obtain ⟨σs, σx, ⟨s1, s2, ya, yb, yc⟩, yd, ye⟩ := hW
    have hP3L : P3 L := fun e' he' => hP3 e' (List.mem_cons_of_mem _ he')
    have hpe3 := hP3 e (List.mem_cons_self ..)
    obtain ⟨⟨h1, ⟨h2, hnc⟩, h3⟩, ⟨c0, ⟨c1, c2, c3, c4, c5⟩, ⟨c6, c7, c8, c9, c10, c11⟩, c12, c13⟩, hN, hFr, hK, hMB⟩ := hPS
    have hl := c0.1
    have hnc := hnc (fun z => by cases z)
    have hb : t.1 ≤ 65536 := by omega
    have h1' := h1
    have h2' := h2
    obtain ⟨⟨b1, b2, b3, b4, b5⟩, ⟨p1, p2, p3, p4⟩, ⟨d1, d2, d3⟩, ⟨f1, f2, f3⟩, ho, hn, hh, hcl⟩ := h1
    obtain ⟨⟨r1, r2, r3, r4⟩, ⟨r5, r6⟩, ⟨r7, r8⟩, r9, r10⟩ := h2
    have b2 : e.1 < t.1 := b2
    have hsg := sgn_p e.2.1 (by omega) b4
    have hw4 : (R 4 (L.length + 1)).getD 0 = t.2.1 e.1 := by rw [r5]; rfl
    have hlen : (e :: L).length = L.length + 1 := rfl
    have p3 : f (t.2.1 e.1) 0 = sgn e.2.1 := p3
    have s123 : f (t.2.1 e.1) 0 = 123 ↔ e.2.1 = 15 := by rw [p3]; exact hsg.1
    have s61 : f (t.2.1 e.1) 0 = 61 ↔ e.2.1 = 8 := by rw [p3]; exact hsg.2.1
    have hopn : opn L ≤ k := by
      have : opn (e :: L) = opn L + (if e.2.2.2.1 = 0 then 1 else 2) := rfl
      rw [this] at c10; split at c10 <;> omega
    have hltL := STK.lt L e.1 _ h3
    have hx := hlt e (List.mem_cons_self ..)
    by_cases k15 : e.2.1 = 15
    · -- a handler
      have hbe : bepA f R (e :: L).length C = zup (zup C 5 (L.length + 1) 1) 2 2 4 := bepA_1 hw4 (s123.mpr k15)
      rw [hbe]
      have hC' : ∀ r, r ≠ 2 → zup (zup C 5 (L.length + 1) 1) 2 2 4 r = zup C 5 (L.length + 1) 1 r := fun r hr => zup_r hr
      have hKB : KB S0 (g, R, f, zup (zup C 5 (L.length + 1) 1) 2 2 4) := (hK.z (by omega)).z (by omega)
      obtain ⟨q1, qs, q2, q3, q4, q5, q6⟩ := hh k15
      by_cases cz : e.2.2.2.1 = 0
      · -- what it handles
        have hp0 : e.2.2.1 = 0 := by
          rcases f2 with f2 | f2
          · rw [k15] at f2
            have : ari 15 = 1 := rfl
            omega
          · exact absurd ⟨k15, f2.2, cz⟩ hnc
        have ho1 : opn (e :: L) = opn L + 1 := by show opn L + (if e.2.2.2.1 = 0 then 1 else 2) = _; rw [if_pos cz]
        have h13 : M 0 13 = nI (opn L + 1) := c13.trans (congrArg nI ho1)
        have hpt : ptop M = opn L := by unfold ptop; rw [h13, tn_nI (by omega)]; omega
        have hpos : 0 < M 0 13 := by rw [h13]; exact nI_lt (a := 0) (by omega) (by omega)
        have eM : pattA M x = zup (zup M 1 (5 * e.1 + 2) (nI x)) 8 (opn L) 1 := by
          unfold pattA pattach
          rw [if_pos hpos, hpt, r1, r2, hp0, tn_nI (by omega), tn_nI (by omega)]
          show zup (zup M 1 (5 * e.1 + 2 + 0) (nI x)) 8 (opn L) (zup M 1 (5 * e.1 + 2 + 0) (nI x) 8 (opn L) + 1) = _
          rw [zup_r (show (8 : Nat) ≠ 1 by decide), r2, hp0]
          rfl
        obtain ⟨M1, eM1⟩ : ∃ M1, M1 = pattA M x := ⟨_, rfl⟩
        rw [← eM1] at eM ⊢
        have t1 : ∀ j, j ≠ 5 * e.1 + 2 → M1 1 j = M 1 j := fun j hj => by rw [eM, zup_r (by decide), zup_ne _ _ _ _ (Or.inr hj)]
        have t1x : M1 1 (5 * e.1 + 2) = nI x := by rw [eM, zup_r (by decide), zup_at]
        have tr : ∀ r, r ≠ 1 → r ≠ 8 → M1 r = M r := fun r a b => by rw [eM, zup_r b, zup_r a]
        have t8 : ∀ j, j ≠ opn L → M1 8 j = M 8 j := fun j hj => by rw [eM, zup_ne _ _ _ _ (Or.inr hj), zup_r (by decide)]
        have t8x : M1 8 (opn L) = 1 := by rw [eM, zup_at]
        have hAl : AG b0 fs e.1 (fun _ => True) g f (M 1) t g f (M1 1) t := ⟨zLe.rf, fun _ _ _ _ => ⟨fun _ => ⟨rfl, rfl⟩, fun _ => ⟨rfl, rfl⟩⟩, fun n _ _ => t1 _ (by omega), fun n _ _ _ j hj => t1 _ (by omega), fun n _ _ _ _ j hj => t1 _ (by omega), fun _ _ _ => ⟨rfl, rfl, rfl⟩, by omega⟩
        have hAt : AG b0 fs t.1 (fun n => n ≠ e.1) g f (M 1) t g f (M1 1) t := ⟨zLe.rf, fun _ _ _ _ => ⟨fun _ => ⟨rfl, rfl⟩, fun _ => ⟨rfl, rfl⟩⟩, fun n _ _ => t1 _ (by omega), fun n _ _ hn j hj => t1 _ (by omega), fun n _ _ h16 _ j hj => t1 _ (by
          by_cases z : n = e.1
          · subst z; rw [b3, k15] at h16; exact absurd h16 (by decide)
          · omega), fun _ _ _ => ⟨rfl, rfl, rfl⟩, hb⟩
        have hpn : ∀ i, i < 1 → i < 3 → PN g (M1 1) (t.1, t.2) e.2.1 e.1 i := by
          intro i hi _
          obtain rfl : i = 0 := by omega
          refine ⟨fun _ => ⟨x, hx.1, x2, t1x, by rw [t1 _ (by omega)]; exact x3, ?_, fun y hy => ?_, fun hy => ?_⟩, fun z => by rw [k15] at z; exact absurd z (by decide)⟩
          · have := f3 0 (by omega) (by decide)
            rw [if_pos ⟨hp0.symm, fun z => by omega⟩] at this
            exact this
          · have hz := hbd y hy
            rw [hlen, (r9 cz (fun z => by omega)).1, if_neg (fun z => by omega)] at hz
            exact Or.inl ((r7 y).mp hz)
          · have hz := hrs hy
            rw [hlen, (r9 cz (fun z => by omega)).2] at hz
            exact r8.mp hz
        have hSW : SW fs (M1 1) ((e.1, 15, 1, 0, 0) :: L) t.1 k := by
          refine ⟨s1 + σx, s2, by omega, ?_, yc.fr L _ _ _ hP3L (Nat.le_refl _) (fun c hc => t1 c (by omega))⟩
          have := yb.att (w := 0) cz (by omega) x2 yd (T' := M1 1) (by rw [hp0]; exact t1) (by rw [hp0]; exact t1x) (fun _ => hp0)
          rw [k15, hp0] at this
          exact this
        refine ⟨M1, (e.1, 15, 1, 0, 0) :: L, ⟨⟨⟨⟨b1, b2, ?_, (by decide : 2 ≤ 15), Nat.le_refl 15⟩, ⟨p1, p2, p3.trans (congrArg sgn k15), fun (z : 15 = 8 ∨ 15 = 10 ∨ 15 = 11 ∨ 15 = 13) => by omega⟩, ⟨fun (z : 15 = 8) => absurd z (by decide), fun (z : 15 = 10 ∨ 15 = 11) => by omega, fun (z : 15 = 13) => absurd z (by decide)⟩, ⟨fun i a b => by have := hpn i a b; rw [k15] at this; exact this, Or.inr ⟨rfl, rfl⟩, fun i a b => ?_⟩, fun (z : 15 = 14) => absurd z (by decide), fun z => absurd rfl z, fun _ => ?_, fun z => absurd rfl z⟩, ⟨⟨⟨?_, t8x, ?_, ?_⟩, ⟨r5, ?_⟩, ⟨?_, r8⟩, fun _ z => absurd ⟨rfl, rfl⟩ z, fun z => absurd rfl z⟩, fun z => absurd rfl z⟩, ?_⟩, ?_, ?_, hFr.fr (fun n => t1 _ (by omega)), hKB, ?_⟩, hSW, Or.inr (Or.inr ⟨zup_at _ _ _ _, ⟨_, L, rfl, rfl, rfl, rfl⟩, hbo, i, ?_, rfl, fun z => z⟩)⟩
        · show M1 1 (5 * e.1) = nI 15
          rw [t1 _ (by omega), ← k15]; exact b3
        · have a : 1 ≤ i := a
          have := f3 i (by omega) b
          rw [if_neg (fun z => by omega)] at this
          exact this.trans (if_neg (fun z => z.2 ⟨rfl, rfl⟩)).symm
        · exact HP.fr (c := 0) (w := 0) ⟨q1, qs, by rw [if_pos cz] at q2; rw [if_pos rfl]; exact q2, q3, q4, fun w' hw' hq => (q5 w' hw' hq).trans ((if_neg (fun z => z.1 cz)).trans (if_neg (fun z => z.1 rfl)).symm), fun z => absurd rfl z⟩ hAt b1 b2 rfl rfl rfl (fun _ => t1 _ (by omega)) (fun z => absurd rfl z) (Nat.le_refl _)
        · show M1 7 (opn L) = nI e.1
          rw [tr 7 (by decide) (by decide)]; exact r1
        · show M1 9 (opn L) = zup (zup C 5 (L.length + 1) 1) 2 2 4 7 L.length
          rw [tr 9 (by decide) (by decide), zup_r (by decide), zup_r (by decide)]; exact r3
        · show OC (M1 1) t fs e.1 (M1 10 (opn L)) (R 8 L.length)
          rw [tr 10 (by decide) (by decide)]; exact r4.fr hAt (by omega)
        · show zup (zup C 5 (L.length + 1) 1) 2 2 4 5 (L.length + 1) = nI 1
          rw [zup_r (by decide), zup_at]; rfl
        · show ∀ y, ml (zup (zup C 5 (L.length + 1) 1) 2 2 4 7 L.length) y ↔ _
          rw [zup_r (by decide), zup_r (by decide)]; exact r7
        · refine STK.fr (P := fun _ => True) L e.1 e.1 _ h3 hAl (fun _ _ => trivial) (Nat.le_refl _) ⟨fun j hj => ?_, fun j hj => ?_⟩
          · rw [zup_r (show (5 : Nat) ≠ 2 by decide), zup_ne _ _ _ _ (by omega), zup_r (show (6 : Nat) ≠ 2 by decide), zup_r (show (6 : Nat) ≠ 5 by decide), zup_r (show (7 : Nat) ≠ 2 by decide), zup_r (show (7 : Nat) ≠ 5 by decide)]
            exact ⟨rfl, rfl, rfl, rfl, rfl⟩
          · rw [tr 7 (by decide) (by decide), tr 9 (by decide) (by decide), tr 10 (by decide) (by decide), t8 j (by omega)]
            exact ⟨rfl, rfl, rfl, rfl⟩
        · refine ⟨c0.at ?_ (congrFun (tr 0 (by decide) (by decide)) 8) (tr 6 (by decide) (by decide)), ⟨?_, ?_, ?_, ?_, ?_⟩, ⟨c6, c7, c8, c9, by show opn L + 1 ≤ k; omega, c11⟩, ?_, ?_⟩
          · rw [zup_r (by decide), zup_r (by decide)]
          · rw [zup_ne _ _ _ _ (by omega), zup_r (by decide)]; exact c1
          · rw [tr 0 (by decide) (by decide)]; exact c2
          · rw [tr 0 (by decide) (by decide)]; exact c3
          · rw [tr 0 (by decide) (by decide)]; exact c4
          · rw [tr 0 (by decide) (by decide)]; exact c5
          · rw [zup_ne _ _ _ _ (by omega), zup_r (by decide)]; exact c12
          · rw [tr 0 (by decide) (by decide)]; exact h13
        · refine hN.fr hb b2 (fun z => by rw [b3, k15] at z; exact absurd z (by decide)) (fun j hj => t1 j (by omega)) (fun n hn => Or.inl ?_) (fun _ => ⟨e, List.mem_cons_self .., rfl⟩)
          obtain ⟨e', he', rfl⟩ := hn
          rcases List.mem_cons.mp he' with rfl | he'
          · exact ⟨_, List.mem_cons_self .., rfl⟩
          · exact ⟨e', List.mem_cons_of_mem _ he', rfl⟩
        · rw [eM]
          exact (hMB.z (by omega)).z (by omega)
        · show opn L + 1 + 2 ≤ i
          omega
      · -- a clause
        obtain ⟨⟨-, kp⟩, u1, u2, u3, u4, u5, u6, u7, v, v1, v2, v3⟩ := hcl cz
        have u2 : e.2.2.2.1 < t.1 := u2
        obtain ⟨w1, w2, w3, w4, w5, w6, w7⟩ := r10 cz
        have ho1 : opn (e :: L) = opn L + 2 := by show opn L + (if e.2.2.2.1 = 0 then 1 else 2) = _; rw [if_neg cz]
        have h13 : M 0 13 = nI (opn L + 2) := c13.trans (congrArg nI ho1)
        have hpt : ptop M = opn L + 1 := by unfold ptop; rw [h13, tn_nI (by omega)]; omega
        have hpos : 0 < M 0 13 := by rw [h13]; exact nI_lt (a := 0) (by omega) (by omega)
        have eM : pattA M x = zup (zup M 1 (5 * e.2.2.2.1 + 2) (nI x)) 8 (opn L + 1) 1 := by
          unfold pattA pattach
          rw [if_pos hpos, hpt, w2, w3, tn_nI (by omega)]
          show zup (zup M 1 (5 * e.2.2.2.1 + 2 + 0) (nI x)) 8 (opn L + 1) (zup M 1 (5 * e.2.2.2.1 + 2 + 0) (nI x) 8 (opn L + 1) + 1) = _
          rw [zup_r (show (8 : Nat) ≠ 1 by decide), w3]
          rfl
        obtain ⟨j, rfl⟩ : ∃ j, i = j + 1 := ⟨i - 1, by omega⟩
        have hP0 := hPS'.pat
        -- the clause's entry goes
        obtain ⟨M2, eM2⟩ : ∃ M2, M2 = zup (pattA M x) 0 13 (nI (opn L + 1)) := ⟨_, rfl⟩
        have t1 : ∀ j, j ≠ 5 * e.2.2.2.1 + 2 → M2 1 j = M 1 j := fun j hj => by rw [eM2, eM, zup_r (by decide), zup_r (by decide), zup_ne _ _ _ _ (Or.inr hj)]
        have t1x : M2 1 (5 * e.2.2.2.1 + 2) = nI x := by rw [eM2, eM, zup_r (by decide), zup_r (by decide), zup_at]
        have tr : ∀ r, r ≠ 0 → r ≠ 1 → r ≠ 8 → M2 r = M r := fun r z a b => by rw [eM2, eM, zup_r z, zup_r b, zup_r a]
        have t0 : ∀ j, j ≠ 13 → M2 0 j = M 0 j := fun j hj => by rw [eM2, eM, zup_ne _ _ _ _ (Or.inr hj), zup_r (by decide), zup_r (by decide)]
        have t8 : ∀ j, j ≠ opn L + 1 → M2 8 j = M 8 j := fun j hj => by rw [eM2, eM, zup_r (by decide), zup_ne _ _ _ _ (Or.inr hj), zup_r (by decide)]
        have t13 : M2 0 13 = nI (opn L + 1) := by rw [eM2, zup_at]
        obtain ⟨M1, eM1⟩ : ∃ M1, M1 = pattA M x := ⟨_, rfl⟩
        rw [← eM1] at eM eM2 ⊢
        have g13 : M1 0 13 = nI (opn L + 2) := by rw [eM, zup_r (by decide), zup_r (by decide)]; exact h13
        have gpt : ptop M1 = opn L + 1 := by unfold ptop; rw [g13, tn_nI (by omega)]; omega
        have g7 : M1 7 (opn L + 1) = nI e.2.2.2.1 := by rw [eM, zup_r (by decide), zup_r (by decide)]; exact w2
        have g8 : M1 8 (opn L + 1) = 1 := by rw [eM, zup_at]
        have gk : pkind M1 (M1 7 (ptop M1)) = 16 := by
          rw [gpt, g7, pkind_n (by omega), eM, zup_r (by decide), zup_ne _ _ _ _ (by omega)]; exact u3
        have gpos : 0 < M1 0 13 := by rw [g13]; exact nI_lt (a := 0) (by omega) (by omega)
        have gC : pgoC M1 = M2 := by
          unfold pgoC
          rw [g13, show nI (opn L + 2) - 1 = nI (opn L + 1) from ixS (a := opn L + 2) (b := 1) rfl (ixC 1) (by omega), eM2]
        have gD : pgoD M1 (M1 7 (ptop M1)) 16 = M2 := by
          unfold pgoD
          rw [if_neg (fun z => z.2 rfl), gC]
        have n15 : ¬ (pkind M1 (M1 7 (ptop M1)) = 15 ∧ M1 8 (ptop M1) = 1) := fun z => by rw [gk] at z; exact absurd z.1 (by decide)
        have n16 : ¬ (if pkind M1 (M1 7 (ptop M1)) = 16 then M1 8 (ptop M1) = 0 else M1 8 (ptop M1) < pparts (pkind M1 (M1 7 (ptop M1)))) := by
          rw [if_pos gk, gpt, g8]; decide
        have hgo : pgoes (j + 1) M1 = pgoes j M2 := by
          show (if ¬ 0 < M1 0 13 then (0, M1) else _) = _
          rw [if_neg (fun z => z gpos), if_neg n15, if_neg n16, gk, gD]
        have hAl : AG b0 fs e.1 (fun _ => True) g f (M 1) t g f (M2 1) t := ⟨zLe.rf, fun _ _ _ _ => ⟨fun _ => ⟨rfl, rfl⟩, fun _ => ⟨rfl, rfl⟩⟩, fun n _ _ => t1 _ (by omega), fun n _ _ _ j hj => t1 _ (by omega), fun n _ _ _ _ j hj => t1 _ (by omega), fun _ _ _ => ⟨rfl, rfl, rfl⟩, by omega⟩
        have hAt : AG b0 fs t.1 (fun n => n ≠ e.2.2.2.1) g f (M 1) t g f (M2 1) t := ⟨zLe.rf, fun _ _ _ _ => ⟨fun _ => ⟨rfl, rfl⟩, fun _ => ⟨rfl, rfl⟩⟩, fun n _ _ => t1 _ (by omega), fun n _ _ hn j hj => t1 _ (by omega), fun n _ _ h16 hq j hj => t1 _ (by
          by_cases z : n = e.2.2.2.1
          · subst z
            rcases hq with hq | hq
            · exact absurd rfl hq
            · exact absurd u4 hq
          · omega), fun _ _ _ => ⟨rfl, rfl, rfl⟩, hb⟩
        have hSW : SW fs (M2 1) ((e.1, 15, 1, 0, 0) :: L) t.1 k := by
          refine ⟨s1 + σx, s2, by omega, ?_, yc.fr L _ _ _ hP3L (Nat.le_refl _) (fun c hc => t1 c (by omega))⟩
          exact yb.cl k15 kp cz ⟨hx.2, x2⟩ yd u7 t1 t1x
        refine ⟨M2, (e.1, 15, 1, 0, 0) :: L, ⟨⟨⟨⟨b1, b2, ?_, (by decide : 2 ≤ 15), Nat.le_refl 15⟩, ⟨p1, p2, p3.trans (congrArg sgn k15), fun (z : 15 = 8 ∨ 15 = 10 ∨ 15 = 11 ∨ 15 = 13) => by omega⟩, ⟨fun (z : 15 = 8) => absurd z (by decide), fun (z : 15 = 10 ∨ 15 = 11) => by omega, fun (z : 15 = 13) => absurd z (by decide)⟩, ⟨fun i a b => ?_, Or.inr ⟨rfl, rfl⟩, fun i a b => ?_⟩, fun (z : 15 = 14) => absurd z (by decide), fun z => absurd rfl z, fun _ => ?_, fun z => absurd rfl z⟩, ⟨⟨⟨?_, ?_, ?_, ?_⟩, ⟨r5, ?_⟩, ⟨?_, r8⟩, fun _ z => absurd ⟨rfl, rfl⟩ z, fun z => absurd rfl z⟩, fun z => absurd rfl z⟩, ?_⟩, ?_, ?_, hFr.fr (fun n => t1 _ (by omega)), hKB, ?_⟩, hSW, Or.inr (Or.inr ⟨zup_at _ _ _ _, ⟨_, L, rfl, rfl, rfl, rfl⟩, hbo, j, ?_, hgo, fun z => ⟨?_, ?_, fun z0 => ⟨?_, fun z1 => absurd z1 n15, fun _ _ => ⟨?_, ?_⟩⟩⟩⟩)⟩
        · show M2 1 (5 * e.1) = nI 15
          rw [t1 _ (by omega), ← k15]; exact b3
        · have a : i < 1 := a
          have := (f1 i (by omega) b).fr hAt b1 b2 (by rw [b3, k15]; decide) (by omega) (Nat.le_refl _)
          rw [k15] at this; exact this
        · have a : 1 ≤ i := a
          have := f3 i (by omega) b
          rw [if_neg (fun z => z.2 ⟨k15, kp⟩)] at this
          exact this.trans (if_neg (fun z => z.2 ⟨rfl, rfl⟩)).symm
        · -- the handler with one clause more
          have hcl' : ∀ q ∈ qs, ∀ j, j < 5 → M2 1 (5 * q + j) = M 1 (5 * q + j) := fun q hq => (q4 q hq).cl hAt b1
          show HP b0 g f (M2 1) (t.1, t.2) e.1 (t.2.1 e.1) 0 0 none
          rw [if_neg cz] at q2
          refine ⟨q1, e.2.2.2.1 :: qs, ?_, ?_, fun q hq => ?_, fun w' hw' hq => ?_, fun z => absurd rfl z⟩
          · rw [if_pos rfl, t1 _ (by omega)]
            refine ⟨u7, ?_⟩
            rw [t1 _ (by omega)]
            exact chC_fr qs _ q2 (fun q hq => hcl' q hq 3 (by omega))
          · rw [List.map_cons, List.nodup_cons]
            have e4 : qs.map (fun q => tn (M2 1 (5 * q + 4))) = qs.map (fun q => tn (M 1 (5 * q + 4))) := List.map_congr_left (fun q hq => by rw [hcl' q hq 4 (by omega)])
            rw [e4, t1 _ (by omega), u5, tn_nI (by omega)]
            refine ⟨fun hm => ?_, q3⟩
            obtain ⟨q, hq, hq2⟩ := List.mem_map.mp hm
            obtain ⟨-, -, -, w, b, v', z1, z2, -⟩ := q4 q hq
            rw [z2, tn_nI (by omega)] at hq2
            exact q6 cz q hq (by rw [z2, hq2])
          · rcases List.mem_cons.mp hq with rfl | hq
            · refine ⟨u1, u2, (t1 _ (by omega)).trans u3, e.2.2.2.2, x, v, u6, (t1 _ (by omega)).trans u5, hx.2, x2, t1x, by rw [t1 _ (by omega)]; exact x3, v1, (t1 _ (by omega)).trans v2, ?_, v3, fun y hy => ?_, fun hy => ?_⟩
              · have := q5 e.2.2.2.2 u6 (q6 cz)
                rw [if_pos ⟨cz, rfl⟩] at this
                exact this
              · have hz := hbd y hy
                rw [hlen, w6, v2] at hz
                exact (ml_or v1 hz).imp (r7 y).mp id
              · by_cases h6 : e.2.2.2.2 = 6
                · refine Or.inr (r8.mp ?_)
                  have hz := hrs hy
                  rw [hlen, w7 h6] at hz
                  exact hz
                · exact Or.inl (by omega)
            · exact (q4 q hq).fr hAt b1 b2 rfl rfl (Nat.le_refl _)
          · rw [if_neg (fun z => z.1 rfl)]
            have hw : ¬ w' = e.2.2.2.2 := fun z => hq _ (List.mem_cons_self ..) (by rw [t1 _ (by omega), z]; exact u5)
            exact (q5 w' hw' (fun q hq' z => hq q (List.mem_cons_of_mem _ hq') ((hcl' q hq' 4 (by omega)).trans z))).trans (if_neg (fun z => hw z.2))
        · show M2 7 (opn L) = nI e.1
          rw [tr 7 (by decide) (by decide) (by decide)]; exact r1
        · show M2 8 (opn L) = nI 1
          rw [t8 _ (by omega), ← kp]; exact r2
        · show M2 9 (opn L) = zup (zup C 5 (L.length + 1) 1) 2 2 4 7 L.length
          rw [tr 9 (by decide) (by decide) (by decide), zup_r (by decide), zup_r (by decide)]; exact r3
        · show OC (M2 1) t fs e.1 (M2 10 (opn L)) (R 8 L.length)
          rw [tr 10 (by decide) (by decide) (by decide)]; exact r4.fr hAt (by omega)
        · show zup (zup C 5 (L.length + 1) 1) 2 2 4 5 (L.length + 1) = nI 1
          rw [zup_r (by decide), zup_at]; rfl
        · show ∀ y, ml (zup (zup C 5 (L.length + 1) 1) 2 2 4 7 L.length) y ↔ _
          rw [zup_r (by decide), zup_r (by decide)]; exact r7
        · refine STK.fr (P := fun _ => True) L e.1 e.1 _ h3 hAl (fun _ _ => trivial) (Nat.le_refl _) ⟨fun j hj => ?_, fun j hj => ?_⟩
          · rw [zup_r (show (5 : Nat) ≠ 2 by decide), zup_ne _ _ _ _ (by omega), zup_r (show (6 : Nat) ≠ 2 by decide), zup_r (show (6 : Nat) ≠ 5 by decide), zup_r (show (7 : Nat) ≠ 2 by decide), zup_r (show (7 : Nat) ≠ 5 by decide)]
            exact ⟨rfl, rfl, rfl, rfl, rfl⟩
          · rw [tr 7 (by decide) (by decide) (by decide), tr 9 (by decide) (by decide) (by decide), tr 10 (by decide) (by decide) (by decide), t8 j (by omega)]
            exact ⟨rfl, rfl, rfl, rfl⟩
        · refine ⟨c0.at ?_ (t0 8 (by decide)) (tr 6 (by decide) (by decide) (by decide)), ⟨?_, ?_, ?_, ?_, ?_⟩, ⟨c6, c7, c8, c9, by show opn L + 1 ≤ k; omega, c11⟩, ?_, t13⟩
          · rw [zup_r (by decide), zup_r (by decide)]
          · rw [zup_ne _ _ _ _ (by omega), zup_r (by decide)]; exact c1
          · rw [t0 _ (by decide)]; exact c2
          · rw [t0 _ (by decide)]; exact c3
          · rw [t0 _ (by decide)]; exact c4
          · rw [t0 _ (by decide)]; exact c5
          · rw [zup_ne _ _ _ _ (by omega), zup_r (by decide)]; exact c12
        · refine hN.fr (z := e.2.2.2.1) hb u2 (fun _ => u4) (fun j hj => t1 j (by omega)) (fun n hn => Or.inl ?_) (fun z => absurd u3 z)
          obtain ⟨e', he', rfl⟩ := hn
          rcases List.mem_cons.mp he' with rfl | he'
          · exact ⟨_, List.mem_cons_self .., rfl⟩
          · exact ⟨e', List.mem_cons_of_mem _ he', rfl⟩
        · rw [eM2, eM]
          exact ((hMB.z (by omega)).z (by omega)).z (by omega)
        · show opn L + 1 + 2 ≤ j
          omega
        · show pat M1
          unfold pat at hP0 ⊢
          rw [eM, zup_r (show (0 : Nat) ≠ 8 by decide), zup_r (show (0 : Nat) ≠ 1 by decide)]
          exact hP0.1
        · rw [g13]; exact iv_nI (by omega) (by decide)
        · rw [gpt, g7]; exact iv_nI (by omega) (by decide)
        · rw [gk]; exact fun _ z => absurd rfl z
        · rw [gk, gD]; exact z
    · -- another expression
      have cz : e.2.2.2.1 = 0 := Classical.byContradiction (fun z => k15 (hcl z).1.1)
      have hp : e.2.2.1 < ari e.2.1 := f2.resolve_right (fun z => k15 z.1)
      have hari := hsg.2.2.2.2.2
      have ho1 : opn (e :: L) = opn L + 1 := by show opn L + (if e.2.2.2.1 = 0 then 1 else 2) = _; rw [if_pos cz]
      have h13 : M 0 13 = nI (opn L + 1) := c13.trans (congrArg nI ho1)
      have hpt : ptop M = opn L := by unfold ptop; rw [h13, tn_nI (by omega)]; omega
      have hpos : 0 < M 0 13 := by rw [h13]; exact nI_lt (a := 0) (by omega) (by omega)
      have eM : pattA M x = zup (zup M 1 (5 * e.1 + 2 + e.2.2.1) (nI x)) 8 (opn L) (nI (e.2.2.1 + 1)) := by
        unfold pattA pattach
        rw [if_pos hpos, hpt, r1, r2, tn_nI (by omega), tn_nI (by omega)]
        show zup (zup M 1 (5 * e.1 + 2 + e.2.2.1) (nI x)) 8 (opn L) (zup M 1 (5 * e.1 + 2 + e.2.2.1) (nI x) 8 (opn L) + 1) = _
        rw [zup_r (show (8 : Nat) ≠ 1 by decide), r2, show nI e.2.2.1 + 1 = nI (e.2.2.1 + 1) from ixA (a := e.2.2.1) (b := 1) rfl (ixC 1)]
      obtain ⟨M1, eM1⟩ : ∃ M1, M1 = pattA M x := ⟨_, rfl⟩
      rw [← eM1] at eM ⊢
      have t1 : ∀ j, j ≠ 5 * e.1 + 2 + e.2.2.1 → M1 1 j = M 1 j := fun j hj => by rw [eM, zup_r (by decide), zup_ne _ _ _ _ (Or.inr hj)]
      have t1x : M1 1 (5 * e.1 + 2 + e.2.2.1) = nI x := by rw [eM, zup_r (by decide), zup_at]
      have tr : ∀ r, r ≠ 1 → r ≠ 8 → M1 r = M r := fun r a b => by rw [eM, zup_r b, zup_r a]
      have t8 : ∀ j, j ≠ opn L → M1 8 j = M 8 j := fun j hj => by rw [eM, zup_ne _ _ _ _ (Or.inr hj), zup_r (by decide)]
      have t8x : M1 8 (opn L) = nI (e.2.2.1 + 1) := by rw [eM, zup_at]
      have hAl : AG b0 fs e.1 (fun _ => True) g f (M 1) t g f (M1 1) t := ⟨zLe.rf, fun _ _ _ _ => ⟨fun _ => ⟨rfl, rfl⟩, fun _ => ⟨rfl, rfl⟩⟩, fun n _ _ => t1 _ (by omega), fun n _ _ _ j hj => t1 _ (by omega), fun n _ _ _ _ j hj => t1 _ (by omega), fun _ _ _ => ⟨rfl, rfl, rfl⟩, by omega⟩
      have hAt : AG b0 fs t.1 (fun n => n ≠ e.1) g f (M 1) t g f (M1 1) t := ⟨zLe.rf, fun _ _ _ _ => ⟨fun _ => ⟨rfl, rfl⟩, fun _ => ⟨rfl, rfl⟩⟩, fun n _ _ => t1 _ (by omega), fun n _ _ hn j hj => t1 _ (by omega), fun n _ _ h16 _ j hj => t1 _ (by
        by_cases z : n = e.1
        · subst z; rw [b3] at h16; exact absurd ((nI_eq (by omega) (by decide)).mp h16) (by omega)
        · omega), fun _ _ _ => ⟨rfl, rfl, rfl⟩, hb⟩
      have hpn : ∀ i, i < e.2.2.1 + 1 → i < 3 → PN g (M1 1) (t.1, t.2) e.2.1 e.1 i := by
        intro i hi h3'
        by_cases q : i = e.2.2.1
        · subst q
          refine ⟨fun _ => ⟨x, hx.1, x2, t1x, by rw [t1 _ (by omega)]; exact x3, ?_, fun y hy => ?_, fun hy => ?_⟩, fun z => absurd hp (Nat.not_lt_of_le z)⟩
          · have := f3 e.2.2.1 (Nat.le_refl _) h3'
            rw [if_pos ⟨rfl, fun z => k15 z.1⟩] at this
            exact this
          · have hz := hbd y hy
            rw [hlen, (r9 cz (fun z => k15 z.1)).1] at hz
            by_cases k8 : e.2.1 = 8 ∧ e.2.2.1 = 1
            · rw [if_pos k8] at hz
              obtain ⟨v, v1, v2⟩ := d1 k8.1
              rw [v2] at hz
              rcases ml_or v1 hz with z | z
              · exact Or.inl ((r7 y).mp z)
              · exact Or.inr ⟨k8.1, k8.2, by omega, by rw [t1 _ (by omega), z]; exact v2⟩
            · rw [if_neg k8] at hz
              exact Or.inl ((r7 y).mp hz)
          · have hz := hrs hy
            rw [hlen, (r9 cz (fun z => k15 z.1)).2] at hz
            exact r8.mp hz
        · have h0 := f1 i (by omega) h3'
          refine ⟨fun hi2 => ?_, h0.2⟩
          obtain ⟨mm, m1, m2, m3, m4, m5, m6, m7⟩ := h0.1 hi2
          exact ⟨mm, m1, m2, (t1 _ (by omega)).trans m3, by rw [t1 _ (by omega)]; exact m4, m5, by rw [t1 _ (by omega)]; exact m6, m7⟩
      have hgn : ∀ i, e.2.2.1 + 1 ≤ i → i < 3 → g.2.2.2 (t.2.1 e.1) (2 + i) = none := fun i a b => (f3 i (by omega) b).trans (if_neg (fun z => by omega))
      have hp2 : n0 ≤ t.2.1 e.1 ∧ zIn b0 g (t.2.1 e.1) 1 ∧ f (t.2.1 e.1) 0 = sgn e.2.1 ∧ (e.2.1 = 8 ∨ e.2.1 = 10 ∨ e.2.1 = 11 ∨ e.2.1 = 13 → f (t.2.1 e.1) 1 = M1 1 (5 * e.1 + 1)) := ⟨p1, p2, p3, by rw [t1 _ (by omega)]; exact p4⟩
      have hd2 : (e.2.1 = 8 → ∃ v, v < 26 ∧ M1 1 (5 * e.1 + 1) = nI v) ∧ (e.2.1 = 10 ∨ e.2.1 = 11 → ∃ a, a < 6 ∧ M1 1 (5 * e.1 + 1) = nI a) ∧ (e.2.1 = 13 → ∃ p, p < 4 ∧ M1 1 (5 * e.1 + 1) = nI p) := by rw [t1 _ (by omega)]; exact ⟨d1, d2, d3⟩
      have ho2 : e.2.1 = 14 → t.2.2.2 e.1 ∧ ∃ h, fs ≤ h ∧ h < e.1 ∧ M1 1 (5 * e.1 + 4) = nI h ∧ M1 1 (5 * h) = nI 15 ∧ g.2.2.2 (t.2.1 e.1) 7 = some (t.2.1 h) := by
        intro z
        have h0 : e.2.2.1 = 0 := by rw [z] at hp; have : ari 14 = 1 := rfl; omega
        obtain ⟨z1, h, z2, z3, z4, z5, z6⟩ := ho z
        exact ⟨z1, h, z2, z3, (t1 _ (by omega)).trans z4, (t1 _ (by omega)).trans z5, z6⟩
      have e5 : zup C 5 (L.length + 1) (C 5 (L.length + 1) + 1) 5 (L.length + 1) = nI (e.2.2.1 + 1) := by rw [zup_at, r6]; exact ixA (a := e.2.2.1) (b := 1) rfl (ixC 1)
      have ebp : bparts (f (t.2.1 e.1) 0) = nI (ari e.2.1) := by rw [p3]; exact hsg.2.2.1 k15
      have n123 : ¬ f (t.2.1 e.1) 0 = 123 := fun z => k15 (s123.mp z)
      have g13 : M1 0 13 = nI (opn L + 1) := by rw [tr 0 (by decide) (by decide)]; exact h13
      have gpt : ptop M1 = opn L := by unfold ptop; rw [g13, tn_nI (by omega)]; omega
      have g7 : M1 7 (opn L) = nI e.1 := by rw [tr 7 (by decide) (by decide)]; exact r1
      have gk : pkind M1 (M1 7 (ptop M1)) = nI e.2.1 := by rw [gpt, g7, pkind_n (by omega), t1 _ (by omega)]; exact b3
      have gpos : 0 < M1 0 13 := by rw [g13]; exact nI_lt (a := 0) (by omega) (by omega)
      have gat : pat M1 := by
        have := hPS'.pat.1
        unfold pat at this ⊢
        rw [tr 0 (by decide) (by decide)]; exact this
      have n15 : ¬ (pkind M1 (M1 7 (ptop M1)) = 15 ∧ M1 8 (ptop M1) = 1) := fun z => by rw [gk] at z; exact k15 ((nI_eq (b := 15) (by omega) (by decide)).mp z.1)
      have n16 : ¬ pkind M1 (M1 7 (ptop M1)) = 16 := fun z => by rw [gk] at z; exact absurd ((nI_eq (b := 16) (by omega) (by decide)).mp z) (by omega)
      obtain ⟨j, rfl⟩ : ∃ j, i = j + 1 := ⟨i - 1, by omega⟩
      by_cases hlast : e.2.2.1 + 1 < ari e.2.1
      · -- another part is due
        have hcond : (if pkind M1 (M1 7 (ptop M1)) = 16 then M1 8 (ptop M1) = 0 else M1 8 (ptop M1) < pparts (pkind M1 (M1 7 (ptop M1)))) := by
          rw [if_neg n16, gk, gpt, t8x, hsg.2.2.2.1]; exact nI_lt hlast (by omega)
        have hgo : pgoes (j + 1) M1 = (1, M1) := by
          show (if ¬ 0 < M1 0 13 then (0, M1) else _) = _
          rw [if_neg (fun z => z gpos), if_neg n15, if_pos hcond]
        have hgV : pgoesV (j + 1) M1 := ⟨gat, by rw [g13]; exact iv_nI (by omega) (by decide), fun _ => ⟨by rw [gpt, g7]; exact iv_nI (by omega) (by decide), fun z => absurd z n15, fun _ z => absurd hcond z⟩⟩
        have hC : (bepA f R (L.length + 1) C 5 (L.length + 1) = nI (e.2.2.1 + 1) ∧ ∀ j, j ≠ L.length + 1 → bepA f R (L.length + 1) C 5 j = C 5 j) ∧ (bepA f R (L.length + 1) C 7 (L.length + 1) = (if e.2.1 = 8 ∧ e.2.2.1 + 1 = 1 then C 7 L.length ||| 1 <<< (M 1 (5 * e.1 + 1) &&& 31) else C 7 L.length) ∧ ∀ j, j ≠ L.length + 1 → bepA f R (L.length + 1) C 7 j = C 7 j) ∧
            (∀ r, r ≠ 2 → r ≠ 5 → r ≠ 7 → bepA f R (L.length + 1) C r = C r) ∧ (∀ j, j ≠ 2 → bepA f R (L.length + 1) C 2 j = C 2 j) ∧ bepA f R (L.length + 1) C 2 2 = 0 ∧ KB S0 (g, R, f, bepA f R (L.length + 1) C) := by
          have hlt5 : zup C 5 (L.length + 1) (C 5 (L.length + 1) + 1) 5 (L.length + 1) < bparts (f (t.2.1 e.1) 0) := by rw [e5, ebp]; exact nI_lt hlast (by omega)
          by_cases k8 : e.2.1 = 8
          · have hp0 : e.2.2.1 = 0 := by rw [k8] at hlast; have : ari 8 = 2 := rfl; omega
            have hf1 : f (t.2.1 e.1) 1 = M 1 (5 * e.1 + 1) := p4 (Or.inl k8)
            rw [bepA_2 hw4 n123 hlt5 (s61.mpr k8), hf1]
            refine ⟨⟨?_, fun j hj => ?_⟩, ⟨?_, fun j hj => ?_⟩, fun r a b c => by rw [zup_r a, zup_r c, zup_r b], fun j hj => by rw [zup_ne _ _ _ _ (Or.inr hj), zup_r (by decide), zup_r (by decide)], zup_at _ _ _ _, ((hK.z (by omega)).z (by omega)).z (by omega)⟩
            · rw [zup_r (by decide), zup_r (by decide)]; exact e5
            · rw [zup_r (by decide), zup_r (by decide), zup_ne _ _ _ _ (Or.inr hj)]
            · rw [zup_r (by decide), zup_at, if_pos ⟨k8, by omega⟩]
            · rw [zup_r (by decide), zup_ne _ _ _ _ (Or.inr hj), zup_r (by decide)]
          · rw [bepA_3 hw4 n123 hlt5 (fun z => k8 (s61.mp z))]
            refine ⟨⟨?_, fun j hj => ?_⟩, ⟨?_, fun j hj => ?_⟩, fun r a b c => by rw [zup_r a, zup_r b], fun j hj => by rw [zup_ne _ _ _ _ (Or.inr hj), zup_r (by decide)], zup_at _ _ _ _, (hK.z (by omega)).z (by omega)⟩
            · rw [zup_r (by decide)]; exact e5
            · rw [zup_r (by decide), zup_ne _ _ _ _ (Or.inr hj)]
            · rw [zup_r (by decide), zup_r (by decide), if_neg (fun z => k8 z.1), (r9 cz (fun z => k15 z.1)).1, if_neg (fun z => k8 z.1)]
            · rw [zup_r (by decide), zup_r (by decide)]
        rw [hlen]
        obtain ⟨C', eC'⟩ : ∃ C', C' = bepA f R (L.length + 1) C := ⟨_, rfl⟩
        rw [← eC'] at hC ⊢
        obtain ⟨⟨y5, y5o⟩, ⟨y7, y7o⟩, yr, y2, y22, yK⟩ := hC
        have hSW : SW fs (M1 1) ((e.1, e.2.1, e.2.2.1 + 1, 0, 0) :: L) t.1 k :=
          ⟨s1 + σx, s2, by omega, yb.att (w := 0) cz (by omega) x2 yd t1 t1x (fun z => absurd z k15), yc.fr L _ _ _ hP3L (Nat.le_refl _) (fun c hc => t1 c (by omega))⟩
        refine ⟨M1, (e.1, e.2.1, e.2.2.1 + 1, 0, 0) :: L, ⟨⟨⟨⟨b1, b2, ?_, b4, b5⟩, hp2, hd2, ⟨hpn, Or.inl hlast, fun i a b => ?_⟩, ho2, fun z => hn z, fun z => absurd z k15, fun z => absurd rfl z⟩, ⟨⟨⟨g7, t8x, ?_, ?_⟩, ⟨r5, y5⟩, ⟨?_, r8⟩, fun _ _ => ⟨?_, (r9 cz (fun z => k15 z.1)).2⟩, fun z => absurd rfl z⟩, fun z => absurd rfl z⟩, ?_⟩, ?_, ?_, hFr.fr (fun n => t1 _ (by omega)), yK, ?_⟩, hSW, Or.inr (Or.inl ⟨y22, ⟨_, L, rfl, fun z => k15 z.1⟩, hbo, hgo, hgV⟩)⟩
        · show M1 1 (5 * e.1) = nI e.2.1
          rw [t1 _ (by omega)]; exact b3
        · exact (hgn i a b).trans (by split <;> rfl)
        · show M1 9 (opn L) = C' 7 L.length
          rw [tr 9 (by decide) (by decide), y7o _ (by omega)]; exact r3
        · show OC (M1 1) t fs e.1 (M1 10 (opn L)) (R 8 L.length)
          rw [tr 10 (by decide) (by decide)]; exact r4.fr hAt (by omega)
        · show ∀ y, ml (C' 7 L.length) y ↔ _
          rw [y7o _ (by omega)]; exact r7
        · show C' 7 (L.length + 1) = (if e.2.1 = 8 ∧ e.2.2.1 + 1 = 1 then C' 7 L.length ||| 1 <<< (M1 1 (5 * e.1 + 1) &&& 31) else C' 7 L.length)
          rw [y7, y7o L.length (by omega), t1 _ (by omega)]
        · refine STK.fr (P := fun _ => True) L e.1 e.1 _ h3 hAl (fun _ _ => trivial) (Nat.le_refl _) ⟨fun j hj => ?_, fun j hj => ?_⟩
          · rw [y5o j (by omega), y7o j (by omega), yr 6 (by decide) (by decide) (by decide)]
            exact ⟨rfl, rfl, rfl, rfl, rfl⟩
          · rw [tr 7 (by decide) (by decide), tr 9 (by decide) (by decide), tr 10 (by decide) (by decide), t8 j (by omega)]
            exact ⟨rfl, rfl, rfl, rfl⟩
        · refine ⟨c0.at (yr 1 (by decide) (by decide) (by decide)) (congrFun (tr 0 (by decide) (by decide)) 8) (tr 6 (by decide) (by decide)), ⟨?_, ?_, ?_, ?_, ?_⟩, ⟨c6, c7, c8, c9, by show opn L + 1 ≤ k; omega, c11⟩, ?_, ?_⟩
          · rw [y2 _ (by decide)]; exact c1
          · rw [tr 0 (by decide) (by decide)]; exact c2
          · rw [tr 0 (by decide) (by decide)]; exact c3
          · rw [tr 0 (by decide) (by decide)]; exact c4
          · rw [tr 0 (by decide) (by decide)]; exact c5
          · rw [y2 _ (by decide)]; exact c12
          · exact g13
        · refine hN.fr hb b2 (fun z => by rw [b3] at z; exact absurd ((nI_eq (b := 16) (by omega) (by decide)).mp z) (by omega)) (fun j hj => t1 j (by omega)) (fun n hn => Or.inl ?_) (fun _ => ⟨e, List.mem_cons_self .., rfl⟩)
          obtain ⟨e', he', rfl⟩ := hn
          rcases List.mem_cons.mp he' with rfl | he'
          · exact ⟨_, List.mem_cons_self .., rfl⟩
          · exact ⟨e', List.mem_cons_of_mem _ he', rfl⟩
        · rw [eM]
          exact (hMB.z (by omega)).z (by omega)
      · -- it is whole itself
        have hpe : e.2.2.1 + 1 = ari e.2.1 := by omega
        have hcond : ¬ (if pkind M1 (M1 7 (ptop M1)) = 16 then M1 8 (ptop M1) = 0 else M1 8 (ptop M1) < pparts (pkind M1 (M1 7 (ptop M1)))) := by
          rw [if_neg n16, gk, gpt, t8x, hsg.2.2.2.1, hpe]; exact nI_nlt (Nat.le_refl _) (by omega)
        obtain ⟨M2, eM2⟩ : ∃ M2, M2 = zup M1 0 13 (nI (opn L)) := ⟨_, rfl⟩
        have gC : pgoC M1 = M2 := by
          unfold pgoC
          rw [g13, show nI (opn L + 1) - 1 = nI (opn L) from ixS (a := opn L + 1) (b := 1) rfl (ixC 1) (by omega), eM2]
        have gD : pgoD M1 (M1 7 (ptop M1)) (pkind M1 (M1 7 (ptop M1))) = pattA M2 e.1 := by
          unfold pgoD pattA
          rw [gC, gpt, g7]
          by_cases z : 0 < M2 0 13
          · rw [if_pos z, if_pos ⟨z, by rw [← g7, ← gpt]; exact n16⟩]
          · rw [if_neg z, if_neg (fun y => z y.1)]
        have hgo : pgoes (j + 1) M1 = pgoes j (pattA M2 e.1) := by
          show (if ¬ 0 < M1 0 13 then (0, M1) else _) = _
          rw [if_neg (fun z => z gpos), if_neg n15, if_neg hcond, gD]
        have q13 : M2 0 13 = nI (opn L) := by rw [eM2, zup_at]
        have hgV : pgoesV j (pattA M2 e.1) → pgoesV (j + 1) M1 := fun z => ⟨gat, by rw [g13]; exact iv_nI (by omega) (by decide), fun _ => ⟨by rw [gpt, g7]; exact iv_nI (by omega) (by decide), fun z => absurd z n15, fun _ _ => ⟨fun z1 _ => ?_, by rw [gD]; exact z⟩⟩⟩
        · have hbe : bepA f R (e :: L).length C = bepA f R L.length (zup (zup C 5 (L.length + 1) (C 5 (L.length + 1) + 1)) 2 9 (C 2 9 - 1)) := bepA_4 hw4 n123 (by rw [e5, ebp, hpe]; exact nI_nlt (Nat.le_refl _) (by omega))
          have c12' : C 2 9 = nI (L.length + 1) := c12
          rw [hbe, c12', show nI (L.length + 1) - 1 = nI L.length from ixS (a := L.length + 1) (b := 1) rfl (ixC 1) (by omega)]
          have m1 : M2 1 = M1 1 := by rw [eM2]; exact zup_r (by decide)
          have mr : ∀ r, r ≠ 0 → M2 r = M1 r := fun r hr => by rw [eM2]; exact zup_r hr
          have m0 : ∀ j, j ≠ 13 → M2 0 j = M 0 j := fun j hj => by rw [eM2, zup_ne _ _ _ _ (Or.inr hj), tr 0 (by decide) (by decide)]
          have hw := EN.made (b0 := b0) (n0 := n0) (fs := fs) (g := g) (f := f) (t := t) (T := M2 1) (n := e.1) (κ := e.2.1) (w := 0) ⟨b4, b5⟩ (by rw [m1]; exact hp2) (by rw [m1]; exact hd2) (fun i a b => by rw [m1]; exact hpn i (by omega) b) (fun i a b => hgn i (by omega) b) (by rw [m1]; exact ho2) hn (fun z => absurd z k15)
          have hATT : ATT b0 n0 fs S0 M0 len tx g f R (zup (zup C 5 (L.length + 1) (C 5 (L.length + 1) + 1)) 2 9 (nI L.length)) M2 t L m k e.1 := by
            refine ⟨⟨?_, ?_, ?_, hFr.fr (fun n => by rw [m1]; exact t1 _ (by omega)), (hK.z (by omega)).z (by omega), ?_⟩, ⟨b1, b2, ?_⟩, hltL, hbo, fun y hy => ?_, fun hy => r8.mpr hy⟩
            · refine STK.fr (P := fun _ => True) L e.1 t.1 _ h3 (by rw [m1]; exact hAl) (fun _ _ => trivial) (by omega) ⟨fun j hj => ?_, fun j hj => ?_⟩
              · rw [zup_r (show (5 : Nat) ≠ 2 by decide), zup_ne _ _ _ _ (by omega), zup_r (show (6 : Nat) ≠ 2 by decide), zup_r (show (6 : Nat) ≠ 5 by decide), zup_r (show (7 : Nat) ≠ 2 by decide), zup_r (show (7 : Nat) ≠ 5 by decide)]
                exact ⟨rfl, rfl, rfl, rfl, rfl⟩
              · rw [mr 7 (by decide), mr 8 (by decide), mr 9 (by decide), mr 10 (by decide), tr 7 (by decide) (by decide), tr 9 (by decide) (by decide), tr 10 (by decide) (by decide), t8 j (by omega)]
                exact ⟨rfl, rfl, rfl, rfl⟩
            · refine ⟨c0.at ?_ (m0 8 (by decide)) ((mr 6 (by decide)).trans (tr 6 (by decide) (by decide))), ⟨?_, ?_, ?_, ?_, ?_⟩, ⟨c6, c7, c8, c9, hopn, c11⟩, zup_at _ _ _ _, q13⟩
              · rw [zup_r (by decide), zup_r (by decide)]
              · rw [zup_ne _ _ _ _ (by omega), zup_r (by decide)]; exact c1
              · rw [m0 _ (by decide)]; exact c2
              · rw [m0 _ (by decide)]; exact c3
              · rw [m0 _ (by decide)]; exact c4
              · rw [m0 _ (by decide)]; exact c5
            · refine hN.fr hb b2 (fun z => by rw [b3] at z; exact absurd ((nI_eq (b := 16) (by omega) (by decide)).mp z) (by omega)) (fun j hj => by rw [m1]; exact t1 j (by omega)) (fun n hn' => ?_) (fun _ => ⟨e, List.mem_cons_self .., rfl⟩)
              obtain ⟨e', he', rfl⟩ := hn'
              rcases List.mem_cons.mp he' with rfl | he'
              · exact Or.inr ⟨e'.2.1, b5, by rw [m1, t1 _ (by omega)]; exact b3, hw.1, hw.2⟩
              · exact Or.inl ⟨e', he', rfl⟩
            · rw [eM2, eM]
              exact ((hMB.z (by omega)).z (by omega)).z (by omega)
            · rw [m1, t1 _ (by omega), b3]
              exact fun z => absurd ((nI_eq (b := 16) (by omega) (by decide)).mp z) (by omega)
            · show ml (zup (zup C 5 (L.length + 1) (C 5 (L.length + 1) + 1)) 2 9 (nI L.length) 7 L.length) y
              rw [zup_r (by decide), zup_r (by decide)]; exact (r7 y).mpr hy
          have hAW : ATW fs (M2 1) L t.1 e.1 k := by
            rw [m1]
            have z := yb.att (w := 0) cz (by omega) x2 yd t1 t1x (fun z => absurd z k15)
            have z' := z.done b5 (by show M1 1 (5 * e.1) = nI e.2.1; rw [t1 _ (by omega)]; exact b3) hpe rfl (Nat.le_refl _)
            have k15' : ¬ (e.1, e.2.1, e.2.2.1 + 1, 0, 0).2.1 = 15 := k15
            rw [if_neg k15'] at z'
            exact ⟨s2, s1 + σx + 0, yc.fr L _ _ _ hP3L (Nat.le_refl _) (fun c hc => t1 c (by omega)), z', by omega⟩
          obtain ⟨M', L', z1, zw, z2⟩ := ih j _ M2 e.1 (by omega) hATT hAW
          refine ⟨M', L', z1, zw, ?_⟩
          rw [hgo]
          rcases z2 with ⟨a1, a2, a3, a4, a5, a6⟩ | ⟨a1, a2, a3, a4, a5⟩ | ⟨a1, a2, a3, i', a4, a5, a6⟩
          · exact Or.inl ⟨a1, a2, a3, a4, hgV a5, a6⟩
          · exact Or.inr (Or.inl ⟨a1, a2, a3, a4, hgV a5⟩)
          · exact Or.inr (Or.inr ⟨a1, a2, a3, i', a4, a5, fun z => hgV (a6 z)⟩)
        · rw [g13, tn_nI (by omega), show opn L + 1 - 1 = opn L by omega] at z1
          rw [g13, tn_nI (by omega), show opn L + 1 - 2 = opn L - 1 by omega, tr 7 (by decide) (by decide), t8 _ (by omega)]
          exact h3.top (by omega) z1
end CLOS2
