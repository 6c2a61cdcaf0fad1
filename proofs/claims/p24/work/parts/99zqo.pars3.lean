/-! A text that was written is read: expressions' beginnings; the whole. -/
def sch (k : Nat) : Nat := [48, 97, 43, 45, 42, 60, 63, 59, 61, 33, 94, 126, 37, 38, 64, 123].getD k 0
theorem sch_k : ∀ k, k < 16 → 2 ≤ k → pkindOf (nI (sch k)) = nI k ∧ 33 ≤ sch k ∧ sch k < 127 ∧ (sch k < 48 ∨ 57 < sch k) ∧ (sch k < 97 ∨ 122 < sch k) := by decide +kernel
/-- the bytes behind an expression's sign; what they name -/
def HAr (κ x : Nat) (arg : List Nat) (a : Int32) : Prop :=
  (κ = 8 ∧ ∃ y, y < 3 ∧ x = 23 + y ∧ arg = [120 + y] ∧ a = nI (23 + y)) ∨ ((κ = 10 ∨ κ = 11) ∧ ∃ q, q < 3 ∧ arg = [65 + q] ∧ a = nI q) ∨ (κ = 13 ∧ ∃ q, q < 2 ∧ arg = [48 + q] ∧ a = nI q) ∨ (¬ κ = 8 ∧ ¬ κ = 10 ∧ ¬ κ = 11 ∧ ¬ κ = 13 ∧ arg = [] ∧ a = 0)
/-- what is written for an expression -/
def HDs (b : Int32) (mf : Bool) (tr : Nat) (hb : List Nat) (hi : List WIt) : Prop :=
  (hi = [] ∧ ((∃ d, d < 10 ∧ hb = [48 + d, 32]) ∨ ∃ y, y < 3 ∧ ml b (23 + y) ∧ hb = [120 + y])) ∨
  (tr < 14 ∧ ∃ κ x arg a, 2 ≤ κ ∧ κ ≤ 15 ∧ (κ = 14 → mf = true) ∧ HAr κ x arg a ∧ hb = sch κ :: arg ∧ ((κ = 15 ∧ ∃ c y, c < 3 ∧ y < 3 ∧ hi = itE b mf :: clsI c y b []) ∨ (¬ κ = 15 ∧ hi = itE b mf :: remI κ 0 b x mf)))
section PARS
variable {lab : Nat → Nat} {tx : Nat → Nat} {len p N e d : Nat} {M : zI} {l : List Nat}
/-- an expression with parts begins -/
theorem PST.head {κ x m : Nat} {arg : List Nat} {a b : Int32} (h : PST lab tx len M p N e d) (hk : 2 ≤ κ ∧ κ ≤ 15) (hA : HAr κ x arg a) (ht : RT tx len p (sch κ :: (arg ++ l))) (h14 : κ = 14 → 1 ≤ m) (hm : m < 65000) :
    ∃ M' p', pbw M b (nI m) = (0, pbwF M' (nI κ) a b (nI m)) ∧ PST lab tx len M' p' N e d ∧ RT tx len p' l ∧ (∀ r, r ≠ 0 → M' r = M r) := by
  obtain ⟨n1, n2, n3, n4, -⟩ := h.next ht
  obtain ⟨s1, s2, s3, s4, s5⟩ := sch_k κ (by omega) hk.1
  have ke : ∀ j, j < 100 → (nI κ = nI j ↔ κ = j) := fun j hj => nI_eq (by omega) (by omega)
  have ha : ∃ M' p', pbwA M = (a, M') ∧ PST lab tx len M' p' N e d ∧ RT tx len p' l ∧ (∀ r, r ≠ 0 → M' r = M r) := by
    unfold pbwA
    rw [n3, s1]
    rcases hA with ⟨rfl, y, y1, -, rfl, rfl⟩ | ⟨hκ, q, q1, rfl, rfl⟩ | ⟨rfl, q, q1, rfl, rfl⟩ | ⟨c8, c10, c11, c13, rfl, rfl⟩
    · have n2 : RT tx len (p + 1) ((120 + y) :: l) := n2
      have tk := n1.take (lo := 97) (hi := 122) n2 (by omega) (by omega) (by omega) (by decide)
      obtain ⟨m1, m2, m3, m4, -⟩ := n1.next n2
      refine ⟨patn (patn M), p + 1 + 1, ?_, m1, m2, fun r hr => (m4 r hr).trans (n4 r hr)⟩
      show ptake (patn M) 97 122 = _
      exact tk.trans (by rw [show 120 + y - 97 = 23 + y by omega])
    · have n2 : RT tx len (p + 1) ((65 + q) :: l) := n2
      have tk := n1.take (lo := 65) (hi := 70) n2 (by omega) (by omega) (by omega) (by decide)
      obtain ⟨m1, m2, m3, m4, -⟩ := n1.next n2
      refine ⟨patn (patn M), p + 1 + 1, ?_, m1, m2, fun r hr => (m4 r hr).trans (n4 r hr)⟩
      have : preadArg (patn M) (nI κ) = ptake (patn M) 65 70 := by
        rcases hκ with rfl | rfl <;> rfl
      rw [this]
      exact tk.trans (by rw [show 65 + q - 65 = q by omega])
    · have n2 : RT tx len (p + 1) ((48 + q) :: l) := n2
      have tk := n1.take (lo := 48) (hi := 51) n2 (by omega) (by omega) (by omega) (by decide)
      obtain ⟨m1, m2, m3, m4, -⟩ := n1.next n2
      refine ⟨patn (patn M), p + 1 + 1, ?_, m1, m2, fun r hr => (m4 r hr).trans (n4 r hr)⟩
      show ptake (patn M) 48 51 = _
      exact tk.trans (by rw [show 48 + q - 48 = q by omega])
    · have n2 : RT tx len (p + 1) l := n2
      refine ⟨patn M, p + 1, ?_, n1, n2, n4⟩
      unfold preadArg
      rw [if_neg (show ¬ nI κ = 8 from fun z => c8 ((ke 8 (by decide)).mp z))]
      by_cases c9 : nI κ = 9
      · rw [if_pos c9]
      rw [if_neg c9, if_neg (show ¬ nI κ = 10 from fun z => c10 ((ke 10 (by decide)).mp z)), if_neg (show ¬ nI κ = 11 from fun z => c11 ((ke 11 (by decide)).mp z))]
      by_cases c12 : nI κ = 12
      · rw [if_pos c12]
      rw [if_neg c12, if_neg (show ¬ nI κ = 13 from fun z => c13 ((ke 13 (by decide)).mp z))]
  obtain ⟨M', p', a1, a2, a3, a4⟩ := ha
  refine ⟨M', p', ?_, a2, a3, a4⟩
  have hlo : phere M < 48 ∨ 57 < phere M := by
    rw [n3]
    rcases s4 with z | z
    · exact Or.inl (nI_lt z (by decide))
    · exact Or.inr (nI_lt (a := 57) z (by omega))
  have hle : phere M < 97 ∨ 122 < phere M := by
    rw [n3]
    rcases s5 with z | z
    · exact Or.inl (nI_lt z (by decide))
    · exact Or.inr (nI_lt (a := 122) z (by omega))
  rw [pbw_1 (fun z => z hlo) (fun z => z.1 hle) (fun z => by
    rw [n3, s1] at z
    rcases z with z | ⟨z, z2⟩
    · exact absurd z ((iv_nI (N := 100) (show κ < 100 by omega) (by decide)).nn (by decide))
    · have := h14 ((ke 14 (by decide)).mp z)
      exact absurd ((nI_eq (b := 0) (by omega) (by decide)).mp z2) (by omega)), a1, n3, s1]
  show (0, if M' 0 15 = -9 then pbwF M' (nI κ) a b (nI m) else M') = _
  rw [if_pos a2.2.1.2.2]
/-- a number, a variable -/
theorem PST.leafs {b mm : Int32} {c : Nat} (h : PST lab tx len M p N e d) (ht : (∃ q, q < 10 ∧ c = 48 + q ∧ RT tx len p (c :: 32 :: l)) ∨ (∃ y, y < 3 ∧ c = 120 + y ∧ ml b (23 + y) ∧ RT tx len p (c :: l))) :
    ∃ k a, k ≤ 1 ∧ pbw M b mm = (1, zup (pmake (patn M) (nI k) a) 0 17 (nI N)) ∧ PST lab tx len (patn M) (p + 1) N e d ∧ RB tx len (p + 1) l ∧ (∀ r, r ≠ 0 → patn M r = M r) := by
  rcases ht with ⟨q, q1, rfl, ht⟩ | ⟨y, y1, rfl, hml, ht⟩
  · obtain ⟨n1, n2, n3, n4, -⟩ := h.next ht
    obtain ⟨o1, o2, o3, o4, -⟩ := n1.next n2
    have hd : ¬ (phere M < 48 ∨ 57 < phere M) := by
      rw [n3]
      exact fun z => z.elim (nI_nlt (b := 48) (by omega) (by omega)) (nI_nlt (a := 57) (by omega) (by omega))
    have hn : prnum M = (10 * 0 + phere M - 48, patn M) := by
      show (if phere M < 48 ∨ 57 < phere M then (0, M) else (if phere (patn M) < 48 ∨ 57 < phere (patn M) then (10 * 0 + phere M - 48, patn M) else _)) = _
      rw [if_neg hd, if_pos]
      rw [o3]; exact Or.inl (by decide)
    refine ⟨0, 10 * 0 + phere M - 48, by omega, ?_, n1, Or.inr ⟨n2.1, n2.2⟩, n4⟩
    unfold pbw
    rw [if_pos hd]
    unfold pbwN
    rw [hn]
    show (1, zup (pmake (patn M) 0 (10 * 0 + phere M - 48)) 0 17 (patn M 0 1)) = _
    rw [n1.2.2.1.1]; rfl
  · obtain ⟨n1, n2, n3, n4, -⟩ := h.next ht
    have hd : ¬ ¬ (phere M < 48 ∨ 57 < phere M) := fun z => z (by rw [n3]; exact Or.inr (nI_lt (a := 57) (by omega) (by omega)))
    have hl : ¬ (phere M < 97 ∨ 122 < phere M) := by
      rw [n3]
      exact fun z => z.elim (nI_nlt (b := 97) (by omega) (by omega)) (nI_nlt (a := 122) (by omega) (by omega))
    have e1 : phere M - 97 = nI (23 + y) := by rw [n3]; exact (ixS rfl (ixC 97) (by omega)).trans (congrArg nI (by omega))
    refine ⟨1, phere M - 97, by omega, ?_, n1, Or.inl n2, n4⟩
    unfold pbw
    rw [if_neg hd, if_pos ⟨hl, by rw [e1]; exact (ml_test (by omega)).1.mpr hml⟩]
    show (1, zup (pmake (patn M) 1 (phere M - 97)) 0 17 (M 0 1)) = _
    rw [h.2.2.1.1]; rfl
theorem ppar_0 {how : Int32} {j : Nat} {M : zI} : ppar how j 0 M = M := by
  cases j with
  | zero => rfl
  | succ j => exact if_pos rfl
variable {hb : Int32 → Bool → Nat → List Nat} {hi : Int32 → Bool → Nat → List WIt} {how v0 : Int32}
theorem HAr.x {κ x : Nat} {arg : List Nat} {a : Int32} (h : HAr κ x arg a) (q : κ = 8) : x < 26 ∧ a = nI x := by
  rcases h with ⟨-, y, y1, rfl, -, rfl⟩ | ⟨hκ, -⟩ | ⟨hκ, -⟩ | ⟨hκ, -⟩
  · exact ⟨by omega, rfl⟩
  · omega
  · omega
  · exact absurd q hκ
set_option maxHeartbeats 2000000 in
/-- a text that was written is read to its end -/
theorem PTX (hH : ∀ b mf tr, HDs b mf tr (hb b mf tr) (hi b mf tr)) (hv : v0 = (if how = 1 then 8388608 else 0)) : ∀ (F f : Nat), f ≤ F → ∀ (lab : Nat → Nat) (M : zI) (p N e : Nat) (S : List PE) (b : Int32) (mf : Bool) (I : List WIt) (j : Nat), PST lab tx len M p N e S.length → STP (M 1) (M 7) (M 8) (M 9) (M 10) lab N S → LEx v0 S b mf I → RB tx len p (wrB hb hi f (itE b mf :: I) e) → I.length + 1 + 5 * (14 - e) ≤ f → e + f ≤ 190 → N + f ≤ 64890 → S.length + f ≤ 119 → f < j →
    ∃ P p' N' lab', ppar how j 1 M = P ∧ PST lab' tx len P p' N' (wrT hi f (itE b mf :: I) e) 0 ∧ RB tx len p' [] ∧ N < N' ∧ (∀ j, j < N → lab' j = lab j) ∧ (S = [] → lab' N = 0 ∧ ∃ κ, κ ≤ 15 ∧ P 1 (5 * N) = nI κ) ∧ ∀ j, j < N → P 1 (5 * j) = M 1 (5 * j) := by
  intro F
  induction F with
  | zero => intro f hf0 lab M p N e S b mf I j _ _ _ _ hf; omega
  | succ F ih =>
    intro f hfF lab M p N e S b mf I j hP hS hL hR hf he hN hd hj
    obtain ⟨f, rfl⟩ : ∃ f', f = f' + 1 := ⟨f - 1, by omega⟩
    obtain ⟨j, rfl⟩ : ∃ j', j = j' + 1 := ⟨j - 1, by omega⟩
    -- letters and owner
    obtain ⟨m, hm65, hmf, hV, hRR, hNE, hlast⟩ : ∃ m, m < 65000 ∧ mf = decide (m ≠ 0) ∧ pparV0 M how = b ∧ pparR0 M = nI m ∧ NEEDi S I ∧ HLs S m := by
      cases S with
      | nil =>
        obtain ⟨l1, l2, l3⟩ := hL
        have c3 : M 0 13 = 0 := hP.2.2.1.2.2.1
        refine ⟨0, by decide, l2, ?_, ?_, l3, rfl⟩
        · unfold pparV0; rw [if_pos c3, l1, hv]
        · unfold pparR0; rw [if_pos c3]; rfl
      | cons y S =>
        obtain ⟨n, k, st, be, m, x⟩ := y
        obtain ⟨l1, l2, l3, l4⟩ := hL
        have hP' : PST lab tx len M p N e (S.length + 1) := hP
        have ht := hP'.top.1
        obtain ⟨⟨⟨u1, u2, u3, u4⟩, ⟨s1, s2, s3, s4⟩, v, w, v8, v15, vc⟩, hSS⟩ := hS
        have c3 : M 0 13 = nI (S.length + 1) := hP'.2.2.1.2.2.1
        have c4 : S.length + 1 ≤ 120 := hP'.2.2.1.2.2.2.1
        have n0 : ¬ M 0 13 = 0 := by rw [c3]; exact fun z => absurd ((nI_eq (b := 0) (by omega) (by decide)).mp z) (by omega)
        have hNb := hP.2.2.1.2.1
        refine ⟨m, u4, l3, ?_, ?_, l4, rfl, fun q => ?_⟩
        · unfold pparV0
          rw [if_neg n0]
          unfold pboundNext
          rw [ht, s1, s2, s3, pkind_n (by omega), v, l2]
          by_cases q : k = 8 ∧ st = 1
          · rw [if_pos q, if_pos (show nI k = 8 ∧ nI st = 1 by rw [q.1, q.2]; exact ⟨rfl, rfl⟩), parg_n (by omega), (v8 q.1).2]
          · rw [if_neg q, if_neg (show ¬ (nI k = 8 ∧ nI st = 1) from fun z => q ⟨(nI_eq (b := 8) (by omega) (by decide)).mp z.1, (nI_eq (b := 1) (by have := arj_k k (by omega); omega) (by decide)).mp z.2⟩)]
        · unfold pparR0
          rw [if_neg n0, ht]; exact s4
        · subst q
          have : st < 1 := l1
          omega
    have eB : pparB M how = pbw (pskip M) b (nI m) := by
      unfold pparB pbegins
      rw [hV, hRR]
    have h15 : M 0 15 = -9 := hP.2.1.2.2
    have step : ppar how (j + 1) 1 M = (if (pparB M how).2 0 15 = -9 ∧ ¬ (pparB M how).1 = 0 then ppar how j (pgoes pgf (pparT (pparB M how).2)).1 (pgoes pgf (pparT (pparB M how).2)).2 else ppar how j 1 (pparB M how).2) := by
      conv => lhs; unfold ppar
      rw [if_neg (show ¬ (1 : Int32) = 0 by decide), if_neg (fun z => z h15)]
    rw [wrB_E] at hR
    rw [wrT_E, step, eB]
    rcases hH b mf e with ⟨ei, hlf⟩ | ⟨he14, κ, x, arg, a, k2, k15, k14, hA, eb, hit⟩
    · -- a leaf
      rw [ei] at hR ⊢
      rw [List.nil_append] at hR ⊢
      have hleaf : ∃ p1, PST lab tx len (pskip M) p1 N e S.length ∧ (∀ r, r ≠ 0 → pskip M r = M r) ∧ ∃ c, ((∃ q, q < 10 ∧ c = 48 + q ∧ RT tx len p1 (c :: 32 :: wrB hb hi f I (e + 1))) ∨ (∃ y, y < 3 ∧ c = 120 + y ∧ ml b (23 + y) ∧ RT tx len p1 (c :: wrB hb hi f I (e + 1)))) := by
        rcases hlf with ⟨q, q1, eq⟩ | ⟨y, y1, y2, eq⟩
        · rw [eq] at hR
          obtain ⟨p1, g1, g2, g3⟩ := hP.skip hR (fun c l' z => by
            obtain ⟨rfl, -⟩ := List.cons.inj z
            omega)
          exact ⟨p1, g1, g3, 48 + q, Or.inl ⟨q, q1, rfl, g2⟩⟩
        · rw [eq] at hR
          obtain ⟨p1, g1, g2, g3⟩ := hP.skip hR (fun c l' z => by
            obtain ⟨rfl, -⟩ := List.cons.inj z
            omega)
          exact ⟨p1, g1, g3, 120 + y, Or.inr ⟨y, y1, rfl, y2, g2⟩⟩
      obtain ⟨p1, g1, g3, c, hc⟩ := hleaf
      obtain ⟨k, a, k1, eq, w1, w2, w3⟩ := g1.leafs (mm := nI m) hc
      have wr : ∀ r, r ≠ 0 → patn (pskip M) r = M r := fun r hr => (w3 r hr).trans (g3 r hr)
      obtain ⟨x1, ⟨x2, -⟩, x3, x4⟩ := w1.make (k := k) (a := a) (Or.inl (by omega)) (by omega) (by omega) m
      rw [eq]
      obtain ⟨Q, eQ⟩ : ∃ Q, Q = zup (pmake (patn (pskip M)) (nI k) a) 0 17 (nI N) := ⟨_, rfl⟩
      rw [← eQ]
      have hlab : ∀ j, j < N → zu1 lab N m j = lab j := fun j hj => zu1_ne _ _ _ (by omega)
      have qr : ∀ r, r ≠ 0 → Q r = pmake (patn (pskip M)) (nI k) a r := fun r hr => by rw [eQ, zup_r hr]
      have hQ : PST (zu1 lab N m) tx len Q (p1 + 1) (N + 1) (e + 1) S.length := x1.mv x1.2.1.2.1 (by rw [eQ, zup_ne _ _ _ _ (by omega)]; exact x1.2.1.1) (fun j _ j17 => by rw [eQ, zup_ne _ _ _ _ (Or.inr j17)]) qr
      have q17 : Q 0 17 = nI N := by rw [eQ]; exact zup_at _ _ _ _
      have qN : Q 1 (5 * N) = nI k := by rw [qr 1 (by decide)]; exact x2
      have qo : ∀ j, j < 5 * N → Q 1 j = M 1 j := fun j hj => by rw [qr 1 (by decide), x3 j hj, wr 1 (by decide)]
      have qs : ∀ r, r ≠ 0 → r ≠ 1 → Q r = M r := fun r r0 r1 => by rw [qr r r0, x4 r r0 r1, wr r r0]
      have hQS : STP (Q 1) (Q 7) (Q 8) (Q 9) (Q 10) (zu1 lab N m) (N + 1) S := hS.mono S (Nat.le_succ _) hlab qo (fun j _ => ⟨by rw [qs 7 (by decide) (by decide)], by rw [qs 8 (by decide) (by decide)], by rw [qs 9 (by decide) (by decide)], by rw [qs 10 (by decide) (by decide)]⟩)
      have hQ15 : Q 0 15 = -9 := hQ.2.1.2.2
      obtain ⟨S2, U, hU0, hU1, hU2, hU3, hU4, hU5⟩ : ∃ S2 U, pparT Q = U ∧ S2.length = S.length ∧ PST (zu1 lab N m) tx len U (p1 + 1) (N + 1) (e + 1) S2.length ∧ STP (U 1) (U 7) (U 8) (U 9) (U 10) (zu1 lab N m) (N + 1) S2 ∧ NEEDa (U 1) S2 I ∧ ∀ j, j < N + 1 → U 1 (5 * j) = Q 1 (5 * j) := by
        cases S with
        | nil =>
          refine ⟨[], Q, ?_, rfl, hQ, trivial, hNE, fun _ _ => rfl⟩
          unfold pparT
          rw [if_neg]
          rw [hQ.2.2.1.2.2.1]; decide
        | cons y S =>
          obtain ⟨n, kk, st, be, mm, x⟩ := y
          obtain ⟨l1, l2, l3, l4⟩ := hL
          have hlen : (((n, kk, st, be, mm, x) : PE) :: S).length = S.length + 1 := rfl
          have hmm : m = mm := hlast.1
          have h15' : kk = 15 → st = 0 := hlast.2
          obtain ⟨t1, t2, t3, t4⟩ := hQ.attach hQS rfl l1 (c := N) (Nat.lt_succ_self _) (by rw [zu1_at]; exact hmm) (by rw [qN]; exact fun z => absurd ((nI_eq (by omega) (by decide)).mp z) (by omega)) h15'
          refine ⟨(n, kk, st + 1, be, mm, x) :: S, pattach Q (nI N), ?_, rfl, t1, t2, ?_, fun j hj => t3 _ ?_⟩
          · unfold pparT
            rw [if_pos, q17]
            rw [hQ.2.2.1.2.2.1]; exact nI_lt (a := 0) (by omega) (by omega)
          · refine hNE.att l1 (fun z1 z2 => ?_)
            rw [t3 _ (by omega)]
            exact hQS.1.2.2.2.2.2.1 z1 z2
          · have := arj_k kk (by have := hS.1.1.2.1; omega)
            omega
      show ∃ P p' N' lab', (if Q 0 15 = -9 ∧ ¬ (1 : Int32) = 0 then ppar how j (pgoes pgf (pparT Q)).1 (pgoes pgf (pparT Q)).2 else ppar how j 1 Q) = P ∧ _
      rw [if_pos ⟨hQ15, by decide⟩, hU0]
      have hG := GOES (v0 := v0) S2.length S2 rfl pgf U (p1 + 1) f I (e + 1) (by rw [hU1]; unfold pgf; omega) hU2 hU3 hU4 w2 (ars1 hf) (by omega) (by omega)
      rcases hG with ⟨P, p', a1, a2, a3, a4, a5⟩ | ⟨P, p', N', lab', S', b', mf', I', f', a1, a2, a3, a4, a5, a6, a7, a8, a9, a10, a11, a12, a13, a14⟩
      · rw [a1]
        refine ⟨P, p', N + 1, zu1 lab N m, ppar_0, by rw [a4]; exact a2, a3, Nat.lt_succ_self _, hlab, fun q => ⟨?_, k, by omega, ?_⟩, fun j hj => ?_⟩
        · subst q; rw [zu1_at]; exact hlast
        · rw [a5 N (Nat.lt_succ_self _), hU5 N (Nat.lt_succ_self _)]; exact qN
        · rw [a5 j (by omega), hU5 j (by omega)]; exact qo _ (by omega)
      · rw [a1]
        obtain ⟨P2, p2, N2, lab2, c1, c2, c3, c4, c5, -, c7⟩ := ih f' (by omega) lab' P p' N' (e + 1) S' b' mf' I' j a2 a3 a5 a6 (by omega) (by omega) (by omega) (by omega) (by omega)
        refine ⟨P2, p2, N2, lab2, c1, by rw [a11]; exact c2, c3, by omega, fun j hj => by rw [c5 j (by omega), a13 j (by omega)]; exact hlab j hj, fun q => ⟨?_, k, by omega, ?_⟩, fun j hj => ?_⟩
        · subst q; rw [c5 N (by omega), a13 N (by omega), zu1_at]; exact hlast
        · rw [c7 N (by omega), a14 N (Nat.lt_succ_self _), hU5 N (Nat.lt_succ_self _)]; exact qN
        · rw [c7 j (by omega), a14 j (by omega), hU5 j (by omega)]; exact qo _ (by omega)
    · -- parts follow
      rw [eb] at hR
      obtain ⟨s1, s2, s3, s4, s5⟩ := sch_k κ (by omega) k2
      obtain ⟨p1, g1, g2, g3⟩ := hP.skip hR (fun c l' z => by
        obtain ⟨rfl, -⟩ := List.cons.inj z
        omega)
      have hm1 : κ = 14 → 1 ≤ m := fun q => by
        have := k14 q
        rw [hmf] at this
        have := of_decide_eq_true this
        omega
      obtain ⟨M', p', e1, e2, e3, e4⟩ := g1.head ⟨k2, k15⟩ hA g2 hm1 hm65
      have er : ∀ r, r ≠ 0 → M' r = M r := fun r hr => (e4 r hr).trans (g3 r hr)
      have hS' : STP (M' 1) (M' 7) (M' 8) (M' 9) (M' 10) lab N S := by
        rw [er 1 (by decide), er 7 (by decide), er 8 (by decide), er 9 (by decide), er 10 (by decide)]
        exact hS
      obtain ⟨t1, t2, t3, t4⟩ := e2.enter hS' rfl (x := x) (a := a) (b := b) ⟨k2, k15⟩ (by omega) (by omega) (by omega) hm65 hm1 (fun q => hA.x q) hlast
      have h15' : pbwF M' (nI κ) a b (nI m) 0 15 = -9 := t1.2.1.2.2
      rw [e1]
      show ∃ P p' N' lab', (if pbwF M' (nI κ) a b (nI m) 0 15 = -9 ∧ ¬ (0 : Int32) = 0 then _ else ppar how j 1 (pbwF M' (nI κ) a b (nI m))) = P ∧ _
      rw [if_neg (fun z => z.2 rfl)]
      obtain ⟨rest, hrest, hneed, hlenr⟩ : ∃ rest, hi b mf e = itE b mf :: rest ∧ NEEDi ((N, κ, 0, b, m, x) :: S) (rest ++ I) ∧ rest.length ≤ 4 := by
        rcases hit with ⟨q, c, y, c1, y1, eh⟩ | ⟨q, eh⟩
        · refine ⟨clsI c y b [], eh, ?_, by show 4 ≤ 4; omega⟩
          rw [NEEDi_c, if_pos q, if_pos rfl]
          exact ⟨c, y, I, c1, y1, rfl, hNE⟩
        · refine ⟨remI κ 0 b x mf, eh, ?_, ?_⟩
          · rw [NEEDi_c, if_neg q, if_neg (by omega)]
            refine ⟨k2, ?_, I, by rw [hmf], hNE⟩
            have := (sgn_p κ (by omega) k2).2.2.2.2.1
            omega
          · unfold remI
            by_cases q8 : κ = 8
            · rw [if_pos q8, if_pos rfl]; show 1 ≤ 4; omega
            · rw [if_neg q8, List.length_replicate]
              have := ari_le3 κ (by omega)
              omega
      rw [hrest] at e3 ⊢
      rw [List.cons_append] at e3 ⊢
      have hLx : LEx v0 ((N, κ, 0, b, m, x) :: S) b mf (rest ++ I) := by
        refine ⟨?_, ?_, hmf, hneed⟩
        · unfold arj
          rw [if_neg (by omega)]
          have := (sgn_p κ (by omega) k2).2.2.2.2.1
          omega
        · rw [if_neg (fun z => absurd z.2 (by decide)), or_0]
      have hll : (rest ++ I).length = rest.length + I.length := List.length_append
      obtain ⟨P2, p2, N2, lab2, c1, c2, c3, c4, c5, -, c7⟩ := ih f (by omega) (zu1 lab N m) (pbwF M' (nI κ) a b (nI m)) p' (N + 1) (e + 1) ((N, κ, 0, b, m, x) :: S) b mf (rest ++ I) j t1 t2 hLx (Or.inl e3) (by rw [hll]; exact ars2 hf hlenr he14) (by omega) (by omega) (by show S.length + 1 + f ≤ 119; omega) (by omega)
      have hlab : ∀ j, j < N → zu1 lab N m j = lab j := fun j hj => zu1_ne _ _ _ (by omega)
      refine ⟨P2, p2, N2, lab2, c1, c2, c3, by omega, fun j hj => (c5 j (by omega)).trans (hlab j hj), fun q => ⟨?_, κ, k15, ?_⟩, fun j hj => ?_⟩
      · subst q; rw [c5 N (Nat.lt_succ_self _), zu1_at]; exact hlast
      · rw [c7 N (Nat.lt_succ_self _)]; exact t2.1.2.2.1
      · rw [c7 j (by omega), t3 _ (by omega), er 1 (by decide)]
end PARS
