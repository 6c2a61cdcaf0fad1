/-! A text that was written is read: what is still to be written; closing. -/
/-- what is still to be written: a sign, or an expression with its letters and whether an @ may stand -/
abbrev WIt : Type := Bool × Nat × Int32 × Bool
def itE (b : Int32) (mf : Bool) : WIt := (true, 0, b, mf)
def itS (c : Nat) : WIt := (false, c, 0, false)
def remI (k st : Nat) (b : Int32) (x : Nat) (mf : Bool) : List WIt := if k = 8 then (if st = 0 then [itE (b ||| (1 <<< (nI x &&& 31))) mf] else []) else List.replicate (ari k - (st + 1)) (itE b mf)
def clsI (a y : Nat) (b : Int32) (J : List WIt) : List WIt := itS (65 + a) :: itS (120 + y) :: itE (b ||| (1 <<< (nI (23 + y) &&& 31))) true :: itS 125 :: J
/-- what stands behind the part that is being read -/
def NEEDi : List PE → List WIt → Prop
  | [], I => I = []
  | (_, k, st, b, m, x) :: S, I => if k = 15 then (if st = 0 then ∃ a y J, a < 3 ∧ y < 3 ∧ I = clsI a y b J ∧ NEEDi S J else ∃ J, I = itS 125 :: J ∧ NEEDi S J) else if k = 16 then st = 0 ∧ NEEDi S I else 2 ≤ k ∧ st < ari k ∧ ∃ J, I = remI k st b x (decide (m ≠ 0)) ++ J ∧ NEEDi S J
/-- what stands behind the part that was read -/
def NEEDa (T : Nat → Int32) : List PE → List WIt → Prop
  | [], I => I = []
  | (n, k, st, b, m, x) :: S, I => if k = 15 then st = 1 ∧ ((T (5 * n + 3) = -9 ∧ ∃ a y J, a < 3 ∧ y < 3 ∧ I = clsI a y b J ∧ NEEDi S J) ∨ (¬ T (5 * n + 3) = -9 ∧ ∃ J, I = itS 125 :: J ∧ NEEDi S J)) else if k = 16 then st = 1 ∧ NEEDi S I else ∃ s, 2 ≤ k ∧ st = s + 1 ∧ s < ari k ∧ ∃ J, I = remI k s b x (decide (m ≠ 0)) ++ J ∧ NEEDi S J
/-- an expression is due -/
def LEx (v0 : Int32) : List PE → Int32 → Bool → List WIt → Prop
  | [], b, mf, I => b = v0 ∧ mf = false ∧ I = []
  | (n, k, st, be, m, x) :: S, b, mf, I => st < arj k ∧ b = (be ||| (if k = 8 ∧ st = 1 then 1 <<< (nI x &&& 31) else 0)) ∧ mf = decide (m ≠ 0) ∧ NEEDi ((n, k, st, be, m, x) :: S) I
theorem NEEDi_c {n k st m x : Nat} {b : Int32} {S : List PE} {I : List WIt} : NEEDi ((n, k, st, b, m, x) :: S) I = (if k = 15 then (if st = 0 then ∃ a y J, a < 3 ∧ y < 3 ∧ I = clsI a y b J ∧ NEEDi S J else ∃ J, I = itS 125 :: J ∧ NEEDi S J) else if k = 16 then st = 0 ∧ NEEDi S I else 2 ≤ k ∧ st < ari k ∧ ∃ J, I = remI k st b x (decide (m ≠ 0)) ++ J ∧ NEEDi S J) := rfl
theorem NEEDa_c {T : Nat → Int32} {n k st m x : Nat} {b : Int32} {S : List PE} {I : List WIt} : NEEDa T ((n, k, st, b, m, x) :: S) I = (if k = 15 then st = 1 ∧ ((T (5 * n + 3) = -9 ∧ ∃ a y J, a < 3 ∧ y < 3 ∧ I = clsI a y b J ∧ NEEDi S J) ∨ (¬ T (5 * n + 3) = -9 ∧ ∃ J, I = itS 125 :: J ∧ NEEDi S J)) else if k = 16 then st = 1 ∧ NEEDi S I else ∃ s, 2 ≤ k ∧ st = s + 1 ∧ s < ari k ∧ ∃ J, I = remI k s b x (decide (m ≠ 0)) ++ J ∧ NEEDi S J) := rfl
section GOES
variable {hb : Int32 → Bool → Nat → List Nat} {hi : Int32 → Bool → Nat → List WIt}
/-- the bytes that are written, from turn tr on -/
def wrB (hb : Int32 → Bool → Nat → List Nat) (hi : Int32 → Bool → Nat → List WIt) : Nat → List WIt → Nat → List Nat
  | 0, _, _ => []
  | _ + 1, [], _ => []
  | f + 1, it :: J, tr => if it.1 = true then hb it.2.2.1 it.2.2.2 tr ++ wrB hb hi f (hi it.2.2.1 it.2.2.2 tr ++ J) (tr + 1) else it.2.1 :: wrB hb hi f J tr
def wrT (hi : Int32 → Bool → Nat → List WIt) : Nat → List WIt → Nat → Nat
  | 0, _, tr => tr
  | _ + 1, [], tr => tr
  | f + 1, it :: J, tr => if it.1 = true then wrT hi f (hi it.2.2.1 it.2.2.2 tr ++ J) (tr + 1) else wrT hi f J tr
theorem wrB_S {f c tr : Nat} {J : List WIt} : wrB hb hi (f + 1) (itS c :: J) tr = c :: wrB hb hi f J tr := rfl
theorem wrT_S {f c tr : Nat} {J : List WIt} : wrT hi (f + 1) (itS c :: J) tr = wrT hi f J tr := rfl
theorem wrB_E {f tr : Nat} {b : Int32} {mf : Bool} {J : List WIt} : wrB hb hi (f + 1) (itE b mf :: J) tr = hb b mf tr ++ wrB hb hi f (hi b mf tr ++ J) (tr + 1) := rfl
theorem wrT_E {f tr : Nat} {b : Int32} {mf : Bool} {J : List WIt} : wrT hi (f + 1) (itE b mf :: J) tr = wrT hi f (hi b mf tr ++ J) (tr + 1) := rfl
theorem wrB_0 {f tr : Nat} : wrB hb hi f [] tr = [] := by cases f <;> rfl
theorem wrT_0 {f tr : Nat} : wrT hi f [] tr = tr := by cases f <;> rfl
/-- what closing leads to: the end, or a state where an expression is due -/
def GOR (hb : Int32 → Bool → Nat → List Nat) (hi : Int32 → Bool → Nat → List WIt) (v0 : Int32) (lab tx : Nat → Nat) (len N e : Nat) (T : Nat → Int32) (f sl tr : Nat) (I : List WIt) (q : Int32 × zI) : Prop :=
    (∃ P p', q = (0, P) ∧ PST lab tx len P p' N e 0 ∧ RB tx len p' [] ∧ wrT hi f I tr = tr ∧ ∀ j, j < N → P 1 (5 * j) = T (5 * j)) ∨
    ∃ P p' N' lab' S' b mf I' f', q = (1, P) ∧ PST lab' tx len P p' N' e S'.length ∧ STP (P 1) (P 7) (P 8) (P 9) (P 10) lab' N' S' ∧ 1 ≤ S'.length ∧ LEx v0 S' b mf I' ∧ RB tx len p' (wrB hb hi f' (itE b mf :: I') tr) ∧ f' ≤ f ∧ I'.length + 1 + 5 * (14 - tr) ≤ f' ∧ N' + f' ≤ N + f ∧ S'.length + f' ≤ sl + f ∧ wrT hi f I tr = wrT hi f' (itE b mf :: I') tr ∧ N ≤ N' ∧ (∀ j, j < N → lab' j = lab j) ∧ ∀ j, j < N → P 1 (5 * j) = T (5 * j)
variable {lab : Nat → Nat} {tx : Nat → Nat} {len p N e : Nat} {M : zI} {v0 : Int32}
/-- once a part is attached -/
theorem NEEDi.att {T : Nat → Int32} {n k st m x : Nat} {b : Int32} {S : List PE} {I : List WIt} (h : NEEDi ((n, k, st, b, m, x) :: S) I) (hst : st < arj k) (h3 : k = 15 → st = 0 → T (5 * n + 3) = -9) : NEEDa T ((n, k, st + 1, b, m, x) :: S) I := by
  rw [NEEDi_c] at h
  rw [NEEDa_c]
  by_cases q : k = 15
  · rw [if_pos q] at h ⊢
    subst q
    have hst : st < 1 := hst
    obtain rfl : st = 0 := by omega
    rw [if_pos rfl] at h
    exact ⟨rfl, Or.inl ⟨h3 rfl rfl, h⟩⟩
  · rw [if_neg q] at h ⊢
    by_cases q2 : k = 16
    · rw [if_pos q2] at h ⊢
      exact ⟨by rw [h.1], h.2⟩
    · rw [if_neg q2] at h ⊢
      exact ⟨st, h.1, rfl, h.2.1, h.2.2⟩
theorem PST.top {lab : Nat → Nat} {d : Nat} (h : PST lab tx len M p N e (d + 1)) : ptop M = d ∧ 0 < M 0 13 := by
  have c3 := h.2.2.1.2.2.1
  have c4 := h.2.2.1.2.2.2.1
  constructor
  · unfold ptop; rw [c3, tn_nI (by omega)]; omega
  · rw [c3]; exact nI_lt (a := 0) (by omega) (by omega)
set_option maxHeartbeats 1000000 in
/-- what is whole is closed, until an expression is due, or the end -/
theorem GOES : ∀ (L : Nat) (S : List PE), S.length = L → ∀ (j : Nat) (M : zI) (p f : Nat) (I : List WIt) (tr : Nat), S.length < j → PST lab tx len M p N e S.length → STP (M 1) (M 7) (M 8) (M 9) (M 10) lab N S → NEEDa (M 1) S I → RB tx len p (wrB hb hi f I tr) → I.length + 5 * (14 - tr) ≤ f → N + f ≤ 64890 → S.length + f ≤ 119 →
    GOR hb hi v0 lab tx len N e (M 1) f S.length tr I (pgoes j M) := by
  intro L
  induction L with
  | zero =>
    intro S hL
    obtain rfl : S = [] := List.length_eq_zero_iff.mp hL
    intro j M p f I tr hj hP hS hI hR hf hN hd
    have hI : I = [] := hI
    subst hI
    rw [wrB_0] at hR
    left
    refine ⟨M, p, ?_, hP, hR, wrT_0, fun _ _ => rfl⟩
    obtain ⟨j, rfl⟩ : ∃ j', j = j' + 1 := ⟨j - 1, by have : ([] : List PE).length = 0 := rfl
                                                     omega⟩
    unfold pgoes
    rw [if_pos]
    rw [hP.2.2.1.2.2.1]; decide
  | succ L ih =>
    intro S hL
    cases S with
    | nil => exact absurd hL (by simp)
    | cons y S =>
    have hL2 : S.length = L := Nat.succ.inj hL
    intro j M p f I tr hj hP hS hI hR hf hN hd
    obtain ⟨n, k, st, b, m, x⟩ := y
    have hj : S.length + 1 < j := hj
    have hd : S.length + 1 + f ≤ 119 := hd
    obtain ⟨j, rfl⟩ : ∃ j', j = j' + 1 := ⟨j - 1, by omega⟩
    have hP : PST lab tx len M p N e (S.length + 1) := hP
    obtain ⟨ht, h0⟩ := hP.top
    have hNb := hP.2.2.1.2.1
    have hS0 := hS
    obtain ⟨⟨⟨u1, u2, u3, u4⟩, ⟨s1, s2, s3, s4⟩, v, w, v8, v15, vc⟩, hSS⟩ := hS
    have e7 : M 7 (ptop M) = nI n := by rw [ht]; exact s1
    have e8 : M 8 (ptop M) = nI st := by rw [ht]; exact s2
    have ek : pkind M (nI n) = nI k := by rw [pkind_n (by omega)]; exact v
    have hu3 : st ≤ 3 := Nat.le_trans u3 (arj_k k (by omega))
    -- the entry is closed, what is whole becomes a part of the one below
    have close : ∀ (M1 : zI) (p1 f1 : Nat) (J : List WIt), PST lab tx len M1 p1 N e (S.length + 1) → (∀ r, r ≠ 0 → M1 r = M r) → RB tx len p1 (wrB hb hi f1 J tr) → J.length + 5 * (14 - tr) ≤ f1 → f1 ≤ f → wrT hi f I tr = wrT hi f1 J tr → (∀ P, PST lab tx len P p1 N e S.length → STP (P 1) (P 7) (P 8) (P 9) (P 10) lab N S → (∀ r, r ≠ 0 → P r = M r) → NEEDi S J → ¬ k = 16 → True) → NEEDi S J → ¬ k = 16 →
        GOR hb hi v0 lab tx len N e (M 1) f (S.length + 1) tr I (pgoes j (pgoD M1 (nI n) (nI k))) := by
      intro M1 p1 f1 J h1 hr hR1 hf1 hff hwT _ hJ h16
      have hS1 : STP (M1 1) (M1 7) (M1 8) (M1 9) (M1 10) lab N ((n, k, st, b, m, x) :: S) := by
        rw [hr 1 (by decide), hr 7 (by decide), hr 8 (by decide), hr 9 (by decide), hr 10 (by decide)]
        exact hS0
      obtain ⟨g1, g2, g3, g4⟩ := h1.pop hS1 rfl
      have hk16 : ¬ nI k = 16 := fun z => h16 ((nI_eq (b := 16) (by omega) (by decide)).mp z)
      -- what comes of the state behind it
      have fin : ∀ (S2 : List PE) (Q : zI), S2.length = S.length → PST lab tx len Q p1 N e S2.length → STP (Q 1) (Q 7) (Q 8) (Q 9) (Q 10) lab N S2 → NEEDa (Q 1) S2 J → (∀ j, j < N → Q 1 (5 * j) = M 1 (5 * j)) → pgoD M1 (nI n) (nI k) = Q → GOR hb hi v0 lab tx len N e (M 1) f (S.length + 1) tr I (pgoes j (pgoD M1 (nI n) (nI k))) := fun S2 Q q0 q1 q2 q3 q4 q5 => by
        have r := ih S2 (q0.trans hL2) j Q p1 f1 J tr (by omega) q1 q2 q3 hR1 hf1 (by omega) (by omega)
        rw [q5]
        rcases r with ⟨P, p', a1, a2, a3, a4, a5⟩ | ⟨P, p', N', lab', S', b', mf, I', f', a1, a2, a3, a4, a5, a6, a7, a8, a9, a10, a11, a12, a13, a14⟩
        · exact Or.inl ⟨P, p', a1, a2, a3, hwT.trans a4, fun j hj => (a5 j hj).trans (q4 j hj)⟩
        · exact Or.inr ⟨P, p', N', lab', S', b', mf, I', f', a1, a2, a3, a4, a5, a6, by omega, a8, by omega, by omega, hwT.trans a11, a12, a13, fun j hj => (a14 j hj).trans (q4 j hj)⟩
      cases S with
      | nil =>
        refine fin [] (pgoC M1) rfl g1 g2 hJ (fun j _ => by rw [g3 1 (by decide), hr 1 (by decide)]) ?_
        unfold pgoD
        rw [if_neg]
        rintro ⟨z, -⟩
        rw [g4] at z
        exact absurd z (by decide)
      | cons y S' =>
        obtain ⟨n', k', st', b', m', x'⟩ := y
        have hls : (((n', k', st', b', m', x') : PE) :: S').length = S'.length + 1 := rfl
        have e13 : (0 : Int32) < pgoC M1 0 13 := by rw [g4]; exact nI_lt (a := 0) (by omega) (by omega)
        have hk' : st' < arj k' := by
          rw [NEEDi_c] at hJ
          by_cases q : k' = 15
          · rw [q, vc.2.2.1 h16 q]; decide
          · rw [if_neg q] at hJ
            by_cases q2 : k' = 16
            · rw [if_pos q2] at hJ; rw [q2, hJ.1]; decide
            · rw [if_neg q2] at hJ
              unfold arj; rw [if_neg q2]; exact hJ.2.1
        obtain ⟨a1, a2, a3, a4⟩ := g1.attach g2 rfl hk' (c := n) u1 (by rw [w]; exact vc.1 h16) (by rw [g3 1 (by decide), hr 1 (by decide), v]; exact hk16) (fun q => vc.2.2.1 h16 q)
        refine fin ((n', k', st' + 1, b', m', x') :: S') (pattach (pgoC M1) (nI n)) rfl a1 a2 ?_ (fun j hj => ?_) ?_
        · refine hJ.att hk' (fun q1 q2 => ?_)
          rw [a3 _ (by omega)]
          exact g2.1.2.2.2.2.2.1 q1 q2
        · have : 5 * j ≠ 5 * n' + 2 + st' := by
            have := arj_k k' (by have := g2.1.1.2.1; omega)
            omega
          rw [a3 _ this, g3 1 (by decide), hr 1 (by decide)]
        · unfold pgoD
          rw [if_pos ⟨e13, hk16⟩]
    rw [NEEDa_c] at hI
    by_cases k15 : k = 15
    · rw [if_pos k15] at hI
      obtain ⟨rfl, hI⟩ := hI
      subst k15
      have hc1 : pkind M (M 7 (ptop M)) = 15 ∧ M 8 (ptop M) = 1 := ⟨by rw [e7]; exact ek, by rw [e8]; rfl⟩
      rcases hI with ⟨t3, a, y, J, ha, hy, rfl, hJ⟩ | ⟨t3, J, rfl, hJ⟩
      · -- a clause
        right
        obtain ⟨f, rfl⟩ : ∃ f', f = f' + 2 := ⟨f - 2, by have : (clsI a y b J).length = J.length + 4 := rfl
                                                         omega⟩
        have hl : (clsI a y b J).length = J.length + 4 := rfl
        have eB : wrB hb hi (f + 2) (clsI a y b J) tr = (65 + a) :: (120 + y) :: wrB hb hi f (itE (b ||| (1 <<< (nI (23 + y) &&& 31))) true :: itS 125 :: J) tr := rfl
        have eT : wrT hi (f + 2) (clsI a y b J) tr = wrT hi f (itE (b ||| (1 <<< (nI (23 + y) &&& 31))) true :: itS 125 :: J) tr := rfl
        rw [eB] at hR
        obtain ⟨p', g1, g2, g3⟩ := hP.skip hR (fun c l' z => by
          obtain ⟨rfl, -⟩ := List.cons.inj z
          omega)
        have hS1 : STP (pskip M 1) (pskip M 7) (pskip M 8) (pskip M 9) (pskip M 10) lab N ((n, 15, 1, b, m, x) :: S) := by
          rw [g3 1 (by decide), g3 7 (by decide), g3 8 (by decide), g3 9 (by decide), g3 10 (by decide)]
          exact hS0
        obtain ⟨c1, c2, c3, c4⟩ := g1.clause hS1 rfl (by rw [g3 1 (by decide)]; exact t3) g2 ha hy (by omega) (by omega)
        have hph : phere (pskip M) = nI (65 + a) := (g1.next g2).2.2.1
        refine ⟨_, _, _, _, _, b ||| (1 <<< (nI (23 + y) &&& 31)), true, itS 125 :: J, f, ?_, c1, c3, by show 1 ≤ S.length + 2; omega, ⟨by decide, ?_, ?_, ?_⟩, Or.inl c2, by omega, by show J.length + 1 + 1 + _ ≤ f; omega, by omega, by show S.length + 1 + 1 + f ≤ S.length + 1 + (f + 2); omega, eT, Nat.le_succ _, fun j hj => zu1_ne _ _ _ (by omega), fun j hj => (c4 j hj).trans (by rw [g3 1 (by decide)])⟩
        · unfold pgoes
          rw [if_neg (fun z => z h0), if_pos hc1, if_neg (by rw [hph]; exact fun z => by have := (nI_eq (b := 125) (by omega) (by decide)).mp z; omega), e7]
        · rw [if_neg (fun z => absurd z.1 (by decide)), or_0]
        · exact (decide_eq_true (show n + 1 ≠ 0 by omega)).symm
        · rw [NEEDi_c]
          rw [if_neg (by decide), if_pos rfl]
          refine ⟨rfl, ?_⟩
          rw [NEEDi_c]
          rw [if_pos rfl, if_neg (by decide)]
          exact ⟨J, rfl, hJ⟩
      · -- the handler's end
        obtain ⟨f, rfl⟩ : ∃ f', f = f' + 1 := ⟨f - 1, by have : (itS 125 :: J).length = J.length + 1 := rfl
                                                         omega⟩
        have hl : (itS 125 :: J).length = J.length + 1 := rfl
        rw [wrB_S] at hR
        obtain ⟨p', g1, g2, g3⟩ := hP.skip hR (fun c l' z => by
          obtain ⟨rfl, -⟩ := List.cons.inj z
          omega)
        obtain ⟨n1, n2, n3, n4, -⟩ := g1.next g2
        have e : pgoes (j + 1) M = pgoes j (pgoD (patn (pskip M)) (nI n) (nI 15)) := by
          conv => lhs; unfold pgoes
          rw [if_neg (fun z => z h0), if_pos hc1, if_pos (show phere (pskip M) = 125 from n3), e7, ek]
        rw [e]
        exact close (patn (pskip M)) (p' + 1) f J n1 (fun r hr => (n4 r hr).trans (g3 r hr)) (Or.inl n2) (by omega) (by omega) wrT_S (fun _ _ _ _ _ _ => trivial) hJ (by decide)
    · rw [if_neg k15] at hI
      have hnc : ¬ (pkind M (M 7 (ptop M)) = 15 ∧ M 8 (ptop M) = 1) := fun z => by
        have := z.1
        rw [e7, ek] at this
        exact k15 ((nI_eq (b := 15) (by omega) (by decide)).mp this)
      by_cases k16 : k = 16
      · rw [if_pos k16] at hI
        obtain ⟨rfl, hI⟩ := hI
        subst k16
        -- a clause is closed: its handler goes on
        cases S with
        | nil => exact absurd rfl vc.2
        | cons y S' =>
          obtain ⟨n', k', st', b', m', x'⟩ := y
          obtain ⟨rfl, z2, rfl, z4⟩ := vc.2.1 rfl
          obtain ⟨g1, g2, g3, g4⟩ := hP.pop hS0 rfl
          have e : pgoes (j + 1) M = pgoes j (pgoC M) := by
            conv => lhs; unfold pgoes
            rw [if_neg (fun z => z h0), if_neg hnc, if_neg (by
              rw [e7, ek, if_pos (show (nI 16 : Int32) = 16 from rfl), e8]
              exact fun z => absurd ((nI_eq (b := 0) (by omega) (by decide)).mp z) (by decide)), e7, ek]
            unfold pgoD
            rw [if_neg (fun z => z.2 rfl)]
          rw [e]
          have r := ih _ hL2 j (pgoC M) p f I tr (by omega) g1 g2 (by
            rw [NEEDa_c]
            rw [if_pos rfl]
            refine ⟨rfl, Or.inr ⟨?_, ?_⟩⟩
            · rw [g3 1 (by decide), z4]; exact (iv_nI (N := 65000) (by omega) (by decide)).nn (by decide)
            · rw [NEEDi_c] at hI
              rw [if_pos rfl, if_neg (by decide)] at hI
              exact hI) hR hf hN (by have : (((n', 15, 1, b', m', x') : PE) :: S').length = S'.length + 1 := rfl
                                     omega)
          rcases r with ⟨P, p', a1, a2, a3, a4, a5⟩ | ⟨P, p', N', lab', S2, b2, mf, I', f', a1, a2, a3, a4, a5, a6, a7, a8, a9, a10, a11, a12, a13, a14⟩
          · exact Or.inl ⟨P, p', a1, a2, a3, a4, fun j hj => (a5 j hj).trans (by rw [g3 1 (by decide)])⟩
          · exact Or.inr ⟨P, p', N', lab', S2, b2, mf, I', f', a1, a2, a3, a4, a5, a6, a7, a8, a9, Nat.le_trans a10 (Nat.add_le_add_right (Nat.le_succ _) _), a11, a12, a13, fun j hj => (a14 j hj).trans (by rw [g3 1 (by decide)])⟩
      · rw [if_neg k16] at hI
        obtain ⟨s, k2, rfl, hs, J, rfl, hJ⟩ := hI
        have hpp : pparts (nI k) = nI (ari k) := (sgn_p k (by omega) k2).2.2.2.1
        have ha3 := ari_le3 k (by omega)
        have hne16 : ¬ nI k = 16 := fun z => k16 ((nI_eq (b := 16) (by omega) (by decide)).mp z)
        by_cases hlt : s + 1 < ari k
        · -- another part is due
          right
          have eP : pgoes (j + 1) M = (1, M) := by
            unfold pgoes
            rw [if_neg (fun z => z h0), if_neg hnc, if_pos]
            rw [e7, ek, if_neg hne16, e8, hpp]
            exact nI_lt hlt (by omega)
          have hst : s + 1 < arj k := by unfold arj; rw [if_neg k16]; exact hlt
          by_cases k8 : k = 8
          · subst k8
            have : s + 1 < 2 := hlt
            obtain rfl : s = 0 := by omega
            refine ⟨M, p, N, lab, _, _, _, J, f, eP, hP, hS0, by show 1 ≤ S.length + 1; omega, ⟨hst, rfl, rfl, ?_⟩, ?_, Nat.le_refl _, ?_, Nat.le_refl _, Nat.le_refl _, ?_, Nat.le_refl _, fun _ _ => rfl, fun _ _ => rfl⟩
            · rw [NEEDi_c]
              rw [if_neg k15, if_neg k16]
              exact ⟨k2, hlt, J, rfl, hJ⟩
            · rw [if_pos (show (8 : Nat) = 8 ∧ 0 + 1 = 1 from ⟨rfl, rfl⟩)]
              exact hR
            · have : (remI 8 0 b x (decide (m ≠ 0)) ++ J).length = J.length + 1 := by
                unfold remI
                rw [if_pos rfl, if_pos rfl]
                simp
              omega
            · rw [if_pos (show (8 : Nat) = 8 ∧ 0 + 1 = 1 from ⟨rfl, rfl⟩)]
              rfl
          · have er : remI k s b x (decide (m ≠ 0)) = itE b (decide (m ≠ 0)) :: remI k (s + 1) b x (decide (m ≠ 0)) := by
              unfold remI
              rw [if_neg k8, if_neg k8, show ari k - (s + 1) = (ari k - (s + 1 + 1)) + 1 by omega]
              rfl
            have eb : (b ||| (if k = 8 ∧ s + 1 = 1 then 1 <<< (nI x &&& 31) else 0)) = b := by
              rw [if_neg (fun z => k8 z.1), or_0]
            rw [er] at hR hf
            refine ⟨M, p, N, lab, _, b, decide (m ≠ 0), remI k (s + 1) b x (decide (m ≠ 0)) ++ J, f, eP, hP, hS0, by show 1 ≤ S.length + 1; omega, ⟨hst, eb.symm, rfl, ?_⟩, hR, Nat.le_refl _, ?_, Nat.le_refl _, Nat.le_refl _, ?_, Nat.le_refl _, fun _ _ => rfl, fun _ _ => rfl⟩
            · rw [NEEDi_c]
              rw [if_neg k15, if_neg k16]
              exact ⟨k2, hlt, J, rfl, hJ⟩
            · have : (itE b (decide (m ≠ 0)) :: remI k (s + 1) b x (decide (m ≠ 0)) ++ J).length = (remI k (s + 1) b x (decide (m ≠ 0)) ++ J).length + 1 := rfl
              omega
            · rw [er]; rfl
        · have er : remI k s b x (decide (m ≠ 0)) = [] := by
            unfold remI
            by_cases k8 : k = 8
            · subst k8
              have : ¬ s + 1 < 2 := hlt
              rw [if_pos rfl, if_neg (by omega)]
            · rw [if_neg k8, show ari k - (s + 1) = 0 by omega]; rfl
          have e : pgoes (j + 1) M = pgoes j (pgoD M (nI n) (nI k)) := by
            conv => lhs; unfold pgoes
            rw [if_neg (fun z => z h0), if_neg hnc, if_neg (by
              rw [e7, ek, if_neg hne16, e8, hpp]
              exact nI_nlt (by omega) (by omega)), e7, ek]
          rw [e]
          rw [er, List.nil_append] at hR hf ⊢
          rw [er, List.nil_append] at close
          exact close M p f J hP (fun _ _ => rfl) hR hf (Nat.le_refl _) rfl (fun _ _ _ _ _ _ => trivial) hJ k16
end GOES
