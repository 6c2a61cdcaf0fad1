/-! The listing, in both: the plan. -/
theorem own_pos (k : Nat) (a : Int32) : 1 ≤ own k a := by
  unfold own
  split
  · split
    · decide
    · split <;> decide
  · split <;> decide
theorem WT.x {T : Nat → Int32} {ub : Nat} : ∀ (j n s : Nat), WT T ub j n s → WTx T ub n s := by
  intro j
  induction j with
  | zero => intro n s h; exact False.elim h
  | succ j ih =>
    intro n s h
    obtain ⟨k, k1, k2, k3, σ, qs, τ, h1, h2, h3, h4, h5⟩ := h
    refine WTx.mk k1 k2 k3 σ qs τ (fun i hi => ?_) h2 h3 (fun q hq => ?_) h5
    · obtain ⟨m, m1, m2, m3⟩ := h1 i hi
      exact ⟨m, m1, m2, ih m _ m3⟩
    · obtain ⟨q1, q2, b, b1, b2, b3⟩ := h4 q hq
      exact ⟨q1, q2, b, b1, b2, ih b _ b3⟩
theorem WTx.un {T : Nat → Int32} {ub n s : Nat} (h : WTx T ub n s) : ∃ k, k ≤ 15 ∧ T (5 * n) = nI k ∧ n < ub ∧ ∃ (σ : Nat → Nat) (qs : List Nat) (τ : Nat → Nat), (∀ i, i < ari k → ∃ m, n < m ∧ T (5 * n + 2 + i) = nI m ∧ WTx T ub m (σ i)) ∧ (k = 15 → chC T qs (T (5 * n + 3))) ∧ (¬ k = 15 → qs = []) ∧
      (∀ q ∈ qs, n < q ∧ q < ub ∧ ∃ b, q < b ∧ T (5 * q + 2) = nI b ∧ WTx T ub b (τ q)) ∧ own k (T (5 * n + 1)) + sm σ (ari k) + csm τ qs ≤ s := by
  have hl := h.lt
  unfold WTx at h
  rw [show ub - n = ub - n - 1 + 1 by omega] at h
  obtain ⟨k, k1, k2, k3, σ, qs, τ, h1, h2, h3, h4, h5⟩ := h
  refine ⟨k, k1, k2, k3, σ, qs, τ, fun i hi => ?_, h2, h3, fun q hq => ?_, h5⟩
  · obtain ⟨m, m1, m2, m3⟩ := h1 i hi
    exact ⟨m, m1, m2, WT.x _ _ _ m3⟩
  · obtain ⟨q1, q2, b, b1, b2, b3⟩ := h4 q hq
    exact ⟨q1, q2, b, b1, b2, WT.x _ _ _ b3⟩
theorem WTx.pos {T : Nat → Int32} {ub n s : Nat} (h : WTx T ub n s) : 1 ≤ s := by
  obtain ⟨k, -, -, -, σ, qs, τ, -, -, -, -, h5⟩ := h.un
  have := own_pos k (T (5 * n + 1))
  omega
theorem chC_un {T : Nat → Int32} : ∀ (qs qs' : List Nat) (x : Int32), chC T qs x → chC T qs' x → (∀ q ∈ qs, q < 65000) → (∀ q ∈ qs', q < 65000) → qs = qs' := by
  intro qs
  induction qs with
  | nil =>
    intro qs' x h h' _ l'
    cases qs' with
    | nil => rfl
    | cons q qs' => exact absurd (h'.1.symm.trans h) ((iv_nI (N := 65000) (l' q (List.mem_cons_self ..)) (by decide)).nn (by decide))
  | cons q qs ih =>
    intro qs' x h h' l l'
    cases qs' with
    | nil => exact absurd (h.1.symm.trans h') ((iv_nI (N := 65000) (l q (List.mem_cons_self ..)) (by decide)).nn (by decide))
    | cons q' qs' =>
      have l1 := l q (List.mem_cons_self ..)
      have l2 := l' q' (List.mem_cons_self ..)
      obtain rfl : q = q' := (nI_eq (by omega) (by omega)).mp (h.1.symm.trans h'.1)
      rw [ih qs' _ h.2 h'.2 (fun z hz => l z (List.mem_cons_of_mem _ hz)) (fun z hz => l' z (List.mem_cons_of_mem _ hz))]
theorem csm_mem (τ : Nat → Nat) : ∀ (qs : List Nat) (q : Nat), q ∈ qs → 2 + τ q ≤ csm τ qs := by
  intro qs
  induction qs with
  | nil => intro q h; cases h
  | cons a qs ih =>
    intro q h
    show 2 + τ q ≤ 2 + τ a + csm τ qs
    rcases List.mem_cons.mp h with rfl | h
    · omega
    · have := ih q h; omega
theorem csm_lt (τ v : Nat → Nat) (c : Nat) : ∀ qs : List Nat, csm τ (qs.filter (fun q => v q < c)) + csm τ (qs.filter (fun q => v q = c)) = csm τ (qs.filter (fun q => v q < c + 1)) := by
  intro qs
  induction qs with
  | nil => rfl
  | cons a qs ih =>
    rw [List.filter_cons, List.filter_cons, List.filter_cons]
    by_cases h1 : v a < c
    · rw [if_pos (decide_eq_true h1), if_neg (by simp; omega), if_pos (decide_eq_true (show v a < c + 1 by omega))]
      show 2 + τ a + csm τ _ + csm τ _ = 2 + τ a + csm τ _
      omega
    · by_cases h2 : v a = c
      · rw [if_neg (by simp; omega), if_pos (decide_eq_true h2), if_pos (decide_eq_true (show v a < c + 1 by omega))]
        show csm τ _ + (2 + τ a + csm τ _) = 2 + τ a + csm τ _
        omega
      · rw [if_neg (by simp; omega), if_neg (by simp; omega), if_neg (by simp; omega)]
        exact ih
theorem csm_fl (τ : Nat → Nat) (p : Nat → Bool) : ∀ qs : List Nat, csm τ (qs.filter p) ≤ csm τ qs := by
  intro qs
  induction qs with
  | nil => exact Nat.le_refl _
  | cons a qs ih =>
    rw [List.filter_cons]
    split
    · show 2 + τ a + csm τ _ ≤ 2 + τ a + csm τ _; omega
    · show _ ≤ 2 + τ a + csm τ qs; omega
section LSTS
variable {T : Nat → Int32} {a : Nat → Nat} {fs e : Nat}
def LEn (T : Nat → Int32) (a : Nat → Nat) (fs e : Nat) (R : Nat → Option Nat) (C M : Nat → Int32) (i s : Nat) : Prop := 1 ≤ s ∧ ((∃ x, fs ≤ x ∧ R i = some (a x) ∧ M i = nI x ∧ WTx T e x s) ∨ ∃ y : Nat, 1 ≤ y ∧ y ≤ 126 ∧ R i = none ∧ C i = nI y ∧ M i = -(nI y))
def LSk (T : Nat → Int32) (a : Nat → Nat) (fs e : Nat) (R : Nat → Option Nat) (C M : Nat → Int32) : Nat → Nat → Prop
  | 0, _ => True
  | p + 1, U => ∃ s U', s + U' ≤ U ∧ LEn T a fs e R C M p s ∧ LSk T a fs e R C M p U'
theorem LSk.fr {R R' : Nat → Option Nat} {C C' M M' : Nat → Int32} : ∀ (p U U' : Nat), LSk T a fs e R C M p U → U ≤ U' → (∀ i, i < p → R' i = R i ∧ C' i = C i ∧ M' i = M i) → LSk T a fs e R' C' M' p U' := by
  intro p
  induction p with
  | zero => intro U U' _ _ _; trivial
  | succ p ih =>
    intro U U' h hU hr
    obtain ⟨s, U1, h1, ⟨h2, h3⟩, h4⟩ := h
    obtain ⟨e1, e2, e3⟩ := hr p (Nat.lt_succ_self p)
    refine ⟨s, U1, by omega, ⟨h2, ?_⟩, ih U1 U1 h4 (Nat.le_refl _) (fun i hi => hr i (by omega))⟩
    rw [e1, e2, e3]; exact h3
theorem LSk.le {R : Nat → Option Nat} {C M : Nat → Int32} : ∀ (p U : Nat), LSk T a fs e R C M p U → p ≤ U := by
  intro p
  induction p with
  | zero => intro U _; omega
  | succ p ih =>
    intro U h
    obtain ⟨s, U1, h1, ⟨h2, -⟩, h4⟩ := h
    have := ih U1 h4
    omega
/-- the plan -/
def LPl (T : Nat → Int32) (a : Nat → Nat) (fs e : Nat) (S : zRf × zI) (M : zI) (p U : Nat) : Prop := S.2 9 5 = nI p ∧ LSk T a fs e (S.1 11) (S.2 12) (M 12) p U ∧ U ≤ 130
/-- what planning leaves -/
def PF (S S' : zRf × zI) : Prop := (∀ r, r ≠ 11 → S'.1 r = S.1 r) ∧ (∀ r, r ≠ 9 → r ≠ 12 → S'.2 r = S.2 r) ∧ S'.2 9 1 = S.2 9 1 ∧ S'.2 9 2 = S.2 9 2
theorem PF.rf (S : zRf × zI) : PF S S := ⟨fun _ _ => rfl, fun _ _ _ => rfl, rfl, rfl⟩
theorem PF.tr {S S' S2 : zRf × zI} (h : PF S S') (k : PF S' S2) : PF S S2 := ⟨fun r a => (k.1 r a).trans (h.1 r a), fun r a b => (k.2.1 r a b).trans (h.2.1 r a b), k.2.2.1.trans h.2.2.1, k.2.2.2.trans h.2.2.2⟩
theorem LPl.plan {S : zRf × zI} {M : zI} {p U s : Nat} {o : Option Nat} {x y : Int32} (h : LPl T a fs e S M p U) (hU : U + s ≤ 130) (hE : ∀ (R : Nat → Option Nat) (C N : Nat → Int32), R p = o → C p = x → N p = y → LEn T a fs e R C N p s) : LPl T a fs e (lplan S o x) (zup M 12 p y) (p + 1) (U + s) ∧ PF S (lplan S o x) := by
  obtain ⟨h1, h2, h3⟩ := h
  have hp := h2.le
  have h240 : S.2 9 5 < 240 := by rw [h1]; exact nI_lt (b := 240) (by omega) (by decide)
  rw [lplan_t h240, h1, tn_nI (by omega)]
  have e1 : nI p + 1 = nI (p + 1) := ixA (a := p) (b := 1) rfl (ixC 1)
  rw [e1]
  refine ⟨⟨(zup_at (zup S.2 12 p x) 9 5 (nI (p + 1)) : _), ⟨s, U, by omega, hE _ _ _ (by show zup S.1 11 p o 11 p = o; rw [zup_at]) ?_ (by rw [zup_at]), h2.fr p U U (Nat.le_refl _) (fun i hi => ⟨?_, ?_, ?_⟩)⟩, hU⟩, fun r hr => by show zup S.1 11 p o r = S.1 r; rw [zup_r hr], fun r a b => ?_, ?_, ?_⟩
  · show zup (zup S.2 12 p x) 9 5 (nI (p + 1)) 12 p = x
    rw [zup_r (by decide), zup_at]
  · show zup S.1 11 p o 11 i = S.1 11 i
    rw [zup_ne _ _ _ _ (by omega)]
  · show zup (zup S.2 12 p x) 9 5 (nI (p + 1)) 12 i = S.2 12 i
    rw [zup_r (by decide), zup_ne _ _ _ _ (by omega)]
  · show zup M 12 p y 12 i = M 12 i
    rw [zup_ne _ _ _ _ (by omega)]
  · show zup (zup S.2 12 p x) 9 5 (nI (p + 1)) r = S.2 r
    rw [zup_r a, zup_r b]
  · show zup (zup S.2 12 p x) 9 5 (nI (p + 1)) 9 1 = S.2 9 1
    rw [zup_ne _ _ _ _ (by omega), zup_r (by decide)]
  · show zup (zup S.2 12 p x) 9 5 (nI (p + 1)) 9 2 = S.2 9 2
    rw [zup_ne _ _ _ _ (by omega), zup_r (by decide)]
theorem LPl.node {S : zRf × zI} {M : zI} {p U s x : Nat} (h : LPl T a fs e S M p U) (hU : U + s ≤ 130) (hx : WTx T e x s) (hf : fs ≤ x) : LPl T a fs e (lplan S (some (a x)) 0) (zup M 12 p (nI x)) (p + 1) (U + s) ∧ PF S (lplan S (some (a x)) 0) :=
  h.plan hU (fun R C N r1 r2 r3 => ⟨hx.pos, Or.inl ⟨x, hf, r1, r3, hx⟩⟩)
theorem LPl.byte {S : zRf × zI} {M : zI} {p U y : Nat} (h : LPl T a fs e S M p U) (hU : U + 1 ≤ 130) (hy : 1 ≤ y ∧ y ≤ 126) : LPl T a fs e (lplan S none (nI y)) (zup M 12 p (-(nI y))) (p + 1) (U + 1) ∧ PF S (lplan S none (nI y)) :=
  h.plan hU (fun R C N r1 r2 r3 => ⟨Nat.le_refl _, Or.inr ⟨y, hy.1, hy.2, r1, r2, r3⟩⟩)
end LSTS
