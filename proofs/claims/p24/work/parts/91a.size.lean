/-! How many bytes a tree lists. -/
def own (k : Nat) (a : Int32) : Nat := if k = 0 then (if 99 < a then 3 else if 9 < a then 2 else 1) else if k = 8 ∨ k = 10 ∨ k = 11 ∨ k = 13 ∨ k = 15 then 2 else 1
def ownO (k : Nat) (a : Int32) : Nat := if k = 15 then 1 else own k a
def sm (σ : Nat → Nat) : Nat → Nat
  | 0 => 0
  | p + 1 => sm σ p + σ p
def csm (τ : Nat → Nat) : List Nat → Nat
  | [] => 0
  | q :: qs => 2 + τ q + csm τ qs
/-- the tree below node n, of nodes before ub, its bytes no more than s -/
def WT (T : Nat → Int32) (ub : Nat) : Nat → Nat → Nat → Prop
  | 0, _, _ => False
  | j + 1, n, s => ∃ k, k ≤ 15 ∧ T (5 * n) = nI k ∧ n < ub ∧ ∃ (σ : Nat → Nat) (qs : List Nat) (τ : Nat → Nat), (∀ i, i < ari k → ∃ m, n < m ∧ T (5 * n + 2 + i) = nI m ∧ WT T ub j m (σ i)) ∧ (k = 15 → chC T qs (T (5 * n + 3))) ∧ (¬ k = 15 → qs = []) ∧
      (∀ q ∈ qs, n < q ∧ q < ub ∧ ∃ b, q < b ∧ T (5 * q + 2) = nI b ∧ WT T ub j b (τ q)) ∧ own k (T (5 * n + 1)) + sm σ (ari k) + csm τ qs ≤ s
abbrev WTx (T : Nat → Int32) (ub n s : Nat) : Prop := WT T ub (ub - n) n s
theorem ari_3 (k : Nat) (h : k ≤ 15) : ari k ≤ 3 := by
  have : ∀ k, k < 16 → ari k ≤ 3 := by decide
  exact this k (by omega)
theorem WT.lt {T : Nat → Int32} {ub : Nat} : ∀ {j n s : Nat}, WT T ub j n s → n < ub
  | 0, _, _, h => False.elim h
  | _ + 1, _, _, h => h.choose_spec.2.2.1
theorem WT.up {T T' : Nat → Int32} {ub ub' : Nat} (hu : ub ≤ ub') : ∀ (j j' n s s' : Nat), WT T ub j n s → j ≤ j' → s ≤ s' → (∀ c, 5 * n ≤ c → c < 5 * ub → T' c = T c) → WT T' ub' j' n s' := by
  intro j
  induction j with
  | zero => intro j' n s s' h _ _ _; exact False.elim h
  | succ j ih =>
    intro j' n s s' h hj hs hT
    obtain ⟨j', rfl⟩ : ∃ i, j' = i + 1 := ⟨j' - 1, by omega⟩
    obtain ⟨k, k1, k2, k3, σ, qs, τ, h1, h2, h3, h4, h5⟩ := h
    have ha := ari_3 k k1
    refine ⟨k, k1, (hT _ (by omega) (by omega)).trans k2, by omega, σ, qs, τ, fun i hi => ?_, fun q => ?_, h3, fun q hq => ?_, ?_⟩
    · obtain ⟨m, m1, m2, m3⟩ := h1 i hi
      exact ⟨m, m1, (hT _ (by omega) (by omega)).trans m2, ih j' m _ _ m3 (by omega) (Nat.le_refl _) (fun c a b => hT c (by omega) b)⟩
    · rw [hT _ (by omega) (by omega)]
      exact chC_fr qs _ (h2 q) (fun q' hq' => hT _ (by have := (h4 q' hq').1; omega) (by have := (h4 q' hq').2.1; omega))
    · obtain ⟨q1, q2, b, b1, b2, b3⟩ := h4 q hq
      exact ⟨q1, by omega, b, b1, (hT _ (by omega) (by omega)).trans b2, ih j' b _ _ b3 (by omega) (Nat.le_refl _) (fun c a d => hT c (by omega) d)⟩
    · rw [hT _ (by omega) (by omega)]; omega
theorem WTx.up {T T' : Nat → Int32} {ub ub' n s s' : Nat} (h : WTx T ub n s) (hu : ub ≤ ub') (hs : s ≤ s') (hT : ∀ c, 5 * n ≤ c → c < 5 * ub → T' c = T c) : WTx T' ub' n s' := WT.up hu _ _ n s s' h (by omega) hs hT
theorem WTx.mk {T : Nat → Int32} {ub n s k : Nat} (k1 : k ≤ 15) (k2 : T (5 * n) = nI k) (hn : n < ub) (σ : Nat → Nat) (qs : List Nat) (τ : Nat → Nat) (h1 : ∀ i, i < ari k → ∃ m, n < m ∧ T (5 * n + 2 + i) = nI m ∧ WTx T ub m (σ i)) (h2 : k = 15 → chC T qs (T (5 * n + 3))) (h3 : ¬ k = 15 → qs = []) (h4 : ∀ q ∈ qs, n < q ∧ q < ub ∧ ∃ b, q < b ∧ T (5 * q + 2) = nI b ∧ WTx T ub b (τ q)) (h5 : own k (T (5 * n + 1)) + sm σ (ari k) + csm τ qs ≤ s) : WTx T ub n s := by
  unfold WTx
  rw [show ub - n = ub - n - 1 + 1 by omega]
  refine ⟨k, k1, k2, hn, σ, qs, τ, fun i hi => ?_, h2, h3, fun q hq => ?_, h5⟩
  · obtain ⟨m, m1, m2, m3⟩ := h1 i hi
    exact ⟨m, m1, m2, WT.up (Nat.le_refl _) _ _ m _ _ m3 (by omega) (Nat.le_refl _) (fun _ _ _ => rfl)⟩
  · obtain ⟨q1, q2, b, b1, b2, b3⟩ := h4 q hq
    exact ⟨q1, q2, b, b1, b2, WT.up (Nat.le_refl _) _ _ b _ _ b3 (by omega) (Nat.le_refl _) (fun _ _ _ => rfl)⟩
/-- a begun expression's bytes so far -/
def AE (T : Nat → Int32) (ub : Nat) (e : Ent) (s : Nat) : Prop := e.1 < ub ∧ (¬ e.2.2.2.1 = 0 → e.1 < e.2.2.2.1 ∧ e.2.2.2.1 < ub) ∧ ∃ (σ : Nat → Nat) (qs : List Nat) (τ : Nat → Nat), (∀ i, i < e.2.2.1 → ∃ m, e.1 < m ∧ T (5 * e.1 + 2 + i) = nI m ∧ WTx T (if e.2.2.2.1 = 0 then ub else e.2.2.2.1) m (σ i)) ∧
  (e.2.1 = 15 → chC T qs (if e.2.2.2.1 = 0 then T (5 * e.1 + 3) else T (5 * e.2.2.2.1 + 3))) ∧ (¬ e.2.1 = 15 → qs = []) ∧ (∀ q ∈ qs, e.1 < q ∧ q < (if e.2.2.2.1 = 0 then ub else e.2.2.2.1) ∧ ∃ b, q < b ∧ T (5 * q + 2) = nI b ∧ WTx T (if e.2.2.2.1 = 0 then ub else e.2.2.2.1) b (τ q)) ∧
  ownO e.2.1 (T (5 * e.1 + 1)) + sm σ e.2.2.1 + csm τ qs + (if e.2.2.2.1 = 0 then 0 else 2) ≤ s
/-- and the stack's -/
def SW (fs : Nat) (T : Nat → Int32) : List Ent → Nat → Nat → Prop
  | [], ub, s => ub = fs ∨ WTx T ub fs s
  | e :: L, ub, s => ∃ s1 s2, s1 + s2 ≤ s ∧ AE T ub e s1 ∧ SW fs T L e.1 s2
theorem AE.up {T T' : Nat → Int32} {ub ub' s : Nat} {e : Ent} (h : AE T ub e s) (hp : e.2.2.1 ≤ 3) (hu : ub ≤ ub') (hT : ∀ c, 5 * e.1 ≤ c → c < 5 * ub → T' c = T c) : AE T' ub' e s := by
  obtain ⟨h1, h2, σ, qs, τ, h3, h4, h5, h6, h7⟩ := h
  have hle : (if e.2.2.2.1 = 0 then ub else e.2.2.2.1) ≤ (if e.2.2.2.1 = 0 then ub' else e.2.2.2.1) := by split <;> omega
  have hlu : (if e.2.2.2.1 = 0 then ub else e.2.2.2.1) ≤ ub := by split <;> rename_i q <;> first | omega | (have := h2 q; omega)
  refine ⟨by omega, fun q => ⟨(h2 q).1, by have := (h2 q).2; omega⟩, σ, qs, τ, fun i hi => ?_, fun q => ?_, h5, fun q hq => ?_, ?_⟩
  · obtain ⟨m, m1, m2, m3⟩ := h3 i hi
    exact ⟨m, m1, (hT _ (by omega) (by omega)).trans m2, m3.up hle (Nat.le_refl _) (fun c a b => hT c (by omega) (by omega))⟩
  · have e1 : (if e.2.2.2.1 = 0 then T' (5 * e.1 + 3) else T' (5 * e.2.2.2.1 + 3)) = (if e.2.2.2.1 = 0 then T (5 * e.1 + 3) else T (5 * e.2.2.2.1 + 3)) := by
      by_cases z : e.2.2.2.1 = 0
      · rw [if_pos z, if_pos z, hT _ (by omega) (by omega)]
      · have := h2 z
        rw [if_neg z, if_neg z, hT _ (by omega) (by omega)]
    rw [e1]
    exact chC_fr qs _ (h4 q) (fun q' hq' => hT _ (by have := (h6 q' hq').1; omega) (by have := (h6 q' hq').2.1; omega))
  · obtain ⟨q1, q2, b, b1, b2, b3⟩ := h6 q hq
    exact ⟨q1, by omega, b, b1, (hT _ (by omega) (by omega)).trans b2, b3.up hle (Nat.le_refl _) (fun c a d => hT c (by omega) (by omega))⟩
  · rw [hT _ (by omega) (by omega)]; exact h7
theorem AE.mono {T : Nat → Int32} {ub s s' : Nat} {e : Ent} (h : AE T ub e s) (hs : s ≤ s') : AE T ub e s' := by
  obtain ⟨h1, h2, σ, qs, τ, h3, h4, h5, h6, h7⟩ := h
  exact ⟨h1, h2, σ, qs, τ, h3, h4, h5, h6, by omega⟩
/-- the parts read are no more than three -/
def P3 (L : List Ent) : Prop := ∀ e ∈ L, e.2.2.1 ≤ 3
theorem SW.fr {fs : Nat} {T T' : Nat → Int32} : ∀ (L : List Ent) (ub s s' : Nat), P3 L → SW fs T L ub s → s ≤ s' → (∀ c, c < 5 * ub → T' c = T c) → SW fs T' L ub s' := by
  intro L
  induction L with
  | nil => intro ub s s' _ h hs hT; exact h.imp id (fun h => h.up (Nat.le_refl _) hs (fun c _ b => hT c b))
  | cons e L ih =>
    intro ub s s' h3 h hs hT
    obtain ⟨s1, s2, a, b, c⟩ := h
    have := b.1
    exact ⟨s1, s2, by omega, b.up (h3 e (List.mem_cons_self ..)) (Nat.le_refl _) (fun c _ d => hT c d), ih _ _ _ (fun e' he' => h3 e' (List.mem_cons_of_mem _ he')) c (Nat.le_refl _) (fun c d => hT c (by omega))⟩
/-- an expression without parts -/
theorem WTx.leaf {T : Nat → Int32} {n k w : Nat} (hk : k ≤ 1) (hT : T (5 * n) = nI k) (hw : own k (T (5 * n + 1)) ≤ w) : WTx T (n + 1) n w := by
  have ha : ari k = 0 := by
    have : k = 0 ∨ k = 1 := by omega
    rcases this with rfl | rfl <;> rfl
  exact WTx.mk (k := k) (by omega) hT (by omega) (fun _ => 0) [] (fun _ => 0) (fun i hi => by omega) (fun q => by omega) (fun _ => rfl) (fun q hq => absurd hq List.not_mem_nil) (by rw [ha]; show own k _ + 0 + 0 ≤ w; omega)
/-- an expression is begun -/
theorem AE.beg {T : Nat → Int32} {n k w : Nat} (h9 : T (5 * n + 3) = -9) (hw : ownO k (T (5 * n + 1)) ≤ w) : AE T (n + 1) (n, k, 0, 0, 0) w :=
  ⟨Nat.lt_succ_self _, fun q => absurd rfl q, fun _ => 0, [], fun _ => 0, fun i hi => absurd hi (Nat.not_lt_zero i), fun _ => by rw [if_pos rfl]; exact h9, fun _ => rfl, fun q hq => absurd hq List.not_mem_nil, by show ownO k (T (5 * n + 1)) + 0 + 0 + 0 ≤ w; omega⟩
/-- a part is attached -/
theorem AE.att {T T' : Nat → Int32} {x ub s1 w σx : Nat} {e : Ent} (h : AE T x e s1) (hc : e.2.2.2.1 = 0) (hp : e.2.2.1 < 3) (hx : x < ub) (hW : WTx T ub x σx) (hT : ∀ c, c ≠ 5 * e.1 + 2 + e.2.2.1 → T' c = T c) (hTx : T' (5 * e.1 + 2 + e.2.2.1) = nI x) (h15 : e.2.1 = 15 → e.2.2.1 = 0) : AE T' ub (e.1, e.2.1, e.2.2.1 + 1, 0, w) (s1 + σx) := by
  obtain ⟨h1, -, σ, qs, τ, h3, h4, h5, h6, h7⟩ := h
  rw [if_pos hc] at h6
  simp only [if_pos hc] at h3 h4 h6 h7
  refine ⟨by show e.1 < ub; omega, fun q => absurd rfl q, fun i => if i = e.2.2.1 then σx else σ i, qs, τ, fun i hi => ?_, fun q => ?_, h5, fun q hq => ?_, ?_⟩
  · have hi : i < e.2.2.1 + 1 := hi
    show ∃ m, e.1 < m ∧ T' (5 * e.1 + 2 + i) = nI m ∧ WTx T' ub m (if i = e.2.2.1 then σx else σ i)
    by_cases q : i = e.2.2.1
    · subst q
      rw [if_pos rfl]
      exact ⟨x, h1, hTx, hW.up (Nat.le_refl _) (Nat.le_refl _) (fun c a _ => hT c (by omega))⟩
    · rw [if_neg q]
      obtain ⟨m, m1, m2, m3⟩ := h3 i (by omega)
      exact ⟨m, m1, (hT _ (by omega)).trans m2, m3.up (by omega) (Nat.le_refl _) (fun c a _ => hT c (by omega))⟩
  · show chC T' qs (T' (5 * e.1 + 3))
    have q : e.2.1 = 15 := q
    have p0 := h15 q
    rw [hT _ (by omega)]
    exact chC_fr qs _ (h4 q) (fun q' hq' => hT _ (by have := (h6 q' hq').1; omega))
  · obtain ⟨q1, q2, b, b1, b2, b3⟩ := h6 q hq
    exact ⟨q1, by show q < ub; omega, b, b1, (hT _ (by omega)).trans b2, b3.up (by show x ≤ ub; omega) (Nat.le_refl _) (fun c a _ => hT c (by omega))⟩
  · have e1 : ∀ p, p ≤ e.2.2.1 → sm (fun i => if i = e.2.2.1 then σx else σ i) p = sm σ p := by
      intro p
      induction p with
      | zero => intro _; rfl
      | succ p ih => intro hp; show sm _ p + _ = sm σ p + σ p; rw [ih (by omega)]; show _ + (if p = e.2.2.1 then σx else σ p) = _; rw [if_neg (by omega)]
    show ownO e.2.1 (T' (5 * e.1 + 1)) + (sm (fun i => if i = e.2.2.1 then σx else σ i) e.2.2.1 + (if e.2.2.1 = e.2.2.1 then σx else σ e.2.2.1)) + csm τ qs + 0 ≤ s1 + σx
    rw [e1 _ (Nat.le_refl _), if_pos rfl, hT _ (by omega)]
    omega
