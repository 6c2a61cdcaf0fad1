/-! How many bytes a tree lists: what ends. -/
/-- an expression whose parts were all read -/
theorem AE.done {T : Nat → Int32} {ub s s' : Nat} {e : Ent} (h : AE T ub e s) (hk : e.2.1 ≤ 15) (hT : T (5 * e.1) = nI e.2.1) (hp : e.2.2.1 = ari e.2.1) (hc : e.2.2.2.1 = 0) (hs : s + (if e.2.1 = 15 then 1 else 0) ≤ s') : WTx T ub e.1 s' := by
  obtain ⟨h1, -, σ, qs, τ, h3, h4, h5, h6, h7⟩ := h
  simp only [if_pos hc] at h3 h4 h6 h7
  refine WTx.mk hk hT h1 σ qs τ (fun i hi => h3 i (by omega)) h4 h5 h6 ?_
  have ho : own e.2.1 (T (5 * e.1 + 1)) ≤ ownO e.2.1 (T (5 * e.1 + 1)) + (if e.2.1 = 15 then 1 else 0) := by
    unfold ownO
    by_cases q : e.2.1 = 15
    · rw [if_pos q, if_pos q, q]
      show own 15 _ ≤ 2
      unfold own
      rw [if_neg (by decide), if_pos (by decide)]
      exact Nat.le_refl _
    · rw [if_neg q, if_neg q]; exact Nat.le_refl _
  rw [← hp]
  omega
/-- a clause's body is attached -/
theorem AE.cl {T T' : Nat → Int32} {x ub s1 σx : Nat} {e : Ent} (h : AE T x e s1) (h15 : e.2.1 = 15) (hp : e.2.2.1 = 1) (hc : ¬ e.2.2.2.1 = 0) (hx : e.2.2.2.1 < x ∧ x < ub) (hW : WTx T ub x σx) (hch : T (5 * e.1 + 3) = nI e.2.2.2.1) (hT : ∀ c, c ≠ 5 * e.2.2.2.1 + 2 → T' c = T c) (hTx : T' (5 * e.2.2.2.1 + 2) = nI x) : AE T' ub (e.1, 15, 1, 0, 0) (s1 + σx) := by
  obtain ⟨h1, h2, σ, qs, τ, h3, h4, h5, h6, h7⟩ := h
  simp only [if_neg hc] at h3 h4 h6 h7
  have hce := (h2 hc).1
  have hq : ∀ q ∈ qs, ¬ q = e.2.2.2.1 := fun q hq => by have := (h6 q hq).2.1; omega
  have tau : ∀ qs' : List Nat, (∀ q ∈ qs', ¬ q = e.2.2.2.1) → csm (fun q => if q = e.2.2.2.1 then σx else τ q) qs' = csm τ qs' := by
    intro qs'
    induction qs' with
    | nil => intro _; rfl
    | cons q qs' ih =>
      intro h
      show 2 + (if q = e.2.2.2.1 then σx else τ q) + csm _ qs' = 2 + τ q + csm τ qs'
      rw [if_neg (h q (List.mem_cons_self ..)), ih (fun q' hq' => h q' (List.mem_cons_of_mem _ hq'))]
  refine ⟨by show e.1 < ub; omega, fun q => absurd rfl q, σ, e.2.2.2.1 :: qs, fun q => if q = e.2.2.2.1 then σx else τ q, fun i hi => ?_, fun _ => ?_, fun q => absurd rfl q, fun q hq' => ?_, ?_⟩
  · have hi : i < 1 := hi
    obtain ⟨m, m1, m2, m3⟩ := h3 i (by omega)
    exact ⟨m, m1, (hT _ (by omega)).trans m2, m3.up (by show e.2.2.2.1 ≤ ub; omega) (Nat.le_refl _) (fun c a b => hT c (by omega))⟩
  · show chC T' (e.2.2.2.1 :: qs) (T' (5 * e.1 + 3))
    refine ⟨(hT _ (by omega)).trans hch, ?_⟩
    rw [hT _ (by omega)]
    exact chC_fr qs _ (h4 h15) (fun q' hq' => hT _ (by omega))
  · rcases List.mem_cons.mp hq' with rfl | hq'
    · refine ⟨hce, by show e.2.2.2.1 < ub; omega, x, hx.1, hTx, ?_⟩
      show WTx T' ub x (if e.2.2.2.1 = e.2.2.2.1 then σx else _)
      rw [if_pos rfl]
      exact hW.up (Nat.le_refl _) (Nat.le_refl _) (fun c a _ => hT c (by omega))
    · obtain ⟨q1, q2, b, b1, b2, b3⟩ := h6 q hq'
      refine ⟨q1, by show q < ub; omega, b, b1, (hT _ (by omega)).trans b2, ?_⟩
      show WTx T' ub b (if q = e.2.2.2.1 then σx else τ q)
      rw [if_neg (hq q hq')]
      exact b3.up (by show e.2.2.2.1 ≤ ub; omega) (Nat.le_refl _) (fun c a b => hT c (by omega))
  · show ownO 15 (T' (5 * e.1 + 1)) + sm σ 1 + (2 + (if e.2.2.2.1 = e.2.2.2.1 then σx else τ e.2.2.2.1) + csm (fun q => if q = e.2.2.2.1 then σx else τ q) qs) + 0 ≤ s1 + σx
    rw [tau qs hq, if_pos rfl, hT _ (by omega)]
    rw [h15, hp] at h7
    omega
/-- a clause is begun -/
theorem AE.clb {T T' : Nat → Int32} {n s1 w : Nat} {e : Ent} (h : AE T n e s1) (h15 : e.2.1 = 15) (hp : e.2.2.1 = 1) (hc : e.2.2.2.1 = 0) (hn : n ≠ 0) (hT : ∀ c, c < 5 * n → c ≠ 5 * e.1 + 3 → T' c = T c) (hch : T' (5 * n + 3) = T (5 * e.1 + 3)) : AE T' (n + 1) (e.1, 15, 1, n, w) (s1 + 2) := by
  obtain ⟨h1, -, σ, qs, τ, h3, h4, h5, h6, h7⟩ := h
  simp only [if_pos hc] at h3 h4 h6 h7
  refine ⟨by show e.1 < n + 1; omega, fun _ => ⟨h1, Nat.lt_succ_self _⟩, σ, qs, τ, fun i hi => ?_, fun _ => ?_, fun q => absurd rfl q, fun q hq => ?_, ?_⟩
  · have hi : i < 1 := hi
    obtain ⟨m, m1, m2, m3⟩ := h3 i (by omega)
    show ∃ m, e.1 < m ∧ T' (5 * e.1 + 2 + i) = nI m ∧ WTx T' (if n = 0 then n + 1 else n) m (σ i)
    rw [if_neg hn]
    exact ⟨m, m1, (hT _ (by omega) (by omega)).trans m2, m3.up (Nat.le_refl _) (Nat.le_refl _) (fun c a b => hT c b (by omega))⟩
  · show chC T' qs (if n = 0 then T' (5 * e.1 + 3) else T' (5 * n + 3))
    rw [if_neg hn, hch]
    exact chC_fr qs _ (h4 h15) (fun q' hq' => hT _ (by have := (h6 q' hq').2.1; omega) (by have := (h6 q' hq').1; omega))
  · obtain ⟨q1, q2, b, b1, b2, b3⟩ := h6 q hq
    show e.1 < q ∧ q < (if n = 0 then n + 1 else n) ∧ ∃ b, q < b ∧ T' (5 * q + 2) = nI b ∧ WTx T' (if n = 0 then n + 1 else n) b (τ q)
    rw [if_neg hn]
    exact ⟨q1, q2, b, b1, (hT _ (by omega) (by omega)).trans b2, b3.up (Nat.le_refl _) (Nat.le_refl _) (fun c a d => hT c d (by omega))⟩
  · show ownO 15 (T' (5 * e.1 + 1)) + sm σ 1 + csm τ qs + (if n = 0 then 0 else 2) ≤ s1 + 2
    rw [if_neg hn, hT _ (by omega) (by omega)]
    rw [h15, hp] at h7
    omega
/-- what was read to its end, aside of the stack -/
def ATW (fs : Nat) (T : Nat → Int32) (L : List Ent) (ub x k : Nat) : Prop := ∃ s σ, SW fs T L x s ∧ WTx T ub x σ ∧ s + σ ≤ k
theorem SW.mono {fs : Nat} {T : Nat → Int32} {L : List Ent} {ub s s' : Nat} (h : SW fs T L ub s) (hs : s ≤ s') : SW fs T L ub s' := by
  cases L with
  | nil => exact h.imp id (fun h => h.up (Nat.le_refl _) hs (fun _ _ _ => rfl))
  | cons e L =>
    obtain ⟨s1, s2, a, b⟩ := h
    exact ⟨s1, s2, by omega, b⟩
theorem digs (a : Nat) (h : a < 1000) (d : Nat) (h1 : 1 ≤ d) (h2 : a < 10 ^ d) : own 0 (nI a) ≤ d := by
  have e9 : (9 : Int32) < nI a ↔ 9 < a := nI_ltI (a := 9) (by decide) (by omega)
  have e99 : (99 : Int32) < nI a ↔ 99 < a := nI_ltI (a := 99) (by decide) (by omega)
  unfold own
  rw [if_pos rfl]
  have h3 : d = 1 ∨ d = 2 ∨ 3 ≤ d := by omega
  rcases h3 with rfl | rfl | h3
  · rw [if_neg (fun z => by have := e99.mp z; omega), if_neg (fun z => by have := e9.mp z; omega)]; exact Nat.le_refl _
  · rw [if_neg (fun z => by have := e99.mp z; omega)]; split <;> omega
  · split
    · exact h3
    · split <;> omega
