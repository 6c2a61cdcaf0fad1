/-! may, in both: a handler's step; a clause's. -/
section MHND
variable {b0 n0 : Nat} {g : zG} {f M N : zI} {t : zTs} {R : zRf} {m e : Nat}
theorem pch_b (N1 : N 1 = M 1) (r : Nat) {i : Nat} : ∀ (qs : List Nat) (x : Int32) (k : Nat) (s : Int32), chC (M 1) qs x → qs.length < k → (∀ q ∈ qs, q < 65000) → (bt (pchA N r k x s) i = true ↔ bt s i = true ∨ ∃ q ∈ qs, bt (N r q) i = true) := by
  intro qs
  induction qs with
  | nil =>
    intro x k s h1 h2 _
    obtain ⟨k, rfl⟩ : ∃ k', k = k' + 1 := ⟨k - 1, by simp at h2; omega⟩
    have h1 : x = -9 := h1
    rw [show pchA N r (k + 1) x s = s from if_pos h1]
    exact ⟨Or.inl, fun z => z.elim id (fun ⟨q, hq, _⟩ => by cases hq)⟩
  | cons q qs ih =>
    intro x k s h1 h2 h3
    obtain ⟨k, rfl⟩ : ∃ k', k = k' + 1 := ⟨k - 1, by simp at h2; omega⟩
    obtain ⟨h1, h4⟩ := h1
    have hq : q < 65000 := h3 q (List.mem_cons_self ..)
    have ht : tn x = q := by rw [h1]; exact tn_nI (by omega)
    have h9 : ¬ x = -9 := by rw [h1]; exact (iv_nI hq (by decide)).nn (by decide)
    have e : pchA N r (k + 1) x s = pchA N r k (M 1 (5 * q + 3)) (s ||| N r q) := (if_neg h9).trans (by rw [ht, N1])
    rw [e, ih _ k _ h4 (by simp at h2; omega) (fun p hp => h3 p (List.mem_cons_of_mem _ hp)), b_or, Bool.or_eq_true]
    constructor
    · rintro ((z | z) | ⟨p, hp, z⟩)
      · exact Or.inl z
      · exact Or.inr ⟨q, List.mem_cons_self .., z⟩
      · exact Or.inr ⟨p, List.mem_cons_of_mem _ hp, z⟩
    · rintro (z | ⟨p, hp, z⟩)
      · exact Or.inl (Or.inl z)
      · rcases List.mem_cons.mp hp with rfl | hp
        · exact Or.inl (Or.inr z)
        · exact Or.inr ⟨p, hp, z⟩
theorem ghS_b {i : Nat} : ∀ (j k : Nat) (s : Int32), (bt (ghS g f e j k s) i = true ↔ bt s i = true ∨ ∃ w, k ≤ w ∧ w < k + j ∧ bt (glv f (bclause g e (nI w))) i = true) := by
  intro j
  induction j with
  | zero => intro k s; exact ⟨Or.inl, fun z => z.elim id (fun ⟨w, a, b, _⟩ => by omega)⟩
  | succ j ih =>
    intro k s
    show bt (ghS g f e j (k + 1) (s ||| glv f (bclause g e (nI k)))) i = true ↔ _
    rw [ih, b_or, Bool.or_eq_true]
    constructor
    · rintro ((z | z) | ⟨w, a, b, z⟩)
      · exact Or.inl z
      · exact Or.inr ⟨k, by omega, by omega, z⟩
      · exact Or.inr ⟨w, by omega, by omega, z⟩
    · rintro (z | ⟨w, a, b, z⟩)
      · exact Or.inl (Or.inl z)
      · by_cases q : w = k
        · subst q; exact Or.inl (Or.inr z)
        · exact Or.inr ⟨w, by omega, by omega, z⟩
theorem ghT_b {i : Nat} : ∀ (j k : Nat) (s : Int32), (bt (ghT g f e j k s) i = true ↔ bt s i = true ∨ ∃ w, k ≤ w ∧ w < k + j ∧ bt (glt f (bclause g e (nI w))) i = true) := by
  intro j
  induction j with
  | zero => intro k s; exact ⟨Or.inl, fun z => z.elim id (fun ⟨w, a, b, _⟩ => by omega)⟩
  | succ j ih =>
    intro k s
    show bt (ghT g f e j (k + 1) (s ||| glt f (bclause g e (nI k)))) i = true ↔ _
    rw [ih, b_or, Bool.or_eq_true]
    constructor
    · rintro ((z | z) | ⟨w, a, b, z⟩)
      · exact Or.inl z
      · exact Or.inr ⟨k, by omega, by omega, z⟩
      · exact Or.inr ⟨w, by omega, by omega, z⟩
    · rintro (z | ⟨w, a, b, z⟩)
      · exact Or.inl (Or.inl z)
      · by_cases q : w = k
        · subst q; exact Or.inl (Or.inr z)
        · exact Or.inr ⟨w, by omega, by omega, z⟩
theorem ghL_e {x : Int32} (h : ∀ w, w < 6 → (bclause g e (nI w) = none ↔ pclause N x (nI w) = -9)) : ∀ (j k : Nat) (s : Int32), k + j = 6 → ghL g e j k s = pofhA N x j k s := by
  intro j
  induction j with
  | zero => intro k s _; rfl
  | succ j ih =>
    intro k s hk
    show ghL g e j (k + 1) (if bclause g e (nI k) = none then s else glow s (nI k)) = pofhA N x j (k + 1) (if pclause N x (nI k) = -9 then s else phandled s (nI k))
    rw [ih _ _ (by omega)]
    congr 1
    by_cases q : bclause g e (nI k) = none
    · rw [if_pos q, if_pos ((h k (by omega)).mp q)]
    · rw [if_neg q, if_neg (fun z => q ((h k (by omega)).mpr z)), glow_h (by omega)]
theorem mlvH (hE : EN b0 n0 g f (M 1) (e, t.2) 15 m) (he : e ≤ 65000) (hm : m < e) (hk : M 1 (5 * m) = nI 15) : gnl g R f (t.2.1 m) = pleaves (mT f M t) (nI m) ∧ gnt g R f (t.2.1 m) = plate (mT f M t) (nI m) := by
  have N1 : mT f M t 1 = M 1 := mT_r (by decide) (by decide)
  have hpk : pkind (mT f M t) (nI m) = 15 := pk_e N1 (by omega) hk
  have f0 : f (t.2.1 m) 0 = 123 := hE.1.2.2.1
  have hHN := hE.2.2.2.2.2 rfl
  have hHN' : HN b0 n0 g f (M 1) (e, t.2) m (t.2.1 m) := hHN
  obtain ⟨⟨e5, e6, i5, i6, l5, l6⟩, qs, c1, c2, c3, c4⟩ := hHN
  have e5 : g.2.2.2 (t.2.1 m) 5 = some (t.2.1 m + 1) := e5
  have l5 : g.2.2.1 (t.2.1 m + 1) = 7 := l5
  have bcl : ∀ w, w < 7 → bclause g (t.2.1 m) (nI w) = g.2.2.2 (t.2.1 m + 1) w := fun w hw => bclause_w e5 l5 hw
  have hq1 : ∀ q ∈ qs, q < 65000 ∧ ∃ w, w < 7 ∧ M 1 (5 * q + 4) = nI w ∧ mT f M t 14 q = glv f (bclause g (t.2.1 m) (nI w)) ∧ mT f M t 15 q = glt f (bclause g (t.2.1 m) (nI w)) := fun q hq => by
    obtain ⟨r1, r2, r3, w, b, v, s1, s2, s3, s4, s5, s6, s7, s8, s9, -⟩ := c3 q hq
    have r2 : q < e := r2
    have s4 : b < e := s4
    have s9 : g.2.2.2 (t.2.1 m + 1) w = some (t.2.1 b) := s9
    obtain ⟨y1, y2⟩ := mT_c (f := f) (M := M) (t := t) r3 s5 (by omega)
    refine ⟨by omega, w, s1, s2, ?_, ?_⟩
    · rw [y1, bcl w s1, s9]; rfl
    · rw [y2, bcl w s1, s9]; rfl
  have hq2 : ∀ w, w < 7 → bclause g (t.2.1 m) (nI w) = none ∨ ∃ q ∈ qs, mT f M t 14 q = glv f (bclause g (t.2.1 m) (nI w)) ∧ mT f M t 15 q = glt f (bclause g (t.2.1 m) (nI w)) := fun w hw => by
    by_cases h : ∃ q ∈ qs, M 1 (5 * q + 4) = nI w
    · obtain ⟨q, hq, z⟩ := h
      obtain ⟨-, w', y1, y2, y3, y4⟩ := hq1 q hq
      obtain rfl : w' = w := (nI_eq (by omega) (by omega)).mp (y2.symm.trans z)
      exact Or.inr ⟨q, hq, y3, y4⟩
    · refine Or.inl ((bcl w hw).trans ?_)
      exact c4 w hw (fun q hq z => h ⟨q, hq, z⟩)
  have hcl : ∀ w, w < 6 → (bclause g (t.2.1 m) (nI w) = none ↔ pclause (mT f M t) (nI m) (nI w) = -9) := fun w hw => by
    have hp : pclause (mT f M t) (nI m) (nI w) = pclause M (nI m) (nI w) := by
      unfold pclause
      rw [pclA_same (mT_same (f := f) (M := M) (t := t)), N1]
    rw [hp]
    rcases (HN.clause (w := w) hHN' he hm (by omega)).2 with ⟨z1, z2⟩ | ⟨q, v, b, q1, q2, q3, q4, q5, q6, q7, q8, q9, q10, -⟩
    · exact ⟨fun _ => z1, fun _ => z2⟩
    · have q2 : q < e := q2
      refine ⟨fun z => (by rw [q10] at z; cases z), fun z => ?_⟩
      rw [q3] at z
      exact absurd z ((iv_nI (N := 65000) (by omega) (by decide)).nn (by decide))
  have g0 := mgl hE he (i := 0) (by decide)
  have g1 := mgl hE he (i := 1) (by decide)
  have g2 := mgl hE he (i := 2) (by decide)
  rw [if_pos (by decide), if_pos (by decide)] at g0
  rw [if_neg (by decide), if_neg (by decide)] at g1 g2
  have p1 : ppart (mT f M t) (nI m) 1 = M 1 (5 * m + 2 + 0) := ppt_e N1 (by omega) (j := 1) (by decide)
  have eA : ghL g (t.2.1 m) 6 0 (glv f (g.2.2.2 (t.2.1 m) 2)) ||| glt f (g.2.2.2 (t.2.1 m) 2) = pofh (mT f M t) (nI m) := by
    unfold pofh
    rw [ghL_e hcl 6 0 _ rfl, p1, ← g0.1, ← g0.2]
  have e3 : mT f M t 1 (5 * tn (nI m) + 3) = M 1 (5 * m + 3) := by rw [N1, tn_nI (by omega)]
  have c0 : ¬ pkind (mT f M t) (nI m) < 2 := by rw [hpk]; decide
  have c16 : ¬ pkind (mT f M t) (nI m) = 16 := by rw [hpk]; decide
  have hl : qs.length < 8 := by omega
  have h65 : ∀ q ∈ qs, q < 65000 := fun q hq => (hq1 q hq).1
  constructor
  · rw [gnl_123 f0, show pleaves (mT f M t) (nI m) = pchA (mT f M t) 14 8 (mT f M t 1 (5 * tn (nI m) + 3)) (pofh (mT f M t) (nI m)) from (if_neg c0).trans ((if_neg c16).trans (if_pos hpk)), e3, ← eA]
    refine b_ext (fun i _ => Bool.eq_iff_iff.mpr ?_)
    unfold gleavesH
    rw [ghS_b, pch_b N1 14 qs _ 8 _ c1 hl h65]
    refine ⟨Or.imp id ?_, Or.imp id ?_⟩
    · rintro ⟨w, -, w7, z⟩
      rcases hq2 w (by omega) with y | ⟨q, hq, y1, -⟩
      · rw [y] at z
        rw [show glv f none = 0 from rfl, b_0] at z; cases z
      · exact ⟨q, hq, by rw [y1]; exact z⟩
    · rintro ⟨q, hq, z⟩
      obtain ⟨-, w, y1, y2, y3, y4⟩ := hq1 q hq
      exact ⟨w, Nat.zero_le _, by omega, by rw [← y3]; exact z⟩
  · rw [gnt_123 f0, show plate (mT f M t) (nI m) = pchA (mT f M t) 15 8 (mT f M t 1 (5 * tn (nI m) + 3)) (mT f M t 15 (tn (ppart (mT f M t) (nI m) 1))) from (if_neg c0).trans (if_pos hpk), e3, p1, ← g0.2]
    have e0 : gnt0 g f (t.2.1 m) = glt f (g.2.2.2 (t.2.1 m) (2 + 0)) := by
      show (glt f (g.2.2.2 (t.2.1 m) (2 + 0)) ||| glt f (g.2.2.2 (t.2.1 m) (2 + 1))) ||| glt f (g.2.2.2 (t.2.1 m) (2 + 2)) = _
      rw [g1.2, g2.2, or_0, or_0]
    rw [e0]
    refine b_ext (fun i _ => Bool.eq_iff_iff.mpr ?_)
    unfold glateC
    rw [b_or, Bool.or_eq_true, ghT_b, pch_b N1 15 qs _ 8 _ c1 hl h65, b_0]
    refine ⟨Or.imp id ?_, Or.imp id ?_⟩
    · rintro (z | ⟨w, -, w7, z⟩)
      · cases z
      · rcases hq2 w (by omega) with y | ⟨q, hq, -, y1⟩
        · rw [y] at z
          rw [show glt f none = 0 from rfl, b_0] at z; cases z
        · exact ⟨q, hq, by rw [y1]; exact z⟩
    · rintro ⟨q, hq, z⟩
      obtain ⟨-, w, y1, y2, y3, y4⟩ := hq1 q hq
      exact Or.inr ⟨w, Nat.zero_le _, by omega, by rw [← y4]; exact z⟩
/-- a clause's node takes what its body has -/
theorem mlvC {b : Nat} (hm : m < 65000) (hk : M 1 (5 * m) = nI 16) (hb : M 1 (5 * m + 2) = nI b) (hb2 : b < 65000) (N1 : N 1 = M 1) : pleaves N (nI m) = N 14 b ∧ plate N (nI m) = N 15 b := by
  have hpk : pkind N (nI m) = 16 := pk_e N1 hm hk
  have p1 : ppart N (nI m) 1 = M 1 (5 * m + 1 + 1) := ppt_e N1 hm (j := 1) (by decide)
  have c0 : ¬ pkind N (nI m) < 2 := by rw [hpk]; decide
  have c15 : ¬ pkind N (nI m) = 15 := by rw [hpk]; decide
  have p1 : ppart N (nI m) 1 = nI b := p1.trans hb
  constructor
  · rw [show pleaves N (nI m) = N 14 (tn (ppart N (nI m) 1)) from (if_neg c0).trans (if_pos hpk), p1, tn_nI (by omega)]
  · rw [plt_1 c0 c15, if_pos hpk, p1, tn_nI (by omega)]
    unfold pltE
    rw [hpk, if_neg (by decide), if_neg (by decide), if_neg (by decide)]
theorem mlvA {κ : Nat} (hE : EN b0 n0 g f (M 1) (e, t.2) κ m) (he : e ≤ 65000) (hm : m < e) (hk : M 1 (5 * m) = nI κ) (hB : BOm g M t R) (h15 : κ ≤ 15) : gnl g R f (t.2.1 m) = pleaves (mT f M t) (nI m) ∧ gnt g R f (t.2.1 m) = plate (mT f M t) (nI m) := by
  by_cases q : κ < 15
  · exact mlv hE he hm hk hB q
  · obtain rfl : κ = 15 := by omega
    exact mlvH hE he hm hk
end MHND
