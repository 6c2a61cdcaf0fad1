/-! What a step of the reference leaves as it was; its stamps. -/
def MFc (k j : Nat) : Prop := (k = 2 ∧ 5 ≤ j) ∨ k = 4 ∨ k = 16 ∨ k = 17 ∨ k = 18 ∨ (k = 0 ∧ j = 28)
def MF (M N : zI) : Prop := (∀ k, k ≠ 0 → k ≠ 2 → k ≠ 4 → k ≠ 16 → k ≠ 17 → k ≠ 18 → k ≠ 19 → N k = M k) ∧ (∀ j, j ≠ 27 → j ≠ 28 → N 0 j = M 0 j) ∧ ∀ j, j < 5 → N 2 j = M 2 j
theorem MF.rf (M : zI) : MF M M := ⟨fun _ _ _ _ _ _ _ _ => rfl, fun _ _ _ => rfl, fun _ _ => rfl⟩
theorem MF.tr {M N P : zI} (h : MF M N) (k : MF N P) : MF M P := ⟨fun j a b c d e f g => (k.1 j a b c d e f g).trans (h.1 j a b c d e f g), fun j a b => (k.2.1 j a b).trans (h.2.1 j a b), fun j a => (k.2.2 j a).trans (h.2.2 j a)⟩
def MG (b : Nat) (N : zI) : Prop := ∃ s, s ≤ b ∧ N 0 27 = nI s ∧ ∀ r, ∃ u, u ≤ s ∧ N 19 r = nI u
def MH (b : Nat) (M N : zI) : Prop := MF M N ∧ MG b N
theorem MG.mono {b b' : Nat} {N : zI} (h : MG b N) (k : b ≤ b') : MG b' N := by
  obtain ⟨s, h1, h2⟩ := h
  exact ⟨s, by omega, h2⟩
theorem MG.of {b : Nat} {N P : zI} (h : MG b N) (h0 : P 0 27 = N 0 27) (h19 : P 19 = N 19) : MG b P := by
  unfold MG
  rw [h0, h19]; exact h
theorem MH.mono {b b' : Nat} {M N : zI} (h : MH b M N) (k : b ≤ b') : MH b' M N := ⟨h.1, h.2.mono k⟩
theorem MF.z {M N : zI} {k j : Nat} {x : Int32} (h : MF M N) (c : MFc k j) : MF M (zup N k j x) := by
  unfold MFc at c
  refine ⟨fun r a b d e f g i => ?_, fun q a b => ?_, fun q a => ?_⟩
  · rw [zup_r (by omega)]; exact h.1 r a b d e f g i
  · rw [zup_ne _ _ _ _ (by omega)]; exact h.2.1 q a b
  · rw [zup_ne _ _ _ _ (by omega)]; exact h.2.2 q a
theorem MH.z {b : Nat} {M N : zI} {k j : Nat} {x : Int32} (h : MH b M N) (c : MFc k j) : MH b M (zup N k j x) := by
  refine ⟨h.1.z c, h.2.of (zup_ne _ _ _ _ (by unfold MFc at c; omega)) (zup_r (by unfold MFc at c; omega))⟩
section MHS
variable {b : Nat} {M N : zI}
theorem MH.if1 {c : Prop} {d : Decidable c} {p q : zI} (h1 : MH b M p) (h2 : MH b M q) : MH b M (@ite _ c d p q) := by
  by_cases z : c
  · rw [if_pos z]; exact h1
  · rw [if_neg z]; exact h2
theorem MH.if2 {c : Prop} {d : Decidable c} {p q : Int32 × zI} (h1 : MH b M p.2) (h2 : MH b M q.2) : MH b M (@ite _ c d p q).2 := by
  by_cases z : c
  · rw [if_pos z]; exact h1
  · rw [if_neg z]; exact h2
theorem MH.push {k n e s x : Int32} (h : MH b M N) : MH b M (ppush N k n e s x) := by
  unfold ppush
  dsimp only
  iterate 10 (refine MH.z ?_ (by unfold MFc; omega))
  exact h
theorem MH.foc {n e s : Int32} (h : MH b M N) : MH b M (pfocusOn N n e s) := by
  unfold pfocusOn
  iterate 4 (refine MH.z ?_ (by unfold MFc; omega))
  exact h
theorem MH.bec {v : Int32} (h : MH b M N) : MH b M (pbecome N v) := by
  unfold pbecome
  dsimp only
  iterate 3 (refine MH.z ?_ (by unfold MFc; omega))
  exact h
theorem MH.bind {e c v : Int32} (h : MH b M N) : MH b M (pbindTo N e c v) := by
  unfold pbindTo
  dsimp only
  iterate 4 (refine MH.z ?_ (by unfold MFc; omega))
  exact h
theorem MH.trc {v : Int32} (h : MH b M N) : MH b M (ptrace0 N v) := by
  unfold ptrace0
  split
  · dsimp only
    iterate 2 (refine MH.z ?_ (by unfold MFc; omega))
    exact h
  · exact h
theorem MH.mkRes {t n : Int32} (h : MH b M N) : MH b M (pmakeRes N t n) := by
  unfold pmakeRes
  dsimp only
  iterate 4 (refine MH.z ?_ (by unfold MFc; omega))
  exact h
theorem MH.chk (h : MH b M N) : MH b M (pcheck N) := by
  unfold pcheck
  split
  · iterate 2 (refine MH.z ?_ (by unfold MFc; omega))
    exact h
  · exact h
theorem MH.exe {x v : Int32} (h : MH b M N) : MH b M (pexec N x v) := by
  unfold pexec
  dsimp only
  refine MH.foc (MH.push ?_)
  iterate 2 (refine MH.z ?_ (by unfold MFc; omega))
  exact h
theorem MH.ag : ∀ (n k : Nat) (x : Int32) (N : zI), MH b M N → MH b M (pag n k x N) := by
  intro n
  induction n with
  | zero => intro k x N h; exact h
  | succ n ih => intro k x N h; exact ih _ _ _ (h.z (by unfold MFc; omega))
theorem MH.pu : ∀ (n : Nat) (N : zI), MH b M N → MH b M (ppu n N) := by
  intro n
  induction n with
  | zero => intro N h; exact h
  | succ n ih => intro N h; exact ih _ h.push
theorem MH.resu {r v : Int32} (h : MH b M N) : MH b M (presume N r v) := by
  have h0 : MH b M (prs0 N r) := MH.pu _ _ (MH.ag _ _ _ _ h)
  have h4 : MH b M (prs4 (prs0 N r) r) := by
    unfold prs4
    dsimp only
    iterate 2 (refine MH.z ?_ (by unfold MFc; omega))
    exact h0
  unfold presume prsE
  exact MH.bec (h4.z (by unfold MFc; omega))
theorem MH.perf {a v : Int32} (h : MH b M N) : MH b M (pperf N a v) := by
  have h1 : MH b M (pf1 N a) := by
    unfold pf1
    dsimp only
    iterate 2 (refine MH.z ?_ (by unfold MFc; omega))
    exact h
  have h3 : MH b M (pf3 N a) := h1.z (by unfold MFc; omega)
  have h6 : MH b M (pf6 N a) := (h3.mkRes.z (by unfold MFc; omega)).push
  unfold pperf
  split
  · iterate 4 (refine MH.z ?_ (by unfold MFc; omega))
    exact h3
  · exact h6.bind.foc
theorem MH.dA {n : Nat} (h : MH b M N) : MH b M (ppdA N n) := by
  unfold ppdA
  dsimp only
  iterate 2 (refine MH.z ?_ (by unfold MFc; omega))
  exact h
theorem MH.dB {n : Nat} {r : Int32} (h : MH b M N) : MH b M (ppdB N n r) := by
  have h1 : MH b M (zup N 19 (tn r) (N 0 27)) := by
    refine ⟨⟨fun q a b d e f g i => ?_, fun q a b => ?_, fun q a => ?_⟩, ?_⟩
    · rw [zup_r i]; exact h.1.1 q a b d e f g i
    · rw [zup_r (by decide)]; exact h.1.2.1 q a b
    · rw [zup_r (by decide)]; exact h.1.2.2 q a
    · obtain ⟨s, s1, s2, s3⟩ := h.2
      refine ⟨s, s1, by rw [zup_r (by decide)]; exact s2, fun q => ?_⟩
      by_cases e : q = tn r
      · subst e; rw [zup_at]; exact ⟨s, Nat.le_refl _, s2⟩
      · rw [zup_ne _ _ _ _ (Or.inr e)]; exact s3 q
  unfold ppdB
  dsimp only
  iterate 2 (refine MH.z ?_ (by unfold MFc; omega))
  exact h1
theorem MH.pd : ∀ (k n : Nat) (N : zI), MH b M N → MH b M (ppd k n N).2 := by
  intro k
  induction k with
  | zero => intro n N h; exact h
  | succ k ih =>
    intro n N h
    cases n with
    | zero => exact h
    | succ n =>
      unfold ppd
      split
      · exact ih _ _ h
      · split
        · exact h.dA
        · split
          · exact ih _ _ h.dA.dB
          · exact ih _ _ h.dA
theorem MH.pend {r : Int32} {k : Nat} (h : MH b M N) : MH (b + 1) M (ppend N r k).2 := by
  refine MH.pd _ _ _ ?_
  have h1 : MH (b + 1) M (zup (zup N 0 27 (N 0 27 + 1)) 19 (tn r) (zup N 0 27 (N 0 27 + 1) 0 27)) := by
    refine ⟨⟨fun q a b d e f g i => ?_, fun q a b => ?_, fun q a => ?_⟩, ?_⟩
    · rw [zup_r i, zup_r a]; exact h.1.1 q a b d e f g i
    · rw [zup_r (by decide), zup_ne _ _ _ _ (Or.inr a)]; exact h.1.2.1 q a b
    · rw [zup_r (by decide), zup_r (by decide)]; exact h.1.2.2 q a
    · obtain ⟨s, s1, s2, s3⟩ := h.2
      have e1 : N 0 27 + 1 = nI (s + 1) := by rw [s2]; exact ixA (a := s) (b := 1) rfl (ixC 1)
      refine ⟨s + 1, by omega, by rw [zup_r (by decide), zup_at, e1], fun q => ?_⟩
      by_cases e : q = tn r
      · subst e; rw [zup_at, zup_at, e1]; exact ⟨s + 1, Nat.le_refl _, rfl⟩
      · rw [zup_ne _ _ _ _ (Or.inr e), zup_r (by decide)]
        obtain ⟨u, u1, u2⟩ := s3 q
        exact ⟨u, by omega, u2⟩
  unfold ppend0
  dsimp only
  iterate 2 (refine MH.z ?_ (by unfold MFc; omega))
  exact h1
theorem MH.clo {x v : Int32} (h : MH b M N) : MH (b + 1) M (pclose N x v).2 := by
  have h1 : MH (b + 1) M (if puses N (pof N x 4) = 0 then ppend N (pof N x 4) pfu else (-9, N)).2 := by
    split
    · exact h.pend
    · exact h.mono (Nat.le_succ _)
  unfold pclose
  dsimp only
  exact MH.if2 h1.bec (MH.if2 h1 h1.push.exe)
theorem MH.com {x v : Int32} (h : MH b M N) : MH (b + 1) M (pcomes N x v).2 := by
  have h1 := h.mono (Nat.le_succ b)
  unfold pcomes
  refine MH.if2 h1.push.foc ?_
  refine MH.if2 h1.bec ?_
  refine MH.if2 h1.foc ?_
  refine MH.if2 h1.foc ?_
  refine MH.if2 h1.bind.foc ?_
  refine MH.if2 h1.trc.bec ?_
  refine MH.if2 h1.perf ?_
  refine MH.if2 (MH.if1 h1.exe h1.bec) ?_
  refine MH.if2 (MH.if1 h1.bec h1.bind.foc) ?_
  refine MH.if2 (MH.if2 h1 h1.resu) ?_
  refine MH.if2 (MH.if1 h1.bec h1.bind.foc) ?_
  refine MH.if2 h1.bec ?_
  exact MH.if2 h.clo h1.bec
theorem MH.step (h : MH b M N) : MH (b + 1) M (pstep N) := by
  have h0 : MH (b + 1) M (if N 2 16 = 2 then popens N else pcloses N).2 := by
    have h1 := h.mono (Nat.le_succ b)
    split
    · unfold popens
      repeat' split
      all_goals first
        | exact h1.bec
        | exact h1
        | (refine MH.z (MH.push ?_) (by unfold MFc; omega); exact (h1.z (by unfold MFc; omega)).z (by unfold MFc; omega))
        | exact MH.z (MH.push h1) (by unfold MFc; omega)
        | skip
    · unfold pcloses
      dsimp only
      exact (MH.com (h.z (by unfold MFc; omega))).z (by unfold MFc; omega)
  unfold pstep
  dsimp only
  exact MH.if1 ((h0.z (Or.inl ⟨rfl, by decide⟩)).z (Or.inl ⟨rfl, by decide⟩)) (MH.chk (h0.z (Or.inl ⟨rfl, by decide⟩)))
end MHS
