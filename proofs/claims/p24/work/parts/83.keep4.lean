/-! The reference keeps no operation open but where a run is open. -/
def MX (N : zI) : Prop := N 2 15 = -9
theorem MX.z {N : zI} {k j : Nat} {x : Int32} (h : MX N) (c : k ≠ 2 ∨ j ≠ 15) : MX (zup N k j x) := (zup_ne _ _ _ _ (by omega)).trans h
section MXS
variable {N : zI}
theorem MX.if1 {c : Prop} {d : Decidable c} {p q : zI} (h1 : MX p) (h2 : MX q) : MX (@ite _ c d p q) := by
  by_cases z : c
  · rw [if_pos z]; exact h1
  · rw [if_neg z]; exact h2
theorem MX.if2 {c : Prop} {d : Decidable c} {p q : Int32 × zI} (h1 : MX p.2) (h2 : MX q.2) : MX (@ite _ c d p q).2 := by
  by_cases z : c
  · rw [if_pos z]; exact h1
  · rw [if_neg z]; exact h2
theorem MX.push {k n e s x : Int32} (h : MX N) : MX (ppush N k n e s x) := by
  unfold ppush
  dsimp only
  iterate 10 (refine MX.z ?_ (by omega))
  exact h
theorem MX.foc {n e s : Int32} (h : MX N) : MX (pfocusOn N n e s) := by
  unfold pfocusOn
  iterate 4 (refine MX.z ?_ (by omega))
  exact h
theorem MX.bec {v : Int32} (h : MX N) : MX (pbecome N v) := by
  unfold pbecome
  dsimp only
  iterate 3 (refine MX.z ?_ (by omega))
  exact h
theorem MX.bind {e c v : Int32} (h : MX N) : MX (pbindTo N e c v) := by
  unfold pbindTo
  dsimp only
  iterate 4 (refine MX.z ?_ (by omega))
  exact h
theorem MX.trc {v : Int32} (h : MX N) : MX (ptrace0 N v) := by
  unfold ptrace0
  split
  · dsimp only
    iterate 2 (refine MX.z ?_ (by omega))
    exact h
  · exact h
theorem MX.mkRes {t n : Int32} (h : MX N) : MX (pmakeRes N t n) := by
  unfold pmakeRes
  dsimp only
  iterate 4 (refine MX.z ?_ (by omega))
  exact h
theorem MX.chk (h : MX N) : MX (pcheck N) := by
  unfold pcheck
  split
  · iterate 2 (refine MX.z ?_ (by omega))
    exact h
  · exact h
theorem MX.exe {x v : Int32} (h : MX N) : MX (pexec N x v) := by
  unfold pexec
  dsimp only
  refine MX.foc (MX.push ?_)
  iterate 2 (refine MX.z ?_ (by omega))
  exact h
theorem MX.ag : ∀ (n k : Nat) (x : Int32) (N : zI), MX N → MX (pag n k x N) := by
  intro n
  induction n with
  | zero => intro k x N h; exact h
  | succ n ih => intro k x N h; exact ih _ _ _ (h.z (by omega))
theorem MX.pu : ∀ (n : Nat) (N : zI), MX N → MX (ppu n N) := by
  intro n
  induction n with
  | zero => intro N h; exact h
  | succ n ih => intro N h; exact ih _ h.push
theorem MX.resu {r v : Int32} (h : MX N) : MX (presume N r v) := by
  have h0 : MX (prs0 N r) := MX.pu _ _ (MX.ag _ _ _ _ h)
  have h4 : MX (prs4 (prs0 N r) r) := by
    unfold prs4
    dsimp only
    iterate 2 (refine MX.z ?_ (by omega))
    exact h0
  unfold presume prsE
  exact MX.bec (h4.z (by omega))
theorem MX.perf {a v : Int32} (h : MX N) : MX (pperf N a v) ∨ pperf N a v 2 5 = 3 := by
  have h1 : MX (pf1 N a) := by
    unfold pf1
    dsimp only
    iterate 2 (refine MX.z ?_ (by omega))
    exact h
  have h3 : MX (pf3 N a) := h1.z (by omega)
  have h6 : MX (pf6 N a) := (h3.mkRes.z (by omega)).push
  unfold pperf
  split
  · refine Or.inr ?_
    rw [zup_ne _ _ _ _ (by omega), zup_ne _ _ _ _ (by omega), zup_ne _ _ _ _ (by omega), zup_at]
  · exact Or.inl h6.bind.foc
theorem MX.dA {n : Nat} (h : MX N) : MX (ppdA N n) := by
  unfold ppdA
  dsimp only
  iterate 2 (refine MX.z ?_ (by omega))
  exact h
theorem MX.dB {n : Nat} {r : Int32} (h : MX N) : MX (ppdB N n r) := by
  unfold ppdB
  dsimp only
  iterate 3 (refine MX.z ?_ (by omega))
  exact h
theorem MX.pd : ∀ (k n : Nat) (N : zI), MX N → MX (ppd k n N).2 := by
  intro k
  induction k with
  | zero => intro n N h; exact h
  | succ k ih =>
    intro n N h
    cases n with
    | zero => exact h
    | succ n =>
      unfold ppd
      split
      · exact ih _ _ h
      · split
        · exact h.dA
        · split
          · exact ih _ _ h.dA.dB
          · exact ih _ _ h.dA
theorem MX.pend {r : Int32} {k : Nat} (h : MX N) : MX (ppend N r k).2 := by
  refine MX.pd _ _ _ ?_
  unfold ppend0
  dsimp only
  iterate 4 (refine MX.z ?_ (by omega))
  exact h
theorem MX.clo {x v : Int32} (h : MX N) : MX (pclose N x v).2 := by
  have h1 : MX (if puses N (pof N x 4) = 0 then ppend N (pof N x 4) pfu else (-9, N)).2 := by
    split
    · exact h.pend
    · exact h
  unfold pclose
  dsimp only
  exact MX.if2 h1.bec (MX.if2 h1 h1.push.exe)
/-- a step's answer: no operation is open, or one has just come to be -/
def OX (q : Int32 × zI) : Prop := MX q.2 ∨ (q.1 = 1 ∧ q.2 2 5 = 3)
theorem OX.if2 {c : Prop} {d : Decidable c} {p q : Int32 × zI} (h1 : OX p) (h2 : OX q) : OX (@ite _ c d p q) := by
  by_cases z : c
  · rw [if_pos z]; exact h1
  · rw [if_neg z]; exact h2
theorem MX.com {x v : Int32} (h : MX N) : OX (pcomes N x v) := by
  unfold pcomes
  refine OX.if2 (Or.inl h.push.foc) ?_
  refine OX.if2 (Or.inl h.bec) ?_
  refine OX.if2 (Or.inl h.foc) ?_
  refine OX.if2 (Or.inl h.foc) ?_
  refine OX.if2 (Or.inl h.bind.foc) ?_
  refine OX.if2 (Or.inl h.trc.bec) ?_
  refine OX.if2 (h.perf.imp id (fun z => ⟨rfl, z⟩)) ?_
  refine OX.if2 (Or.inl (MX.if1 h.exe h.bec)) ?_
  refine OX.if2 (Or.inl (MX.if1 h.bec h.bind.foc)) ?_
  refine OX.if2 (Or.inl (MX.if2 h h.resu)) ?_
  refine OX.if2 (Or.inl (MX.if1 h.bec h.bind.foc)) ?_
  refine OX.if2 (Or.inl h.bec) ?_
  exact OX.if2 (Or.inl h.clo) (Or.inl h.bec)
theorem MX.step (h : MX N) : MX (pstep N) ∨ pstep N 2 5 = 3 := by
  have h0 : OX (if N 2 16 = 2 then popens N else pcloses N) := by
    split
    · refine Or.inl ?_
      unfold popens
      repeat' split
      all_goals first
        | exact h.bec
        | exact h
        | (refine MX.z (MX.push ?_) (by omega); exact (h.z (by omega)).z (by omega))
        | exact MX.z (MX.push h) (by omega)
        | skip
    · unfold pcloses
      dsimp only
      rcases MX.com (x := N 2 7) (v := pcl1 N 2 20) (show MX (pcl1 N) from h.z (by omega)) with q | ⟨q1, q2⟩
      · exact Or.inl (MX.z q (by omega))
      · refine Or.inr ⟨q1, ?_⟩
        show zup (pcomes (pcl1 N) (N 2 7) (pcl1 N 2 20)).2 2 7 (if (pcomes (pcl1 N) (N 2 7) (pcl1 N 2 20)).1 = 0 then N 2 7 else (pcomes (pcl1 N) (N 2 7) (pcl1 N 2 20)).2 2 7) 2 5 = 3
        rw [zup_ne _ _ _ _ (Or.inr (by decide))]; exact q2
  unfold pstep
  dsimp only
  rcases h0 with q | ⟨q1, q2⟩
  · exact Or.inl (MX.if1 ((MX.z q (by omega)).z (by omega)) (MX.chk (MX.z q (by omega))))
  · refine Or.inr ?_
    rw [if_neg (by rw [q1]; decide)]
    unfold pcheck
    rw [if_neg (fun z => by
      have z1 := z.1
      rw [zup_ne _ _ _ _ (by omega), q2] at z1
      exact absurd z1 (by decide)), zup_ne _ _ _ _ (by omega)]
    exact q2
end MXS
/-- the operation with which a run is open, and none otherwise -/
def OP (N : zI) : Prop := N 2 5 = 3 ∨ MX N
theorem OP.runA : ∀ (j : Nat) (N : zI), OP N → OP (prunA j N) := by
  intro j
  induction j with
  | zero => intro N h; exact h
  | succ j ih =>
    intro N h
    unfold prunA
    split
    · rename_i q
      refine ih _ ?_
      rcases h with h | h
      · exact absurd (h.symm.trans q) (by decide)
      · exact h.step.symm
    · exact h
