/-! The reference's reading of clauses and of a whole text. -/
def pbc1 (M : zI) : Int32 := if phere M = 58 then 6 else phere M - 65
/-- where a clause begins: what it is for may stand there -/
def pbcOk (M : zI) (h : Int32) : Prop := (phere M = 58 ∨ ¬ (phere M - 65 < 0 ∨ 5 < phere M - 65)) ∧ pclause M h (pbc1 M) = -9
def pbcC (N : zI) (h w a : Int32) : zI :=
  let c := N 0 1
  let M1 := pmake N 16 a
  let M2 := zup M1 1 (5 * tn c + 3) (M1 1 (5 * tn h + 3))
  let M3 := zup M2 1 (5 * tn c + 4) w
  zup M3 1 (5 * tn h + 3) c
def pbcD (N : zI) (h w a : Int32) (r : Prop) [Decidable r] : zI :=
  penter (pbcC N h w a) (N 0 1) (pbcC N h w a 9 (tn (pbcC N h w a 0 13) - 1) ||| (1 <<< (a &&& 31))) (if r then pbcC N h w a 10 (tn (pbcC N h w a 0 13) - 1) else h + 1)
def pbclause (M : zI) (h : Int32) : zI :=
  if (phere M = 58 ∨ ¬ (phere M - 65 < 0 ∨ 5 < phere M - 65)) ∧ pclause M h (pbc1 M) = -9 then
    (let q := ptake (patn M) 97 122; if q.2 0 15 = -9 then pbcD q.2 h (pbc1 M) q.1 (phere M = 58) else q.2)
  else pfails M
def pbclauseV (M : zI) (h : Int32) : Prop := pat M ∧ iv 65000 h ∧ pclOk M h ∧ iv 65000 (M 0 1) ∧ (iv 130 (M 0 13) ∧ 0 < tn (M 0 13))
theorem pbcC_0 {N : zI} {h w a : Int32} {c : Nat} (k1 : c ≠ 1) (k2 : c ≠ 16) : pbcC N h w a 0 c = N 0 c := by
  unfold pbcC
  rw [zup_r (show (0 : Nat) ≠ 1 by decide), zup_r (show (0 : Nat) ≠ 1 by decide), zup_r (show (0 : Nat) ≠ 1 by decide), pmake_0 k1 k2]
theorem pbclause_no {M : zI} {h : Int32} (q : ¬ ((phere M = 58 ∨ ¬ (phere M - 65 < 0 ∨ 5 < phere M - 65)) ∧ pclause M h (pbc1 M) = -9)) : pbclause M h = pfails M := if_neg q
theorem pbclause_yes {M : zI} {h : Int32} (q : (phere M = 58 ∨ ¬ (phere M - 65 < 0 ∨ 5 < phere M - 65)) ∧ pclause M h (pbc1 M) = -9) : pbclause M h = (if (ptake (patn M) 97 122).2 0 15 = -9 then pbcD (ptake (patn M) 97 122).2 h (pbc1 M) (ptake (patn M) 97 122).1 (phere M = 58) else (ptake (patn M) 97 122).2) := if_pos q
theorem phere_ne {M : zI} (h : ¬ phere M = 0) : M 0 14 < M 0 8 := by
  rcases Decidable.em (M 0 14 < M 0 8) with q | q
  · exact q
  · exact absurd (phere_0 q) h
def ptop (M : zI) : Nat := tn (M 0 13) - 1
def pboundNext (M : zI) : Int32 := M 9 (ptop M) ||| (if pkind M (M 7 (ptop M)) = 8 ∧ M 8 (ptop M) = 1 then 1 <<< (parg M (M 7 (ptop M)) &&& 31) else 0)
def pattach (M : zI) (x : Int32) : zI :=
  let M1 := zup M 1 (5 * tn (M 7 (ptop M)) + 2 + tn (M 8 (ptop M))) x
  zup M1 8 (ptop M) (M1 8 (ptop M) + 1)
def pnz (M : zI) : Prop := iv 131 (M 0 13) ∧ 0 < tn (M 0 13)
theorem pnz.ix {M : zI} (h : pnz M) : M 0 13 - 1 = nI (ptop M) := ixS h.1.2 (ixC 1) h.2
theorem pnz.bd {M : zI} (h : pnz M) : ptop M < 130 := by have := h.1.1; have := h.2; unfold ptop; omega
/-- what is whole behind an expression is closed; 1 if another expression must follow -/
def pgo1 (M : zI) : Prop := pkind M (M 7 (ptop M)) = 15 ∧ M 8 (ptop M) = 1
def pgo2 (M : zI) : Prop := if pkind M (M 7 (ptop M)) = 16 then M 8 (ptop M) = 0 else M 8 (ptop M) < pparts (pkind M (M 7 (ptop M)))
def pgoC (M : zI) : zI := zup M 0 13 (M 0 13 - 1)
/-- an entry of the stack is closed; its node n, of kind k, becomes a part of the one below -/
def pgoD (M : zI) (n k : Int32) : zI := if 0 < pgoC M 0 13 ∧ ¬ k = 16 then pattach (pgoC M) n else pgoC M
def pgoes : Nat → zI → Int32 × zI
  | 0, M => (0, M)
  | j + 1, M => if ¬ 0 < M 0 13 then (0, M) else
      if pkind M (M 7 (ptop M)) = 15 ∧ M 8 (ptop M) = 1 then
        (if phere (pskip M) = 125 then pgoes j (pgoD (patn (pskip M)) (M 7 (ptop M)) (pkind M (M 7 (ptop M)))) else (1, pbclause (pskip M) (M 7 (ptop M))))
      else if (if pkind M (M 7 (ptop M)) = 16 then M 8 (ptop M) = 0 else M 8 (ptop M) < pparts (pkind M (M 7 (ptop M)))) then (1, M)
      else pgoes j (pgoD M (M 7 (ptop M)) (pkind M (M 7 (ptop M))))
def pgoDV (M : zI) (k : Int32) : Prop := 0 < tn (M 0 13) - 1 → ¬ k = 16 → iv 64990 (M 7 (tn (M 0 13) - 2)) ∧ iv 3 (M 8 (tn (M 0 13) - 2))
def pgoesV : Nat → zI → Prop
  | 0, _ => False
  | j + 1, M => pat M ∧ iv 131 (M 0 13) ∧ (0 < tn (M 0 13) → iv 65000 (M 7 (ptop M)) ∧
      (pkind M (M 7 (ptop M)) = 15 ∧ M 8 (ptop M) = 1 → (phere (pskip M) = 125 → pgoDV M (pkind M (M 7 (ptop M))) ∧ pgoesV j (pgoD (patn (pskip M)) (M 7 (ptop M)) (pkind M (M 7 (ptop M))))) ∧ (¬ phere (pskip M) = 125 → pbclauseV (pskip M) (M 7 (ptop M)))) ∧
      (¬ (pkind M (M 7 (ptop M)) = 15 ∧ M 8 (ptop M) = 1) → ¬ (if pkind M (M 7 (ptop M)) = 16 then M 8 (ptop M) = 0 else M 8 (ptop M) < pparts (pkind M (M 7 (ptop M)))) → pgoDV M (pkind M (M 7 (ptop M))) ∧ pgoesV j (pgoD M (M 7 (ptop M)) (pkind M (M 7 (ptop M))))))
theorem pgoC_top {M : zI} (hz : pnz M) : tn (pgoC M 0 13) = ptop M ∧ pgoC M 0 13 = nI (ptop M) := by
  have e : pgoC M 0 13 = nI (ptop M) := hz.ix
  exact ⟨by rw [e]; exact tn_nI (by have := hz.bd; omega), e⟩
theorem pgoC_row {M : zI} {r : Nat} (h : r ≠ 0) : pgoC M r = M r := zup_r h
theorem pgoC_nz {M : zI} (hz : pnz M) (c : 0 < pgoC M 0 13) : pnz (pgoC M) ∧ 0 < tn (M 0 13) - 1 ∧ ptop (pgoC M) = tn (M 0 13) - 2 := by
  obtain ⟨e1, e2⟩ := pgoC_top hz
  have h0 : 0 < ptop M := by
    rcases Nat.eq_zero_or_pos (ptop M) with q | q
    · rw [e2, q] at c; exact absurd c (by decide)
    · exact q
  have hb := hz.bd
  refine ⟨⟨by rw [e2]; exact iv_nI (by omega) (by decide), by rw [e1]; exact h0⟩, h0, ?_⟩
  unfold ptop
  rw [e1]
  unfold ptop
  omega
def pgf : Nat := 300
theorem pgoes_01 : ∀ (j : Nat) (M : zI), (pgoes j M).1 = 0 ∨ (pgoes j M).1 = 1 := by
  intro j
  induction j with
  | zero => intro M; exact Or.inl rfl
  | succ j ih =>
    intro M
    unfold pgoes
    refine zite01 _ _ _ (Or.inl rfl) (zite01 _ _ _ (zite01 _ _ _ (ih _) (Or.inr rfl)) (zite01 _ _ _ (Or.inr rfl) (ih _)))
/-- the loop of parse: how the text is read, whether there is more -/
def pparV0 (M : zI) (how : Int32) : Int32 := if M 0 13 = 0 then (if how = 1 then 8388608 else 0) else pboundNext M
def pparR0 (M : zI) : Int32 := if M 0 13 = 0 then 0 else M 10 (ptop M)
def pparB (M : zI) (how : Int32) : Int32 × zI := pbegins M (pparV0 M how) (pparR0 M)
def pparT (N : zI) : zI := if 0 < N 0 13 then pattach N (N 0 17) else N
def ppar (how : Int32) : Nat → Int32 → zI → zI
  | 0, _, M => M
  | j + 1, more, M => if more = 0 then M else if ¬ M 0 15 = -9 then M else
      if (pparB M how).2 0 15 = -9 ∧ ¬ (pparB M how).1 = 0 then ppar how j (pgoes pgf (pparT (pparB M how).2)).1 (pgoes pgf (pparT (pparB M how).2)).2
      else ppar how j more (pparB M how).2
def pparV (how : Int32) : Nat → Int32 → zI → Prop
  | 0, _, _ => False
  | j + 1, more, M => ¬ more = 0 → M 0 15 = -9 → pbeginsV M ∧ (¬ M 0 13 = 0 → pnz M ∧ iv 65000 (M 7 (ptop M))) ∧
      ((pparB M how).2 0 15 = -9 ∧ ¬ (pparB M how).1 = 0 → (0 < (pparB M how).2 0 13 → pnz (pparB M how).2 ∧ iv 64990 ((pparB M how).2 7 (ptop (pparB M how).2)) ∧ iv 3 ((pparB M how).2 8 (ptop (pparB M how).2))) ∧ pgoesV pgf (pparT (pparB M how).2) ∧
        pparV how j (pgoes pgf (pparT (pparB M how).2)).1 (pgoes pgf (pparT (pparB M how).2)).2) ∧
      (¬ ((pparB M how).2 0 15 = -9 ∧ ¬ (pparB M how).1 = 0) → pparV how j more (pparB M how).2)
theorem pparB_of {M : zI} {how v r : Int32} (hv : v = pparV0 M how) (hr : r = pparR0 M) : pbegins M v r = pparB M how := by rw [hv, hr]; rfl
def pparf : Nat := 300
def ppar0 (M : zI) : zI := zup (zup (zup (zup M 0 14 0) 0 15 (-9)) 0 13 0) 0 16 0
def pparM (M : zI) (how : Int32) : zI := ppar how pparf 1 (ppar0 M)
def pparN (N : zI) : zI := if N 0 15 = -9 then (if pskip N 0 14 < pskip N 0 8 then pfails (pskip N) else pskip N) else N
def pparse (M : zI) (how : Int32) : Int32 × zI :=
  (if pparN (pparM M how) 0 15 = -9 then M 0 1 else -9, zup (pparN (pparM M how)) 11 (tn (M 0 1)) (pparN (pparM M how) 0 1))
def pparseV (M : zI) (how : Int32) : Prop := iv 65000 (M 0 1) ∧ pparV how pparf 1 (ppar0 M) ∧ pat (pparM M how)
def pparZ (N : zI) (x2 : Int32) : Int32 × zI := (if N 0 15 = -9 then x2 else -9, zup N 11 (tn x2) (N 0 1))
def pfault (M : zI) (x : Int32) : Int32 × zI := if x < 0 ∨ 1 < x then (-1, M) else ((pparse M x).2 0 15, zup (pparse M x).2 0 1 (M 0 1))
def pload (M : zI) : Int32 × zI := if (pparse M 0).1 = -9 then (-2, zup (pparse M 0).2 0 1 (M 0 1)) else ((pparse M 0).2 0 16, pbegin (zup (pparse M 0).2 2 0 (pparse M 0).1))
def pdefine (M : zI) (x : Int32) : Int32 × zI := if x < 0 ∨ 3 < x then (-1, M) else if (pparse M 1).1 = -9 then (-2, zup (pparse M 1).2 0 1 (M 0 1)) else ((pparse M 1).2 0 16, zup (pparse M 1).2 2 (1 + tn x) (pparse M 1).1)
theorem pbegin_0 {M : zI} {r : Nat} (h : r ≠ 2) : pbegin M r = M r := by
  unfold pbegin
  rw [zup_r h, zup_r h, zup_r h, zup_r h, zup_r h, zup_r h, zup_r h]
  funext c
  exact if_neg (fun q => h q.1)
