/-! The reference's other calls: text, what is told, images. -/
/-- a stretch of row r2 is copied into row r1 -/
def pcp (M : zI) (r1 d1 r2 s2 k : Nat) : zI := fun r c => if r = r1 ∧ d1 ≤ c ∧ c < d1 + k then M r2 (s2 + (c - d1)) else M r c
theorem pcp_0 (M : zI) (r1 d1 r2 s2 : Nat) : pcp M r1 d1 r2 s2 0 = M := by
  funext r c
  unfold pcp
  rw [if_neg (by omega)]
theorem pcp_s (M : zI) (r1 d1 r2 s2 k : Nat) : zup (pcp M r1 d1 r2 s2 k) r1 (d1 + k) (M r2 (s2 + k)) = pcp M r1 d1 r2 s2 (k + 1) := by
  funext r c
  unfold zup pcp
  by_cases h1 : r = r1
  · by_cases h2 : c = d1 + k
    · rw [if_pos h1, if_pos h2, if_pos (by omega), h2, Nat.add_sub_cancel_left]
    · rw [if_pos h1, if_neg h2]
      by_cases h3 : d1 ≤ c ∧ c < d1 + k
      · rw [if_pos ⟨h1, h3⟩, if_pos (by omega)]
      · rw [if_neg (fun q => h3 q.2), if_neg (by omega)]
  · rw [if_neg h1, if_neg (fun q => h1 q.1), if_neg (fun q => h1 q.1)]
theorem pcp_r {M : zI} {r1 d1 r2 s2 k r c : Nat} (h : r ≠ r1) : pcp M r1 d1 r2 s2 k r c = M r c := if_neg (fun q => h q.1)
def pfill (M : zI) (k : Nat) : zI := fun r c => if r = 2 ∧ 5 ≤ c ∧ c < k then 0 else M r c
theorem pfill_s (M : zI) (k : Nat) (hk : 5 ≤ k) : zup (pfill M k) 2 k 0 = pfill M (k + 1) := by
  funext r c
  unfold zup pfill
  by_cases h1 : r = 2
  · by_cases h2 : c = k
    · rw [if_pos h1, if_pos h2, if_pos (by omega)]
    · rw [if_pos h1, if_neg h2]
      by_cases h3 : 5 ≤ c ∧ c < k
      · rw [if_pos ⟨h1, h3⟩, if_pos (by omega)]
      · rw [if_neg (fun q => h3 q.2), if_neg (by omega)]
  · rw [if_neg h1, if_neg (fun q => h1 q.1), if_neg (fun q => h1 q.1)]
theorem pfill_0 (M : zI) : pfill M 5 = M := by
  funext r c
  unfold pfill
  rw [if_neg (by omega)]
def pbegin (M : zI) : zI :=
  let M2 := zup (zup (zup (zup (pfill M 30) 2 5 1) 2 7 (-9)) 2 15 (-9)) 2 16 2
  zup (zup (zup M2 2 17 (M2 2 0)) 2 18 (-9)) 2 19 (-9)
def prestart (M : zI) : Int32 × zI := if M 2 0 = -9 then (-2, M) else (M 2 5, pbegin M)
def pundef (M : zI) (x : Int32) : Int32 × zI := if x < 0 ∨ 3 < x then (-1, M) else (if M 2 (1 + tn x) = -9 then 0 else 1, zup M 2 (1 + tn x) (-9))
def pwrite (M : zI) (x : Int32) : Int32 × zI := if x < 32 ∨ 126 < x then (-1, M) else if M 0 8 = 120 then (-3, M) else (M 0 8 + 1, zup (zup M 6 (tn (M 0 8)) x) 0 8 (M 0 8 + 1))
theorem zBno {x a b : Int32} (h : zB (¬ x < a ∧ ¬ b < x) = 0) : x < a ∨ b < x := by
  rcases Decidable.not_and_iff_or_not.mp (zB_f h) with q | q
  · exact Or.inl (Decidable.not_not.mp q)
  · exact Or.inr (Decidable.not_not.mp q)
theorem zByes {x a b : Int32} (h : ¬ zB (¬ x < a ∧ ¬ b < x) = 0) : ¬ (x < a ∨ b < x) := fun q => q.elim (zB_t h).1 (zB_t h).2
theorem iv_of {x : Int32} {n : Nat} (hn : n < 2 ^ 31) (h : ¬ (x < 0 ∨ nI n < x)) : iv (n + 1) x := by
  obtain ⟨j, h1, rfl⟩ := nI_of (fun q => h (Or.inl q))
  exact iv_nI (Nat.lt_succ_of_le (Nat.not_lt.mp (fun q => h (Or.inr (nI_lt q h1))))) (by omega)
def pdfA (M : zI) : Nat → Nat → Int32 → Int32
  | 0, _, x => x
  | j + 1, k, x => pdfA M j (k + 1) (x + (if M 2 (1 + k) = -9 then 0 else 1))
def pclsA (M : zI) (n : Int32) : Nat → Nat → Int32 → Int32
  | 0, _, x => x
  | j + 1, k, x => pclsA M n j (k + 1) (x + (if pclause M n (nI k) = -9 then 0 else 1))
def ptold (M : zI) (x : Int32) : Int32 := if x = 0 then M 2 5 else if x = 1 then M 2 6 else if x = 2 then pdepth M else if x = 3 then M 2 8 else if x = 4 then M 2 9 else if x = 5 then M 2 10 else if x = 6 then M 2 11 else if x = 7 then M 2 12 else if x = 8 then M 2 13 else if x = 9 then M 2 14 else if x = 10 then M 2 15 else if x = 11 then M 0 8 else if x = 12 then pdfA M 4 0 0 else -1
def pvalue (M : zI) : Int32 := if M 2 5 = 2 ∨ M 2 5 = 3 ∨ (M 2 5 = 1 ∧ M 2 16 = 1) then M 2 20 else 0
def pfocus (M : zI) : Int32 := if M 2 5 = 1 then M 2 16 else 0
def ptrace (M : zI) (x : Int32) : Int32 := if x < 0 then -1 else if x < M 2 9 then M 2 (8430 + tn x) else -9
def pperfd (M : zI) (x : Int32) : Int32 := if x < 0 ∨ 5 < x then -1 else M 2 (24 + tn x)
def pprop (M : zI) (x : Int32) : Int32 := if pof M x 0 = 2 ∨ pof M x 0 = 13 then pof M x 4 else if pof M x 0 = 7 ∨ pof M x 0 = 8 ∨ pof M x 0 = 10 then parg M (pof M x 1) else if pof M x 0 = 9 then M 2 (7230 + tn (pof M x 4)) else if pof M x 0 = 11 ∨ pof M x 0 = 14 then puses M (pof M x 4) else if pof M x 0 = 12 then pclsA M (pof M x 1) 6 0 0 else -9
def ppropV (M : zI) (x : Int32) : Prop := iv 40000 x ∧ (pof M x 0 = 7 ∨ pof M x 0 = 8 ∨ pof M x 0 = 10 → iv 65000 (pof M x 1)) ∧ (pof M x 0 = 12 → iv 65000 (pof M x 1) ∧ pclOk M (pof M x 1)) ∧ (pof M x 0 = 9 → iv 1200 (pof M x 4)) ∧ (pof M x 0 = 11 ∨ pof M x 0 = 14 → iv 1200 (pof M x 4))
theorem pprop_k {M : zI} {x : Int32} {k : Int32} (h : pof M x 0 = k) : pprop M x = (if k = 2 ∨ k = 13 then pof M x 4 else if k = 7 ∨ k = 8 ∨ k = 10 then parg M (pof M x 1) else if k = 9 then M 2 (7230 + tn (pof M x 4)) else if k = 11 ∨ k = 14 then puses M (pof M x 4) else if k = 12 then pclsA M (pof M x 1) 6 0 0 else -9) := by
  unfold pprop
  rw [h]
def pbel (M : zI) : Nat → Int32 → Int32
  | 0, x => x
  | j + 1, x => pbel M j (pof M x 5)
def pframe (M : zI) (x y : Int32) : Int32 := if (x < 0 ∨ pdepth M - 1 < x) ∨ (y < 0 ∨ 1 < y) then -1 else if y = 0 then pof M (pbel M (tn x) (M 2 7)) 0 else pprop M (pbel M (tn x) (M 2 7))
def pframeV (M : zI) (x : Int32) : Prop := ¬ (x < 0 ∨ pdepth M - 1 < x) → pagV M (tn x) (M 2 7) ∧ iv 40000 (pbel M (tn x) (M 2 7)) ∧ ppropV M (pbel M (tn x) (M 2 7))
theorem zB1_5 {x : Int32} (h : ¬ (x < 0 ∨ (1 : Int32) < x)) (h0 : ¬ x = 0) : True := trivial
def pkeep1 (M : zI) (x : Int32) : zI := pcp M 3 (8490 * tn x) 2 0 8490
def pkeep2 (M : zI) (x : Int32) : zI := pcp (pkeep1 M x) 5 (280000 * tn x) 4 0 (7 * tn (M 2 21))
def pkeep (M : zI) (x : Int32) : Int32 × zI := if x < 0 ∨ 1 < x then (-1, M) else (M 2 5, zup (pkeep2 M x) 0 4 (M 0 4 ||| 1 <<< (x &&& 31)))
def pback1 (M : zI) (x : Int32) : zI := pcp M 2 0 3 (8490 * tn x) 8490
def pback2 (M : zI) (x : Int32) : zI := pcp (pback1 M x) 4 0 5 (280000 * tn x) (7 * tn (pback1 M x 2 21))
def pback (M : zI) (x : Int32) : Int32 × zI := if x < 0 ∨ 1 < x then (-1, M) else if M 0 4 >>> (x &&& 31) &&& 1 = 0 then (-2, M) else (pback2 M x 2 5, pback2 M x)
