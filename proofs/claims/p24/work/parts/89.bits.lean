/-! Int32 by its bits (begun from the given text kit/laws/BITS.to-paste); the letters of a mask; the text, in both. -/
def bt (x : Int32) (i : Nat) : Bool := x.toBitVec.getLsbD i
theorem b_ext {x y : Int32} (h : ∀ i, i < 32 → bt x i = bt y i) : x = y := Int32.toBitVec_inj.mp (BitVec.eq_of_getLsbD_eq (fun i hi => h i hi))
theorem b_or (x y : Int32) (i : Nat) : bt (x ||| y) i = (bt x i || bt y i) := by unfold bt; rw [Int32.toBitVec_or, BitVec.getLsbD_or]
theorem b_and (x y : Int32) (i : Nat) : bt (x &&& y) i = (bt x i && bt y i) := by unfold bt; rw [Int32.toBitVec_and, BitVec.getLsbD_and]
theorem b_big {x : Int32} {i : Nat} (h : 32 ≤ i) : bt x i = false := BitVec.getLsbD_of_ge _ _ h
theorem b_0 (i : Nat) : bt 0 i = false := BitVec.getLsbD_zero
theorem s_l : ∀ n, n < 32 → ((nI n &&& 31).toBitVec.smod 32).toNat = n := by decide +kernel
theorem b_shl (n : Nat) (hn : n < 32) (x : Int32) {i : Nat} (hi : i < 32) : bt (x <<< (nI n &&& 31)) i = (decide (n ≤ i) && bt x (i - n)) := by
  unfold bt
  rw [Int32.toBitVec_shiftLeft]
  show (x.toBitVec <<< ((nI n &&& 31).toBitVec.smod 32).toNat).getLsbD i = _
  rw [s_l n hn, BitVec.getLsbD_shiftLeft]
  rcases Nat.lt_or_ge i n with h | h
  · simp [h, Nat.not_le.mpr h]
  · simp [hi, h, Nat.not_lt.mpr h]
theorem b_sshr (n : Nat) (hn : n < 32) (x : Int32) {i : Nat} (hi : i < 32) : bt (x >>> (nI n &&& 31)) i = if n + i < 32 then bt x (n + i) else bt x 31 := by
  unfold bt
  rw [Int32.toBitVec_shiftRight]
  show (x.toBitVec.sshiftRight ((nI n &&& 31).toBitVec.smod 32).toNat).getLsbD i = _
  rw [s_l n hn, BitVec.getLsbD_sshiftRight, BitVec.msb_eq_getLsbD_last]
  simp [hi]
theorem b_1 (i : Nat) : bt 1 i = decide (i = 0) := by
  rcases Nat.lt_or_ge i 32 with h | h
  · exact (by decide +kernel : ∀ i, i < 32 → bt 1 i = decide (i = 0)) i h
  · rw [b_big h, decide_eq_false (by omega)]
/-- a number's lowest bit -/
theorem and1 (z : Int32) : z &&& 1 = (if bt z 0 then 1 else 0) := by
  apply b_ext
  intro i hi
  rw [b_and, b_1]
  by_cases q : i = 0
  · subst q
    cases bt z 0 <;> rfl
  · rw [decide_eq_false q, Bool.and_false]
    cases bt z 0
    · exact (b_0 i).symm
    · rw [if_pos rfl, b_1, decide_eq_false q]
/-- letter y is in mask x -/
def ml (x : Int32) (y : Nat) : Prop := y < 26 ∧ bt x y = true
theorem ml_test {x : Int32} {y : Nat} (hy : y < 26) : (x >>> (nI y &&& 31) &&& 1 = 1 ↔ ml x y) ∧ (x >>> (nI y &&& 31) &&& 1 = 0 ↔ ¬ ml x y) := by
  have e : bt (x >>> (nI y &&& 31)) 0 = bt x y := by rw [b_sshr y (by omega) x (by decide), if_pos (by omega)]; rfl
  rw [and1, e]
  unfold ml
  cases bt x y
  · exact ⟨⟨fun h => absurd h (by decide), fun h => absurd h.2 (by decide)⟩, ⟨fun _ h => absurd h.2 (by decide), fun _ => rfl⟩⟩
  · exact ⟨⟨fun _ => ⟨hy, rfl⟩, fun _ => rfl⟩, ⟨fun h => absurd h (by decide), fun h => absurd ⟨hy, rfl⟩ h⟩⟩
theorem ml_or {x : Int32} {v y : Nat} (hv : v < 26) (h : ml (x ||| 1 <<< (nI v &&& 31)) y) : ml x y ∨ y = v := by
  obtain ⟨h1, h2⟩ := h
  rw [b_or, b_shl v (by omega) 1 (by omega), b_1] at h2
  by_cases q : y = v
  · exact Or.inr q
  · refine Or.inl ⟨h1, ?_⟩
    by_cases q2 : v ≤ y
    · rw [decide_eq_true q2, decide_eq_false (show ¬ y - v = 0 by omega)] at h2
      simpa using h2
    · rw [decide_eq_false q2] at h2
      simpa using h2
theorem ml_0 {y : Nat} : ¬ ml 0 y := fun h => by rw [ml, b_0] at h; exact absurd h.2 (by decide)
theorem ml_x {y : Nat} (h : ml 8388608 y) : y = 23 := by
  obtain ⟨h1, h2⟩ := h
  exact (show ∀ y, y < 26 → bt 8388608 y = true → y = 23 by decide +kernel) y h1 h2
/-- the text in both: len bytes -/
def TX (len : Nat) (tx : Nat → Nat) (C M : zI) : Prop := len ≤ 120 ∧ M 0 8 = nI len ∧ ∀ k, k < len → C 1 k = nI (tx k) ∧ M 6 k = nI (tx k) ∧ 32 ≤ tx k ∧ tx k ≤ 126
/-- the first byte from k on that is no blank -/
def nbk (len : Nat) (tx : Nat → Nat) : Nat → Nat → Nat
  | 0, k => k
  | j + 1, k => if k < len ∧ tx k = 32 then nbk len tx j (k + 1) else k
theorem nbk_ge {len : Nat} {tx : Nat → Nat} : ∀ j k, k ≤ nbk len tx j k := by
  intro j
  induction j with
  | zero => intro k; exact Nat.le_refl _
  | succ j ih =>
    intro k
    unfold nbk
    split
    · exact Nat.le_trans (Nat.le_succ k) (ih _)
    · exact Nat.le_refl _
theorem nbk_le {len : Nat} {tx : Nat → Nat} : ∀ j k, k ≤ len → nbk len tx j k ≤ len := by
  intro j
  induction j with
  | zero => intro k h; exact h
  | succ j ih =>
    intro k h
    unfold nbk
    split
    · rename_i q; exact ih _ q.1
    · exact h
theorem nbk_nb {len : Nat} {tx : Nat → Nat} : ∀ j k, k ≤ len → len < k + j → ¬ (nbk len tx j k < len ∧ tx (nbk len tx j k) = 32) := by
  intro j
  induction j with
  | zero => intro k h1 h2; omega
  | succ j ih =>
    intro k h1 h2
    unfold nbk
    split
    · rename_i q; exact ih _ q.1 (by omega)
    · rename_i q; exact q
theorem pskA_e {len : Nat} {tx : Nat → Nat} {C : zI} : ∀ (j k : Nat) (M : zI), TX len tx C M → M 0 14 = nI k → k ≤ len → pskA j M = zup M 0 14 (nI (nbk len tx j k)) := by
  intro j
  induction j with
  | zero => intro k M _ h _; exact (zup_self h).symm
  | succ j ih =>
    intro k M hT h hk
    obtain ⟨h1, h2, h3⟩ := hT
    unfold pskA nbk
    rw [h, h2, tn_nI (by omega)]
    by_cases q : k < len
    · obtain ⟨a1, a2, a3, a4⟩ := h3 k q
      rw [a2]
      by_cases q2 : tx k = 32
      · rw [if_pos ⟨nI_lt q (by omega), by rw [q2]; rfl⟩, if_pos ⟨q, q2⟩]
        have e : nI k + 1 = nI (k + 1) := ixA (a := k) (b := 1) rfl (ixC 1)
        rw [e, ih (k + 1) _ ⟨h1, (zup_ne _ _ _ _ (by omega)).trans h2, fun i hi => ⟨(h3 i hi).1, (congrFun (zup_r (by decide)) i).trans (h3 i hi).2.1, (h3 i hi).2.2⟩⟩ (zup_at _ _ _ _) (by omega), zup_zup]
      · rw [if_neg (fun z => q2 ((nI_eq (b := 32) (by omega) (by decide)).mp z.2)), if_neg (fun z => q2 z.2)]
        exact (zup_self h).symm
    · rw [if_neg (fun z => nI_nlt (a := k) (b := len) (by omega) (by omega) z.1), if_neg (fun z => q z.1)]
      exact (zup_self h).symm
/-- the blanks are skipped: place, and what stands there -/
abbrev nb (len : Nat) (tx : Nat → Nat) (k : Nat) : Nat := nbk len tx 121 k
theorem pskip_e {len k : Nat} {tx : Nat → Nat} {C M : zI} (hT : TX len tx C M) (h : M 0 14 = nI k) (hk : k ≤ len) : pskip M = zup M 0 14 (nI (nb len tx k)) := pskA_e 121 k M hT h hk
theorem phere_e {len k : Nat} {tx : Nat → Nat} {C M : zI} (hT : TX len tx C M) (h : M 0 14 = nI k) (hk : k ≤ len) : phere M = if k < len then nI (tx k) else 0 := by
  have h1 := hT.1
  unfold phere
  rw [h, hT.2.1, tn_nI (by omega)]
  by_cases q : k < len
  · rw [if_pos (nI_lt q (by omega)), if_pos q]; exact (hT.2.2 k q).2.1
  · rw [if_neg (nI_nlt (by omega) (by omega)), if_neg q]
theorem TX.at {len : Nat} {tx : Nat → Nat} {C M C' M' : zI} (h : TX len tx C M) (h1 : C' 1 = C 1) (h8 : M' 0 8 = M 0 8) (h6 : M' 6 = M 6) : TX len tx C' M' := ⟨h.1, h8.trans h.2.1, fun k hk => by rw [h1, h6]; exact h.2.2 k hk⟩
/-- the class skips blanks -/
theorem brd_nb {len : Nat} {tx : Nat → Nat} {g : zG} {R : zRf} {f : zI} {M : zI} : ∀ (j k : Nat) (C : zI), TX len tx C M → k ≤ len → ∃ C', (C' = C ∨ C' = zup C 2 3 0) ∧ (nbk len tx j k = k → C' = C) ∧ (k < nbk len tx j k → C' = zup C 2 3 0) ∧ brd len (len - k) k (g, R, f, C) = brd len (len - nbk len tx j k) (nbk len tx j k) (g, R, f, C') := by
  intro j
  induction j with
  | zero => intro k C _ _; exact ⟨C, Or.inl rfl, fun _ => rfl, fun h => absurd h (Nat.lt_irrefl k), rfl⟩
  | succ j ih =>
    intro k C hT hk
    unfold nbk
    by_cases q : k < len ∧ tx k = 32
    · rw [if_pos q]
      obtain ⟨C', c1, c2, c3, c4⟩ := ih (k + 1) (zup C 2 3 0) (hT.at (zup_r (by decide)) rfl rfl) q.1
      have e : C' = zup C 2 3 0 := by
        rcases c1 with c1 | c1
        · exact c1
        · rw [c1, zup_zup]
      refine ⟨C', Or.inr e, fun z => ?_, fun _ => e, ?_⟩
      · have := nbk_ge (len := len) (tx := tx) j (k + 1)
        omega
      · rw [← c4, show len - k = len - (k + 1) + 1 by omega]
        exact brd_b (by rw [(hT.2.2 k q.1).1, q.2]; rfl)
    · rw [if_neg q]
      exact ⟨C, Or.inl rfl, fun _ => rfl, fun h => absurd h (Nat.lt_irrefl k), rfl⟩
