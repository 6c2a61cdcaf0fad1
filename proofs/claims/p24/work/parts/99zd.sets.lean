/-! Sets of what may be left, by their bits. -/
def sle (x y : Int32) : Prop := ∀ i, bt x i = true → bt y i = true
theorem sle.rf {x : Int32} : sle x x := fun _ h => h
theorem sle.tr {x y z : Int32} (h : sle x y) (k : sle y z) : sle x z := fun i q => k i (h i q)
theorem sle.zero {y : Int32} : sle 0 y := fun i q => by rw [b_0] at q; cases q
theorem sle.or {x y x' y' : Int32} (h : sle x x') (k : sle y y') : sle (x ||| y) (x' ||| y') := fun i q => by
  rw [b_or, Bool.or_eq_true] at q ⊢
  exact q.imp (h i) (k i)
theorem sle.anti {x y : Int32} (h : sle x y) (k : sle y x) : x = y := b_ext (fun i _ => Bool.eq_iff_iff.mpr ⟨h i, k i⟩)
theorem b_xor (x y : Int32) (i : Nat) : bt (x ^^^ y) i = (bt x i ^^ bt y i) := by unfold bt; rw [Int32.toBitVec_xor, BitVec.getLsbD_xor]
theorem b_m1 {i : Nat} (h : i < 32) : bt (-1) i = true := (by decide +kernel : ∀ i, i < 32 → bt (-1) i = true) i h
theorem b_15 {i : Nat} (h : i < 32) : bt 15 i = decide (i < 4) := (by decide +kernel : ∀ i, i < 32 → bt 15 i = decide (i < 4)) i h
theorem b_8 {i : Nat} (h : i < 32) : bt 8 i = decide (i = 3) := (by decide +kernel : ∀ i, i < 32 → bt 8 i = decide (i = 3)) i h
theorem b_not (s G : Int32) {i : Nat} (h : i < 32) : bt (s &&& ((s &&& G) ^^^ (-1))) i = (bt s i && !(bt G i)) := by
  rw [b_and, b_xor, b_and, b_m1 h]
  cases bt s i <;> cases bt G i <;> rfl
theorem b_not2 (s G : Int32) {i : Nat} (h : i < 32) : bt (s &&& (G ^^^ (-1))) i = (bt s i && !(bt G i)) := by
  rw [b_and, b_xor, b_m1 h]
  cases bt s i <;> cases bt G i <;> rfl
/-- place i is one of operation a's -/
def inrg (a i : Nat) : Bool := decide (4 * a ≤ i ∧ i < 4 * a + 4)
theorem b_rng {a i : Nat} (ha : a < 6) (hi : i < 32) : bt (15 <<< (nI (4 * a) &&& 31)) i = inrg a i := by
  rw [b_shl _ (by omega) _ hi, b_15 (by omega)]
  unfold inrg
  rw [Bool.eq_iff_iff]
  simp only [Bool.and_eq_true, decide_eq_true_eq]
  omega
theorem b_one {n i : Nat} (hn : n < 32) (hi : i < 32) : bt (1 <<< (nI n &&& 31)) i = decide (i = n) := by
  rw [b_shl _ hn _ hi, b_1, Bool.eq_iff_iff]
  simp only [Bool.and_eq_true, decide_eq_true_eq]
  omega
theorem gall_n (a : Nat) : gall (nI a) = 15 <<< (nI (4 * a) &&& 31) := by
  unfold gall
  rw [show nI a * 4 = nI (4 * a) from (ixM rfl (ixC 4)).trans (congrArg nI (Nat.mul_comm _ _))]
theorem gpair_n (a l : Nat) : gpair (nI a) (nI l) = 1 <<< (nI (4 * a + l) &&& 31) := by
  unfold gpair
  rw [show nI a * 4 + nI l = nI (4 * a + l) from (ixA (ixM rfl (ixC 4)) rfl).trans (congrArg nI (by omega))]
/-- what a raised, or lowered, set holds -/
def frai (s : Int32) (a i : Nat) : Bool := ((bt s i && !(inrg a i)) || (bt s (i - 1) && decide (4 * a + 1 ≤ i ∧ i < 4 * a + 4))) || (bt s i && decide (i = 4 * a + 3))
def flow (s : Int32) (a i : Nat) : Bool := ((bt s i && !(inrg a i)) || (bt s (i + 1) && decide (4 * a ≤ i ∧ i + 1 < 4 * a + 4))) || (bt s i && decide (i = 4 * a + 3))
theorem b_grai {s : Int32} {a i : Nat} (ha : a < 6) (hi : i < 32) : bt (grai s (nI a)) i = frai s a i := by
  unfold grai frai
  rw [show gpair (nI a) 3 = 1 <<< (nI (4 * a + 3) &&& 31) from gpair_n a 3, gall_n, b_or, b_not _ _ hi, b_and, b_or, show ((1 : Int32) &&& 31) = (nI 1 &&& 31) from rfl, b_shl 1 (by decide) _ hi, b_and, b_and, b_and, b_rng ha hi, b_one (by omega) hi]
  by_cases h1 : 1 ≤ i
  · rw [b_rng ha (show i - 1 < 32 by omega)]
    unfold inrg
    cases bt s i <;> cases bt s (i - 1) <;> rw [Bool.eq_iff_iff] <;> simp <;> omega
  · rw [decide_eq_false h1]
    unfold inrg
    cases bt s i <;> cases bt s (i - 1) <;> rw [Bool.eq_iff_iff] <;> simp <;> omega
theorem b_glow {s : Int32} {a i : Nat} (ha : a < 6) (hi : i < 32) : bt (glow s (nI a)) i = flow s a i := by
  unfold glow flow
  rw [show gpair (nI a) 3 = 1 <<< (nI (4 * a + 3) &&& 31) from gpair_n a 3, gall_n, b_or, b_or, b_not _ _ hi, b_and, show ((1 : Int32) &&& 31) = (nI 1 &&& 31) from rfl, b_sshr 1 (by decide) _ hi, b_and, b_and, b_and, b_rng ha hi, b_one (by omega) hi]
  by_cases h1 : 1 + i < 32
  · rw [if_pos h1, b_and, b_rng ha h1, Nat.add_comm 1 i]
    try rw [b_rng ha hi]
    unfold inrg
    cases bt s i <;> cases bt s (i + 1) <;> rw [Bool.eq_iff_iff] <;> simp <;> omega
  · rw [if_neg h1, b_and, b_rng ha (show 31 < 32 by decide)]
    unfold inrg
    have e : i = 31 := by omega
    subst e
    cases bt s 31 <;> cases bt s 32 <;> rw [Bool.eq_iff_iff] <;> simp <;> omega
theorem b_lev {s : Int32} {a j : Nat} (ha : a < 6) (hj : j < 32) : bt (plevels s (nI a)) j = (bt s (4 * a + j) && decide (j < 4)) := by
  unfold plevels
  rw [b_and, show 4 * nI a = nI (4 * a) from ixM (ixC 4) rfl, b_sshr _ (by omega) _ hj, b_15 hj]
  by_cases h : j < 4
  · rw [if_pos (by omega)]
  · rw [decide_eq_false h, Bool.and_false, Bool.and_false]
theorem b_with {s x : Int32} {a i : Nat} (ha : a < 6) (hi : i < 32) : bt (pwith s (nI a) x) i = ((bt s i && !(inrg a i)) || (decide (4 * a ≤ i) && bt x (i - 4 * a))) := by
  unfold pwith
  rw [show 4 * nI a = nI (4 * a) from ixM (ixC 4) rfl, b_or, b_not2 _ _ hi, b_rng ha hi, b_shl _ (by omega) _ hi]
theorem b_masked {s : Int32} {a i : Nat} (ha : a < 6) (hi : i < 32) : bt (pmasked s (nI a)) i = frai s a i := by
  unfold pmasked frai
  rw [b_with ha hi]
  by_cases h : 4 * a ≤ i
  · rw [b_or, b_and, b_and, show ((1 : Int32) &&& 31) = (nI 1 &&& 31) from rfl, b_shl 1 (by decide) _ (by omega), b_lev ha (by omega), b_lev ha (by omega), b_15 (by omega), b_8 (by omega), show 4 * a + (i - 4 * a) = i by omega]
    by_cases h1 : 4 * a + 1 ≤ i
    · rw [show 4 * a + (i - 4 * a - 1) = i - 1 by omega]
      unfold inrg
      cases bt s i <;> cases bt s (i - 1) <;> rw [Bool.eq_iff_iff] <;> simp <;> omega
    · rw [decide_eq_false (show ¬ 1 ≤ i - 4 * a by omega)]
      unfold inrg
      cases bt s i <;> cases bt s (i - 1) <;> rw [Bool.eq_iff_iff] <;> simp <;> omega
  · rw [decide_eq_false h]
    unfold inrg
    cases bt s i <;> cases bt s (i - 1) <;> rw [Bool.eq_iff_iff] <;> simp <;> omega
theorem b_handled {s : Int32} {a i : Nat} (ha : a < 6) (hi : i < 32) : bt (phandled s (nI a)) i = flow s a i := by
  unfold phandled flow
  rw [b_with ha hi]
  by_cases h : 4 * a ≤ i
  · rw [b_or, b_and, show ((1 : Int32) &&& 31) = (nI 1 &&& 31) from rfl, b_sshr 1 (by decide) _ (by omega), b_lev ha (show i - 4 * a < 32 by omega), b_8 (by omega), show 4 * a + (i - 4 * a) = i by omega]
    by_cases h1 : 1 + (i - 4 * a) < 32
    · rw [if_pos h1, b_lev ha h1, show 4 * a + (1 + (i - 4 * a)) = i + 1 by omega]
      unfold inrg
      cases bt s i <;> cases bt s (i + 1) <;> rw [Bool.eq_iff_iff] <;> simp <;> omega
    · rw [if_neg h1, b_lev ha (show 31 < 32 by decide)]
      unfold inrg
      cases bt s i <;> cases bt s (i + 1) <;> cases bt s (4 * a + 31) <;> rw [Bool.eq_iff_iff] <;> simp <;> omega
  · rw [decide_eq_false h]
    unfold inrg
    cases bt s i <;> cases bt s (i + 1) <;> rw [Bool.eq_iff_iff] <;> simp <;> omega
theorem grai_m {s : Int32} {a : Nat} (ha : a < 6) : grai s (nI a) = pmasked s (nI a) := b_ext (fun i hi => (b_grai ha hi).trans (b_masked ha hi).symm)
theorem glow_h {s : Int32} {a : Nat} (ha : a < 6) : glow s (nI a) = phandled s (nI a) := b_ext (fun i hi => (b_glow ha hi).trans (b_handled ha hi).symm)
theorem sle.masked {s s' : Int32} {a : Nat} (ha : a < 6) (h : sle s s') : sle (pmasked s (nI a)) (pmasked s' (nI a)) := fun i q => by
  by_cases hi : i < 32
  · rw [b_masked ha hi] at q ⊢
    unfold frai at q ⊢
    simp only [Bool.or_eq_true, Bool.and_eq_true] at q ⊢
    rcases q with (q | q) | q
    · exact Or.inl (Or.inl ⟨h _ q.1, q.2⟩)
    · exact Or.inl (Or.inr ⟨h _ q.1, q.2⟩)
    · exact Or.inr ⟨h _ q.1, q.2⟩
  · rw [b_big (by omega)] at q; cases q
theorem sle.handled {s s' : Int32} {a : Nat} (ha : a < 6) (h : sle s s') : sle (phandled s (nI a)) (phandled s' (nI a)) := fun i q => by
  by_cases hi : i < 32
  · rw [b_handled ha hi] at q ⊢
    unfold flow at q ⊢
    simp only [Bool.or_eq_true, Bool.and_eq_true] at q ⊢
    rcases q with (q | q) | q
    · exact Or.inl (Or.inl ⟨h _ q.1, q.2⟩)
    · exact Or.inl (Or.inr ⟨h _ q.1, q.2⟩)
    · exact Or.inr ⟨h _ q.1, q.2⟩
  · rw [b_big (by omega)] at q; cases q
/-- how many there are -/
def bnum (x : Int32) : Nat := (List.range 32).countP (fun i => bt x i)
theorem bnum_32 (x : Int32) : bnum x ≤ 32 := by
  have h := List.countP_le_length (p := fun i => bt x i) (l := List.range 32)
  rw [List.length_range] at h
  exact h
theorem cnt_le {p q : Nat → Bool} : ∀ L : List Nat, (∀ i ∈ L, p i = true → q i = true) → L.countP p ≤ L.countP q := by
  intro L
  induction L with
  | nil => intro _; exact Nat.le_refl _
  | cons i L ih =>
    intro h
    have h1 := ih (fun j hj => h j (List.mem_cons_of_mem _ hj))
    have h2 := h i (List.mem_cons_self ..)
    rw [List.countP_cons, List.countP_cons]
    by_cases a : p i = true
    · rw [if_pos a, if_pos (h2 a)]; omega
    · rw [if_neg a]; omega
theorem cnt_lt {p q : Nat → Bool} : ∀ L : List Nat, (∀ i ∈ L, p i = true → q i = true) → (∃ i ∈ L, p i = false ∧ q i = true) → L.countP p < L.countP q := by
  intro L
  induction L with
  | nil => rintro _ ⟨i, hi, -⟩; cases hi
  | cons i L ih =>
    rintro h ⟨j, hj, j1, j2⟩
    have h2 := h i (List.mem_cons_self ..)
    rw [List.countP_cons, List.countP_cons]
    rcases List.mem_cons.mp hj with rfl | hj
    · have h1 := cnt_le L (fun j hj => h j (List.mem_cons_of_mem _ hj))
      rw [if_neg (by rw [j1]; decide), if_pos j2]; omega
    · have h1 := ih (fun j hj => h j (List.mem_cons_of_mem _ hj)) ⟨j, hj, j1, j2⟩
      by_cases a : p i = true
      · rw [if_pos a, if_pos (h2 a)]; omega
      · rw [if_neg a]; omega
theorem sle.nle {x y : Int32} (h : sle x y) : bnum x ≤ bnum y := cnt_le _ (fun i _ => h i)
theorem sle.nlt {x y : Int32} (h : sle x y) (k : ¬ x = y) : bnum x < bnum y := by
  refine cnt_lt _ (fun i _ => h i) ?_
  apply Classical.byContradiction
  intro q
  refine k (b_ext (fun i hi => ?_))
  cases hx : bt x i with
  | true => exact (h i hx).symm
  | false =>
    cases hy : bt y i with
    | false => rfl
    | true => exact absurd ⟨i, List.mem_range.mpr hi, hx, hy⟩ q
