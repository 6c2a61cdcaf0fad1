/-! A text is read, in both: what is open, what is whole; what leaves it so. -/
/-- an open expression: its node, its kind, parts read, the clause that is being read (0: none), what that is for -/
abbrev Ent : Type := Nat × Nat × Nat × Nat × Nat
def opn : List Ent → Nat
  | [] => 0
  | e :: L => opn L + (if e.2.2.2.1 = 0 then 1 else 2)
theorem opn_len : ∀ L : List Ent, L.length ≤ opn L
  | [] => Nat.le_refl _
  | e :: L => by
    have := opn_len L
    show L.length + 1 ≤ opn L + _
    split <;> omega
theorem pig : ∀ (n : Nat) (l : List Nat), l.Nodup → (∀ x ∈ l, x < n) → l.length ≤ n := by
  intro n
  induction n with
  | zero =>
    intro l _ h
    cases l with
    | nil => exact Nat.le_refl _
    | cons x l => exact absurd (h x (List.mem_cons_self ..)) (Nat.not_lt_zero x)
  | succ n ih =>
    intro l hd h
    by_cases q : n ∈ l
    · have h1 := ih (l.erase n) (hd.erase n) (fun x hx => by
        have h2 := h x (List.mem_of_mem_erase hx)
        have h3 : x ≠ n := fun e => by
          subst e
          exact hd.not_mem_erase hx
        omega)
      rw [List.length_erase_of_mem q] at h1
      omega
    · exact Nat.le_succ_of_le (ih l hd (fun x hx => by
        have h2 := h x hx
        have h3 : x ≠ n := fun e => q (e ▸ hx)
        omega))
/-- to which handler an @ would belong -/
def OC (T : Nat → Int32) (t : zTs) (fs hi : Nat) (x : Int32) (o : Option Nat) : Prop := (x = 0 ∧ o = none) ∨ ∃ h, fs ≤ h ∧ h < hi ∧ T (5 * h) = nI 15 ∧ x = nI (h + 1) ∧ o = some (t.2.1 h)
/-- a clause that was read -/
def CLF (g : zG) (f : zI) (T : Nat → Int32) (t : zTs) (n e q : Nat) : Prop :=
  n < q ∧ q < t.1 ∧ T (5 * q) = nI 16 ∧ ∃ w b v : Nat, w < 7 ∧ T (5 * q + 4) = nI w ∧ q < b ∧ b < t.1 ∧ T (5 * q + 2) = nI b ∧ ¬ T (5 * b) = nI 16 ∧ v < 26 ∧ T (5 * q + 1) = nI v ∧
    g.2.2.2 (e + 1) w = some (t.2.1 b) ∧ f (e + 2) w = nI v ∧ (∀ y, t.2.2.1 b y → t.2.2.1 n y ∨ y = v) ∧ (t.2.2.2 b → w < 6 ∨ t.2.2.2 n)
/-- an open handler -/
def HP (b0 : Nat) (g : zG) (f : zI) (T : Nat → Int32) (t : zTs) (n e c w : Nat) (nx : Option Nat) : Prop :=
  (g.2.2.2 e 5 = some (e + 1) ∧ g.2.2.2 e 6 = some (e + 2) ∧ zIn b0 g (e + 1) 14 ∧ zIn b0 g (e + 2) 13 ∧ g.2.2.1 (e + 1) = 7 ∧ g.2.2.1 (e + 2) = 7) ∧
  ∃ qs : List Nat, chC T qs (if c = 0 then T (5 * n + 3) else T (5 * c + 3)) ∧ (qs.map (fun q => tn (T (5 * q + 4)))).Nodup ∧ (∀ q ∈ qs, CLF g f T t n e q) ∧
    (∀ w', w' < 7 → (∀ q ∈ qs, ¬ T (5 * q + 4) = nI w') → g.2.2.2 (e + 1) w' = (if ¬ c = 0 ∧ w' = w then nx else none)) ∧ (¬ c = 0 → ∀ q ∈ qs, ¬ T (5 * q + 4) = nI w)
/-- an open expression, as a tree -/
def PEc (b0 n0 fs : Nat) (g : zG) (f : zI) (T : Nat → Int32) (t : zTs) (e : Ent) (nx : Option Nat) : Prop :=
  (fs ≤ e.1 ∧ e.1 < t.1 ∧ T (5 * e.1) = nI e.2.1 ∧ 2 ≤ e.2.1 ∧ e.2.1 ≤ 15) ∧
  (n0 ≤ t.2.1 e.1 ∧ zIn b0 g (t.2.1 e.1) 1 ∧ f (t.2.1 e.1) 0 = sgn e.2.1 ∧ (e.2.1 = 8 ∨ e.2.1 = 10 ∨ e.2.1 = 11 ∨ e.2.1 = 13 → f (t.2.1 e.1) 1 = T (5 * e.1 + 1))) ∧
  ((e.2.1 = 8 → ∃ v, v < 26 ∧ T (5 * e.1 + 1) = nI v) ∧ (e.2.1 = 10 ∨ e.2.1 = 11 → ∃ a, a < 6 ∧ T (5 * e.1 + 1) = nI a) ∧ (e.2.1 = 13 → ∃ p, p < 4 ∧ T (5 * e.1 + 1) = nI p)) ∧
  ((∀ i, i < e.2.2.1 → i < 3 → PN g T t e.2.1 e.1 i) ∧ (e.2.2.1 < ari e.2.1 ∨ (e.2.1 = 15 ∧ e.2.2.1 = 1)) ∧ ∀ i, e.2.2.1 ≤ i → i < 3 → g.2.2.2 (t.2.1 e.1) (2 + i) = (if i = e.2.2.1 ∧ ¬ (e.2.1 = 15 ∧ e.2.2.1 = 1) then nx else none)) ∧
  (e.2.1 = 14 → t.2.2.2 e.1 ∧ ∃ h, fs ≤ h ∧ h < e.1 ∧ T (5 * e.1 + 4) = nI h ∧ T (5 * h) = nI 15 ∧ g.2.2.2 (t.2.1 e.1) 7 = some (t.2.1 h)) ∧
  (¬ e.2.1 = 15 → g.2.2.2 (t.2.1 e.1) 5 = none ∧ g.2.2.2 (t.2.1 e.1) 6 = none) ∧ (e.2.1 = 15 → HP b0 g f T t e.1 (t.2.1 e.1) e.2.2.2.1 e.2.2.2.2 nx) ∧
  (¬ e.2.2.2.1 = 0 → (e.2.1 = 15 ∧ e.2.2.1 = 1) ∧ e.1 < e.2.2.2.1 ∧ e.2.2.2.1 < t.1 ∧ T (5 * e.2.2.2.1) = nI 16 ∧ T (5 * e.2.2.2.1 + 2) = -9 ∧ T (5 * e.2.2.2.1 + 4) = nI e.2.2.2.2 ∧ e.2.2.2.2 < 7 ∧ T (5 * e.1 + 3) = nI e.2.2.2.1 ∧
    ∃ v, v < 26 ∧ T (5 * e.2.2.2.1 + 1) = nI v ∧ f (t.2.1 e.1 + 2) e.2.2.2.2 = nI v)
/-- where the two stacks have it: below d entries of the class, at place o of the reference -/
def PLc (fs : Nat) (R : zRf) (C M : zI) (t : zTs) (e : Ent) (d o : Nat) : Prop :=
  (M 7 o = nI e.1 ∧ M 8 o = nI e.2.2.1 ∧ M 9 o = C 7 d ∧ OC (M 1) t fs e.1 (M 10 o) (R 8 d)) ∧ (R 4 (d + 1) = some (t.2.1 e.1) ∧ C 5 (d + 1) = nI e.2.2.1) ∧
  ((∀ y, ml (C 7 d) y ↔ t.2.2.1 e.1 y) ∧ (¬ R 8 d = none ↔ t.2.2.2 e.1)) ∧
  (e.2.2.2.1 = 0 → ¬ (e.2.1 = 15 ∧ e.2.2.1 = 1) → C 7 (d + 1) = (if e.2.1 = 8 ∧ e.2.2.1 = 1 then C 7 d ||| 1 <<< (M 1 (5 * e.1 + 1) &&& 31) else C 7 d) ∧ R 8 (d + 1) = R 8 d) ∧
  (¬ e.2.2.2.1 = 0 → C 6 (d + 1) = nI e.2.2.2.2 ∧ M 7 (o + 1) = nI e.2.2.2.1 ∧ M 8 (o + 1) = 0 ∧ M 9 (o + 1) = C 7 (d + 1) ∧ OC (M 1) t fs e.2.2.2.1 (M 10 (o + 1)) (R 8 (d + 1)) ∧ C 7 (d + 1) = C 7 d ||| 1 <<< (M 1 (5 * e.2.2.2.1 + 1) &&& 31) ∧ (e.2.2.2.2 = 6 → R 8 (d + 1) = R 8 d))
/-- what is open, below node ub; the top's next part, where it was begun -/
def STK (b0 n0 fs : Nat) (g : zG) (f : zI) (R : zRf) (C M : zI) (t : zTs) : List Ent → Nat → Option Nat → Prop
  | [], _, _ => True
  | e :: L, ub, nx => PEc b0 n0 fs g f (M 1) (ub, t.2) e nx ∧ (PLc fs R C M t e L.length (opn L) ∧ (¬ nx = none → ¬ (e.2.1 = 15 ∧ e.2.2.1 = 1 ∧ e.2.2.2.1 = 0))) ∧ STK b0 n0 fs g f R C M t L e.1 (some (t.2.1 e.1))
/-- the nodes with P, and their expressions, are as they were -/
def AG (b0 fs ub : Nat) (P : Nat → Prop) (g : zG) (f : zI) (T : Nat → Int32) (t : zTs) (G : zG) (F : zI) (T' : Nat → Int32) (t' : zTs) : Prop :=
  zLe g G ∧ (∀ n, fs ≤ n → n < ub → P n → (¬ T (5 * n) = nI 16 → G.2.2.2 (t.2.1 n) = g.2.2.2 (t.2.1 n) ∧ F (t.2.1 n) = f (t.2.1 n)) ∧ (T (5 * n) = nI 15 → G.2.2.2 (t.2.1 n + 1) = g.2.2.2 (t.2.1 n + 1) ∧ F (t.2.1 n + 2) = f (t.2.1 n + 2))) ∧
  (∀ n, fs ≤ n → n < ub → T' (5 * n) = T (5 * n)) ∧ (∀ n, fs ≤ n → n < ub → P n → ∀ j, j < 5 → T' (5 * n + j) = T (5 * n + j)) ∧ (∀ n, fs ≤ n → n < ub → T (5 * n) = nI 16 → (P n ∨ ¬ T (5 * n + 2) = -9) → ∀ j, j < 5 → T' (5 * n + j) = T (5 * n + j)) ∧
  (∀ n, fs ≤ n → n < ub → t'.2.1 n = t.2.1 n ∧ t'.2.2.1 n = t.2.2.1 n ∧ t'.2.2.2 n = t.2.2.2 n) ∧ ub ≤ 65536
section AGS
variable {b0 n0 fs ub ub' : Nat} {P : Nat → Prop} {g G : zG} {f F : zI} {T T' : Nat → Int32} {t t' : zTs}
theorem PN.fr {k n i : Nat} (h : PN g T (ub, t.2) k n i) (hA : AG b0 fs ub P g f T t G F T' t') (h0 : fs ≤ n) (h1 : n < ub) (h16 : ¬ T (5 * n) = nI 16) (hP : P n) (hu : ub ≤ ub') : PN G T' (ub', t'.2) k n i := by
  obtain ⟨a1, a2, a3, a4, a5, a6, a7⟩ := hA
  obtain ⟨eg, -⟩ := (a2 n h0 h1 hP).1 h16
  obtain ⟨e1, e2, e3⟩ := a6 n h0 h1
  refine ⟨fun hi => ?_, fun hi => ?_⟩
  · obtain ⟨m, m1, m2, m3, m4, m5, m6, m7⟩ := h.1 hi
    have m2 : m < ub := m2
    obtain ⟨d1, d2, d3⟩ := a6 m (by omega) m2
    have hari : ari k ≤ 3 := by
      unfold ari
      by_cases q : k < 16
      · exact (show ∀ k, k < 16 → [0, 0, 2, 2, 2, 2, 3, 2, 2, 1, 1, 1, 2, 1, 1, 1].getD k 0 ≤ 3 by decide) k q
      · rw [List.getD_eq_getElem?_getD, List.getElem?_eq_none (by show 16 ≤ k; omega)]; decide
    refine ⟨m, m1, Nat.lt_of_lt_of_le m2 hu, ?_, ?_, ?_, ?_, ?_⟩
    · show T' (5 * n + 2 + i) = nI m
      rw [Nat.add_assoc, a4 n h0 h1 hP (2 + i) (by omega), ← Nat.add_assoc]; exact m3
    · show ¬ T' (5 * m) = nI 16
      rw [a3 m (by omega) m2]; exact m4
    · show G.2.2.2 (t'.2.1 n) (2 + i) = some (t'.2.1 m)
      rw [e1, eg, d1]; exact m5
    · show ∀ y, t'.2.2.1 m y → t'.2.2.1 n y ∨ (k = 8 ∧ i = 1 ∧ y < 26 ∧ T' (5 * n + 1) = nI y)
      rw [d2, e2, a4 n h0 h1 hP 1 (by omega)]; exact m6
    · show t'.2.2.2 m → t'.2.2.2 n
      rw [d3, e3]; exact m7
  · show G.2.2.2 (t'.2.1 n) (2 + i) = none
    rw [e1, eg]; exact h.2 hi
theorem CLF.fr {n e q : Nat} (h : CLF g f T (ub, t.2) n e q) (hA : AG b0 fs ub P g f T t G F T' t') (h0 : fs ≤ n) (h1 : n < ub) (eg : G.2.2.2 (e + 1) = g.2.2.2 (e + 1)) (ef : F (e + 2) = f (e + 2)) (hu : ub ≤ ub') : CLF G F T' (ub', t'.2) n e q := by
  obtain ⟨a1, a2, a3, a4, a5, a6, a7⟩ := hA
  obtain ⟨q1, q2, q3, w, b, v, c1, c2, c3, c4, c5, c6, c7, c8, c9, c10, c11, c12⟩ := h
  have q2 : q < ub := q2
  have c4 : b < ub := c4
  have nq : P q ∨ ¬ T (5 * q + 2) = -9 := Or.inr (by rw [c5]; exact (iv_nI (N := 65536) (by omega) (by decide)).nn (by decide))
  have r : ∀ j, j < 5 → T' (5 * q + j) = T (5 * q + j) := a5 q (by omega) q2 q3 nq
  obtain ⟨d1, d2, d3⟩ := a6 b (by omega) c4
  obtain ⟨e1, e2, e3⟩ := a6 n h0 h1
  refine ⟨q1, Nat.lt_of_lt_of_le q2 hu, (r 0 (by omega)).trans q3, w, b, v, c1, (r 4 (by omega)).trans c2, c3, Nat.lt_of_lt_of_le c4 hu, (r 2 (by omega)).trans c5, ?_, c7, (r 1 (by omega)).trans c8, ?_, ?_, ?_, ?_⟩
  · rw [a3 b (by omega) c4]; exact c6
  · show G.2.2.2 (e + 1) w = some (t'.2.1 b)
    rw [eg, d1]; exact c9
  · rw [ef]; exact c10
  · show ∀ y, t'.2.2.1 b y → t'.2.2.1 n y ∨ y = v
    rw [d2, e2]; exact c11
  · show t'.2.2.2 b → w < 6 ∨ t'.2.2.2 n
    rw [d3, e3]; exact c12
theorem CLF.cl {n e q : Nat} (h : CLF g f T (ub, t.2) n e q) (hA : AG b0 fs ub P g f T t G F T' t') (h0 : fs ≤ n) : ∀ j, j < 5 → T' (5 * q + j) = T (5 * q + j) := by
  obtain ⟨a1, a2, a3, a4, a5, a6, a7⟩ := hA
  obtain ⟨q1, q2, q3, w, b, v, c1, c2, c3, c4, c5, -⟩ := h
  have q2 : q < ub := q2
  have c4 : b < ub := c4
  exact a5 q (by omega) q2 q3 (Or.inr (by rw [c5]; exact (iv_nI (N := 65536) (by omega) (by decide)).nn (by decide)))
theorem chC_fr : ∀ (qs : List Nat) (x : Int32), chC T qs x → (∀ q ∈ qs, T' (5 * q + 3) = T (5 * q + 3)) → chC T' qs x := by
  intro qs
  induction qs with
  | nil => intro x h _; exact h
  | cons q qs ih =>
    intro x h k
    refine ⟨h.1, ?_⟩
    rw [k q (List.mem_cons_self ..)]
    exact ih _ h.2 (fun q' hq' => k q' (List.mem_cons_of_mem _ hq'))
theorem HP.fr {n c w : Nat} {nx : Option Nat} (h : HP b0 g f T (ub, t.2) n (t.2.1 n) c w nx) (hA : AG b0 fs ub P g f T t G F T' t') (h0 : fs ≤ n) (h1 : n < ub) (eg : G.2.2.2 (t.2.1 n) = g.2.2.2 (t.2.1 n)) (eg1 : G.2.2.2 (t.2.1 n + 1) = g.2.2.2 (t.2.1 n + 1)) (ef2 : F (t.2.1 n + 2) = f (t.2.1 n + 2)) (h3 : c = 0 → T' (5 * n + 3) = T (5 * n + 3)) (hc : ¬ c = 0 → T' (5 * c + 3) = T (5 * c + 3)) (hu : ub ≤ ub') : HP b0 G F T' (ub', t'.2) n (t'.2.1 n) c w nx := by
  have hA' := hA
  obtain ⟨a1, a2, a3, a4, a5, a6, a7⟩ := hA
  obtain ⟨⟨k1, k2, k3, k4, k5, k6⟩, qs, q1, q2, q3, q4, q5⟩ := h
  obtain ⟨e1, -, -⟩ := a6 n h0 h1
  have hr := fun q hq => (q3 q hq).cl hA' h0
  rw [e1]
  refine ⟨⟨by rw [eg]; exact k1, by rw [eg]; exact k2, k3.le a1, k4.le a1, (a1.2 _ k3.2.1).2.trans k5, (a1.2 _ k4.2.1).2.trans k6⟩, qs, ?_, ?_, fun q hq => (q3 q hq).fr hA' h0 h1 eg1 ef2 hu, fun w' hw' hn => ?_, fun hc' q hq => ?_⟩
  · have e3 : (if c = 0 then T' (5 * n + 3) else T' (5 * c + 3)) = (if c = 0 then T (5 * n + 3) else T (5 * c + 3)) := by
      by_cases z : c = 0
      · rw [if_pos z, if_pos z]; exact h3 z
      · rw [if_neg z, if_neg z]; exact hc z
    rw [e3]
    exact chC_fr qs _ q1 (fun q hq => hr q hq 3 (by omega))
  · have e4 : qs.map (fun q => tn (T' (5 * q + 4))) = qs.map (fun q => tn (T (5 * q + 4))) := List.map_congr_left (fun q hq => by rw [hr q hq 4 (by omega)])
    rw [e4]; exact q2
  · rw [eg1]
    exact q4 w' hw' (fun q hq z => hn q hq ((hr q hq 4 (by omega)).trans z))
  · rw [hr q hq 4 (by omega)]; exact q5 hc' q hq
theorem EN.fr {k n : Nat} (h : EN b0 n0 g f T (ub, t.2) k n) (hT : T (5 * n) = nI k) (hk : k ≤ 15) (hA : AG b0 fs ub P g f T t G F T' t') (h0 : fs ≤ n) (h1 : n < ub) (hP : P n) (hu : ub ≤ ub') (ho : k = 14 → ∃ h, fs ≤ h ∧ h < n ∧ T (5 * n + 4) = nI h) : EN b0 n0 G F T' (ub', t'.2) k n := by
  have hA' := hA
  obtain ⟨a1, a2, a3, a4, a5, a6, a7⟩ := hA
  have n16 : ¬ T (5 * n) = nI 16 := fun z => absurd ((nI_eq (by omega) (by decide)).mp (hT.symm.trans z)) (by omega)
  obtain ⟨eg, ef⟩ := (a2 n h0 h1 hP).1 n16
  obtain ⟨e1, e2, e3⟩ := a6 n h0 h1
  have r : ∀ j, j < 5 → T' (5 * n + j) = T (5 * n + j) := a4 n h0 h1 hP
  obtain ⟨⟨b1, b2, b3, b4⟩, ⟨c1, c2, c3⟩, hp, ho1, hn, hh⟩ := h
  have b1 : n0 ≤ t.2.1 n := b1
  have b2 : zIn b0 g (t.2.1 n) 1 := b2
  refine ⟨⟨?_, ?_, ?_, ?_⟩, ⟨?_, ?_, ?_⟩, fun i hi => (hp i hi).fr hA' h0 h1 n16 hP hu, fun q => ?_, fun q => ?_, fun q => ?_⟩
  · show n0 ≤ t'.2.1 n
    rw [e1]; exact b1
  · show zIn b0 G (t'.2.1 n) 1
    rw [e1]; exact b2.le a1
  · show F (t'.2.1 n) 0 = sgn k
    rw [e1, ef]; exact b3
  · show _ → F (t'.2.1 n) 1 = T' (5 * n + 1)
    rw [e1, ef, r 1 (by omega)]; exact b4
  · rw [r 1 (by omega)]
    intro q
    obtain ⟨v, v1, v2, v3⟩ := c1 q
    refine ⟨v, v1, v2, fun z => ?_⟩
    show t'.2.2.1 n v
    rw [e2]; exact v3 z
  · rw [r 1 (by omega)]; exact c2
  · rw [r 1 (by omega)]; exact c3
  · obtain ⟨d1, h, d2, d3, d4, d5⟩ := ho1 q
    obtain ⟨h', o1, o0, o2⟩ := ho q
    have ehh : h' = h := (nI_eq (by omega) (by omega)).mp (o2.symm.trans d3)
    subst ehh
    obtain ⟨f1, -, -⟩ := a6 h' o1 (by omega)
    refine ⟨?_, h', d2, (r 4 (by omega)).trans d3, (a3 h' o1 (by omega)).trans d4, ?_⟩
    · show t'.2.2.2 n
      rw [e3]; exact d1
    · show G.2.2.2 (t'.2.1 n) 7 = some (t'.2.1 h')
      rw [e1, eg, f1]; exact d5
  · show G.2.2.2 (t'.2.1 n) 5 = none ∧ G.2.2.2 (t'.2.1 n) 6 = none
    rw [e1, eg]; exact hn q
  · obtain ⟨⟨k1, k2, k3, k4, k5, k6⟩, qs, q1, q2, q3, q4⟩ := hh q
    subst q
    obtain ⟨eg1, ef2⟩ := (a2 n h0 h1 hP).2 hT
    have hcl : ∀ q ∈ qs, CLF g f T (ub, t.2) n (t.2.1 n) q := q3
    have hr := fun q hq => (hcl q hq).cl hA' h0
    show HN b0 n0 G F T' (ub', t'.2) n (t'.2.1 n)
    rw [e1]
    refine ⟨⟨?_, ?_, k3.le a1, k4.le a1, (a1.2 _ k3.2.1).2.trans k5, (a1.2 _ k4.2.1).2.trans k6⟩, qs, ?_, q2, fun q hq => (hcl q hq).fr hA' h0 h1 eg1 ef2 hu, fun w' hw' hn' => ?_⟩
    · rw [eg]; exact k1
    · rw [eg]; exact k2
    · rw [r 3 (by omega)]
      exact chC_fr qs _ q1 (fun q hq => hr q hq 3 (by omega))
    · rw [eg1]
      exact q4 w' hw' (fun q hq z => hn' q hq ((hr q hq 4 (by omega)).trans z))
theorem PEc.fr {e : Ent} {nx : Option Nat} (h : PEc b0 n0 fs g f T (ub, t.2) e nx) (hA : AG b0 fs ub P g f T t G F T' t') (hP : P e.1) (hu : ub ≤ ub') (hc : ¬ e.2.2.2.1 = 0 → ∀ j, j < 5 → T' (5 * e.2.2.2.1 + j) = T (5 * e.2.2.2.1 + j)) : PEc b0 n0 fs G F T' (ub', t'.2) e nx := by
  have hA' := hA
  obtain ⟨a1, a2, a3, a4, a5, a6, a7⟩ := hA
  obtain ⟨⟨b1, b2, b3, b4, b5⟩, ⟨c1, c2, c3, c4⟩, ⟨d1, d2, d3⟩, ⟨f1, f2, f3⟩, ho, hn, hh, hcl⟩ := h
  have b2 : e.1 < ub := b2
  have n16 : ¬ T (5 * e.1) = nI 16 := fun z => absurd ((nI_eq (by omega) (by decide)).mp (b3.symm.trans z)) (by omega)
  obtain ⟨eg, ef⟩ := (a2 e.1 b1 b2 hP).1 n16
  obtain ⟨e1, e2, e3⟩ := a6 e.1 b1 b2
  have r : ∀ j, j < 5 → T' (5 * e.1 + j) = T (5 * e.1 + j) := a4 e.1 b1 b2 hP
  have c1 : n0 ≤ t.2.1 e.1 := c1
  have c2 : zIn b0 g (t.2.1 e.1) 1 := c2
  refine ⟨⟨b1, Nat.lt_of_lt_of_le b2 hu, (r 0 (by omega)).trans b3, b4, b5⟩, ⟨?_, ?_, ?_, ?_⟩, ⟨?_, ?_, ?_⟩, ⟨fun i hi h3 => (f1 i hi h3).fr hA' b1 b2 n16 hP hu, f2, fun i hi h3 => ?_⟩, fun q => ?_, fun q => ?_, fun q => ?_, fun q => ?_⟩
  · show n0 ≤ t'.2.1 e.1
    rw [e1]; exact c1
  · show zIn b0 G (t'.2.1 e.1) 1
    rw [e1]; exact c2.le a1
  · show F (t'.2.1 e.1) 0 = _
    rw [e1, ef]; exact c3
  · show _ → F (t'.2.1 e.1) 1 = T' (5 * e.1 + 1)
    rw [e1, ef, r 1 (by omega)]; exact c4
  · rw [r 1 (by omega)]; exact d1
  · rw [r 1 (by omega)]; exact d2
  · rw [r 1 (by omega)]; exact d3
  · show G.2.2.2 (t'.2.1 e.1) (2 + i) = _
    rw [e1, eg]; exact f3 i hi h3
  · obtain ⟨g1, h, g2, g3, g4, g5, g6⟩ := ho q
    obtain ⟨k1, -, -⟩ := a6 h g2 (by omega)
    refine ⟨?_, h, g2, g3, (r 4 (by omega)).trans g4, (a3 h g2 (by omega)).trans g5, ?_⟩
    · show t'.2.2.2 e.1
      rw [e3]; exact g1
    · show G.2.2.2 (t'.2.1 e.1) 7 = some (t'.2.1 h)
      rw [e1, eg, k1]; exact g6
  · show G.2.2.2 (t'.2.1 e.1) 5 = none ∧ G.2.2.2 (t'.2.1 e.1) 6 = none
    rw [e1, eg]; exact hn q
  · obtain ⟨eg1, ef2⟩ := (a2 e.1 b1 b2 hP).2 (b3.trans (congrArg nI q))
    exact (hh q).fr hA' b1 b2 eg eg1 ef2 (fun _ => r 3 (by omega)) (fun z => hc z 3 (by omega)) hu
  · obtain ⟨k1, k2, k3, k4, k5, k6, k7, k8, v, v1, v2, v3⟩ := hcl q
    have rc := hc q
    obtain ⟨eg1, ef2⟩ := (a2 e.1 b1 b2 hP).2 (b3.trans (congrArg nI k1.1))
    refine ⟨k1, k2, Nat.lt_of_lt_of_le k3 hu, (rc 0 (by omega)).trans k4, (rc 2 (by omega)).trans k5, (rc 4 (by omega)).trans k6, k7, (r 3 (by omega)).trans k8, v, v1, (rc 1 (by omega)).trans v2, ?_⟩
    show F (t'.2.1 e.1 + 2) _ = _
    rw [e1, ef2]; exact v3
theorem OC.fr {hi : Nat} {x : Int32} {o : Option Nat} (h : OC T t fs hi x o) (hA : AG b0 fs ub P g f T t G F T' t') (hu : hi ≤ ub) : OC T' t' fs hi x o := by
  obtain ⟨a1, a2, a3, a4, a5, a6, a7⟩ := hA
  refine h.imp id ?_
  rintro ⟨h, h1, h2, h3, h4, h5⟩
  obtain ⟨e1, -, -⟩ := a6 h h1 (by omega)
  exact ⟨h, h1, h2, (a3 h h1 (by omega)).trans h3, h4, by rw [e1]; exact h5⟩
end AGS
/-- the stacks' rows up to d, and o, are as they were -/
def AR (R R' : zRf) (C C' M M' : zI) (d o : Nat) : Prop := (∀ j, j ≤ d → R' 4 j = R 4 j ∧ R' 8 j = R 8 j ∧ C' 5 j = C 5 j ∧ C' 6 j = C 6 j ∧ C' 7 j = C 7 j) ∧ ∀ j, j < o → M' 7 j = M 7 j ∧ M' 8 j = M 8 j ∧ M' 9 j = M 9 j ∧ M' 10 j = M 10 j
theorem PLc.fr {b0 fs ub d o : Nat} {P : Nat → Prop} {g G : zG} {f F : zI} {t t' : zTs} {R R' : zRf} {C C' M M' : zI} {e : Ent} (h : PLc fs R C M t e d o) (hA : AG b0 fs ub P g f (M 1) t G F (M' 1) t') (h0 : fs ≤ e.1) (h1 : e.1 < ub) (hP : P e.1) (hcu : ¬ e.2.2.2.1 = 0 → e.2.2.2.1 < ub) (hc : ¬ e.2.2.2.1 = 0 → ∀ j, j < 5 → M' 1 (5 * e.2.2.2.1 + j) = M 1 (5 * e.2.2.2.1 + j)) (hR : AR R R' C C' M M' (d + 1) (o + (if e.2.2.2.1 = 0 then 1 else 2))) : PLc fs R' C' M' t' e d o := by
  have hA' := hA
  obtain ⟨a1, a2, a3, a4, a5, a6, a7⟩ := hA
  obtain ⟨⟨k1, k2, k3, k4⟩, ⟨k5, k6⟩, ⟨k7, k8⟩, k9, k10⟩ := h
  obtain ⟨e1, e2, e3⟩ := a6 e.1 h0 h1
  obtain ⟨r1, r2⟩ := hR
  obtain ⟨q1, q2, q3, q4, q5⟩ := r1 d (Nat.le_succ d)
  obtain ⟨p1, p2, p3, p4, p5⟩ := r1 (d + 1) (Nat.le_refl _)
  obtain ⟨m7, m8, m9, m10⟩ := r2 o (by split <;> omega)
  refine ⟨⟨m7.trans k1, m8.trans k2, m9.trans (k3.trans q5.symm), ?_⟩, ⟨p1.trans (k5.trans (congrArg some e1.symm)), p3.trans k6⟩, ⟨?_, ?_⟩, fun hz hz2 => ?_, fun hz => ?_⟩
  · rw [m10, q2]; exact k4.fr hA' (by omega)
  · rw [q5, e2]; exact k7
  · rw [q2, e3]; exact k8
  · obtain ⟨z1, z2⟩ := k9 hz hz2
    rw [p5, p2, q5, q2, a4 e.1 h0 h1 hP 1 (by omega)]
    exact ⟨z1, z2⟩
  · obtain ⟨z1, z2, z3, z4, z5, z6, z7⟩ := k10 hz
    obtain ⟨n7, n8, n9, n10⟩ := r2 (o + 1) (by rw [if_neg hz]; omega)
    rw [p4, n7, n8, n9, n10, p5, p2, q5, q2, hc hz 1 (by omega)]
    exact ⟨z1, z2, z3, z4, z5.fr hA' (by have := hcu hz; omega), z6, z7⟩
/-- what is open below stays so -/
theorem STK.fr {b0 n0 fs : Nat} {P : Nat → Prop} {g G : zG} {f F : zI} {t t' : zTs} {R R' : zRf} {C C' M M' : zI} : ∀ (L : List Ent) (ub ub' : Nat) (nx : Option Nat), STK b0 n0 fs g f R C M t L ub nx → AG b0 fs ub P g f (M 1) t G F (M' 1) t' → (∀ n, n < ub → P n) → ub ≤ ub' → AR R R' C C' M M' L.length (opn L) → STK b0 n0 fs G F R' C' M' t' L ub' nx := by
  intro L
  induction L with
  | nil => intro ub ub' nx _ _ _ _ _; trivial
  | cons e L ih =>
    intro ub ub' nx h hA hP hu hR
    have hA' := hA
    obtain ⟨h1, h2, h3⟩ := h
    have b1 : fs ≤ e.1 := h1.1.1
    have b2 : e.1 < ub := h1.1.2.1
    have hcu : ¬ e.2.2.2.1 = 0 → e.2.2.2.1 < ub := fun q => (h1.2.2.2.2.2.2.2 q).2.2.1
    have hc : ¬ e.2.2.2.1 = 0 → ∀ j, j < 5 → M' 1 (5 * e.2.2.2.1 + j) = M 1 (5 * e.2.2.2.1 + j) := fun q => by
      obtain ⟨-, q1, q2, q3, -⟩ := h1.2.2.2.2.2.2.2 q
      have q2 : e.2.2.2.1 < ub := q2
      exact hA.2.2.2.1 e.2.2.2.1 (by omega) q2 (hP _ q2)
    refine ⟨h1.fr hA (hP _ b2) hu hc, ⟨h2.1.fr hA b1 b2 (hP _ b2) hcu hc hR, h2.2⟩, ?_⟩
    obtain ⟨e1, -, -⟩ := hA.2.2.2.2.2.1 e.1 b1 b2
    rw [e1]
    refine ih e.1 e.1 _ h3 ⟨hA.1, fun n n1 n2 n3 => hA.2.1 n n1 (by omega) n3, fun n n1 n2 => hA.2.2.1 n n1 (by omega), fun n n1 n2 n3 => hA.2.2.2.1 n n1 (by omega) n3, fun n n1 n2 n3 => hA.2.2.2.2.1 n n1 (by omega) n3, fun n n1 n2 => hA.2.2.2.2.2.1 n n1 (by omega), by have := hA.2.2.2.2.2.2; omega⟩ (fun n hn => hP n (by omega)) (Nat.le_refl _) ?_
    refine ⟨fun j hj => hR.1 j (by show j ≤ L.length + 1; omega), fun j hj => hR.2 j (by show j < opn L + _; split <;> omega)⟩
theorem STK.lt {b0 n0 fs : Nat} {g : zG} {f : zI} {t : zTs} {R : zRf} {C M : zI} : ∀ (L : List Ent) (ub : Nat) (nx : Option Nat), STK b0 n0 fs g f R C M t L ub nx → ∀ e ∈ L, e.1 < ub ∧ e.2.2.2.1 < ub := by
  intro L
  induction L with
  | nil => intro ub nx _ e he; cases he
  | cons e L ih =>
    intro ub nx h e' he'
    have b2 : e.1 < ub := h.1.1.2.1
    rcases List.mem_cons.mp he' with rfl | he'
    · refine ⟨b2, ?_⟩
      by_cases q : e'.2.2.2.1 = 0
      · omega
      · exact (h.1.2.2.2.2.2.2.2 q).2.2.1
    · obtain ⟨k1, k2⟩ := ih e.1 _ h.2.2 e' he'
      omega
theorem AG.rf {b0 fs ub : Nat} {P : Nat → Prop} {g : zG} {f : zI} {T : Nat → Int32} {t : zTs} (h : ub ≤ 65536) : AG b0 fs ub P g f T t g f T t := ⟨zLe.rf, fun _ _ _ _ => ⟨fun _ => ⟨rfl, rfl⟩, fun _ => ⟨rfl, rfl⟩⟩, fun _ _ _ => rfl, fun _ _ _ _ _ _ => rfl, fun _ _ _ _ _ _ _ => rfl, fun _ _ _ => ⟨rfl, rfl, rfl⟩, h⟩
