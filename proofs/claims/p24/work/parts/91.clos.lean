/-! A text is read, in both: what was read to its end becomes a part. -/
theorem sgn_p : ∀ k, k < 16 → 2 ≤ k → (sgn k = 123 ↔ k = 15) ∧ (sgn k = 61 ↔ k = 8) ∧ (¬ k = 15 → bparts (sgn k) = nI (ari k)) ∧ pparts (nI k) = nI (ari k) ∧ 1 ≤ ari k ∧ ari k ≤ 3 := by decide +kernel
def bot : List Ent → Nat → Nat
  | [], x => x
  | e :: L, _ => bot L e.1
/-- the nodes of this text, L aside; the list of all of them -/
def NDS (b0 n0 fs : Nat) (g : zG) (f : zI) (R : zRf) (M : zI) (t : zTs) (L : List Ent) (m : Nat) : Prop :=
  (∀ n, fs ≤ n → n < t.1 → (∃ e ∈ L, e.1 = n) ∨ M 1 (5 * n) = nI 16 ∨ ∃ k, k ≤ 15 ∧ M 1 (5 * n) = nI k ∧ EN b0 n0 g f (M 1) (t.1, t.2) k n ∧ (k = 14 → ∃ h, fs ≤ h ∧ h < n ∧ M 1 (5 * n + 4) = nI h)) ∧
  ((∀ i, i < m → ∃ n, fs ≤ n ∧ n < t.1 ∧ ¬ M 1 (5 * n) = nI 16 ∧ R 3 i = some (t.2.1 n)) ∧ (∀ n, fs ≤ n → n < t.1 → ¬ M 1 (5 * n) = nI 16 → ∃ i, i < m ∧ R 3 i = some (t.2.1 n)) ∧ (fs < t.1 → 1 ≤ m ∧ R 3 0 = some (t.2.1 fs) ∧ ¬ M 1 (5 * fs) = nI 16))
/-- their expressions are new, one behind the other -/
def FRS (s0 fs : Nat) (g : zG) (M : zI) (t : zTs) : Prop :=
  (∀ n, fs ≤ n → n < t.1 → ¬ M 1 (5 * n) = nI 16 → s0 ≤ t.2.1 n ∧ t.2.1 n < g.1 ∧ g.2.1 (t.2.1 n) = 1 ∧ (M 1 (5 * n) = nI 15 → t.2.1 n + 2 < g.1 ∧ g.2.1 (t.2.1 n + 1) = 14 ∧ g.2.1 (t.2.1 n + 2) = 13)) ∧ ∀ n n', fs ≤ n → n < n' → n' < t.1 → ¬ M 1 (5 * n) = nI 16 → ¬ M 1 (5 * n') = nI 16 → t.2.1 n < t.2.1 n'
/-- what reading leaves as it was, in the class -/
def KB (S T : bSt) : Prop := (zLe S.1 T.1 ∧ ∀ y, y < S.1.1 → T.1.2.2.2 y = S.1.2.2.2 y ∧ T.2.2.1 y = S.2.2.1 y) ∧ (∀ r, r ≠ 2 → r ≠ 5 → r ≠ 6 → r ≠ 7 → T.2.2.2 r = S.2.2.2 r) ∧ (∀ r, r ≠ 3 → r ≠ 4 → r ≠ 8 → T.2.1 r = S.2.1 r) ∧ T.2.1 8 0 = S.2.1 8 0 ∧
  (∀ x, S.1.1 ≤ x → x < T.1.1 → T.1.2.1 x = 1 ∨ T.1.2.1 x = 13 ∨ T.1.2.1 x = 14) ∧
  (∀ a, S.1.1 ≤ a → a < T.1.1 → T.1.2.1 a = 1 → (T.1.2.2.2 a 5 = none ∧ T.1.2.2.2 a 6 = none) ∨ (T.1.2.2.2 a 5 = some (a + 1) ∧ T.1.2.2.2 a 6 = some (a + 2) ∧ T.1.2.2.1 (a + 1) = 7 ∧ T.1.2.2.1 (a + 2) = 7 ∧ a + 2 < T.1.1)) ∧ ∀ k, iv 7 (T.2.2.2 6 k)
/-- and in the reference -/
def MB (fs : Nat) (M N : zI) : Prop := (∀ r, r ≠ 0 → r ≠ 1 → r ≠ 7 → r ≠ 8 → r ≠ 9 → r ≠ 10 → N r = M r) ∧ (∀ j, j ≠ 1 → j ≠ 13 → j ≠ 14 → j ≠ 15 → j ≠ 16 → j ≠ 17 → N 0 j = M 0 j) ∧ ∀ k, k < 5 * fs → N 1 k = M 1 k
/-- where reading stands: the text, the place, the counts -/
def CT (len : Nat) (tx : Nat → Nat) (fs : Nat) (C M : zI) (t : zTs) (L : List Ent) (m k : Nat) : Prop :=
  TX len tx C M ∧ (C 2 1 = nI m ∧ M 0 1 = nI t.1 ∧ M 0 16 = nI m ∧ M 0 14 = nI k ∧ M 0 15 = -9) ∧ (k ≤ len ∧ fs ≤ t.1 ∧ t.1 ≤ fs + k ∧ m ≤ k ∧ opn L ≤ k ∧ fs ≤ 64800) ∧ (C 2 9 = nI L.length ∧ M 0 13 = nI (opn L))
/-- the whole -/
def PS (b0 n0 fs : Nat) (S0 : bSt) (M0 : zI) (len : Nat) (tx : Nat → Nat) (g : zG) (f : zI) (R : zRf) (C M : zI) (t : zTs) (L : List Ent) (m k : Nat) (nx : Option Nat) : Prop :=
  STK b0 n0 fs g f R C M t L t.1 nx ∧ CT len tx fs C M t L m k ∧ NDS b0 n0 fs g f R M t L m ∧ FRS S0.1.1 fs g M t ∧ KB S0 (g, R, f, C) ∧ MB fs M0 M
/-- the reference's stack's top takes a part, if there is one -/
def pattA (M : zI) (x : Nat) : zI := if 0 < M 0 13 then pattach M (nI x) else M
section CLOS
variable {b0 n0 fs : Nat} {S0 : bSt} {M0 : zI} {len : Nat} {tx : Nat → Nat} {g : zG} {f : zI} {R : zRf} {C M : zI} {t : zTs} {m k : Nat}
/-- an expression whose parts were all read is whole -/
theorem EN.made {T : Nat → Int32} {n κ w : Nat} (hb : 2 ≤ κ ∧ κ ≤ 15) (hp : n0 ≤ t.2.1 n ∧ zIn b0 g (t.2.1 n) 1 ∧ f (t.2.1 n) 0 = sgn κ ∧ (κ = 8 ∨ κ = 10 ∨ κ = 11 ∨ κ = 13 → f (t.2.1 n) 1 = T (5 * n + 1)))
    (hd : (κ = 8 → ∃ v, v < 26 ∧ T (5 * n + 1) = nI v) ∧ (κ = 10 ∨ κ = 11 → ∃ a, a < 6 ∧ T (5 * n + 1) = nI a) ∧ (κ = 13 → ∃ p, p < 4 ∧ T (5 * n + 1) = nI p)) (hpn : ∀ i, i < ari κ → i < 3 → PN g T (t.1, t.2) κ n i) (hg : ∀ i, ari κ ≤ i → i < 3 → g.2.2.2 (t.2.1 n) (2 + i) = none)
    (ho : κ = 14 → t.2.2.2 n ∧ ∃ h, fs ≤ h ∧ h < n ∧ T (5 * n + 4) = nI h ∧ T (5 * h) = nI 15 ∧ g.2.2.2 (t.2.1 n) 7 = some (t.2.1 h)) (hn : ¬ κ = 15 → g.2.2.2 (t.2.1 n) 5 = none ∧ g.2.2.2 (t.2.1 n) 6 = none) (hh : κ = 15 → HP b0 g f T (t.1, t.2) n (t.2.1 n) 0 w none) :
    EN b0 n0 g f T (t.1, t.2) κ n ∧ (κ = 14 → ∃ h, fs ≤ h ∧ h < n ∧ T (5 * n + 4) = nI h) := by
  refine ⟨⟨⟨hp.1, hp.2.1, hp.2.2.1, fun q => hp.2.2.2 (by omega)⟩, ⟨fun q => ?_, hd.2.1, hd.2.2⟩, fun i hi => ?_, fun q => ?_, hn, fun q => ?_⟩, fun q => ?_⟩
  · obtain ⟨v, v1, v2⟩ := hd.1 (by omega)
    exact ⟨v, v1, v2, fun z => by omega⟩
  · by_cases hi2 : i < ari κ
    · exact hpn i hi2 hi
    · exact ⟨fun z => absurd z hi2, fun _ => hg i (by omega) hi⟩
  · obtain ⟨z1, h, z2, z3, z4, z5, z6⟩ := ho q
    exact ⟨z1, h, z3, z4, z5, z6⟩
  · obtain ⟨z1, qs, z2, z3, z4, z5, -⟩ := hh q
    rw [if_pos rfl] at z2
    refine ⟨z1, qs, z2, ?_, z4, fun w hw hq => (z5 w hw hq).trans (if_neg (fun z => z.1 rfl))⟩
    have := pig 7 _ z3 (fun x hx => by
      obtain ⟨q, hq, rfl⟩ := List.mem_map.mp hx
      obtain ⟨-, -, -, w, b, v, w1, w2, -⟩ := z4 q hq
      show tn (T (5 * q + 4)) < 7
      rw [w2, tn_nI (by omega)]; exact w1)
    rw [List.length_map] at this
    exact this
  · obtain ⟨-, h, z2, z3, z4, -⟩ := ho q
    exact ⟨h, z2, z3, z4⟩
end CLOS
